/-! counts -/
theorem Ahd.uniq {R : Nat → Int32} (hR : RowOk R) {s i : Int32} {b : Nat} {x y : Int32} (h1 : Ahd R s i b (nC R) x) (h2 : Ahd R s i b (nC R) y) : x = y := by
  rcases h1 with ⟨e1, q1⟩ | ⟨c, c1, e1, c2, c3, c4⟩
  · rcases h2 with ⟨e2, q2⟩ | ⟨d, d1, e2, d2, d3, d4⟩
    · rw [e1, e2]
    · have := q1 d d1 d2; omega
  · rcases h2 with ⟨e2, q2⟩ | ⟨d, d1, e2, d2, d3, d4⟩
    · have := q2 c c1 c2; omega
    · have a := c4 d d1 d2 d3
      have b := d4 c c1 c2 c3
      rw [e1, e2, t_inj hR c1 d1 c2 d2 (by omega)]
def Why (R : Nat → Int32) (s i w : Int32) (t : Nat) (r : Int32) : Prop :=
  ((∃ c, c < nC R ∧ atC R s i c ∧ ct R c 2 = nI t) ∧ r = -2) ∨
  ((¬ ∃ c, c < nC R ∧ atC R s i c ∧ ct R c 2 = nI t) ∧ ∃ x, Ahd R s i t (nC R) x ∧
    ((¬ x = -1 ∧ ct R x.toNatClampNeg 4 = w ∧ r = -3) ∨ ((x = -1 ∨ ¬ ct R x.toNatClampNeg 4 = w) ∧
      (((∃ c, c < nC R ∧ pbC R s i (nI t) c) ∧ r = -4) ∨ ((¬ ∃ c, c < nC R ∧ pbC R s i (nI t) c) ∧ ((nC R = 40 ∧ r = -5) ∨ (nC R < 40 ∧ r = 0)))))))
theorem m_why {τ : St} {R : Nat → Int32} (hR : RowOk R) (hτ : τ.1 52 = R) (s i w : Int32) (t : Nat) (ht : t < 1000) : ∀ (d k n : Nat) (x5 x6 : Int32), k + d = nC R → d < n → Ahd R s i t k x5 → (¬ ∃ c, c < k ∧ atC R s i c ∧ ct R c 2 = nI t) → ((x6 = 0 ∧ ¬ ∃ c, c < k ∧ pbC R s i (nI t) c) ∨ (x6 = 1 ∧ ∃ c, c < k ∧ pbC R s i (nI t) c)) →
    ∃ r, f_X9_whyNot_b9 τ s i (nI t) w n x5 x6 (nI k) = some r ∧ Why R s i w t r := by
  have hn := hR.1.2.2.2.1
  intro d
  induction d with
  | zero =>
    intro k n x5 x6 h1 h2 h3 h4 h5
    obtain ⟨n, rfl⟩ : ∃ m, n = m + 1 := ⟨n - 1, by omega⟩
    obtain rfl : k = nC R := by omega
    have e161 : ∃ r, f_X9_whyNot_b161 τ s i (nI t) w x6 = some r ∧ (((∃ c, c < nC R ∧ pbC R s i (nI t) c) ∧ r = -4) ∨ ((¬ ∃ c, c < nC R ∧ pbC R s i (nI t) c) ∧ ((nC R = 40 ∧ r = -5) ∨ (nC R < 40 ∧ r = 0)))) := by
      unfold f_X9_whyNot_b161
      rcases h5 with ⟨e6, h5⟩ | ⟨e6, h5⟩
      · rw [if_pos e6, rd_at (i := 3) 3 rfl (by decide) (by decide), hτ, hn.1]
        simp only [Option.bind_some]
        by_cases z : nC R = 40
        · rw [if_pos (show nI (nC R) = 40 by rw [z]; rfl)]
          exact ⟨_, rfl, Or.inr ⟨h5, Or.inl ⟨z, rfl⟩⟩⟩
        · rw [if_neg (show ¬ nI (nC R) = 40 from fun y => z (nI_inj (b := 40) (by omega) (by omega) y))]
          exact ⟨_, rfl, Or.inr ⟨h5, Or.inr ⟨by omega, rfl⟩⟩⟩
      · rw [if_neg (show ¬ x6 = 0 by rw [e6]; decide)]
        exact ⟨_, rfl, Or.inl ⟨h5, rfl⟩⟩
    rw [f_X9_whyNot_b9, rd_at (i := 3) 3 rfl (by decide) (by decide), hτ, hn.1]
    simp only [Option.bind_some]
    rw [if_pos (Int32.le_refl _)]
    by_cases z : x5 = -1
    · rw [if_pos z]
      obtain ⟨r, r1, r2⟩ := e161
      exact ⟨r, r1, Or.inr ⟨h4, x5, h3, Or.inr ⟨Or.inl z, r2⟩⟩⟩
    · rw [if_neg z]
      rcases id h3 with ⟨y, -⟩ | ⟨c, c1, e, -⟩
      · exact absurd y z
      · have hcl : x5.toNatClampNeg = c := by rw [e, nI_clamp (by omega)]
        rw [m_ct hR hτ c1 (b := 4) e 4 (by decide) rfl]
        simp only [Option.bind_some]
        by_cases y : ct R c 4 = w
        · rw [if_pos y]
          exact ⟨_, rfl, Or.inr ⟨h4, x5, h3, Or.inl ⟨z, by rw [hcl]; exact y, rfl⟩⟩⟩
        · rw [if_neg y]
          obtain ⟨r, r1, r2⟩ := e161
          exact ⟨r, r1, Or.inr ⟨h4, x5, h3, Or.inr ⟨Or.inr (by rw [hcl]; exact y), r2⟩⟩⟩
  | succ d ih =>
    intro k n x5 x6 h1 h2 h3 h4 h5
    obtain ⟨n, rfl⟩ : ∃ m, n = m + 1 := ⟨n - 1, by omega⟩
    have hk : k < nC R := by omega
    obtain ⟨tk1, tk2⟩ := tnum hR hk
    have cw : ∀ (w : Nat) (b : Int32), w < 6 → b = nI w → f_X9_counted τ (nI k) b = some (ct R k w) := fun w b hw hb => m_ct hR hτ hk rfl w hw hb
    have go : ∀ x5' x6', f_X9_whyNot_b9 τ s i (nI t) w (n + 1) x5 x6 (nI k) = f_X9_whyNot_b9 τ s i (nI t) w n x5' x6' (nI (k + 1)) → Ahd R s i t (k + 1) x5' → ¬ (atC R s i k ∧ ct R k 2 = nI t) → (x6' = x6 ∧ ¬ pbC R s i (nI t) k ∨ x6' = 1 ∧ pbC R s i (nI t) k) → ∃ r, f_X9_whyNot_b9 τ s i (nI t) w (n + 1) x5 x6 (nI k) = some r ∧ Why R s i w t r := fun x5' x6' e ha hb hc => by
      obtain ⟨r, r1, r2⟩ := ih (k + 1) n x5' x6' (by omega) (by omega) ha (fun ⟨c, c1, c2⟩ => by
        by_cases y : c = k
        · subst y; exact hb c2
        · exact h4 ⟨c, by omega, c2⟩) (by
        rcases hc with ⟨y1, y2⟩ | ⟨y1, y2⟩
        · rcases h5 with ⟨y3, y4⟩ | ⟨y3, c, y4, y5⟩
          · refine Or.inl ⟨y1.trans y3, fun ⟨c, c1, c2⟩ => ?_⟩
            by_cases y : c = k
            · subst y; exact y2 c2
            · exact y4 ⟨c, by omega, c2⟩
          · exact Or.inr ⟨y1.trans y3, c, by omega, y5⟩
        · exact Or.inr ⟨y1, k, by omega, y2⟩)
      exact ⟨r, e.trans r1, r2⟩
    have stay : opB R s i k = false ∨ t ≤ tC R k → Ahd R s i t (k + 1) x5 := fun z => by
      rcases h3 with ⟨e, q⟩ | ⟨c, c1, e, c2, c3, c4⟩
      · refine Or.inl ⟨e, fun c hc ho => ?_⟩
        by_cases y : c = k
        · subst y
          rcases z with z | z
          · rw [z] at ho; exact absurd ho (by decide)
          · exact z
        · exact q c (by omega) ho
      · refine Or.inr ⟨c, by omega, e, c2, c3, fun d' hd ho hb => ?_⟩
        by_cases y : d' = k
        · subst y
          rcases z with z | z
          · rw [z] at ho; exact absurd ho (by decide)
          · omega
        · exact c4 d' (by omega) ho hb
    have hun : f_X9_whyNot_b9 τ s i (nI t) w (n + 1) x5 x6 (nI k) = (if ct R k 0 = s then (if ct R k 1 = i then (if ct R k 2 = nI t then some (-2) else (if ct R k 5 = 1 then (if x6 = 0 then (if ct R k 2 ≤ nI t then f_X9_whyNot_b9 τ s i (nI t) w n x5 0 (nI (k + 1)) else f_X9_whyNot_b9 τ s i (nI t) w n x5 1 (nI (k + 1))) else f_X9_whyNot_b9 τ s i (nI t) w n x5 1 (nI (k + 1))) else (if nI t ≤ ct R k 2 then f_X9_whyNot_b9 τ s i (nI t) w n x5 x6 (nI (k + 1)) else (if x5 = -1 then f_X9_whyNot_b9 τ s i (nI t) w n (nI k) x6 (nI (k + 1)) else ((f_X9_counted τ x5 2).bind fun q24 => if ct R k 2 ≤ q24 then f_X9_whyNot_b9 τ s i (nI t) w n x5 x6 (nI (k + 1)) else f_X9_whyNot_b9 τ s i (nI t) w n (nI k) x6 (nI (k + 1))))))) else f_X9_whyNot_b9 τ s i (nI t) w n x5 x6 (nI (k + 1))) else f_X9_whyNot_b9 τ s i (nI t) w n x5 x6 (nI (k + 1))) := by
      rw [f_X9_whyNot_b9, rd_at (i := 3) 3 rfl (by decide) (by decide), hτ, hn.1]
      simp only [Option.bind_some]
      rw [if_neg (nI_ge hk (by omega)), cw 0 0 (by decide) rfl, cw 1 1 (by decide) rfl, cw 2 2 (by decide) rfl, cw 5 5 (by decide) rfl]
      simp only [Option.bind_some, nm_q, nI_1]
    by_cases z0 : ct R k 0 = s
    · by_cases z1 : ct R k 1 = i
      · by_cases z2 : ct R k 2 = nI t
        · refine ⟨-2, ?_, Or.inl ⟨⟨k, hk, ⟨z0, z1⟩, z2⟩, rfl⟩⟩
          rw [hun, if_pos z0, if_pos z1, if_pos z2]
        · by_cases z5 : ct R k 5 = 1
          · have ho : opB R s i k = false := by
              unfold opB
              rw [z5]
              simp
            have hp0 : ¬ ct R k 5 = 0 := by rw [z5]; decide
            by_cases z6 : x6 = 0
            · by_cases z7 : ct R k 2 ≤ nI t
              · refine go x5 0 ?_ (stay (Or.inl ho)) (fun y => z2 y.2) (Or.inl ⟨z6.symm, fun y => y.2.2 z7⟩)
                rw [hun, if_pos z0, if_pos z1, if_neg z2, if_pos z5, if_pos z6, if_pos z7]
              · refine go x5 1 ?_ (stay (Or.inl ho)) (fun y => z2 y.2) (Or.inr ⟨rfl, ⟨z0, z1⟩, hp0, z7⟩)
                rw [hun, if_pos z0, if_pos z1, if_neg z2, if_pos z5, if_pos z6, if_neg z7]
            · have e6 : x6 = 1 := by
                rcases h5 with ⟨y, -⟩ | ⟨y, -⟩
                · exact absurd y z6
                · exact y
              have e : f_X9_whyNot_b9 τ s i (nI t) w (n + 1) x5 x6 (nI k) = f_X9_whyNot_b9 τ s i (nI t) w n x5 1 (nI (k + 1)) := by
                rw [hun, if_pos z0, if_pos z1, if_neg z2, if_pos z5, if_neg z6]
              by_cases z7 : pbC R s i (nI t) k
              · exact go x5 1 e (stay (Or.inl ho)) (fun y => z2 y.2) (Or.inr ⟨rfl, z7⟩)
              · exact go x5 1 e (stay (Or.inl ho)) (fun y => z2 y.2) (Or.inl ⟨e6.symm, z7⟩)
          · have z50 : ct R k 5 = 0 := by
              rcases (hR.2.2.2.2.1 k hk).2.2.2.2.2 with y | y
              · exact y
              · exact absurd y z5
            have ho : opB R s i k = true := opB_iff.mpr ⟨z0, z1, z50⟩
            have hnp : ¬ pbC R s i (nI t) k := fun y => y.2.1 z50
            by_cases z7 : nI t ≤ ct R k 2
            · refine go x5 x6 ?_ (stay (Or.inr ?_)) (fun y => z2 y.2) (Or.inl ⟨rfl, hnp⟩)
              · rw [hun, if_pos z0, if_pos z1, if_neg z2, if_neg z5, if_pos z7]
              · rw [tk2, le_nI (by omega) (by omega)] at z7; exact z7
            · have hlt : tC R k < t := by rw [tk2, le_nI (by omega) (by omega)] at z7; omega
              rcases id h3 with ⟨e, q⟩ | ⟨c, c1, e, c2, c3, c4⟩
              · refine go (nI k) x6 ?_ (Or.inr ⟨k, by omega, rfl, ho, hlt, fun d' hd ho' hb => ?_⟩) (fun y => z2 y.2) (Or.inl ⟨rfl, hnp⟩)
                · rw [hun, if_pos z0, if_pos z1, if_neg z2, if_neg z5, if_neg z7, if_pos e]
                · by_cases y : d' = k
                  · rw [y]; exact Nat.le_refl _
                  · have := q d' (by omega) ho'; omega
              · have hne : ¬ x5 = -1 := by rw [e]; exact nI_m1 (by omega)
                obtain ⟨tc1, tc2⟩ := tnum hR (show c < nC R by omega)
                have ec : f_X9_counted τ x5 2 = some (ct R c 2) := m_ct hR hτ (show c < nC R by omega) e 2 (by decide) rfl
                by_cases z8 : ct R k 2 ≤ ct R c 2
                · refine go x5 x6 ?_ (Or.inr ⟨c, by omega, e, c2, c3, fun d' hd ho' hb => ?_⟩) (fun y => z2 y.2) (Or.inl ⟨rfl, hnp⟩)
                  · rw [hun, if_pos z0, if_pos z1, if_neg z2, if_neg z5, if_neg z7, if_neg hne, ec]
                    simp only [Option.bind_some]
                    rw [if_pos z8]
                  · by_cases y : d' = k
                    · rw [tk2, tc2, le_nI (by omega) (by omega)] at z8
                      rw [y]; exact z8
                    · exact c4 d' (by omega) ho' hb
                · refine go (nI k) x6 ?_ (Or.inr ⟨k, by omega, rfl, ho, hlt, fun d' hd ho' hb => ?_⟩) (fun y => z2 y.2) (Or.inl ⟨rfl, hnp⟩)
                  · rw [hun, if_pos z0, if_pos z1, if_neg z2, if_neg z5, if_neg z7, if_neg hne, ec]
                    simp only [Option.bind_some]
                    rw [if_neg z8]
                  · by_cases y : d' = k
                    · rw [y]; exact Nat.le_refl _
                    · have := c4 d' (by omega) ho' hb
                      rw [tk2, tc2, le_nI (by omega) (by omega)] at z8
                      omega
      · refine go x5 x6 ?_ (stay (Or.inl ?_)) (fun y => z1 y.1.2) (Or.inl ⟨rfl, fun y => z1 y.1.2⟩)
        · rw [hun, if_pos z0, if_neg z1]
        · unfold opB; simp [z1]
    · refine go x5 x6 ?_ (stay (Or.inl ?_)) (fun y => z0 y.1.1) (Or.inl ⟨rfl, fun y => z0 y.1.1⟩)
      · rw [hun, if_neg z0]
      · unfold opB; simp [z0]
theorem m_whyNot {τ : St} {R : Nat → Int32} (hR : RowOk R) (hτ : τ.1 52 = R) (s i w : Int32) (t : Nat) (ht : t < 1000) : ∃ r, f_X9_whyNot τ s i (nI t) w = some r ∧ Why R s i w t r :=
  m_why hR hτ s i w t ht (nC R) 0 10000 (-1) 0 (by omega) (by have := hR.1.2.2.2.1.2; omega) (Or.inl ⟨rfl, fun c hc => absurd hc (by omega)⟩) (fun ⟨c, hc, _⟩ => absurd hc (by omega)) (Or.inl ⟨rfl, fun ⟨c, hc, _⟩ => absurd hc (by omega)⟩)
/-- the row with one count more -/
def rowCt (R : Nat → Int32) (n : Nat) (xs : Nat → Int32) : Nat → Int32 := fun j => if j = 3 then nI (n + 1) else if 445 + 6 * n ≤ j ∧ j < 451 + 6 * n then xs (j - 445 - 6 * n) else R j
theorem rowCt_o {R : Nat → Int32} {n j : Nat} {xs : Nat → Int32} (h : j ≠ 3 ∧ (j < 445 + 6 * n ∨ 451 + 6 * n ≤ j)) : rowCt R n xs j = R j := by
  unfold rowCt
  rw [if_neg h.1, if_neg (by omega)]
theorem rowCt_c {R : Nat → Int32} {n c w : Nat} {xs : Nat → Int32} (h : c < n) (hw : w < 6) : ct (rowCt R n xs) c w = ct R c w := rowCt_o (by omega)
theorem rowCt_n {R : Nat → Int32} {n w : Nat} {xs : Nat → Int32} (hw : w < 6) : ct (rowCt R n xs) n w = xs w := by
  unfold ct rowCt
  rw [if_neg (by omega), if_pos (by omega)]
  exact congrArg xs (by omega)
theorem rowCt_3 {R : Nat → Int32} {n : Nat} {xs : Nat → Int32} : rowCt R n xs 3 = nI (n + 1) := if_pos rfl
theorem rowCt_N {R : Nat → Int32} {n : Nat} {xs : Nat → Int32} (hn : n < 40) : nC (rowCt R n xs) = n + 1 := by
  unfold nC
  rw [rowCt_3, nI_clamp (by omega)]
theorem ok_ct {R : Nat → Int32} (h : RowOk R) {n s i t v w : Nat} {xs : Nat → Int32} (hn : R 3 = nI n) (hn4 : n < 40) (hs : s < nS R) (hi : i < nT R) (ht : t ≤ 999) (hv : v ≤ 9999) (hw : w ≤ 3) (x0 : xs 0 = nI s) (x1 : xs 1 = nI i) (x2 : xs 2 = nI t) (x3 : xs 3 = nI v) (x4 : xs 4 = nI w) (x5 : xs 5 = 0)
    (n1 : ¬ ∃ c, c < nC R ∧ atC R (nI s) (nI i) c ∧ ct R c 2 = nI t) (n2 : ¬ ∃ c, c < nC R ∧ pbC R (nI s) (nI i) (nI t) c) : RowOk (rowCt R n xs) := by
  have hcn : nC R = n := by unfold nC; rw [hn, nI_clamp (by omega)]
  have gg : agG R (rowCt R n xs) := fun k hk => rowCt_o (by omega)
  have ga : agA R (rowCt R n xs) := fun k hk => rowCt_o (by omega)
  obtain ⟨hN, -, -, -, hC, hD, hA, hB, hP⟩ := id h
  have hnA := hN.2.2.2.2.2
  refine h.cnts gg ⟨by rw [rowCt_3, rowCt_N hn4], by rw [rowCt_N hn4]; omega⟩ (by rw [ag_nA (ga 4 (by omega)), ga 4 (by omega)]; exact hN.2.2.2.2) (fun c hc => ?_) (fun c d hc hd e0 e1 e2 => ?_) (fun k hk => ?_) (hB.ag hN ga) ?_
  · rw [rowCt_N hn4] at hc
    rw [ag_nS (gg 0 (by omega)), ag_nT (gg 1 (by omega))]
    by_cases z : c = n
    · rw [z, rowCt_n (by decide), rowCt_n (by decide), rowCt_n (by decide), rowCt_n (by decide), rowCt_n (by decide), rowCt_n (by decide), x0, x1, x2, x3, x4, x5]
      exact ⟨⟨s, hs, rfl⟩, ⟨i, hi, rfl⟩, ⟨t, ht, rfl⟩, ⟨v, hv, rfl⟩, ⟨w, hw, rfl⟩, Or.inl rfl⟩
    · have hcc : c < n := by omega
      rw [rowCt_c hcc (by decide), rowCt_c hcc (by decide), rowCt_c hcc (by decide), rowCt_c hcc (by decide), rowCt_c hcc (by decide), rowCt_c hcc (by decide)]
      exact hC c (by omega)
  · rw [rowCt_N hn4] at hc hd
    by_cases z : c = n
    · by_cases z' : d = n
      · rw [z, z']
      · exfalso
        have hdd : d < n := by omega
        rw [z, rowCt_n (by decide), rowCt_c hdd (by decide)] at e0 e1 e2
        exact n1 ⟨d, by omega, ⟨by rw [← e0, x0], by rw [← e1, x1]⟩, by rw [← e2, x2]⟩
    · have hcc : c < n := by omega
      by_cases z' : d = n
      · exfalso
        rw [z', rowCt_n (by decide), rowCt_c hcc (by decide)] at e0 e1 e2
        exact n1 ⟨c, by omega, ⟨by rw [e0, x0], by rw [e1, x1]⟩, by rw [e2, x2]⟩
      · have hdd : d < n := by omega
        rw [rowCt_c hcc (by decide), rowCt_c hdd (by decide)] at e0 e1 e2
        exact hD c d (by omega) (by omega) e0 e1 e2
  · rw [ag_nA (ga 4 (by omega))] at hk
    rw [ga (685 + 4 * k) (by omega), ga (686 + 4 * k) (by omega), ga (687 + 4 * k) (by omega), rowCt_N hn4]
    obtain ⟨⟨c, hc, q1, q2, q3, q4⟩, q5⟩ := hA k hk
    have hcc : c < n := by omega
    refine ⟨⟨c, by omega, ?_, ?_, ?_, ?_⟩, fun d hd d1 d2 d3 => ?_⟩
    · rw [rowCt_c hcc (by decide)]; exact q1
    · rw [rowCt_c hcc (by decide)]; exact q2
    · rw [rowCt_c hcc (by decide)]; exact q3
    · rw [rowCt_c hcc (by decide)]; exact q4
    · by_cases z : d = n
      · rw [z, rowCt_n (by decide)] at d1 d2 d3
        rw [z, rowCt_n (by decide), x2]
        rw [x0] at d2
        rw [x1] at d3
        have hat : atC R (nI s) (nI i) c := ⟨by rw [← q2, ← d2], by rw [← q3, ← d3]⟩
        rw [q4]
        refine Int32.not_le.mp (fun z2 => ?_)
        by_cases z3 : ct R c 2 = nI t
        · exact n1 ⟨c, hc, hat, z3⟩
        · refine n2 ⟨c, hc, hat, by rw [q1]; decide, fun z4 => z3 (Int32.le_antisymm z4 z2)⟩
      · have hdd : d < n := by omega
        rw [rowCt_c hdd (by decide)] at d1 d2 d3 ⊢
        exact q5 d (by omega) d1 d2 d3
  · unfold RowP
    rw [ag_nA (ga 4 (by omega)), rowCt_N hn4]
    have e1 : pcN (rowCt R n xs) (n + 1) = pcN R n := by
      show pcN (rowCt R n xs) n + (if ct (rowCt R n xs) n 5 = 1 then 1 else 0) = _
      rw [rowCt_n (by decide), x5, if_neg (by decide), pcN_congr (R := R) n (fun c hc => rowCt_c hc (by decide)), Nat.add_zero]
    rw [e1, ← hcn]
    exact hP
theorem eq_ct {R : Nat → Int32} {n : Nat} {xs : Nat → Int32} (a : Nat → Int32) (w : Int64) (ha : a 0 = 3) (hN : RowN R) (hn : R 3 = nI n) (hn4 : n < 40) : RowEq (uRow a w (rowCt R n xs)) R := by
  have hcn : nC R = n := by unfold nC; rw [hn, nI_clamp (by omega)]
  have e : ∀ k, k < 445 + 6 * n ∨ 451 + 6 * n ≤ k → uRow a w (rowCt R n xs) k = R k := fun k hk => by
    unfold uRow
    rw [if_neg (show ¬ a 0 = 0 by rw [ha]; decide), if_neg (show ¬ a 0 = 1 by rw [ha]; decide), if_neg (show ¬ a 0 = 2 by rw [ha]; decide), if_pos ha]
    show (if k = 3 then rowCt R n xs 3 - 1 else rowCt R n xs k) = R k
    by_cases z : k = 3
    · rw [if_pos z, rowCt_3, z, hn, ← nI_1]; exact Int32.add_sub_cancel _ _
    · rw [if_neg z, rowCt_o ⟨z, hk⟩]
  have b0 := hN.1.2.2
  have b1 := hN.2.1.2
  have b2 := hN.2.2.1.2
  have b4 := hN.2.2.2.2.2
  unfold RowEq
  rw [ag_nS (e 0 (by omega)), ag_nT (e 1 (by omega)), ag_nM (e 2 (by omega)), ag_nC (e 3 (by omega)), ag_nA (e 4 (by omega)), hcn]
  have el : ∀ k w', k < 2 * nM R → w' < 4 → lg (uRow a w (rowCt R n xs)) k w' = lg R k w' := fun k w' hk hw => e _ (by omega)
  exact ⟨fun j hj => e j (by omega), fun i hi => ⟨e _ (by omega), e _ (by omega)⟩, fun s i hs hi => e _ (by omega), fun q hq => ⟨e _ (by omega), e _ (by omega)⟩, fun k hk => ⟨el k 0 hk (by decide), fun _ => ⟨el k 1 hk (by decide), el k 2 hk (by decide), el k 3 hk (by decide)⟩⟩, fun c hc q hq => e _ (by omega), fun k hk q hq => e _ (by omega)⟩
def xsC (s i t v w : Int32) : Nat → Int32 := fun q => if q = 0 then s else if q = 1 then i else if q = 2 then t else if q = 3 then v else if q = 4 then w else 0
section XS
variable {s i t v w : Int32}
theorem xsC_0 : xsC s i t v w 0 = s := rfl
theorem xsC_1 : xsC s i t v w 1 = i := rfl
theorem xsC_2 : xsC s i t v w 2 = t := rfl
theorem xsC_3 : xsC s i t v w 3 = v := rfl
theorem xsC_4 : xsC s i t v w 4 = w := rfl
theorem xsC_5 : xsC s i t v w 5 = 0 := rfl
end XS
theorem row_ct {τ1 : St} {R : Nat → Int32} {n : Nat} {xs : Nat → Int32} (h : τ1.1 52 = R) : (upI (upI (upI (upI (upI (upI (upI τ1 52 (445 + 6 * n) (xs 0)) 52 (446 + 6 * n) (xs 1)) 52 (447 + 6 * n) (xs 2)) 52 (448 + 6 * n) (xs 3)) 52 (449 + 6 * n) (xs 4)) 52 (450 + 6 * n) (xs 5)) 52 3 (nI (n + 1))).1 52 = rowCt R n xs := by
  funext j
  rw [up_put, up_put, up_put, up_put, up_put, up_put, up_put, h]
  by_cases z3 : j = 3
  · rw [z3, put_s, rowCt_3]
  rw [put_n z3]
  by_cases z : 445 + 6 * n ≤ j ∧ j < 451 + 6 * n
  · obtain ⟨q, hq, rfl⟩ : ∃ q, q < 6 ∧ j = 445 + 6 * n + q := ⟨j - 445 - 6 * n, by omega, by omega⟩
    rw [show rowCt R n xs (445 + 6 * n + q) = xs q from rowCt_n hq]
    rcases (show q = 0 ∨ q = 1 ∨ q = 2 ∨ q = 3 ∨ q = 4 ∨ q = 5 by omega) with rfl | rfl | rfl | rfl | rfl | rfl
    · rw [put_n (by omega), put_n (by omega), put_n (by omega), put_n (by omega), put_n (by omega)]; exact put_s
    · rw [show 445 + 6 * n + 1 = 446 + 6 * n by omega, put_n (by omega), put_n (by omega), put_n (by omega), put_n (by omega), put_s]
    · rw [show 445 + 6 * n + 2 = 447 + 6 * n by omega, put_n (by omega), put_n (by omega), put_n (by omega), put_s]
    · rw [show 445 + 6 * n + 3 = 448 + 6 * n by omega, put_n (by omega), put_n (by omega), put_s]
    · rw [show 445 + 6 * n + 4 = 449 + 6 * n by omega, put_n (by omega), put_s]
    · rw [show 445 + 6 * n + 5 = 450 + 6 * n by omega, put_s]
  · rw [rowCt_o ⟨z3, by omega⟩, put_n (by omega), put_n (by omega), put_n (by omega), put_n (by omega), put_n (by omega), put_n (by omega)]
theorem s_counts : S_counts Inv := by
  intro σ hI a1 a2 a3 a4 a5
  obtain ⟨⟨hg, -⟩, hR, hC, -, -, js, nx, j1, j2, j3, j4, j5, -⟩ := id hI
  have k1 := r52 (σ := σ) (j := 0) (x := 0)
  have hb : Inv (upI σ 50 0 0) := hI.keep (sm0 σ 0)
  have hn := hR.1.2.2.2.1
  unfold f_X8_counts
  rcases shelf_u hR.1 a1 with ⟨s, hs, rfl, e1, m1⟩ | ⟨e1, m1, -⟩
  · rcases item_u hR.1 a2 with ⟨i, hi, rfl, e2, m2⟩ | ⟨e2, m2, -⟩
    · rw [show f_X4_hasCouple σ σ.2.2.1 (nI s) (nI i) = true by unfold f_X4_hasCouple; rw [e1 _ _ hC.1.1.1, e2 _ _ hC.1.1.2.1, if_neg bt0, if_neg bt0], if_neg bt0]
      rcases inst_u a3 with ⟨t, ht, rfl, e3, m3⟩ | ⟨e3, m3, -⟩
      · rw [e3, if_neg bt0]
        rcases in_u a4 0 9999 (by decide) (by decide) with ⟨v, -, hv, rfl, p1, p2, m4⟩ | ⟨p, m4⟩
        · rw [if_neg (show ¬ nI v < 0 from p1), if_neg (show ¬ 9999 < nI v from Int32.not_lt.mpr p2)]
          rcases in_u a5 0 3 (by decide) (by decide) with ⟨w, -, hw, rfl, o1, o2, m5⟩ | ⟨o, m5⟩
          · rw [if_neg (show ¬ nI w < 0 from o1), if_pos (show nI w ≤ 3 from o2)]
            have mc : ∀ (τ : St) (q : Int32), (upI τ 50 0 0).1 52 = σ.1 52 → f_X9_whyNot (upI τ 50 0 0) (nI s) (nI i) (nI t) (nI w) = some q → f_X9_counts τ (nI s) (nI i) (nI t) (nI v) (nI w) = if 0 ≤ q then ((f_X9_snap (upI τ 50 0 0)).bind fun q14 => (rd q14 52 845 3).bind fun v15 => nm (445 + (6 * v15)) fun v16 => (wr q14 52 845 (v16 + 0) (nI s)).bind fun σ17 => (wr σ17 52 845 (v16 + 1) (nI i)).bind fun σ18 => (wr σ18 52 845 (v16 + 2) (nI t)).bind fun σ19 => (wr σ19 52 845 (v16 + 3) (nI v)).bind fun σ20 => (wr σ20 52 845 (v16 + 4) (nI w)).bind fun σ21 => (wr σ21 52 845 (v16 + 5) 0).bind fun σ22 => (rd σ22 52 845 3).bind fun v23 => (wr σ22 52 845 3 (v23 + 1)).bind fun σ24 => (rd σ24 52 845 3).bind fun v25 => some (v25 - 1, σ24)) else some (q, upI τ 50 0 0) := fun τ q h hq => by
              unfold f_X9_counts
              rw [nm_q, m1 _ h]
              rw [Option.bind_some]
              rw [if_neg bt0, m2 _ h]
              rw [Option.bind_some]
              rw [if_neg bt0, m3, if_neg bt0, show f_X9_isIn _ (nI v) 0 9999 = true from m4 _, if_neg bt0, show f_X9_isIn _ (nI w) 0 3 = true from m5 _, if_neg bt0, hq]
              rw [Option.bind_some]
            have kw : ∀ r0, (∀ r, Why (σ.1 52) (nI s) (nI i) (nI w) t r → r = r0) → ∀ τ : St, τ.1 52 = σ.1 52 → f_X9_whyNot τ (nI s) (nI i) (nI t) (nI w) = some r0 := fun r0 h τ hτ => by
              obtain ⟨r, r1, r2⟩ := m_whyNot hR hτ (nI s) (nI i) (nI w) t ht
              rw [r1, h r r2]
            have no : ∀ r0 : Int32, ¬ 0 ≤ r0 → (∀ r, Why (σ.1 52) (nI s) (nI i) (nI w) t r → r = r0) → ∃ (r : Int32) (σ1 σ2 : St), some (r0, σ) = some (r, σ1) ∧ f_X9_counts σ1 (nI s) (nI i) (nI t) (nI v) (nI w) = some (r, σ2) ∧ Inv σ2 := fun r0 h0 h => by
              refine ⟨r0, σ, upI σ 50 0 0, rfl, ?_, hb⟩
              rw [mc σ r0 k1 (kw r0 h _ k1), if_neg h0]
            obtain ⟨b1, cb1, cb2⟩ := c_countedAt hC.2.2 hR.1 (nI s) (nI i) (nI t)
            rw [cb1]
            rw [Option.bind_some]
            cases b1 with
            | true =>
              rw [if_neg bt0]
              have hx := cb2.mp rfl
              refine no (-2) (by decide) (fun r hr => ?_)
              rcases hr with ⟨-, e⟩ | ⟨y, -⟩
              · exact e
              · exact absurd hx y
            | false =>
              rw [if_pos bf0]
              have hx : ¬ ∃ c, c < nC (σ.1 52) ∧ atC (σ.1 52) (nI s) (nI i) c ∧ ct (σ.1 52) c 2 = nI t := fun y => absurd (cb2.mpr y) (by decide)
              obtain ⟨x, x1, x2⟩ := c_openAhead hR hC.2.2 (nI s) (nI i) t (by omega)
              rw [x1]
              rw [Option.bind_some]
              obtain ⟨b2, cb3, cb4⟩ := c_postedBehind hC.2.2 hR.1 (nI s) (nI i) (nI t)
              have rest : (x = -1 ∨ ¬ ct (σ.1 52) x.toNatClampNeg 4 = nI w) → ∃ (r : Int32) (σ1 σ2 : St), f_X8_counts_b97 (nI s) (nI i) (nI t) (nI v) (nI w) σ = some (r, σ1) ∧ f_X9_counts σ1 (nI s) (nI i) (nI t) (nI v) (nI w) = some (r, σ2) ∧ Inv σ2 := fun h3 => by
                unfold f_X8_counts_b97
                rw [cb3]
                rw [Option.bind_some]
                cases b2 with
                | true =>
                  rw [if_neg bt0]
                  have hy := cb4.mp rfl
                  refine no (-4) (by decide) (fun r hr => ?_)
                  rcases hr with ⟨y, -⟩ | ⟨-, x', y1, ⟨y2, y3, -⟩ | ⟨-, ⟨-, y2⟩ | ⟨y2, -⟩⟩⟩
                  · exact absurd y hx
                  · rw [Ahd.uniq hR y1 x2] at y2 y3
                    rcases h3 with h3 | h3
                    · exact absurd h3 y2
                    · exact absurd y3 h3
                  · exact y2
                  · exact absurd hy y2
                | false =>
                  rw [if_pos bf0, hC.2.2.1, hn.1]
                  have hy : ¬ ∃ c, c < nC (σ.1 52) ∧ pbC (σ.1 52) (nI s) (nI i) (nI t) c := fun y => absurd (cb4.mpr y) (by decide)
                  by_cases z : nC (σ.1 52) = 40
                  · rw [if_neg (show ¬ nI (nC (σ.1 52)) < 40 by rw [z]; decide)]
                    refine no (-5) (by decide) (fun r hr => ?_)
                    rcases hr with ⟨y, -⟩ | ⟨-, x', y1, ⟨y2, y3, -⟩ | ⟨-, ⟨y2, -⟩ | ⟨-, ⟨-, y2⟩ | ⟨y2, -⟩⟩⟩⟩
                    · exact absurd y hx
                    · rw [Ahd.uniq hR y1 x2] at y2 y3
                      rcases h3 with h3 | h3
                      · exact absurd h3 y2
                      · exact absurd y3 h3
                    · exact absurd y2 hy
                    · exact y2
                    · omega
                  · have hn4 : nC (σ.1 52) < 40 := by omega
                    rw [if_pos (show nI (nC (σ.1 52)) < 40 from (nI_ltI (b := 40) (by omega) (by omega)).mpr hn4), nm_q]
                    have hw0 : ∀ r, Why (σ.1 52) (nI s) (nI i) (nI w) t r → r = 0 := fun r hr => by
                      rcases hr with ⟨y, -⟩ | ⟨-, x', y1, ⟨y2, y3, -⟩ | ⟨-, ⟨y2, -⟩ | ⟨-, ⟨y2, -⟩ | ⟨-, y2⟩⟩⟩⟩
                      · exact absurd y hx
                      · rw [Ahd.uniq hR y1 x2] at y2 y3
                        rcases h3 with h3 | h3
                        · exact absurd h3 y2
                        · exact absurd y3 h3
                      · exact absurd y2 hy
                      · omega
                      · exact y2
                    obtain ⟨σi, i1, i2, i3, i4, i5⟩ := c_insert (σ := σ) (xs := xsC (nI s) (nI i) (nI t) (nI v) (nI w)) (c := nC (σ.1 52)) (n := nC (σ.1 52)) rfl hn4 (Nat.le_refl _) (by rw [hC.2.2.1]; exact hn.1) (fun q hq => by
                      rw [show σ.1 30 q = ct (σ.1 52) q 5 from hC.2.2.2 q hq 5 (by decide)]
                      exact (hR.2.2.2.2.1 q hq).2.2.2.2.2)
                    rw [xsC_0, xsC_1, xsC_2, xsC_3, xsC_4] at i1
                    have hcs : CStep σ (begS σi js nx 3 (nI (nC (σ.1 52)))) js nx := beg_step j2 i2 (fun c hc => i3 c (by omega))
                    have k2 : (upI (begS σi js nx 3 (nI (nC (σ.1 52)))) 50 0 0).1 52 = σ.1 52 := r52.trans (hcs.2.1 52 (by omega))
                    obtain ⟨τ1, t1, t2, t3⟩ := m_snap1 j1 (sm0 (begS σi js nx 3 (nI (nC (σ.1 52)))) 0) (by rw [hcs.2.1 50 (by omega)]; exact j4)
                    have t3' : τ1.1 52 = σ.1 52 := t3.trans (hcs.2.1 52 (by omega))
                    have hQ := row_ct (n := nC (σ.1 52)) (xs := xsC (nI s) (nI i) (nI t) (nI v) (nI w)) t3'
                    rw [xsC_0, xsC_1, xsC_2, xsC_3, xsC_4, xsC_5] at hQ
                    refine ⟨nI (nC (σ.1 52)), _, _, ob i1 (ob (c_begin j1 j2 (by rw [i3 36 (by omega)]; exact j3) (by rw [i3 36 (by omega)]; exact j5) _ _) rfl), ?_, hI.mut j1 j2 j3 j5 hcs (t2.row (τ := (upI (upI (upI (upI (upI (upI (upI τ1 52 (445 + 6 * nC (σ.1 52)) (nI s)) 52 (446 + 6 * nC (σ.1 52)) (nI i)) 52 (447 + 6 * nC (σ.1 52)) (nI t)) 52 (448 + 6 * nC (σ.1 52)) (nI v)) 52 (449 + 6 * nC (σ.1 52)) (nI w)) 52 (450 + 6 * nC (σ.1 52)) 0) 52 3 (nI (nC (σ.1 52) + 1)))) rfl (fun c hc => by rw [up_k hc, up_k hc, up_k hc, up_k hc, up_k hc, up_k hc, up_k hc])) ?_ ?_ ?_ ?_⟩
                    · rw [mc _ 0 k2 (kw 0 hw0 _ k2), if_pos (show (0 : Int32) ≤ 0 by decide)]
                      refine ob t1 (ob (rd_at 3 rfl (by decide) (by decide)) ?_)
                      rw [nm_q, t3', hn.1]
                      have ea : ∀ (q : Nat) (b : Int32), b = nI q → (445 : Int32) + 6 * nI (nC (σ.1 52)) + b = nI (445 + 6 * nC (σ.1 52) + q) := fun q b hb => by
                        subst hb
                        show nI 445 + nI 6 * nI _ + nI q = _
                        rw [pk_mul, nI_add, nI_add]
                      refine ob (wr_at (445 + 6 * nC (σ.1 52)) (ea 0 0 rfl) (by omega) (by decide)) (ob (wr_at (446 + 6 * nC (σ.1 52)) ((ea 1 1 rfl).trans (congrArg nI (by omega))) (by omega) (by decide)) (ob (wr_at (447 + 6 * nC (σ.1 52)) ((ea 2 2 rfl).trans (congrArg nI (by omega))) (by omega) (by decide)) (ob (wr_at (448 + 6 * nC (σ.1 52)) ((ea 3 3 rfl).trans (congrArg nI (by omega))) (by omega) (by decide)) (ob (wr_at (449 + 6 * nC (σ.1 52)) ((ea 4 4 rfl).trans (congrArg nI (by omega))) (by omega) (by decide)) (ob (wr_at (450 + 6 * nC (σ.1 52)) ((ea 5 5 rfl).trans (congrArg nI (by omega))) (by omega) (by decide)) (ob (rd_at 3 rfl (by decide) (by decide)) (ob (wr_at 3 rfl (by decide) (by decide)) (ob (rd_at 3 rfl (by decide) (by decide)) ?_))))))))
                      rw [up_s, up_j (b := 3) (by omega), up_j (b := 3) (by omega), up_j (b := 3) (by omega), up_j (b := 3) (by omega), up_j (b := 3) (by omega), up_j (b := 3) (by omega), t3', hn.1, nI_1]
                      have : nI (nC (σ.1 52) + 1) - 1 = nI (nC (σ.1 52)) := by rw [← nI_1]; exact Int32.add_sub_cancel _ _
                      rw [this]
                    · refine Eq.mpr (congrArg RowOk hQ) ?_
                      exact ok_ct hR hn.1 hn4 hs hi (by omega) hv hw rfl rfl rfl rfl rfl rfl hx hy
                    · refine Eq.mpr (congrArg (Cls _ _) hQ) ?_
                      have cb : ∀ c, 6 ≤ c ∧ c < 36 → (begS σi js nx 3 (nI (nC (σ.1 52)))).1 c = σi.1 c := fun c hc => beg_c (by omega) (by omega)
                      refine ⟨?_, ?_, ?_, fun c hc w' hw' => ?_⟩
                      · exact hC.1.ag hR.1 (fun c hc => by
                          have : 6 ≤ c ∧ c < 24 := by rcases hg with y | y <;> rw [y] at hc <;> omega
                          rw [cb c (by omega), i3 c (by omega)]) (fun k hk => rowCt_o (by omega))
                      · exact hC.2.1.ag hR.1 (fun c hc => by rw [cb c (by omega), i3 c (by omega)]) (fun k hk => rowCt_o (by omega))
                      · rw [cb 24 (by omega), rowCt_3]; exact i4
                      · rw [rowCt_N hn4] at hc
                        rw [cb (25 + w') (by omega), i5 w' hw' c (by omega)]
                        by_cases y : c = nC (σ.1 52)
                        · rw [if_neg (by omega), if_pos y, y]
                          exact (rowCt_n hw').symm
                        · rw [if_pos (by omega)]
                          exact (hC.2.2.2 c (by omega) w' hw').trans (rowCt_c (by omega) hw').symm
                    · refine Eq.mpr (congrArg (UOk _ _) hQ) ?_
                      exact Or.inr (Or.inr (Or.inr (Or.inl ⟨beg_0 j2, by rw [rowCt_N hn4]; omega, by rw [rowCt_N hn4]; exact beg_1 j2⟩)))
                    · refine Eq.mpr (congrArg (fun q => RowEq (uRow _ _ q) _) hQ) ?_
                      exact eq_ct _ _ (beg_0 j2) hR.1 hn.1 hn4
              by_cases zx : x = -1
              · rw [if_pos zx]
                exact rest (Or.inl zx)
              · rw [if_neg zx]
                rcases id x2 with ⟨y, -⟩ | ⟨c, c1, e, -⟩
                · exact absurd y zx
                · have hcl : x.toNatClampNeg = c := by rw [e, nI_clamp (by omega)]
                  rw [rd_at c e (by omega) (by decide), show σ.1 29 c = ct (σ.1 52) c 4 from hC.2.2.2 c c1 4 (by decide)]
                  rw [Option.bind_some]
                  by_cases y : ct (σ.1 52) c 4 = nI w
                  · rw [if_pos y]
                    refine no (-3) (by decide) (fun r hr => ?_)
                    rcases hr with ⟨q, -⟩ | ⟨-, x', y1, ⟨-, -, y2⟩ | ⟨y2, -⟩⟩
                    · exact absurd q hx
                    · exact y2
                    · rw [Ahd.uniq hR y1 x2, hcl] at y2
                      rcases y2 with y2 | y2
                      · exact absurd y2 zx
                      · exact absurd y y2
                  · rw [if_neg y]
                    exact rest (Or.inr (by rw [hcl]; exact y))
          · refine ⟨-1, σ, upI σ 50 0 0, ?_, ?_, hb⟩
            · rcases o with o | ⟨o, o'⟩
              · rw [if_pos (show a5 < 0 from o)]
              · rw [if_neg (show ¬ a5 < 0 from o), if_neg (show ¬ a5 ≤ 3 from o')]
            · unfold f_X9_counts
              rw [nm_q, m1 _ k1]
              rw [Option.bind_some]
              rw [if_neg bt0, m2 _ k1]
              rw [Option.bind_some]
              rw [if_neg bt0, m3, if_neg bt0, show f_X9_isIn _ (nI v) 0 9999 = true from m4 _, if_neg bt0, show f_X9_isIn _ a5 0 3 = false from m5 _, if_pos bf0]
        · refine ⟨-1, σ, upI σ 50 0 0, ?_, ?_, hb⟩
          · rcases p with p | ⟨p, p'⟩
            · rw [if_pos (show a4 < 0 from p)]
            · rw [if_neg (show ¬ a4 < 0 from p), if_pos (show 9999 < a4 from Int32.not_le.mp p')]
          · unfold f_X9_counts
            rw [nm_q, m1 _ k1]
            rw [Option.bind_some]
            rw [if_neg bt0, m2 _ k1]
            rw [Option.bind_some]
            rw [if_neg bt0, m3, if_neg bt0, show f_X9_isIn _ a4 0 9999 = false from m4 _, if_pos bf0]
      · rw [e3, if_pos bf0]
        refine ⟨_, _, upI σ 50 0 0, rfl, ?_, hb⟩
        unfold f_X9_counts
        rw [nm_q, m1 _ k1]
        rw [Option.bind_some]
        rw [if_neg bt0, m2 _ k1]
        rw [Option.bind_some]
        rw [if_neg bt0, m3, if_pos bf0]
    · rw [show f_X4_hasCouple σ σ.2.2.1 (nI s) a2 = false by unfold f_X4_hasCouple; rw [e1 _ _ hC.1.1.1, e2 _ _ hC.1.1.2.1, if_neg bt0, if_pos bf0], if_pos bf0]
      refine ⟨_, _, upI σ 50 0 0, rfl, ?_, hb⟩
      unfold f_X9_counts
      rw [nm_q, m1 _ k1]
      rw [Option.bind_some]
      rw [if_neg bt0, m2 _ k1]
      rw [Option.bind_some]
      rw [if_pos bf0]
  · rw [show f_X4_hasCouple σ σ.2.2.1 a1 a2 = false by unfold f_X4_hasCouple; rw [e1 _ _ hC.1.1.1, if_pos bf0], if_pos bf0]
    refine ⟨_, _, upI σ 50 0 0, rfl, ?_, hb⟩
    unfold f_X9_counts
    rw [nm_q, m1 _ k1]
    rw [Option.bind_some]
    rw [if_pos bf0]
