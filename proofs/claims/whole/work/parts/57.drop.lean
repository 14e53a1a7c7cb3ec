/-! drop -/
def rowDr (R : Nat → Int32) (c n : Nat) : Nat → Int32 := fun j => if j = 3 then nI (n - 1) else if 445 + 6 * c ≤ j ∧ j < 445 + 6 * (n - 1) then R (j + 6) else R j
theorem rowDr_3 {R : Nat → Int32} {c n : Nat} : rowDr R c n 3 = nI (n - 1) := if_pos rfl
theorem rowDr_o {R : Nat → Int32} {c n j : Nat} (h : j ≠ 3 ∧ (j < 445 + 6 * c ∨ 445 + 6 * (n - 1) ≤ j)) : rowDr R c n j = R j := by
  unfold rowDr
  rw [if_neg h.1, if_neg (by omega)]
theorem rowDr_i {R : Nat → Int32} {c n j : Nat} (h : 445 + 6 * c ≤ j ∧ j < 445 + 6 * (n - 1)) : rowDr R c n j = R (j + 6) := by
  unfold rowDr
  rw [if_neg (by omega), if_pos h]
def sh (c q : Nat) : Nat := if q < c then q else q + 1
theorem rowDr_c {R : Nat → Int32} {c n q w : Nat} (hq : q + 1 < n) (hw : w < 6) : ct (rowDr R c n) q w = ct R (sh c q) w := by
  unfold ct sh
  by_cases z : q < c
  · rw [if_pos z]; exact rowDr_o (by omega)
  · rw [if_neg z, rowDr_i (by omega)]
    exact congrArg R (by omega)
theorem rowDr_N {R : Nat → Int32} {c n : Nat} (hn : n ≤ 40) : nC (rowDr R c n) = n - 1 := by
  unfold nC
  rw [rowDr_3, nI_clamp (by omega)]
theorem m_dr {m : Nat} {a : Int32} (hm : 1 ≤ m) (hm4 : m ≤ 40) : ∀ (d x n : Nat) (σ : St), x + d = 445 + 6 * (m - 1) → d < n → 445 ≤ x → σ.1 52 3 = nI m → ∃ τ, f_X9_drop_b38 a n σ (nI x) = some (true, τ) ∧ τ.2 = σ.2 ∧ (∀ c, c ≠ 52 → τ.1 c = σ.1 c) ∧ ∀ k, τ.1 52 k = if k = 3 then nI (m - 1) else if x ≤ k ∧ k < 445 + 6 * (m - 1) then σ.1 52 (k + 6) else σ.1 52 k := by
  have e1 : nI m - 1 = nI (m - 1) := by
    obtain ⟨p, rfl⟩ : ∃ p, m = p + 1 := ⟨m - 1, by omega⟩
    rw [← nI_1]; exact Int32.add_sub_cancel _ _
  have e2 : (445 : Int32) + 6 * nI (m - 1) = nI (445 + 6 * (m - 1)) := by
    show nI 445 + nI 6 * nI _ = _
    rw [pk_mul, nI_add]
  intro d
  induction d with
  | zero =>
    intro x n σ h1 h2 h3 h4
    obtain ⟨n, rfl⟩ : ∃ m, n = m + 1 := ⟨n - 1, by omega⟩
    refine ⟨upI σ 52 3 (nI (m - 1)), ?_, rfl, fun c hc => up_k hc, fun k => ?_⟩
    · rw [f_X9_drop_b38]
      refine ob (rd_at 3 rfl (by decide) (by decide)) ?_
      rw [h4, e1, e2, if_pos (show nI (445 + 6 * (m - 1)) ≤ nI x by rw [le_nI (by omega) (by omega)]; omega)]
      refine ob (rd_at 3 rfl (by decide) (by decide)) (ob (wr_at 3 rfl (by decide) (by decide)) ?_)
      rw [h4, e1]
    · rw [up_put]
      unfold put
      by_cases z : k = 3
      · rw [if_pos z, if_pos z]
      · rw [if_neg z, if_neg z, if_neg (by omega)]
  | succ d ih =>
    intro x n σ h1 h2 h3 h4
    obtain ⟨n, rfl⟩ : ∃ m, n = m + 1 := ⟨n - 1, by omega⟩
    obtain ⟨τ, t1, t2, t3, t4⟩ := ih (x + 1) n (upI σ 52 x (σ.1 52 (x + 6))) (by omega) (by omega) (by omega) (by rw [up_j (by omega)]; exact h4)
    refine ⟨τ, ?_, t2, fun c hc => by rw [t3 c hc, up_k hc], fun k => ?_⟩
    · rw [f_X9_drop_b38]
      refine ob (rd_at 3 rfl (by decide) (by decide)) ?_
      rw [h4, e1, e2, if_neg (show ¬ nI (445 + 6 * (m - 1)) ≤ nI x by rw [le_nI (by omega) (by omega)]; omega)]
      refine ob (rd_at (x + 6) (by show nI x + nI 6 = _; rw [nI_add]) (by omega) (by decide)) (ob (wr_at x rfl (by omega) (by decide)) ?_)
      rw [nm_q, nI_1]
      exact t1
    · rw [t4 k, up_put]
      unfold put
      by_cases z : k = 3
      · rw [if_pos z, if_pos z]
      rw [if_neg z, if_neg z]
      by_cases y : k = x
      · rw [if_neg (by omega), if_pos y, if_pos (by omega), y]
      · by_cases y2 : x + 1 ≤ k ∧ k < 445 + 6 * (m - 1)
        · rw [if_pos y2, if_neg (by omega), if_pos (by omega)]
        · rw [if_neg y2, if_neg y, if_neg (by omega)]
theorem pc_dr {R : Nat → Int32} {c n : Nat} (h0 : ct R c 5 = 0) : ∀ k, k < n → pcN (rowDr R c n) k = if k ≤ c then pcN R k else pcN R (k + 1)
  | 0, _ => by rw [if_pos (by omega)]; rfl
  | k + 1, hk => by
    show pcN (rowDr R c n) k + (if ct (rowDr R c n) k 5 = 1 then 1 else 0) = _
    rw [pc_dr h0 k (by omega), rowDr_c hk (by decide)]
    unfold sh
    by_cases z1 : k + 1 ≤ c
    · rw [if_pos (by omega), if_pos (show k < c by omega), if_pos z1]; rfl
    · rw [if_neg z1, if_neg (show ¬ k < c by omega)]
      by_cases z2 : k = c
      · rw [if_pos (by omega), z2]
        have e : pcN R (c + 1 + 1) = pcN R c + (if ct R c 5 = 1 then 1 else 0) + (if ct R (c + 1) 5 = 1 then 1 else 0) := rfl
        rw [e, h0, if_neg (show ¬ (0 : Int32) = 1 by decide)]
        simp only [Nat.add_zero]
      · rw [if_neg (by omega)]; rfl
theorem ok_dr {R : Nat → Int32} (h : RowOk R) {c n : Nat} (hn : R 3 = nI n) (hn4 : n ≤ 40) (hc : c < n) (h0 : ct R c 5 = 0) : RowOk (rowDr R c n) := by
  have hcn : nC R = n := by unfold nC; rw [hn, nI_clamp (by omega)]
  have gg : agG R (rowDr R c n) := fun k hk => rowDr_o (by omega)
  have ga : agA R (rowDr R c n) := fun k hk => rowDr_o (by omega)
  obtain ⟨hN, -, -, -, hC, hD, hA, hB, hP⟩ := id h
  have hnA := hN.2.2.2.2.2
  have hsh : ∀ q, q + 1 < n → sh c q < nC R := fun q hq => by unfold sh; split <;> omega
  refine h.cnts gg ⟨by rw [rowDr_3, rowDr_N hn4], by rw [rowDr_N hn4]; omega⟩ (by rw [ag_nA (ga 4 (by omega)), ga 4 (by omega)]; exact hN.2.2.2.2) (fun q hq => ?_) (fun q d hq hd e0 e1 e2 => ?_) (fun k hk => ?_) (hB.ag hN ga) ?_
  · rw [rowDr_N hn4] at hq
    have hq1 : q + 1 < n := by omega
    rw [ag_nS (gg 0 (by omega)), ag_nT (gg 1 (by omega)), rowDr_c hq1 (by decide), rowDr_c hq1 (by decide), rowDr_c hq1 (by decide), rowDr_c hq1 (by decide), rowDr_c hq1 (by decide), rowDr_c hq1 (by decide)]
    exact hC _ (hsh q hq1)
  · rw [rowDr_N hn4] at hq hd
    have hq1 : q + 1 < n := by omega
    have hd1 : d + 1 < n := by omega
    rw [rowDr_c hq1 (by decide), rowDr_c hd1 (by decide)] at e0 e1 e2
    have := hD _ _ (hsh q hq1) (hsh d hd1) e0 e1 e2
    unfold sh at this
    split at this <;> split at this <;> omega
  · rw [ag_nA (ga 4 (by omega))] at hk
    rw [ga (685 + 4 * k) (by omega), ga (686 + 4 * k) (by omega), ga (687 + 4 * k) (by omega), rowDr_N hn4]
    obtain ⟨⟨p, hp, q1, q2, q3, q4⟩, q5⟩ := hA k hk
    have hpc : p ≠ c := fun y => by rw [y, h0] at q1; exact absurd q1 (by decide)
    obtain ⟨q, hq, eq⟩ : ∃ q, q + 1 < n ∧ sh c q = p := by
      unfold sh
      by_cases z : p < c
      · exact ⟨p, by omega, by rw [if_pos z]⟩
      · exact ⟨p - 1, by omega, by rw [if_neg (by omega)]; omega⟩
    refine ⟨⟨q, by omega, ?_, ?_, ?_, ?_⟩, fun d hd d1 d2 d3 => ?_⟩
    · rw [rowDr_c hq (by decide), eq]; exact q1
    · rw [rowDr_c hq (by decide), eq]; exact q2
    · rw [rowDr_c hq (by decide), eq]; exact q3
    · rw [rowDr_c hq (by decide), eq]; exact q4
    · have hd1 : d + 1 < n := by omega
      rw [rowDr_c hd1 (by decide)] at d1 d2 d3 ⊢
      exact q5 _ (hsh d hd1) d1 d2 d3
  · unfold RowP
    rw [ag_nA (ga 4 (by omega)), rowDr_N hn4, pc_dr h0 (n - 1) (by omega)]
    unfold RowP at hP
    rw [hcn] at hP
    by_cases z : n - 1 ≤ c
    · rw [if_pos z]
      obtain ⟨m, rfl⟩ : ∃ m, n = m + 1 := ⟨n - 1, by omega⟩
      have e : pcN R (m + 1) = pcN R m + (if ct R m 5 = 1 then 1 else 0) := rfl
      rw [e, show m = c by omega, h0, if_neg (show ¬ (0 : Int32) = 1 by decide), Nat.add_zero] at hP
      rw [show m + 1 - 1 = c by omega]
      exact hP
    · rw [if_neg z, show n - 1 + 1 = n by omega]
      exact hP
theorem eq_dr {R : Nat → Int32} {c n : Nat} (a : Nat → Int32) (w : Int64) (ha : a 0 = 5) (h1 : a 1 = nI c) (hx : ∀ q, q < 5 → a (4 + q) = ct R c q) (h0 : ct R c 5 = 0) (hN : RowN R) (hn : R 3 = nI n) (hn4 : n ≤ 40) (hc : c < n) : RowEq (uRow a w (rowDr R c n)) R := by
  have hcn : nC R = n := by unfold nC; rw [hn, nI_clamp (by omega)]
  have hcl : (a 1).toNatClampNeg = c := by rw [h1, nI_clamp (by omega)]
  have e : ∀ j, j < 445 + 6 * n ∨ 685 ≤ j → uRow a w (rowDr R c n) j = R j := fun j hj => by
    unfold uRow
    rw [if_neg (show ¬ a 0 = 0 by rw [ha]; decide), if_neg (show ¬ a 0 = 1 by rw [ha]; decide), if_neg (show ¬ a 0 = 2 by rw [ha]; decide), if_neg (show ¬ a 0 = 3 by rw [ha]; decide), if_neg (show ¬ a 0 = 4 by rw [ha]; decide), hcl]
    show (if j = 3 then rowDr R c n 3 + 1 else if 445 ≤ j ∧ j < 685 then (if (j - 445) / 6 < c then rowDr R c n j else if (j - 445) / 6 = c then (if (j - 445) % 6 = 5 then 0 else a (4 + (j - 445) % 6)) else rowDr R c n (j - 6)) else rowDr R c n j) = R j
    by_cases z3 : j = 3
    · rw [if_pos z3, rowDr_3, z3, hn, nI_1, show n - 1 + 1 = n by omega]
    rw [if_neg z3]
    by_cases z : 445 ≤ j ∧ j < 685
    · rw [if_pos z]
      by_cases y1 : (j - 445) / 6 < c
      · rw [if_pos y1, rowDr_o (by omega)]
      rw [if_neg y1]
      by_cases y2 : (j - 445) / 6 = c
      · rw [if_pos y2]
        have ej : j = 445 + 6 * c + (j - 445) % 6 := by omega
        by_cases y3 : (j - 445) % 6 = 5
        · rw [if_pos y3, ← h0]
          show R (445 + 6 * c + 5) = _
          exact congrArg R (by omega)
        · rw [if_neg y3, hx _ (by omega)]
          show R (445 + 6 * c + (j - 445) % 6) = _
          rw [← ej]
      · rw [if_neg y2, rowDr_i (by omega)]
        exact congrArg R (by omega)
    · rw [if_neg z, rowDr_o (by omega)]
  have b0 := hN.1.2.2
  have b1 := hN.2.1.2
  have b2 := hN.2.2.1.2
  have b4 := hN.2.2.2.2.2
  unfold RowEq
  rw [ag_nS (e 0 (by omega)), ag_nT (e 1 (by omega)), ag_nM (e 2 (by omega)), ag_nC (e 3 (by omega)), ag_nA (e 4 (by omega)), hcn]
  have el : ∀ k w', k < 2 * nM R → w' < 4 → lg (uRow a w (rowDr R c n)) k w' = lg R k w' := fun k w' hk hw => e _ (by omega)
  exact ⟨fun j hj => e j (by omega), fun i hi => ⟨e _ (by omega), e _ (by omega)⟩, fun s i hs hi => e _ (by omega), fun q hq => ⟨e _ (by omega), e _ (by omega)⟩, fun k hk => ⟨el k 0 hk (by decide), fun _ => ⟨el k 1 hk (by decide), el k 2 hk (by decide), el k 3 hk (by decide)⟩⟩, fun q hq w' hw => e _ (by omega), fun k hk q hq => e _ (by omega)⟩
theorem CStep.off {σ σa σ1 : St} {js nx : Nat} (h : CStep σ σa js nx) (h1 : σ1.2 = σa.2) (h2 : ∀ q, q < 6 ∨ 36 ≤ q → σ1.1 q = σa.1 q) : CStep σ σ1 js nx := by
  obtain ⟨a1, a2, a3, a4, a5⟩ := h
  refine ⟨by rw [h1]; exact a1, fun c hc => by rw [h2 c (by omega)]; exact a2 c hc, by rw [h2 36 (by omega)]; exact a3, by rw [h2 36 (by omega)]; exact a4, fun a b1 b2 b3 => ?_⟩
  rw [h2 a (by omega), h1]
  exact a5 a b1 b2 b3
theorem s_drop : S_drop Inv := by
  intro σ hI a1
  obtain ⟨⟨hg, -⟩, hR, hC, -, -, js, nx, j1, j2, j3, j4, j5, -⟩ := id hI
  have k1 := r52 (σ := σ) (j := 0) (x := 0)
  have hb : Inv (upI σ 50 0 0) := hI.keep (sm0 σ 0)
  have hn := hR.1.2.2.2.1
  unfold f_X8_drop
  rcases count_u hR.1 a1 with ⟨c, hc, rfl, e1, m1⟩ | ⟨e1, m1, -⟩
  · have f : ∀ w, w < 6 → σ.1 (25 + w) c = ct (σ.1 52) c w := fun w hw => hC.2.2.2 c hc w hw
    rw [e1 _ hC.2.2.1, if_neg bt0, rd_at c rfl (by omega) (by decide), show σ.1 30 c = ct (σ.1 52) c 5 from f 5 (by decide), Option.bind_some]
    by_cases z : ct (σ.1 52) c 5 = 0
    · rw [if_pos z]
      obtain ⟨σa, hσa⟩ : ∃ z, z = upI (upI (upI (upI (upI (begS σ js nx 5 (nI c)) (38 + nx) 4 (ct (σ.1 52) c 0)) (38 + nx) 5 (ct (σ.1 52) c 1)) (38 + nx) 6 (ct (σ.1 52) c 2)) (38 + nx) 7 (ct (σ.1 52) c 3)) (38 + nx) 8 (ct (σ.1 52) c 4) := ⟨_, rfl⟩
      have oc : ∀ q, q ≠ 36 → q ≠ 38 + nx → σa.1 q = σ.1 q := fun q z1 z2 => by
        rw [hσa, up_k z2, up_k z2, up_k z2, up_k z2, up_k z2, beg_c z1 z2]
      have hca : CStep σ σa js nx := by
        rw [hσa]
        exact (((((beg_step j2 rfl (fun c hc => rfl)).up j2 (Or.inl rfl)).up j2 (Or.inl rfl)).up j2 (Or.inl rfl)).up j2 (Or.inl rfl)).up j2 (Or.inl rfl)
      obtain ⟨σ1, i1, i2, i3, i4, i5⟩ := c_remove (σ := σa) hn.2 hc (by rw [oc 24 (by omega) (by omega), hC.2.2.1]; exact hn.1) (fun q hq => by
        rw [oc 30 (by omega) (by omega), show σ.1 30 q = ct (σ.1 52) q 5 from hC.2.2.2 q hq 5 (by decide)]
        exact (hR.2.2.2.2.1 q hq).2.2.2.2.2)
      have hcs : CStep σ σ1 js nx := hca.off i2 (fun q hq => i3 q (by omega))
      have pa : σ1.1 (38 + nx) 0 = 5 ∧ σ1.1 (38 + nx) 1 = nI c ∧ ∀ q, q < 5 → σ1.1 (38 + nx) (4 + q) = ct (σ.1 52) c q := by
        rw [i3 _ (by omega), hσa]
        refine ⟨?_, ?_, fun q hq => ?_⟩
        · rw [up_j (by decide), up_j (by decide), up_j (by decide), up_j (by decide), up_j (by decide), beg_0 j2]
        · rw [up_j (by decide), up_j (by decide), up_j (by decide), up_j (by decide), up_j (by decide), beg_1 j2]
        · rcases (show q = 0 ∨ q = 1 ∨ q = 2 ∨ q = 3 ∨ q = 4 by omega) with rfl | rfl | rfl | rfl | rfl
          · rw [up_j (by decide), up_j (by decide), up_j (by decide), up_j (by decide)]; exact up_s
          · rw [up_j (by decide), up_j (by decide), up_j (by decide)]; exact up_s
          · rw [up_j (by decide), up_j (by decide)]; exact up_s
          · rw [up_j (by decide)]; exact up_s
          · exact up_s
      have k2 : (upI σ1 50 0 0).1 52 = σ.1 52 := r52.trans (hcs.2.1 52 (by omega))
      obtain ⟨τ1, t1, t2, t3⟩ := m_snap1 j1 (sm0 σ1 0) (by rw [hcs.2.1 50 (by omega)]; exact j4)
      have t3' : τ1.1 52 = σ.1 52 := t3.trans (hcs.2.1 52 (by omega))
      obtain ⟨τ, l1, l2, l3, l4⟩ := m_dr (m := nC (σ.1 52)) (a := nI c) (by omega) hn.2 (6 * (nC (σ.1 52) - 1 - c)) (445 + 6 * c) 10000 τ1 (by omega) (by omega) (by omega) (by rw [t3']; exact hn.1)
      have hQ : τ.1 52 = rowDr (σ.1 52) c (nC (σ.1 52)) := by
        funext k
        rw [l4 k, t3']
        rfl
      refine ⟨true, σ1, τ, ?_, ?_, ?_⟩
      · refine ob (c_begin j1 j2 j3 j5 _ _) ?_
        refine ob (rd_at c rfl (by omega) (by decide)) ?_
        rw [nm_q]
        refine ob (rd_at c rfl (by omega) (by decide)) ?_
        rw [nm_q]
        refine ob (rd_at c rfl (by omega) (by decide)) ?_
        rw [nm_q]
        refine ob (rd_at c rfl (by omega) (by decide)) ?_
        rw [nm_q]
        refine ob (rd_at c rfl (by omega) (by decide)) ?_
        rw [nm_q]
        have d1 : ∀ w, w < 6 → (begS σ js nx 5 (nI c)).1 (25 + w) c = ct (σ.1 52) c w := fun w hw => by rw [beg_c (by omega) (by omega)]; exact f w hw
        have u : ∀ (τ : St) (q w : Nat) (x : Int32), w < 6 → (upI τ (38 + nx) q x).1 (25 + w) = τ.1 (25 + w) := fun τ q w x hw => up_k (by omega)
        have d0 := d1 0 (by decide)
        have d1' := d1 1 (by decide)
        have d2 := d1 2 (by decide)
        have d3 := d1 3 (by decide)
        have d4 := d1 4 (by decide)
        have u1 := fun τ q x => u τ q 1 x (by decide)
        have u2 := fun τ q x => u τ q 2 x (by decide)
        have u3 := fun τ q x => u τ q 3 x (by decide)
        have u4 := fun τ q x => u τ q 4 x (by decide)
        simp only [show 25 + 0 = 25 from rfl, show 25 + 1 = 26 from rfl, show 25 + 2 = 27 from rfl, show 25 + 3 = 28 from rfl, show 25 + 4 = 29 from rfl] at d0 d1' d2 d3 d4 u1 u2 u3 u4
        rw [d0, u1, d1', u2, u2, d2, u3, u3, u3, d3, u4, u4, u4, u4, d4, ← hσa]
        exact ob i1 rfl
      · unfold f_X9_drop
        rw [nm_q, m1 _ k2, Option.bind_some, if_neg bt0, m_ct hR k2 hc (b := 5) rfl 5 (by decide) rfl, Option.bind_some, if_neg (show ¬ ct (σ.1 52) c 5 = 1 by rw [z]; decide)]
        refine ob t1 ?_
        rw [nm_q, show (445 : Int32) + 6 * nI c = nI (445 + 6 * c) by show nI 445 + nI 6 * nI _ = _; rw [pk_mul, nI_add]]
        exact l1
      · refine hI.mut j1 j2 j3 j5 hcs (t2.row l2 l3) ?_ ?_ ?_ ?_
        · rw [hQ]; exact ok_dr hR hn.1 hn.2 hc z
        · rw [hQ]
          refine ⟨?_, ?_, ?_, fun q hq w hw => ?_⟩
          · exact hC.1.ag hR.1 (fun q hq => by
              have : 6 ≤ q ∧ q < 24 := by rcases hg with y | y <;> rw [y] at hq <;> omega
              rw [i3 q (by omega), oc q (by omega) (by omega)]) (fun k hk => rowDr_o (by omega))
          · exact hC.2.1.ag hR.1 (fun q hq => by rw [i3 q (by omega), oc q (by omega) (by omega)]) (fun k hk => rowDr_o (by omega))
          · rw [rowDr_3]; exact i4
          · rw [rowDr_N hn.2] at hq
            rw [i5 w hw q (by omega), oc (25 + w) (by omega) (by omega)]
            refine Eq.trans ?_ (rowDr_c (R := σ.1 52) (c := c) (show q + 1 < nC (σ.1 52) by omega) hw).symm
            unfold sh
            by_cases y : q < c
            · rw [if_pos y, if_pos y]; exact hC.2.2.2 q (by omega) w hw
            · rw [if_neg y, if_neg y]; exact hC.2.2.2 (q + 1) (by omega) w hw
        · rw [hQ]
          exact Or.inr (Or.inr (Or.inr (Or.inr (Or.inr ⟨pa.1, by rw [rowDr_N hn.2]; omega, c, by rw [rowDr_N hn.2]; omega, pa.2.1⟩))))
        · rw [hQ]
          exact eq_dr _ _ pa.1 pa.2.1 pa.2.2 z hR.1 hn.1 hn.2 hc
    · rw [if_neg z]
      have z1 : ct (σ.1 52) c 5 = 1 := by
        rcases (hR.2.2.2.2.1 c hc).2.2.2.2.2 with y | y
        · exact absurd y z
        · exact y
      refine ⟨_, _, upI σ 50 0 0, rfl, ?_, hb⟩
      unfold f_X9_drop
      rw [nm_q, m1 _ k1, Option.bind_some, if_neg bt0, m_ct hR k1 hc (b := 5) rfl 5 (by decide) rfl, Option.bind_some, if_pos z1]
  · rw [e1 _ hC.2.2.1, if_pos bf0]
    refine ⟨_, _, upI σ 50 0 0, rfl, ?_, hb⟩
    unfold f_X9_drop
    rw [nm_q, m1 _ k1, Option.bind_some, if_pos bf0]
