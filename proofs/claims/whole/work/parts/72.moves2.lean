/-! text: legs, moves -/
section RM
variable {v : Nat → Nat} {n : Nat} {P : Nat → Nat} {T i : Nat} {σ τ : St} {g : Nat}
theorem p_leg (hg : 6 ≤ g) (h : Cur v n P T σ τ i) {a k w : Nat} (ha : 1 ≤ a ∧ a ≤ 6) (e0 : σ.1 g 0 = nI a) (e1 : τ.1 53 0 = nI a) (hw : w < 6) {kd ki kb : Int32} (hkd : kd = wk w) (hk : σ.1 1 2 = kd) (hk8 : k < 80) (hki : ki = nI k) (hkb : kb = nI (lgB k)) :
    (∃ σ' τ' i' s e l, f_X7_readLeg σ g kd ki = some (true, σ') ∧ f_X9_readLeg τ kb = some (true, τ') ∧ Cur v n P T σ' τ' i' ∧ s < a ∧ e ≤ l ∧ l ≤ 999 ∧ (∀ c, 6 ≤ c → σ'.1 c = (sL σ g k (nI s) (nI e) (nI l)).1 c) ∧ (∀ q, 5 ≤ q → σ'.1 1 q = σ.1 1 q) ∧ FCl g σ σ' ∧ FMd τ τ' ∧ τ'.1 53 = rowLg (τ.1 53) k 1 (nI s) (nI e) (nI l) ∧ ∀ q, 8 ≤ q → τ'.1 50 q = τ.1 50 q) ∨
    (∃ σ' τ', f_X7_readLeg σ g kd ki = some (false, σ') ∧ f_X9_readLeg τ kb = some (false, τ') ∧ Bad g σ σ' τ τ') := by
  have hB : lgB k + 4 ≤ 845 ∧ 47 ≤ lgB k := by unfold lgB; omega
  have es : nI a - 1 = nI (a - 1) := pk_sub (b := 1) ha.1
  have ad : ∀ (q : Nat) (b : Int32), b = nI q → kb + b = nI (lgB k + q) := fun q b hb => by rw [hkb, hb, nI_add]
  unfold f_X7_readLeg f_X9_readLeg
  obtain ⟨σ1, τ1, a1, a2, a3, a4, a5⟩ := p_word h hw hkd hk
  rw [a1, Option.bind_some, if_neg bt0, a2, Option.bind_some, rd_at (i := 0) 0 rfl (by decide) (by decide), a5.r, e1, Option.bind_some, a4.g hg, e0, es]
  rcases p_told a3 0 (nI (a - 1)) g (j := lgB k + 1) (by omega) (ad 1 1 rfl) with ⟨σ2, τ2, s, b1, b2, b3, b4, b5, b6, -, b8, b9⟩ | ⟨σ2, τ2, b1, b2, b3⟩
  · have hs : s < a := by
      rw [le_nI (by omega) (by omega)] at b8
      omega
    rw [b1, Option.bind_some, if_neg bt0, nm_q, b5, b2, Option.bind_some, if_neg bt0]
    have fc2 : FCl g σ σ2 := (a4.cl g).trans (b4.cl g)
    have fm2 : FMd τ τ2 := a5.md.trans (((FMd.rf τ1).up53).trans b9.md)
    rcases p_told b3 0 999 g (j := lgB k + 2) (by omega) (ad 2 2 rfl) with ⟨σ3, τ3, e, d1, d2, d3, d4, d5, d6, -, -, d9⟩ | ⟨σ3, τ3, d1, d2, d3⟩
    · have q3 : τ3.1 53 = put (put (τ.1 53) (lgB k + 1) (nI s)) (lgB k + 2) (nI e) := by rw [d9.r, up_put, b9.r, up_put, a5.r]
      have fc3 := fc2.trans (d4.cl g)
      have fm3 : FMd τ τ3 := fm2.trans (((FMd.rf τ2).up53).trans d9.md)
      rw [d1, Option.bind_some, if_neg bt0, nm_q, d5, d2, Option.bind_some, if_neg bt0, rd_at (lgB k + 2) (ad 2 2 rfl) (by omega) (by decide), q3, put_s, Option.bind_some]
      rcases p_told d3 (nI e) 999 g (j := lgB k + 3) (by omega) (ad 3 3 rfl) with ⟨σ4, τ4, l, r1, r2, r3, r4, r5, r6, r7, -, r9⟩ | ⟨σ4, τ4, r1, r2, r3⟩
      · have hel : e ≤ l := by
          rw [lt_nI (by omega) (by omega)] at r7
          omega
        have q4 : τ4.1 53 = put (put (put (τ.1 53) (lgB k + 1) (nI s)) (lgB k + 2) (nI e)) (lgB k + 3) (nI l) := by rw [r9.r, up_put, q3]
        rw [r1, Option.bind_some, if_neg bt0, r5, c_setLeg hki hk8, Option.bind_some, r2, Option.bind_some, if_neg bt0, wr_at (lgB k) (ad 0 0 rfl) (by omega) (by decide), Option.bind_some]
        have g4 : ∀ c, 6 ≤ c → σ4.1 c = σ.1 c := fun c hc => by rw [r4.g hc, d4.g hc, b4.g hc, a4.g hc]
        have s1 : ∀ q, q < 6 → (sL σ4 g k (nI s) (nI e) (nI l)).1 q = σ4.1 q := fun q hq => sL_c (by omega)
        refine Or.inl ⟨sL σ4 g k (nI s) (nI e) (nI l), upI τ4 53 (lgB k) 1, i + 1 + 1 + 1 + 1, s, e, l, rfl, rfl, ?_, hs, hel, r6, fun c hc => ?_, fun q hq => ?_, ?_, ?_, ?_, fun q hq => ?_⟩
        · exact (up_curM r3).keep (s1 2 (by decide)) (s1 4 (by decide)) (s1 5 (by decide)) (fun q _ => by rw [s1 1 (by decide)]) rfl (fun _ _ => rfl) rfl
        · unfold sL
          by_cases z8 : c = g + 8
          · rw [z8, up_put, up_put, up_k (by omega), up_k (by omega), up_k (by omega), up_k (by omega), g4 _ (by omega)]
          · rw [up_k z8, up_k z8]
            by_cases z7 : c = g + 7
            · rw [z7, up_put, up_put, up_k (by omega), up_k (by omega), g4 _ (by omega)]
            · rw [up_k z7, up_k z7]
              by_cases z6 : c = g + 6
              · rw [z6, up_put, up_put, g4 _ (by omega)]
              · rw [up_k z6, up_k z6, g4 c hc]
        · rw [s1 1 (by decide), r4.q hq, d4.q hq, b4.q hq, a4.q hq]
        · exact ((((fc3.trans (r4.cl g)).upg (c := g + 6) (by omega)).upg (c := g + 7) (by omega)).upg (c := g + 8) (by omega))
        · exact (fm3.trans (((FMd.rf τ3).up53).trans r9.md)).up53
        · rw [up_put, q4]
          funext j
          unfold put rowLg
          by_cases z0 : j = lgB k
          · rw [if_pos z0, if_pos z0]
          rw [if_neg z0, if_neg z0]
          by_cases z1 : j = lgB k + 1
          · rw [if_neg (by omega), if_neg (by omega), if_pos z1, if_pos z1]
          rw [if_neg (c := j = lgB k + 1) z1, if_neg (c := j = lgB k + 1) z1]
          by_cases z2 : j = lgB k + 2
          · rw [if_neg (by omega), if_pos z2, if_pos z2]
          rw [if_neg (c := j = lgB k + 2) z2, if_neg (c := j = lgB k + 2) z2]
        · rw [up_k (by decide), r9.q hq, up_k (by decide), d9.q hq, up_k (by decide), b9.q hq, up_k (by decide), a5.q hq]
      · rw [r1, Option.bind_some, if_pos bf0, r2, Option.bind_some, if_pos bf0]
        exact Or.inr ⟨σ4, τ4, rfl, rfl, r3.pre fc3 fm3⟩
    · rw [d1, Option.bind_some, if_pos bf0, d2, Option.bind_some, if_pos bf0]
      exact Or.inr ⟨σ3, τ3, rfl, rfl, d3.pre fc2 fm2⟩
  · rw [b1, Option.bind_some, if_pos bf0, b2, Option.bind_some, if_pos bf0]
    exact Or.inr ⟨σ2, τ2, rfl, rfl, b3.pre (a4.cl g) a5.md⟩
theorem dat_leg {a b m k s e l : Nat} {σ' τ' : St} (h : Dat g a b m σ τ) (hk : k < 2 * m) (hs : s < a) (hel : e ≤ l) (hl : l ≤ 999) (hσ : ∀ c, g ≤ c → c < g + 9 → σ'.1 c = (sL σ g k (nI s) (nI e) (nI l)).1 c) (hτ : τ'.1 53 = rowLg (τ.1 53) k 1 (nI s) (nI e) (nI l)) (h16 : τ'.1 50 16 = τ.1 50 16) : Dat g a b m σ' τ' := by
  obtain ⟨⟨e0, e1, e2⟩, e3, e4, e5, e6, e7, e8⟩ := h
  have hk8 : k < 80 := by omega
  have lo : ∀ j, j < 47 → τ'.1 53 j = τ.1 53 j := fun j hj => by rw [hτ, rowLg_lo hk8 (by omega)]
  have go : ∀ d, d < 6 → σ'.1 (g + d) = σ.1 (g + d) := fun d hd => by rw [hσ _ (by omega) (by omega), sL_c (by omega)]
  have go0 : σ'.1 g = σ.1 g := go 0 (by decide)
  refine ⟨⟨⟨by rw [go0]; exact e0.1, by rw [lo 0 (by decide)]; exact e0.2.1, e0.2.2⟩, ⟨by rw [go0]; exact e1.1, by rw [lo 1 (by decide)]; exact e1.2.1, e1.2.2⟩, by rw [go0]; exact e2.1, by rw [lo 2 (by decide)]; exact e2.2.1, e2.2.2⟩, fun j hj => ?_, fun j hj => ?_, fun q hq => ?_, fun q hq => ?_, fun j h1 h2 => ?_, by rw [lo 3 (by decide)]; exact e8.1, by rw [lo 4 (by decide)]; exact e8.2⟩
  · have := e1.2.2
    rw [go 1 (by decide), go 2 (by decide), lo _ (by omega), lo _ (by omega)]
    exact e3 j hj
  · rw [go 3 (by decide), lo _ (by omega), h16]
    exact e4 j hj
  · rw [go 4 (by decide), go 5 (by decide), hτ, rowLg_m.1, rowLg_m.2]
    exact e5 q hq
  · rw [hσ (g + 6) (by omega) (by omega), hσ (g + 7) (by omega) (by omega), hσ (g + 8) (by omega) (by omega), sL_6, sL_7, sL_8, hτ]
    by_cases z : q = k
    · rw [z, put_s, put_s, put_s, rowLg_0, rowLg_1, rowLg_2, rowLg_3]
      exact Or.inr ⟨rfl, s, e, l, hs, hel, hl, rfl, rfl, rfl, rfl, rfl, rfl⟩
    · rw [put_n z, put_n z, put_n z, rowLg_n z (by decide), rowLg_n z (by decide), rowLg_n z (by decide), rowLg_n z (by decide)]
      exact e6 q hq
  · rw [hτ, rowLg_o (by unfold lgB; omega)]
    exact e7 j h1 h2
theorem put_lg {Q : Nat → Int32} {k : Nat} {x x0 x1 x2 x3 : Int32} : put (rowLg Q k x0 x1 x2 x3) 2 x = rowLg (put Q 2 x) k x0 x1 x2 x3 := by
  funext j
  have : 47 ≤ lgB k := by unfold lgB; omega
  by_cases z : j = 2
  · rw [z, put_s, rowLg_o (by omega), put_s]
  · rw [put_n z]
    unfold rowLg
    rw [put_n z]
theorem dat_add {a b m x y : Nat} {τ' : St} (h : Dat g a b m σ τ) (hm : m < 16) (hx : x < b) (h1 : 1 ≤ y) (h2 : y ≤ 99) (hτ : τ'.1 53 = put (put (τ.1 53) (45 + 10 * m) (nI x)) (46 + 10 * m) (nI y)) (h16 : τ'.1 50 16 = τ.1 50 16) : Dat g a b (m + 1) (cM σ g m (nI x) (nI y)) (upI τ' 53 2 (nI (m + 1))) := by
  obtain ⟨⟨e0, e1, e2⟩, e3, e4, e5, e6, e7, e8⟩ := h
  have qv : (upI τ' 53 2 (nI (m + 1))).1 53 = put (put (put (τ.1 53) (45 + 10 * m) (nI x)) (46 + 10 * m) (nI y)) 2 (nI (m + 1)) := by rw [up_put, hτ]
  have lo : ∀ j, j ≠ 2 → j ≠ 45 + 10 * m → j ≠ 46 + 10 * m → (upI τ' 53 2 (nI (m + 1))).1 53 j = τ.1 53 j := fun j z1 z2 z3 => by rw [qv, put_n z1, put_n z3, put_n z2]
  have l16 : (upI τ' 53 2 (nI (m + 1))).1 50 16 = τ.1 50 16 := by rw [up_k (by decide)]; exact h16
  refine ⟨⟨⟨by rw [cM_g, put_n (by decide)]; exact e0.1, by rw [lo 0 (by decide) (by omega) (by omega)]; exact e0.2.1, e0.2.2⟩, ⟨by rw [cM_g, put_n (by decide)]; exact e1.1, by rw [lo 1 (by decide) (by omega) (by omega)]; exact e1.2.1, e1.2.2⟩, by rw [cM_g, put_s], by rw [qv, put_s], by omega⟩, fun j hj => ?_, fun j hj => ?_, fun q hq => ?_, fun k hk => ?_, fun j z1 z2 => ?_, by rw [lo 3 (by decide) (by omega) (by omega)]; exact e8.1, by rw [lo 4 (by decide) (by omega) (by omega)]; exact e8.2⟩
  · have := e1.2.2
    rw [cM_d (by omega), cM_d (by omega), lo _ (by omega) (by omega) (by omega), lo _ (by omega) (by omega) (by omega)]
    exact e3 j hj
  · rw [cM_d (by omega), lo _ (by omega) (by omega) (by omega), l16]
    exact e4 j hj
  · rw [cM_4, cM_5]
    unfold mI mS
    by_cases z : q = m
    · rw [z, put_s, put_s, qv, put_n (by omega), put_n (by omega), put_s, put_n (by omega), show 45 + 10 * m + 1 = 46 + 10 * m by omega, put_s]
      exact ⟨⟨x, hx, rfl, rfl⟩, y, h1, h2, rfl, rfl⟩
    · rw [put_n z, put_n z, lo _ (by omega) (by omega) (by omega), lo _ (by omega) (by omega) (by omega)]
      exact e5 q (by omega)
  · have ll : ∀ w, w < 4 → lg ((upI τ' 53 2 (nI (m + 1))).1 53) k w = lg (τ.1 53) k w := fun w hw => lo _ (by omega) (by rcases Nat.lt_or_ge (k / 2) m with y | y <;> omega) (by rcases Nat.lt_or_ge (k / 2) m with y | y <;> omega)
    rw [ll 0 (by decide), ll 1 (by decide), ll 2 (by decide), ll 3 (by decide), cM_6, cM_7, cM_8]
    by_cases z : k < 2 * m
    · rw [put_n (by omega), put_n (by omega), put_n (by omega), put_n (by omega), put_n (by omega), put_n (by omega)]
      exact e6 k z
    · refine Or.inl ⟨e7 _ (by omega) (by omega), ?_⟩
      by_cases y' : k = 2 * m + 1
      · rw [y', put_s, put_s, put_s]; exact ⟨rfl, rfl, rfl⟩
      · rw [put_n y', put_n y', put_n y', show k = 2 * m by omega, put_s, put_s, put_s]; exact ⟨rfl, rfl, rfl⟩
  · rw [lo _ (by omega) (by omega) (by omega)]
    exact e7 j (by omega) z2
/-- a leg, or none; behind it the rest R -/
theorem p_move (hg : 6 ≤ g) (h : Cur v n P T σ τ i) {a b m : Nat} (hm : m < 16) (hd : Dat g a b m σ τ) (hk : σ.1 1 2 = -8) : Ln v n P T g σ τ (f_X7_readMove σ g) (f_X9_readMove τ) (fun σ' τ' => Dat g a b (m + 1) σ' τ') := by
  obtain ⟨⟨e0, e1, e2⟩, -⟩ := id hd
  -- the end of the line
  have fin : ∀ (σ5 τ5 : St) (i5 : Nat), Cur v n P T σ5 τ5 i5 → FCl g σ σ5 → FMd τ τ5 → (∀ q, 5 ≤ q → σ5.1 1 q = σ.1 1 q) → (∀ q, 8 ≤ q → τ5.1 50 q = τ.1 50 q) → τ5.1 53 2 = nI m → Dat g a b (m + 1) σ5 (upI τ5 53 2 (nI (m + 1))) → Ln v n P T g σ τ ((f_X7_takeLineEnd σ5).bind fun q11 => some (q11.1, q11.2)) (f_X9_readMove_b126 τ5) (fun σ' τ' => Dat g a b (m + 1) σ' τ') := by
    intro σ5 τ5 i5 hc fc fm h1 h8 h2 hD
    unfold f_X9_readMove_b126
    rw [rd_at (i := 2) 2 rfl (by decide) (by decide), h2, Option.bind_some, wr_at (i := 2) 2 rfl (by decide) (by decide), Option.bind_some, nI_1]
    rcases p_end (up_curM (j := 2) (x := nI (m + 1)) hc) g with ⟨σ6, τ6, r1, r2, r3, r4, r5⟩ | ⟨σ6, τ6, r1, r2, r3⟩
    · rw [r1, r2]
      refine Or.inl ⟨σ6, τ6, _, rfl, rfl, r3, (fc.up1 _ _).trans (r4.cl g), fm.up53.trans r5.md, hD.keep (fun c z1 z2 => by rw [r4.g (by omega), up_k (by omega)]) r5.r (r5.q (by decide)), ⟨?_, ?_⟩, ⟨?_, ?_⟩⟩
      · rw [r4.q (by decide), up_s, h1 5 (by decide)]
      · rw [r5.q (by decide), up_k (by decide), h8 17 (by decide)]
      · rw [r4.q (by decide), up_j (by decide), h1 6 (by decide)]
      · rw [r5.q (by decide), up_k (by decide), h8 8 (by decide)]
    · rw [r1, r2]
      exact Or.inr ⟨σ6, τ6, rfl, rfl, r3.pre fc fm.up53⟩
  -- a leg and the rest
  have leg : ∀ (σ4 τ4 : St) (i4 w d : Nat) (kd kb : Int32) (C : St → Option (Bool × St)) (M : St → Option (Bool × St)), w < 6 → kd = wk w → d < 2 → kb = nI (lgB (2 * m + d)) → Cur v n P T σ4 τ4 i4 → σ4.1 1 2 = kd → FCl g σ σ4 → FMd τ τ4 → (∀ q, 5 ≤ q → σ4.1 1 q = σ.1 1 q) → (∀ q, 8 ≤ q → τ4.1 50 q = τ.1 50 q) → τ4.1 53 2 = nI m → Dat g a b (m + 1) σ4 (upI τ4 53 2 (nI (m + 1))) →
      (∀ (σ5 τ5 : St) (i5 : Nat), Cur v n P T σ5 τ5 i5 → FCl g σ σ5 → FMd τ τ5 → (∀ q, 5 ≤ q → σ5.1 1 q = σ.1 1 q) → (∀ q, 8 ≤ q → τ5.1 50 q = τ.1 50 q) → τ5.1 53 2 = nI m → Dat g a b (m + 1) σ5 (upI τ5 53 2 (nI (m + 1))) → Ln v n P T g σ τ (C σ5) (M τ5) (fun σ' τ' => Dat g a b (m + 1) σ' τ')) →
      Ln v n P T g σ τ ((f_X7_readLeg σ4 g kd (nI (2 * m + d))).bind fun q13 => if (b2i q13.1) = 0 then (some (false, q13.2)) else C q13.2) ((f_X9_readLeg τ4 kb).bind fun q20 => if (b2i q20.1) = 0 then (some (false, q20.2)) else M q20.2) (fun σ' τ' => Dat g a b (m + 1) σ' τ') := by
    intro σ4 τ4 i4 w d kd kb C M hw hkd hd2 hkb hc hk4 fc fm h1 h8 h2 hD hrest
    rcases p_leg hg hc (a := a) (k := 2 * m + d) e0.2.2 hD.1.1.1 (by have := hD.1.1.2.1; rw [up_j (by decide)] at this; exact this) hw hkd hk4 (by omega) rfl hkb with ⟨σ5, τ5, i5, s, e, l, r1, r2, r3, r4, r5, r6, r7, r8, r9, r10, r11, r12⟩ | ⟨σ5, τ5, r1, r2, r3⟩
    · rw [r1, r2, Option.bind_some, Option.bind_some, if_neg bt0, if_neg bt0]
      refine hrest σ5 τ5 i5 r3 (fc.trans r9) (fm.trans r10) (fun q hq => (r8 q hq).trans (h1 q hq)) (fun q hq => (r12 q hq).trans (h8 q hq)) (by rw [r11, rowLg_lo (by omega) (by omega)]; exact h2) ?_
      refine dat_leg hD (k := 2 * m + d) (by omega) r4 r5 r6 (fun c z1 _ => r7 c (by omega)) ?_ ?_
      · rw [up_put, r11, put_lg, up_put]
      · rw [up_k (by decide), up_k (by decide), r12 16 (by decide)]
    · rw [r1, r2, Option.bind_some, Option.bind_some, if_pos bf0, if_pos bf0]
      exact Or.inr ⟨σ5, τ5, rfl, rfl, r3.pre fc fm⟩
  have to : ∀ (σ5 τ5 : St) (i5 : Nat), Cur v n P T σ5 τ5 i5 → FCl g σ σ5 → FMd τ τ5 → (∀ q, 5 ≤ q → σ5.1 1 q = σ.1 1 q) → (∀ q, 8 ≤ q → τ5.1 50 q = τ.1 50 q) → τ5.1 53 2 = nI m → Dat g a b (m + 1) σ5 (upI τ5 53 2 (nI (m + 1))) → Ln v n P T g σ τ (f_X7_readMove_b78 g σ5 (nI m)) (f_X9_readMove_b98 τ5 (nI (45 + 10 * m))) (fun σ' τ' => Dat g a b (m + 1) σ' τ') := by
    intro σ5 τ5 i5 hc fc fm h1 h8 h2 hD
    unfold f_X7_readMove_b78 f_X9_readMove_b98
    rw [cW_5]
    rcases p_isW hc (w := 5) (by decide) with ⟨k1, k2⟩ | ⟨k1, k2⟩
    · rw [if_pos (show σ5.1 1 2 = -10 from k1), k2, if_neg bt0, leg_at (m := m) (d := 1) (b := 1) rfl rfl]
      exact leg σ5 τ5 i5 5 1 (-10) _ (fun q => (f_X7_takeLineEnd q).bind fun q15 => some (q15.1, q15.2)) f_X9_readMove_b126 (by decide) rfl (by decide) (by
        show nI _ + nI 2 + nI 4 = _
        rw [nI_add, nI_add]
        exact congrArg nI (by unfold lgB; omega)) hc k1 fc fm h1 h8 h2 hD fin
    · rw [if_neg (show ¬ σ5.1 1 2 = -10 from k1), k2, if_pos bf0]
      exact fin σ5 τ5 i5 hc fc fm h1 h8 h2 hD
  unfold f_X7_readMove f_X9_readMove
  obtain ⟨σ1, τ1, a1, a2, a3, a4, a5⟩ := p_word h (w := 3) (by decide) (a := -8) rfl hk
  have eb : (45 : Int32) + 10 * nI m = nI (45 + 10 * m) := by
    show nI 45 + nI 10 * nI m = _
    rw [pk_mul, nI_add]
  rw [a1, Option.bind_some, if_neg bt0, rd_at (i := 2) 2 rfl (by decide) (by decide), e2.2.1, Option.bind_some, if_neg (show ¬ nI m = 16 from fun y => by have := nI_inj (b := 16) (by omega) (by omega) y; omega), a2, Option.bind_some, rd_at (i := 2) 2 rfl (by decide) (by decide), a5.r, e2.2.1, Option.bind_some, nm_q, eb, rd_at (i := 1) 1 rfl (by decide) (by decide), a5.r, e1.2.1, Option.bind_some, a4.g hg, e1.1]
  rcases p_told a3 0 (nI b - 1) g (j := 45 + 10 * m) (by omega) (a := nI (45 + 10 * m) + 0) (by rw [Int32.add_zero]) with ⟨σ2, τ2, x, b1, b2, b3, b4, b5, b6, -, b8, b9⟩ | ⟨σ2, τ2, b1, b2, b3⟩
  · have hx : x < b := by
      rw [Int32.le_iff_toInt_le, nI_toInt (by omega), show (nI b - 1).toInt = (b : Int) - 1 from pk_sub_toInt (a := b) (b := 1) (by omega) (by decide)] at b8
      omega
    rw [b1, Option.bind_some, if_neg bt0, nm_q, b5, b2, Option.bind_some, if_neg bt0]
    have fc2 : FCl g σ σ2 := (a4.cl g).trans (b4.cl g)
    have fm2 : FMd τ τ2 := a5.md.trans (((FMd.rf τ1).up53).trans b9.md)
    rcases p_told b3 1 99 g (j := 46 + 10 * m) (by omega) (a := nI (45 + 10 * m) + 1) (by rw [nI_1]; exact congrArg nI (by omega)) with ⟨σ3, τ3, y, d1, d2, d3, d4, d5, d6, d7, d8, d9⟩ | ⟨σ3, τ3, d1, d2, d3⟩
    · have hy : 1 ≤ y ∧ y ≤ 99 := by
        have y1 : ¬ nI y < nI 1 := d7
        have y2 : nI y ≤ nI 99 := d8
        rw [lt_nI (by omega) (by omega)] at y1
        rw [le_nI (by omega) (by omega)] at y2
        omega
      have g3 : ∀ c, 6 ≤ c → σ3.1 c = σ.1 c := fun c hc => by rw [d4.g hc, b4.g hc, a4.g hc]
      have q3 : τ3.1 53 = put (put (τ.1 53) (45 + 10 * m) (nI x)) (46 + 10 * m) (nI y) := by rw [d9.r, up_put, b9.r, up_put, a5.r]
      have k3 : ∀ q, 8 ≤ q → τ3.1 50 q = τ.1 50 q := fun q hq => by rw [d9.q hq, up_k (by decide), b9.q hq, up_k (by decide), a5.q hq]
      have fc3 := fc2.trans (d4.cl g)
      have fm3 : FMd τ τ3 := fm2.trans (((FMd.rf τ2).up53).trans d9.md)
      rw [d1, Option.bind_some, if_neg bt0, d5, c_addMove (m := m) (by rw [g3 g hg]; exact e2.1) (by omega), Option.bind_some, d2, Option.bind_some, if_neg bt0, cW_4]
      have cl : ∀ q, q < 6 → (cM σ3 g m (nI x) (nI y)).1 q = σ3.1 q := fun q hq => cM_c (fun d hd => by omega)
      have hc4 : Cur v n P T (cM σ3 g m (nI x) (nI y)) τ3 (i + 1 + 1 + 1) := d3.keep (cl 2 (by decide)) (cl 4 (by decide)) (cl 5 (by decide)) (fun q _ => by rw [cl 1 (by decide)]) rfl (fun _ _ => rfl) rfl
      have fc4 : FCl g σ (cM σ3 g m (nI x) (nI y)) := fc3.trans ⟨rfl, fun c _ hc => cM_c (fun d hd y => hc (by omega))⟩
      have h14 : ∀ q, 5 ≤ q → (cM σ3 g m (nI x) (nI y)).1 1 q = σ.1 1 q := fun q hq => by rw [cl 1 (by decide), d4.q hq, b4.q hq, a4.q hq]
      have h24 : τ3.1 53 2 = nI m := by rw [q3, put_n (by omega), put_n (by omega)]; exact e2.2.1
      have hD4 : Dat g a b (m + 1) (cM σ3 g m (nI x) (nI y)) (upI τ3 53 2 (nI (m + 1))) := dat_add (hd.keep (σ' := σ3) (τ' := τ) (fun c z1 _ => g3 c (by omega)) rfl rfl) hm hx hy.1 hy.2 q3 (k3 16 (by decide))
      show Ln v n P T g σ τ (if (cM σ3 g m (nI x) (nI y)).1 1 2 = -9 then _ else _) _ _
      rcases p_isW hc4 (w := 4) (by decide) with ⟨k1, k2⟩ | ⟨k1, k2⟩
      · rw [if_pos (show (cM σ3 g m (nI x) (nI y)).1 1 2 = -9 from k1), k2, if_neg bt0]
        dsimp only
        rw [leg_at (m := m) (d := 0) (b := 0) rfl rfl]
        exact leg _ τ3 _ 4 0 (-9) _ (fun q => f_X7_readMove_b78 g q (nI m)) (fun q => f_X9_readMove_b98 q (nI (45 + 10 * m))) (by decide) rfl (by decide) (by
          show nI _ + nI 2 = _
          rw [nI_add]
          exact congrArg nI (by unfold lgB; omega)) hc4 k1 fc4 fm3 h14 k3 h24 hD4 to
      · rw [if_neg (show ¬ (cM σ3 g m (nI x) (nI y)).1 1 2 = -9 from k1), k2, if_pos bf0]
        exact to _ τ3 _ hc4 fc4 fm3 h14 k3 h24 hD4
    · rw [d1, Option.bind_some, if_pos bf0, d2, Option.bind_some, if_pos bf0]
      exact Or.inr ⟨σ3, τ3, rfl, rfl, d3.pre fc2 fm2⟩
  · rw [b1, Option.bind_some, if_pos bf0, b2, Option.bind_some, if_pos bf0]
    exact Or.inr ⟨σ2, τ2, rfl, rfl, b3.pre (a4.cl g) a5.md⟩
end RM
