/-! leg, narrow -/
def rowLg (R : Nat → Int32) (k : Nat) (x0 x1 x2 x3 : Int32) : Nat → Int32 := fun j => if j = lgB k then x0 else if j = lgB k + 1 then x1 else if j = lgB k + 2 then x2 else if j = lgB k + 3 then x3 else R j
section RL
variable {R : Nat → Int32} {k : Nat} {x0 x1 x2 x3 : Int32}
theorem rowLg_o {j : Nat} (h : j < lgB k ∨ lgB k + 4 ≤ j) : rowLg R k x0 x1 x2 x3 j = R j := by
  unfold rowLg
  rw [if_neg (by omega), if_neg (by omega), if_neg (by omega), if_neg (by omega)]
theorem rowLg_lo {j : Nat} (hk : k < 80) (h : j < 47 ∨ 445 ≤ j) : rowLg R k x0 x1 x2 x3 j = R j := rowLg_o (by unfold lgB; omega)
theorem rowLg_0 : lg (rowLg R k x0 x1 x2 x3) k 0 = x0 := if_pos rfl
theorem rowLg_1 : lg (rowLg R k x0 x1 x2 x3) k 1 = x1 := by
  show rowLg R k x0 x1 x2 x3 (lgB k + 1) = x1
  unfold rowLg
  rw [if_neg (by omega), if_pos rfl]
theorem rowLg_2 : lg (rowLg R k x0 x1 x2 x3) k 2 = x2 := by
  show rowLg R k x0 x1 x2 x3 (lgB k + 2) = x2
  unfold rowLg
  rw [if_neg (by omega), if_neg (by omega), if_pos rfl]
theorem rowLg_3 : lg (rowLg R k x0 x1 x2 x3) k 3 = x3 := by
  show rowLg R k x0 x1 x2 x3 (lgB k + 3) = x3
  unfold rowLg
  rw [if_neg (by omega), if_neg (by omega), if_neg (by omega), if_pos rfl]
theorem rowLg_n {q w : Nat} (h : q ≠ k) (hw : w < 4) : lg (rowLg R k x0 x1 x2 x3) q w = lg R q w := rowLg_o (by unfold lgB; omega)
theorem rowLg_m {m : Nat} : mI (rowLg R k x0 x1 x2 x3) m = mI R m ∧ mS (rowLg R k x0 x1 x2 x3) m = mS R m := by
  have h : (45 + 10 * m < lgB k ∨ lgB k + 4 ≤ 45 + 10 * m) ∧ (45 + 10 * m + 1 < lgB k ∨ lgB k + 4 ≤ 45 + 10 * m + 1) := by
    unfold lgB
    rcases Nat.lt_or_ge (k / 2) m with h | h <;> omega
  exact ⟨rowLg_o h.1, rowLg_o h.2⟩
end RL
theorem ok_lg {R : Nat → Int32} (h : RowOk R) {k s e l : Nat} (hk : k < 2 * nM R) (hs : s < nS R) (h1 : e ≤ l) (h2 : l ≤ 999) : RowOk (rowLg R k 1 (nI s) (nI e) (nI l)) := by
  have hm := h.1.2.2.1
  have hk8 : k < 80 := by omega
  have e0 : rowLg R k 1 (nI s) (nI e) (nI l) 0 = R 0 := rowLg_lo hk8 (by omega)
  have e1 : rowLg R k 1 (nI s) (nI e) (nI l) 1 = R 1 := rowLg_lo hk8 (by omega)
  have e2 : rowLg R k 1 (nI s) (nI e) (nI l) 2 = R 2 := rowLg_lo hk8 (by omega)
  refine h.goods e0 e1 (by rw [ag_nM e2, e2]; exact hm) (fun q hq => ?_) (fun q hq => ?_) (h.2.2.2.1.ag h.1 e0 e1 (fun j hj => rowLg_lo hk8 (by omega))) (fun j hj => rowLg_lo hk8 (by omega)) (fun j hj => rowLg_lo hk8 (by omega))
  · rw [ag_nM e2] at hq
    rw [ag_nT e1, rowLg_m.1, rowLg_m.2]
    exact h.2.1 q hq
  · rw [ag_nM e2] at hq
    rw [ag_nS e0]
    by_cases z : q = k
    · rw [z, rowLg_0, rowLg_1, rowLg_2, rowLg_3]
      exact Or.inr ⟨rfl, ⟨s, hs, rfl⟩, e, l, h1, h2, rfl, rfl⟩
    · rw [rowLg_n z (by decide), rowLg_n z (by decide), rowLg_n z (by decide), rowLg_n z (by decide)]
      exact h.2.2.1 q hq
theorem cls_lg {σ τ : St} {g k : Nat} {R : Nat → Int32} {x1 x2 x3 : Int32} (hN : RowN R) (hk : k < 80) (h : ClsG σ g R) (hc : ∀ c, g ≤ c ∧ c < g + 6 → τ.1 c = σ.1 c) (a1 : τ.1 (g + 6) k = x1) (a2 : τ.1 (g + 7) k = x2) (a3 : τ.1 (g + 8) k = x3)
    (b1 : ∀ q, q ≠ k → τ.1 (g + 6) q = σ.1 (g + 6) q ∧ τ.1 (g + 7) q = σ.1 (g + 7) q ∧ τ.1 (g + 8) q = σ.1 (g + 8) q) : ClsG τ g (rowLg R k 1 x1 x2 x3) := by
  have e0 : rowLg R k 1 x1 x2 x3 0 = R 0 := rowLg_lo hk (by omega)
  have e1 : rowLg R k 1 x1 x2 x3 1 = R 1 := rowLg_lo hk (by omega)
  have e2 : rowLg R k 1 x1 x2 x3 2 = R 2 := rowLg_lo hk (by omega)
  have n0 := hN.1.2.2
  have n1 := hN.2.1.2
  obtain ⟨g1, g2, g3, g4, g5⟩ := h
  unfold ClsG
  rw [ag_nS e0, ag_nT e1, ag_nM e2, hc g (by omega), hc (g + 1) (by omega), hc (g + 2) (by omega), hc (g + 3) (by omega), hc (g + 4) (by omega), hc (g + 5) (by omega), e0, e1, e2]
  refine ⟨g1, fun i hi => ?_, fun s i hs hi => ?_, fun m hm => ?_, fun q hq => ?_⟩
  · rw [rowLg_lo hk (by omega), rowLg_lo hk (by omega)]; exact g2 i hi
  · rw [rowLg_lo hk (by omega)]; exact g3 s i hs hi
  · rw [rowLg_m.1, rowLg_m.2]; exact g4 m hm
  · by_cases z : q = k
    · rw [z, rowLg_0, rowLg_1, rowLg_2, rowLg_3]
      exact Or.inl ⟨rfl, a1, a2, a3⟩
    · obtain ⟨c1, c2, c3⟩ := b1 q z
      rw [rowLg_n z (by decide), rowLg_n z (by decide), rowLg_n z (by decide), rowLg_n z (by decide), c1, c2, c3]
      exact g5 q hq
theorem eq_lg {R : Nat → Int32} {k : Nat} {x1 x2 x3 : Int32} (a : Nat → Int32) (w : Int64) (h0 : a 0 = 1) (h1 : a 1 = nI k) (hN : RowN R) (hk : k < 80) (hl : lg R k 0 = 0) : RowEq (uRow a w (rowLg R k 1 x1 x2 x3)) R := by
  have hc : (a 1).toNatClampNeg = k := by rw [h1, nI_clamp (by omega)]
  have ev : ∀ j, uRow a w (rowLg R k 1 x1 x2 x3) j = if j = lgB k then 0 else rowLg R k 1 x1 x2 x3 j := fun j => by
    unfold uRow
    rw [if_neg (show ¬ a 0 = 0 by rw [h0]; decide), if_pos h0, hc]
  have e : ∀ j, j < lgB k ∨ lgB k + 4 ≤ j → uRow a w (rowLg R k 1 x1 x2 x3) j = R j := fun j hj => by
    rw [ev, if_neg (by omega), rowLg_o hj]
  have el : ∀ j, j < 47 ∨ 445 ≤ j → uRow a w (rowLg R k 1 x1 x2 x3) j = R j := fun j hj => e j (by unfold lgB; omega)
  have n0 := hN.1.2.2
  have n1 := hN.2.1.2
  have b3 := hN.2.2.2.1.2
  have b4 := hN.2.2.2.2.2
  unfold RowEq
  rw [ag_nS (el 0 (by omega)), ag_nT (el 1 (by omega)), ag_nM (el 2 (by omega)), ag_nC (el 3 (by omega)), ag_nA (el 4 (by omega))]
  refine ⟨fun j hj => el j (by omega), fun i hi => ⟨el _ (by omega), el _ (by omega)⟩, fun s i hs hi => el _ (by omega), fun q hq => ⟨e _ (by unfold lgB; rcases Nat.lt_or_ge (k / 2) q with y | y <;> omega), e _ (by unfold lgB; rcases Nat.lt_or_ge (k / 2) q with y | y <;> omega)⟩, fun q hq => ?_, fun c hc q hq => el _ (by omega), fun q hq w' hw => el _ (by omega)⟩
  by_cases z : q = k
  · have e0 : lg (uRow a w (rowLg R k 1 x1 x2 x3)) k 0 = 0 := (ev _).trans (if_pos rfl)
    rw [z, e0, hl]
    exact ⟨rfl, fun y => absurd y (by decide)⟩
  · have en : ∀ w', w' < 4 → lg (uRow a w (rowLg R k 1 x1 x2 x3)) q w' = lg R q w' := fun w' hw => e _ (by unfold lgB; omega)
    exact ⟨en 0 (by decide), fun _ => ⟨en 1 (by decide), en 2 (by decide), en 3 (by decide)⟩⟩
theorem RowEq.same {A R : Nat → Int32} (h : ∀ j, A j = R j) : RowEq A R := by
  obtain rfl : A = R := funext h
  exact ⟨fun _ _ => rfl, fun _ _ => ⟨rfl, rfl⟩, fun _ _ _ _ => rfl, fun _ _ => ⟨rfl, rfl⟩, fun _ _ => ⟨rfl, fun _ => ⟨rfl, rfl, rfl⟩⟩, fun _ _ _ _ => rfl, fun _ _ _ _ => rfl⟩
theorem eq_nr {R : Nat → Int32} {k : Nat} {x2 x3 : Int32} (a : Nat → Int32) (w : Int64) (h0 : a 0 = 2) (h1 : a 1 = nI k) (h2 : a 2 = lg R k 2) (h3 : a 3 = lg R k 3) (hk : k < 80) (hl : lg R k 0 = 1) : RowEq (uRow a w (rowLg R k 1 (lg R k 1) x2 x3)) R := by
  have hc : (a 1).toNatClampNeg = k := by rw [h1, nI_clamp (by omega)]
  refine RowEq.same (fun j => ?_)
  unfold uRow
  rw [if_neg (show ¬ a 0 = 0 by rw [h0]; decide), if_neg (show ¬ a 0 = 1 by rw [h0]; decide), if_pos h0, hc]
  show (if j = lgB k + 2 then a 2 else if j = lgB k + 3 then a 3 else rowLg R k 1 (lg R k 1) x2 x3 j) = R j
  by_cases z2 : j = lgB k + 2
  · rw [if_pos z2, h2, z2]; rfl
  rw [if_neg z2]
  by_cases z3 : j = lgB k + 3
  · rw [if_pos z3, h3, z3]; rfl
  rw [if_neg z3]
  unfold rowLg
  by_cases z0 : j = lgB k
  · rw [if_pos z0, z0, ← hl]; rfl
  rw [if_neg z0]
  by_cases z1 : j = lgB k + 1
  · rw [if_pos z1, z1]; rfl
  rw [if_neg z1, if_neg z2, if_neg z3]
theorem leg_u (a : Int32) : (∃ d, d < 2 ∧ a = nI d ∧ (∀ σ, f_X8_isLeg σ a = true) ∧ ∀ τ, f_X9_isIn τ a 0 1 = true) ∨ ((∀ σ, f_X8_isLeg σ a = false) ∧ ∀ τ, f_X9_isIn τ a 0 1 = false) := by
  rcases in_u a 0 1 (by decide) (by decide) with ⟨d, -, h1, e, -, -, h2⟩ | ⟨h1, h2⟩
  · refine Or.inl ⟨d, by omega, e, fun σ => ?_, h2⟩
    unfold f_X8_isLeg
    rcases (show d = 0 ∨ d = 1 by omega) with rfl | rfl
    · rw [if_pos (show a = 0 from e)]
    · rw [if_neg (show ¬ a = 0 by rw [e]; decide), if_pos (show a = 1 from e)]
  · refine Or.inr ⟨fun σ => ?_, h2⟩
    have n0 : ¬ a = 0 := fun z => by
      have := h2 σ
      rw [z] at this
      exact absurd this (by unfold f_X9_isIn; decide)
    have n1 : ¬ a = 1 := fun z => by
      have := h2 σ
      rw [z] at this
      exact absurd this (by unfold f_X9_isIn; decide)
    unfold f_X8_isLeg
    rw [if_neg n0, if_neg n1]
theorem span_u (a b : Int32) : (∃ e l, e ≤ l ∧ l ≤ 999 ∧ a = nI e ∧ b = nI l ∧ (∀ σ, f_X8_isSpan σ a b = true) ∧ ∀ τ, f_X9_isSpan τ a b = true) ∨ ((∀ σ, f_X8_isSpan σ a b = false) ∧ (∀ τ, f_X9_isSpan τ a b = false) ∧ ∀ e l, e ≤ l → l ≤ 999 → ¬ (a = nI e ∧ b = nI l)) := by
  rcases inst_u a with ⟨e, he, rfl, e1, m1⟩ | ⟨e1, m1, n1⟩
  · rcases inst_u b with ⟨l, hl, rfl, e2, m2⟩ | ⟨e2, m2, n2⟩
    · by_cases z : nI l < nI e
      · refine Or.inr ⟨fun σ => ?_, fun τ => ?_, fun e' l' h1 h2 h3 => ?_⟩
        · unfold f_X8_isSpan; rw [e1, e2, if_neg bt0, if_neg bt0, if_pos z]
        · unfold f_X9_isSpan; rw [m1, m2, if_neg bt0, if_neg bt0, if_pos z]
        · rw [h3.1, h3.2, lt_nI (by omega) (by omega)] at z
          omega
      · refine Or.inl ⟨e, l, ?_, by omega, rfl, rfl, fun σ => ?_, fun τ => ?_⟩
        · rw [lt_nI (by omega) (by omega)] at z; omega
        · unfold f_X8_isSpan; rw [e1, e2, if_neg bt0, if_neg bt0, if_neg z]
        · unfold f_X9_isSpan; rw [m1, m2, if_neg bt0, if_neg bt0, if_neg z]
    · refine Or.inr ⟨fun σ => ?_, fun τ => ?_, fun e' l' h1 h2 h3 => n2 l' (by omega) h3.2⟩
      · unfold f_X8_isSpan; rw [e1, e2, if_neg bt0, if_pos bf0]
      · unfold f_X9_isSpan; rw [m1, m2, if_neg bt0, if_pos bf0]
  · refine Or.inr ⟨fun σ => ?_, fun τ => ?_, fun e' l' h1 h2 h3 => n1 e' (by omega) h3.1⟩
    · unfold f_X8_isSpan; rw [e1, if_pos bf0]
    · unfold f_X9_isSpan; rw [m1, if_pos bf0]
theorem at_lg {m d w : Nat} {a1 a2 a3 : Int32} (h1 : a1 = nI m) (h2 : a2 = nI d) (h3 : a3 = nI w) (hd : d < 2) : (((45 : Int32) + (10 * a1)) + 2) + (4 * a2) + a3 = nI (lgB (2 * m + d) + w) := by
  subst h1; subst h2; subst h3
  show ((nI 45 + nI 10 * nI m) + nI 2) + nI 4 * nI d + nI w = _
  simp only [pk_mul, nI_add]
  exact congrArg nI (by unfold lgB; omega)
theorem s_leg : S_leg Inv := by
  intro σ hI a1 a2 a3 a4 a5
  obtain ⟨⟨hg, -⟩, hR, hC, -, -, js, nx, j1, j2, j3, j4, j5, -⟩ := id hI
  have k1 := r52 (σ := σ) (j := 0) (x := 0)
  have hb : Inv (upI σ 50 0 0) := hI.keep (sm0 σ 0)
  have hM := hR.1.2.2.1
  unfold f_X8_leg
  rcases move_u hR.1 a1 with ⟨m, hm, rfl, e1, m1⟩ | ⟨e1, m1, -⟩
  · rw [e1 _ _ hC.1.1.2.2, if_neg bt0]
    rcases leg_u a2 with ⟨d, hd, rfl, e2, m2⟩ | ⟨e2, m2⟩
    · rw [e2, if_neg bt0]
      have hk : 2 * m + d < 2 * nM (σ.1 52) := by omega
      have mt : ∀ τ : St, τ.1 52 = σ.1 52 → f_X9_isThere τ (nI m) (nI d) = some (decide (lg (σ.1 52) (2 * m + d) 0 = 1)) := fun τ h => by
        rw [m_isThere (k := 2 * m + d) (congrArg nI (by omega)) (congrArg nI (by omega)) (by omega), h]
      rw [c_there hM.2 hR.2.2.1 hR.1.1.2.2 hC.1 hk (leg_at rfl rfl)]
      simp only [Option.bind_some]
      by_cases zt : lg (σ.1 52) (2 * m + d) 0 = 1
      · rw [decide_eq_true zt, if_neg bt0]
        refine ⟨false, σ, upI σ 50 0 0, ?_, ?_, hb⟩
        · rw [ite_self, ite_self]
        · unfold f_X9_leg_
          rw [nm_q, m1 _ k1]
          simp only [Option.bind_some]
          rw [if_neg bt0, m2, if_neg bt0, mt _ k1, decide_eq_true zt]
          simp only [Option.bind_some]
          rw [if_neg bt0]
      · rw [decide_eq_false zt, if_pos bf0]
        rcases shelf_u hR.1 a3 with ⟨s, hs, rfl, e3, m3⟩ | ⟨e3, m3, -⟩
        · rw [e3 _ _ hC.1.1.1, if_neg bt0]
          rcases span_u a4 a5 with ⟨e, l, hel, hl, rfl, rfl, e4, m4⟩ | ⟨e4, m4, -⟩
          · rw [e4, if_neg bt0]
            have h0 : lg (σ.1 52) (2 * m + d) 0 = 0 := by
              rcases hR.2.2.1 _ hk with y | ⟨y, -⟩
              · exact y
              · exact absurd y zt
            have hs1 : ∀ c, 24 ≤ c ∨ c < 6 → (sL σ σ.2.2.1 (2 * m + d) (nI s) (nI e) (nI l)).1 c = σ.1 c := fun c hc => sL_c ⟨hg.ne hc (by decide), hg.ne hc (by decide), hg.ne hc (by decide)⟩
            have hcs : CStep σ (begS (sL σ σ.2.2.1 (2 * m + d) (nI s) (nI e) (nI l)) js nx 1 (nI (2 * m + d))) js nx := beg_step j2 rfl (fun c hc => hs1 c (by omega))
            have k2 : (upI (begS (sL σ σ.2.2.1 (2 * m + d) (nI s) (nI e) (nI l)) js nx 1 (nI (2 * m + d))) 50 0 0).1 52 = σ.1 52 := r52.trans (hcs.2.1 52 (by omega))
            obtain ⟨τ1, t1, t2, t3⟩ := m_snap1 j1 (sm0 (begS (sL σ σ.2.2.1 (2 * m + d) (nI s) (nI e) (nI l)) js nx 1 (nI (2 * m + d))) 0) (by rw [hcs.2.1 50 (by omega)]; exact j4)
            have t3' : τ1.1 52 = σ.1 52 := t3.trans (hcs.2.1 52 (by omega))
            have hB : lgB (2 * m + d) + 4 ≤ 845 := by unfold lgB; omega
            have hQ : (upI (upI (upI (upI τ1 52 (lgB (2 * m + d)) 1) 52 (lgB (2 * m + d) + 1) (nI s)) 52 (lgB (2 * m + d) + 2) (nI e)) 52 (lgB (2 * m + d) + 3) (nI l)).1 52 = rowLg (σ.1 52) (2 * m + d) 1 (nI s) (nI e) (nI l) := by
              funext j
              rw [up_put, up_put, up_put, up_put, t3']
              unfold put rowLg
              repeat' split
              all_goals first | rfl | omega
            refine ⟨true, begS (sL σ σ.2.2.1 (2 * m + d) (nI s) (nI e) (nI l)) js nx 1 (nI (2 * m + d)), upI (upI (upI (upI τ1 52 (lgB (2 * m + d)) 1) 52 (lgB (2 * m + d) + 1) (nI s)) 52 (lgB (2 * m + d) + 2) (nI e)) 52 (lgB (2 * m + d) + 3) (nI l), ob (c_setLeg (leg_at rfl rfl) (by omega)) (ob (a := (38 + nx, begS (sL σ σ.2.2.1 (2 * m + d) (nI s) (nI e) (nI l)) js nx 1 (nI (2 * m + d)))) ?_ rfl), ?_, ?_⟩
            · rw [leg_at rfl rfl]
              exact c_begin j1 j2 (by rw [hs1 36 (by omega)]; exact j3) (by rw [hs1 36 (by omega)]; exact j5) _ _
            · unfold f_X9_leg_
              rw [nm_q, m1 _ k2]
              simp only [Option.bind_some]
              rw [if_neg bt0, m2, if_neg bt0, mt _ k2, decide_eq_false zt]
              simp only [Option.bind_some]
              rw [if_pos bf0, m3 _ k2]
              simp only [Option.bind_some]
              rw [if_neg bt0, m4, if_neg bt0]
              refine ob t1 ?_
              rw [nm_q]
              exact ob (wr_at (lgB (2 * m + d)) (at_lg (w := 0) rfl rfl rfl hd) (by omega) (by decide)) (ob (wr_at (lgB (2 * m + d) + 1) (at_lg rfl rfl rfl hd) (by omega) (by decide)) (ob (wr_at (lgB (2 * m + d) + 2) (at_lg rfl rfl rfl hd) (by omega) (by decide)) (ob (wr_at (lgB (2 * m + d) + 3) (at_lg rfl rfl rfl hd) (by omega) (by decide)) rfl)))
            · refine hI.mut j1 j2 j3 j5 hcs (t2.row rfl (fun c hc => by rw [up_k hc, up_k hc, up_k hc, up_k hc])) ?_ ?_ ?_ ?_
              · rw [hQ]; exact ok_lg hR hk hs hel hl
              · rw [hQ]
                have cb : ∀ c, 6 ≤ c ∧ c < 36 → (begS (sL σ σ.2.2.1 (2 * m + d) (nI s) (nI e) (nI l)) js nx 1 (nI (2 * m + d))).1 c = (sL σ σ.2.2.1 (2 * m + d) (nI s) (nI e) (nI l)).1 c := fun c hc => beg_c (by omega) (by omega)
                have cg : ∀ q, q < 9 → 6 ≤ σ.2.2.1 + q ∧ σ.2.2.1 + q < 36 := fun q hq => by rcases hg with y | y <;> rw [y] <;> omega
                refine ⟨?_, ?_, ?_⟩
                · refine cls_lg hR.1 (by omega) hC.1 (fun c hc => ?_) ?_ ?_ ?_ (fun q hq => ⟨?_, ?_, ?_⟩)
                  · rw [cb c (by have := cg 0 (by decide); have := cg 8 (by decide); omega), sL_c (by omega)]
                  · rw [cb _ (cg 6 (by decide)), sL_6, put_s]
                  · rw [cb _ (cg 7 (by decide)), sL_7, put_s]
                  · rw [cb _ (cg 8 (by decide)), sL_8, put_s]
                  · rw [cb _ (cg 6 (by decide)), sL_6, put_n hq]
                  · rw [cb _ (cg 7 (by decide)), sL_7, put_n hq]
                  · rw [cb _ (cg 8 (by decide)), sL_8, put_n hq]
                · exact hC.2.1.ag hR.1 (fun c hc => by rw [cb c (by omega), hs1 c (by omega)]) (fun k hk => rowLg_lo (by omega) (by omega))
                · exact hC.2.2.ag hR.1 (fun c hc => by rw [cb c (by omega), hs1 c (by omega)]) (fun k hk => rowLg_lo (by omega) (by omega))
              · rw [hQ]
                exact Or.inr (Or.inl ⟨beg_0 j2, 2 * m + d, by rw [ag_nM (rowLg_lo (by omega) (by omega))]; exact hk, beg_1 j2, rowLg_0⟩)
              · rw [hQ]
                exact eq_lg _ _ (beg_0 j2) (beg_1 j2) hR.1 (by omega) h0
          · rw [e4, if_pos bf0]
            refine ⟨_, _, upI σ 50 0 0, rfl, ?_, hb⟩
            unfold f_X9_leg_
            rw [nm_q, m1 _ k1]
            simp only [Option.bind_some]
            rw [if_neg bt0, m2, if_neg bt0, mt _ k1, decide_eq_false zt]
            simp only [Option.bind_some]
            rw [if_pos bf0, m3 _ k1]
            simp only [Option.bind_some]
            rw [if_neg bt0, m4, if_pos bf0]
        · rw [e3 _ _ hC.1.1.1, if_pos bf0]
          refine ⟨_, _, upI σ 50 0 0, rfl, ?_, hb⟩
          unfold f_X9_leg_
          rw [nm_q, m1 _ k1]
          simp only [Option.bind_some]
          rw [if_neg bt0, m2, if_neg bt0, mt _ k1, decide_eq_false zt]
          simp only [Option.bind_some]
          rw [if_pos bf0, m3 _ k1]
          simp only [Option.bind_some]
          rw [if_pos bf0]
    · rw [e2, if_pos bf0]
      refine ⟨_, _, upI σ 50 0 0, rfl, ?_, hb⟩
      unfold f_X9_leg_
      rw [nm_q, m1 _ k1]
      simp only [Option.bind_some]
      rw [if_neg bt0, m2, if_pos bf0]
  · rw [e1 _ _ hC.1.1.2.2, if_pos bf0]
    refine ⟨_, _, upI σ 50 0 0, rfl, ?_, hb⟩
    unfold f_X9_leg_
    rw [nm_q, m1 _ k1]
    simp only [Option.bind_some]
    rw [if_pos bf0]
