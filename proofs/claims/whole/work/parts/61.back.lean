/-! undo -/
theorem Cls.eq {σ : St} {g : Nat} {U Q : Nat → Int32} (h : Cls σ g U) (e : RowEq U Q) : Cls σ g Q := by
  obtain ⟨e1, e2, e3, e4, e5, e6, e7⟩ := e
  obtain ⟨⟨g1, g2, g3, g4, g5⟩, ⟨a1, a2⟩, c1, c2⟩ := h
  have n0 : nS U = nS Q := ag_nS (e1 0 (by decide))
  have n1 : nT U = nT Q := ag_nT (e1 1 (by decide))
  have n2 : nM U = nM Q := ag_nM (e1 2 (by decide))
  have n3 : nC U = nC Q := ag_nC (e1 3 (by decide))
  have n4 : nA U = nA Q := ag_nA (e1 4 (by decide))
  rw [e1 0 (by decide), e1 1 (by decide), e1 2 (by decide)] at g1
  rw [e1 4 (by decide)] at a1
  rw [e1 3 (by decide)] at c1
  refine ⟨⟨g1, fun i hi => ?_, fun s i hs hi => ?_, fun m hm => ?_, fun k hk => ?_⟩, ⟨a1, fun k hk => ?_⟩, c1, fun c hc w hw => ?_⟩
  · obtain ⟨q1, q2⟩ := e2 i (by omega)
    rw [← q1, ← q2]; exact g2 i (by omega)
  · rw [← e3 s i (by omega) (by omega)]; exact g3 s i (by omega) (by omega)
  · obtain ⟨q1, q2⟩ := e4 m (by omega)
    rw [← q1, ← q2]; exact g4 m (by omega)
  · obtain ⟨q1, q2⟩ := e5 k (by omega)
    rcases g5 k (by omega) with ⟨y, y1, y2, y3⟩ | ⟨y, y1⟩
    · obtain ⟨z1, z2, z3⟩ := q2 y
      exact Or.inl ⟨q1.symm.trans y, y1.trans z1, y2.trans z2, y3.trans z3⟩
    · exact Or.inr ⟨q1.symm.trans y, y1⟩
  · have q := fun w hw => e7 k (by omega) w hw
    obtain ⟨y1, y2, y3, y4⟩ := a2 k (by omega)
    exact ⟨y1.trans (q 0 (by decide)), y2.trans (by have := q 1 (by decide); rw [show 685 + 4 * k + 1 = 686 + 4 * k by omega] at this; exact this), y3.trans (by have := q 2 (by decide); rw [show 685 + 4 * k + 2 = 687 + 4 * k by omega] at this; exact this), y4.trans (by have := q 3 (by decide); rw [show 685 + 4 * k + 3 = 688 + 4 * k by omega] at this; exact this)⟩
  · exact (c2 c (by omega) w hw).trans (e6 c (by omega) w hw)
/-- what taking an act back does -/
def Back (σ : St) (g ac : Nat) (R : Nat → Int32) : Prop := ∃ σ', f_X8_takeBack σ ac = some σ' ∧ σ'.2 = σ.2 ∧ (∀ q, q < 6 ∨ 36 ≤ q → σ'.1 q = σ.1 q) ∧ Cls σ' g (uRow (σ.1 ac) (σ.2.1 ac) R)
section TB
variable {σ : St} {ac : Nat} {R : Nat → Int32}
theorem tb0 (hg : isG σ.2.2.1) (hR : RowOk R) (hC : Cls σ σ.2.2.1 R) (h0 : σ.1 ac 0 = 0) (h1 : 1 ≤ nM R) : Back σ σ.2.2.1 ac R := by
  have hM := hR.1.2.2.1
  have e1 : R 2 - 1 = nI (nM R - 1) := by
    rw [hM.1]
    generalize hm : nM R = m at h1 ⊢
    obtain ⟨p, rfl⟩ : ∃ p, m = p + 1 := ⟨m - 1, by omega⟩
    rw [← nI_1]; exact Int32.add_sub_cancel _ _
  have ev : ∀ j, uRow (σ.1 ac) (σ.2.1 ac) R j = if j = 2 then R 2 - 1 else R j := fun j => by
    unfold uRow
    rw [if_pos h0]
  have eo : ∀ j, j ≠ 2 → uRow (σ.1 ac) (σ.2.1 ac) R j = R j := fun j hj => by rw [ev, if_neg hj]
  have e2 : uRow (σ.1 ac) (σ.2.1 ac) R 2 = R 2 - 1 := by rw [ev, if_pos rfl]
  have nm' : nM (uRow (σ.1 ac) (σ.2.1 ac) R) = nM R - 1 := by
    unfold nM
    rw [e2, e1, nI_clamp (by omega)]
    rfl
  refine ⟨upI σ σ.2.2.1 2 (R 2 - 1), ?_, rfl, fun q hq => up_k (hg.ne (d := 0) (by omega) (by decide)), ?_, ?_, ?_⟩
  · unfold f_X8_takeBack
    rw [if_pos h0]
    unfold f_X4_removeLastMove
    rw [hC.1.1.2.2, if_neg (show ¬ R 2 ≤ 0 by rw [hM.1]; exact nI_ge (b := nM R) (a := 0) (by omega) (by omega)), nm_q]
    rfl
  · obtain ⟨⟨g0, g1, g2⟩, g3, g4, g5, g6⟩ := hC.1
    unfold ClsG
    rw [ag_nS (eo 0 (by decide)), ag_nT (eo 1 (by decide)), nm', up_k (a := σ.2.2.1 + 1) (by omega), up_k (a := σ.2.2.1 + 2) (by omega), up_k (a := σ.2.2.1 + 3) (by omega), up_k (a := σ.2.2.1 + 4) (by omega), up_k (a := σ.2.2.1 + 5) (by omega), up_k (a := σ.2.2.1 + 6) (by omega), up_k (a := σ.2.2.1 + 7) (by omega), up_k (a := σ.2.2.1 + 8) (by omega), up_j (b := 0) (by decide), up_j (b := 1) (by decide), up_s, e2, eo 0 (by decide), eo 1 (by decide)]
    refine ⟨⟨g0, g1, rfl⟩, fun i hi => ?_, fun s i hs hi => ?_, fun m hm => ?_, fun k hk => ?_⟩
    · rw [eo _ (by omega), eo _ (by omega)]; exact g3 i hi
    · rw [eo _ (by omega)]; exact g4 s i hs hi
    · have q1 : mI (uRow (σ.1 ac) (σ.2.1 ac) R) m = mI R m := eo _ (by omega)
      have q2 : mS (uRow (σ.1 ac) (σ.2.1 ac) R) m = mS R m := eo _ (by omega)
      rw [q1, q2]; exact g5 m (by omega)
    · have q : ∀ w, lg (uRow (σ.1 ac) (σ.2.1 ac) R) k w = lg R k w := fun w => eo _ (by omega)
      rw [q 0, q 1, q 2, q 3]; exact g6 k (by omega)
  · exact hC.2.1.ag hR.1 (fun c hc => up_k (hg.ne (d := 0) (by omega) (by decide))) (fun k hk => eo k (by omega))
  · exact hC.2.2.ag hR.1 (fun c hc => up_k (hg.ne (d := 0) (by omega) (by decide))) (fun k hk => eo k (by omega))
theorem tb1 (hg : isG σ.2.2.1) (hR : RowOk R) (hC : Cls σ σ.2.2.1 R) (h0 : σ.1 ac 0 = 1) {k : Nat} (h1 : σ.1 ac 1 = nI k) (hk : k < 2 * nM R) : Back σ σ.2.2.1 ac R := by
  have hM := hR.1.2.2.1
  have hcl : (σ.1 ac 1).toNatClampNeg = k := by rw [h1, nI_clamp (by omega)]
  have ev : ∀ j, uRow (σ.1 ac) (σ.2.1 ac) R j = if j = lgB k then 0 else R j := fun j => by
    unfold uRow
    rw [if_neg (show ¬ σ.1 ac 0 = 0 by rw [h0]; decide), if_pos h0, hcl]
  have eo : ∀ j, j ≠ lgB k → uRow (σ.1 ac) (σ.2.1 ac) R j = R j := fun j hj => by rw [ev, if_neg hj]
  have el : ∀ j, j < 47 ∨ 445 ≤ j → uRow (σ.1 ac) (σ.2.1 ac) R j = R j := fun j hj => eo j (by unfold lgB; omega)
  have cs : ∀ c, 24 ≤ c ∨ c < 6 → (sL σ σ.2.2.1 k (-1) (-1) (-1)).1 c = σ.1 c := fun c hc => sL_c ⟨hg.ne hc (by decide), hg.ne hc (by decide), hg.ne hc (by decide)⟩
  refine ⟨sL σ σ.2.2.1 k (-1) (-1) (-1), ?_, rfl, fun q hq => cs q (by omega), ?_, ?_, ?_⟩
  · unfold f_X8_takeBack
    rw [if_neg (show ¬ σ.1 ac 0 = 0 by rw [h0]; decide), if_pos h0]
    exact ob (c_removeLeg h1 (by omega)) rfl
  · obtain ⟨⟨g0, g1, g2⟩, g3, g4, g5, g6⟩ := hC.1
    have b0 := hR.1.1.2.2
    have b1 := hR.1.2.1.2
    unfold ClsG
    rw [ag_nS (el 0 (by omega)), ag_nT (el 1 (by omega)), ag_nM (el 2 (by omega)), sL_c (c := σ.2.2.1) (by omega), sL_c (c := σ.2.2.1 + 1) (by omega), sL_c (c := σ.2.2.1 + 2) (by omega), sL_c (c := σ.2.2.1 + 3) (by omega), sL_c (c := σ.2.2.1 + 4) (by omega), sL_c (c := σ.2.2.1 + 5) (by omega), sL_6, sL_7, sL_8, el 0 (by omega), el 1 (by omega), el 2 (by omega)]
    refine ⟨⟨g0, g1, g2⟩, fun i hi => ?_, fun s i hs hi => ?_, fun m hm => ?_, fun q hq => ?_⟩
    · rw [el _ (by omega), el _ (by omega)]; exact g3 i hi
    · rw [el _ (by omega)]; exact g4 s i hs hi
    · have q1 : mI (uRow (σ.1 ac) (σ.2.1 ac) R) m = mI R m := eo _ (by unfold lgB; omega)
      have q2 : mS (uRow (σ.1 ac) (σ.2.1 ac) R) m = mS R m := eo _ (by unfold lgB; omega)
      rw [q1, q2]; exact g5 m hm
    · by_cases z : q = k
      · refine Or.inr ⟨?_, by rw [z, put_s], by rw [z, put_s], by rw [z, put_s]⟩
        rw [z]
        exact (ev _).trans (if_pos rfl)
      · have q' : ∀ w, w < 4 → lg (uRow (σ.1 ac) (σ.2.1 ac) R) q w = lg R q w := fun w hw => eo _ (by unfold lgB; omega)
        rw [q' 0 (by decide), q' 1 (by decide), q' 2 (by decide), q' 3 (by decide), put_n z, put_n z, put_n z]
        exact g6 q hq
  · exact hC.2.1.ag hR.1 (fun c hc => cs c (by omega)) (fun k hk => el k (by omega))
  · exact hC.2.2.ag hR.1 (fun c hc => cs c (by omega)) (fun k hk => el k (by omega))
theorem tb2 (hg : isG σ.2.2.1) (hR : RowOk R) (hC : Cls σ σ.2.2.1 R) (h0 : σ.1 ac 0 = 2) {k : Nat} (h1 : σ.1 ac 1 = nI k) (hk : k < 2 * nM R) (hl : lg R k 0 = 1) : Back σ σ.2.2.1 ac R := by
  have hM := hR.1.2.2.1
  have hcl : (σ.1 ac 1).toNatClampNeg = k := by rw [h1, nI_clamp (by omega)]
  have hu : uRow (σ.1 ac) (σ.2.1 ac) R = rowLg R k 1 (lg R k 1) (σ.1 ac 2) (σ.1 ac 3) := by
    funext j
    unfold uRow
    rw [if_neg (show ¬ σ.1 ac 0 = 0 by rw [h0]; decide), if_neg (show ¬ σ.1 ac 0 = 1 by rw [h0]; decide), if_pos h0, hcl]
    show (if j = lgB k + 2 then σ.1 ac 2 else if j = lgB k + 3 then σ.1 ac 3 else R j) = _
    unfold rowLg
    by_cases z0 : j = lgB k
    · rw [if_neg (by omega), if_neg (by omega), if_pos z0, ← hl, z0]; rfl
    rw [if_neg (c := j = lgB k) z0]
    by_cases z1 : j = lgB k + 1
    · rw [if_neg (by omega), if_neg (by omega), if_pos z1, z1]; rfl
    rw [if_neg (c := j = lgB k + 1) z1]
  have cs : ∀ c, c ≠ σ.2.2.1 + 7 → c ≠ σ.2.2.1 + 8 → (sP σ σ.2.2.1 k (σ.1 ac 2) (σ.1 ac 3)).1 c = σ.1 c := fun c z1 z2 => by
    unfold sP
    rw [up_k z2, up_k z1]
  obtain ⟨c2, c3, c4⟩ : σ.1 (σ.2.2.1 + 6) k = lg R k 1 ∧ σ.1 (σ.2.2.1 + 7) k = lg R k 2 ∧ σ.1 (σ.2.2.1 + 8) k = lg R k 3 := by
    rcases hC.1.2.2.2.2 _ hk with ⟨-, y⟩ | ⟨y, -⟩
    · exact y
    · rw [hl] at y; exact absurd y (by decide)
  refine ⟨sP σ σ.2.2.1 k (σ.1 ac 2) (σ.1 ac 3), ?_, rfl, fun q hq => cs q (hg.ne (by omega) (by decide)) (hg.ne (by omega) (by decide)), ?_⟩
  · unfold f_X8_takeBack
    rw [if_neg (show ¬ σ.1 ac 0 = 0 by rw [h0]; decide), if_neg (show ¬ σ.1 ac 0 = 1 by rw [h0]; decide), if_pos h0]
    exact ob (c_setSpan h1 (by omega)) rfl
  · rw [hu]
    have p7 : (sP σ σ.2.2.1 k (σ.1 ac 2) (σ.1 ac 3)).1 (σ.2.2.1 + 7) = put (σ.1 (σ.2.2.1 + 7)) k (σ.1 ac 2) := by
      unfold sP
      rw [up_k (by omega), up_put]
    have p8 : (sP σ σ.2.2.1 k (σ.1 ac 2) (σ.1 ac 3)).1 (σ.2.2.1 + 8) = put (σ.1 (σ.2.2.1 + 8)) k (σ.1 ac 3) := by
      unfold sP
      rw [up_put, up_k (by omega)]
    refine ⟨?_, ?_, ?_⟩
    · refine cls_lg hR.1 (by omega) hC.1 (fun c hc => cs c (by omega) (by omega)) ?_ ?_ ?_ (fun q hq => ⟨?_, ?_, ?_⟩)
      · rw [cs _ (by omega) (by omega)]; exact c2
      · rw [p7, put_s]
      · rw [p8, put_s]
      · rw [cs _ (by omega) (by omega)]
      · rw [p7, put_n hq]
      · rw [p8, put_n hq]
    · exact hC.2.1.ag hR.1 (fun c hc => cs c (hg.ne (by omega) (by decide)) (hg.ne (by omega) (by decide))) (fun k hk => rowLg_lo (by omega) (by omega))
    · exact hC.2.2.ag hR.1 (fun c hc => cs c (hg.ne (by omega) (by decide)) (hg.ne (by omega) (by decide))) (fun k hk => rowLg_lo (by omega) (by omega))
theorem tb3 (hg : isG σ.2.2.1) (hR : RowOk R) (hC : Cls σ σ.2.2.1 R) (h0 : σ.1 ac 0 = 3) (h1 : 1 ≤ nC R) (h2 : σ.1 ac 1 = nI (nC R - 1)) : Back σ σ.2.2.1 ac R := by
  have hn := hR.1.2.2.2.1
  have e1 : R 3 - 1 = nI (nC R - 1) := by
    rw [hn.1]
    generalize hm : nC R = m at h1 ⊢
    obtain ⟨p, rfl⟩ : ∃ p, m = p + 1 := ⟨m - 1, by omega⟩
    rw [← nI_1]; exact Int32.add_sub_cancel _ _
  have ev : ∀ j, uRow (σ.1 ac) (σ.2.1 ac) R j = if j = 3 then R 3 - 1 else R j := fun j => by
    unfold uRow
    rw [if_neg (show ¬ σ.1 ac 0 = 0 by rw [h0]; decide), if_neg (show ¬ σ.1 ac 0 = 1 by rw [h0]; decide), if_neg (show ¬ σ.1 ac 0 = 2 by rw [h0]; decide), if_pos h0]
  have eo : ∀ j, j ≠ 3 → uRow (σ.1 ac) (σ.2.1 ac) R j = R j := fun j hj => by rw [ev, if_neg hj]
  have e3 : uRow (σ.1 ac) (σ.2.1 ac) R 3 = R 3 - 1 := by rw [ev, if_pos rfl]
  have nc' : nC (uRow (σ.1 ac) (σ.2.1 ac) R) = nC R - 1 := by
    unfold nC
    rw [e3, e1, nI_clamp (by omega)]
    rfl
  obtain ⟨σ', i1, i2, i3, i4, i5⟩ := c_remove (σ := σ) (c := nC R - 1) hn.2 (by omega) (by rw [hC.2.2.1]; exact hn.1) (fun q hq => by
    rw [show σ.1 30 q = ct R q 5 from hC.2.2.2 q hq 5 (by decide)]
    exact (hR.2.2.2.2.1 q hq).2.2.2.2.2)
  refine ⟨σ', ?_, i2, fun q hq => i3 q (by omega), ?_, ?_, ?_, fun c hc w hw => ?_⟩
  · unfold f_X8_takeBack
    rw [if_neg (show ¬ σ.1 ac 0 = 0 by rw [h0]; decide), if_neg (show ¬ σ.1 ac 0 = 1 by rw [h0]; decide), if_neg (show ¬ σ.1 ac 0 = 2 by rw [h0]; decide), if_pos h0, h2]
    exact ob i1 rfl
  · exact hC.1.ag hR.1 (fun c hc => i3 c (by rcases hg with y | y <;> rw [y] at hc <;> omega)) (fun k hk => eo k (by omega))
  · exact hC.2.1.ag hR.1 (fun c hc => i3 c (by omega)) (fun k hk => eo k (by omega))
  · rw [e3, e1]; exact i4
  · rw [nc'] at hc
    rw [i5 w hw c (by omega), if_pos (by omega), eo _ (by omega)]
    exact hC.2.2.2 c (by omega) w hw
theorem c_reL {w : Int64} {N : Nat} (hN : N ≤ 40) : ∀ (d k n : Nat) (σ : St), k + d = N → d < n → σ.1 24 0 = nI N → ∃ σ', f_X3_reopen_b2 w n σ (nI k) = some σ' ∧ σ'.2 = σ.2 ∧ (∀ c, c ≠ 30 → σ'.1 c = σ.1 c) ∧ ∀ q, σ'.1 30 q = if k ≤ q ∧ q < N ∧ wbit w q = true then 0 else σ.1 30 q
  | 0, k, n, σ, h1, h2, h3 => by
    obtain ⟨n, rfl⟩ : ∃ m, n = m + 1 := ⟨n - 1, by omega⟩
    refine ⟨σ, ?_, rfl, fun _ _ => rfl, fun q => by rw [if_neg (by omega)]⟩
    rw [f_X3_reopen_b2, h3, if_pos (by rw [le_nI (by omega) (by omega)]; omega)]
  | d + 1, k, n, σ, h1, h2, h3 => by
    obtain ⟨n, rfl⟩ : ∃ m, n = m + 1 := ⟨n - 1, by omega⟩
    by_cases z : wbit w k = true
    · obtain ⟨σ', q1, q2, q3, q4⟩ := c_reL hN d (k + 1) n (upI σ 30 k 0) (by omega) (by omega) (by rw [up_k (by decide)]; exact h3)
      refine ⟨σ', ?_, q2, fun c hc => by rw [q3 c hc, up_k hc], fun q => ?_⟩
      · rw [f_X3_reopen_b2, h3, if_neg (nI_ge (show k < N by omega) (by omega)), if_pos (by rw [bit_sh (by omega)]; exact z), wr_at k rfl (by omega) (by decide), Option.bind_some, nm_q, nI_1, nar_b (Or.inl rfl)]
        exact q1
      · rw [q4 q, up_put]
        unfold put
        by_cases y : q = k
        · rw [if_neg (by omega), if_pos y, if_pos ⟨by omega, by omega, by rw [y]; exact z⟩]
        · by_cases y2 : k + 1 ≤ q ∧ q < N ∧ wbit w q = true
          · rw [if_pos y2, if_pos ⟨by omega, y2.2⟩]
          · rw [if_neg y2, if_neg y, if_neg (fun p => y2 ⟨by omega, p.2⟩)]
    · obtain ⟨σ', q1, q2, q3, q4⟩ := c_reL (w := w) hN d (k + 1) n σ (by omega) (by omega) h3
      refine ⟨σ', ?_, q2, q3, fun q => ?_⟩
      · rw [f_X3_reopen_b2, h3, if_neg (nI_ge (show k < N by omega) (by omega)), if_neg (by rw [bit_sh (by omega)]; exact z), nm_q, nI_1]
        exact q1
      · rw [q4 q]
        by_cases y2 : k + 1 ≤ q ∧ q < N ∧ wbit w q = true
        · rw [if_pos y2, if_pos ⟨by omega, y2.2⟩]
        · rw [if_neg y2, if_neg (fun p => ?_)]
          rcases Nat.lt_or_ge k q with y | y
          · exact y2 ⟨by omega, p.2⟩
          · have e : q = k := by omega
            rw [e] at p
            exact z p.2.2
theorem tb4 (hg : isG σ.2.2.1) (hR : RowOk R) (hC : Cls σ σ.2.2.1 R) (ha : 36 ≤ ac) (h0 : σ.1 ac 0 = 4) (h1 : 1 ≤ nA R) : Back σ σ.2.2.1 ac R := by
  have hn := hR.1.2.2.2.1
  have hA := hR.1.2.2.2.2
  have e1 : R 4 - 1 = nI (nA R - 1) := by
    rw [hA.1]
    generalize hm : nA R = m at h1 ⊢
    obtain ⟨p, rfl⟩ : ∃ p, m = p + 1 := ⟨m - 1, by omega⟩
    rw [← nI_1]; exact Int32.add_sub_cancel _ _
  have ev : ∀ j, uRow (σ.1 ac) (σ.2.1 ac) R j = if j = 4 then R 4 - 1 else if 445 ≤ j ∧ j < 685 ∧ (j - 445) % 6 = 5 ∧ wbit (σ.2.1 ac) ((j - 445) / 6) = true then 0 else R j := fun j => by
    unfold uRow
    rw [if_neg (show ¬ σ.1 ac 0 = 0 by rw [h0]; decide), if_neg (show ¬ σ.1 ac 0 = 1 by rw [h0]; decide), if_neg (show ¬ σ.1 ac 0 = 2 by rw [h0]; decide), if_neg (show ¬ σ.1 ac 0 = 3 by rw [h0]; decide), if_pos h0]
  have eo : ∀ j, j ≠ 4 → (j < 445 ∨ 685 ≤ j ∨ (j - 445) % 6 ≠ 5) → uRow (σ.1 ac) (σ.2.1 ac) R j = R j := fun j hj hj2 => by rw [ev, if_neg hj, if_neg (by omega)]
  have e4 : uRow (σ.1 ac) (σ.2.1 ac) R 4 = R 4 - 1 := by rw [ev, if_pos rfl]
  have e3 := eo 3 (by decide) (by omega)
  have na' : nA (uRow (σ.1 ac) (σ.2.1 ac) R) = nA R - 1 := by
    unfold nA
    rw [e4, e1, nI_clamp (by omega)]
    rfl
  obtain ⟨σ', i1, i2, i3, i4⟩ := c_reL (w := σ.2.1 ac) hn.2 (nC R) 0 10000 (upI σ 31 0 (R 4 - 1)) (by omega) (by omega) (by rw [up_k (by decide), hC.2.2.1]; exact hn.1)
  refine ⟨σ', ?_, i2, fun q hq => by rw [i3 q (by omega), up_k (by omega)], ?_, ?_, ?_, fun c hc w hw => ?_⟩
  · unfold f_X8_takeBack
    rw [if_neg (show ¬ σ.1 ac 0 = 0 by rw [h0]; decide), if_neg (show ¬ σ.1 ac 0 = 1 by rw [h0]; decide), if_neg (show ¬ σ.1 ac 0 = 2 by rw [h0]; decide), if_neg (show ¬ σ.1 ac 0 = 3 by rw [h0]; decide), if_pos h0]
    refine ob (a := upI σ 31 0 (R 4 - 1)) ?_ (ob (a := σ') i1 rfl)
    unfold f_X1_removeLast
    rw [hC.2.1.1, if_neg (show ¬ R 4 ≤ 0 by rw [hA.1]; exact nI_ge (b := nA R) (a := 0) (by omega) (by omega)), nm_q]
  · refine hC.1.ag hR.1 (fun c hc => ?_) (fun k hk => eo k (by omega) (by omega))
    have : c < 24 := by rcases hg with y | y <;> rw [y] at hc <;> omega
    rw [i3 c (by omega), up_k (by omega)]
  · refine ⟨by rw [i3 31 (by decide), up_s, e4], fun k hk => ?_⟩
    rw [na'] at hk
    rw [i3 32 (by decide), i3 33 (by decide), i3 34 (by decide), i3 35 (by decide), up_k (by decide), up_k (by decide), up_k (by decide), up_k (by decide), eo _ (by omega) (by omega), eo _ (by omega) (by omega), eo _ (by omega) (by omega), eo _ (by omega) (by omega)]
    exact hC.2.1.2 k (by omega)
  · rw [i3 24 (by decide), up_k (by decide), e3]; exact hC.2.2.1
  · rw [ag_nC e3] at hc
    by_cases z : w = 5
    · subst z
      rw [show σ'.1 (25 + 5) c = _ from i4 c, ev, if_neg (show ¬ 445 + 6 * c + 5 = 4 by omega), show (445 + 6 * c + 5 - 445) / 6 = c by omega]
      by_cases y : wbit (σ.2.1 ac) c = true
      · rw [if_pos ⟨by omega, hc, y⟩, if_pos ⟨by omega, by omega, by omega, y⟩]
      · rw [if_neg (fun p => y p.2.2), if_neg (fun p => y p.2.2.2), up_k (by decide)]
        exact hC.2.2.2 c hc 5 hw
    · rw [i3 _ (by omega), up_k (by omega), eo _ (by omega) (by omega)]
      exact hC.2.2.2 c hc w hw
theorem tb5 (hg : isG σ.2.2.1) (hR : RowOk R) (hC : Cls σ σ.2.2.1 R) (h0 : σ.1 ac 0 = 5) (h1 : nC R < 40) {p : Nat} (hp : p ≤ nC R) (h2 : σ.1 ac 1 = nI p) : Back σ σ.2.2.1 ac R := by
  have hn := hR.1.2.2.2.1
  have hcl : (σ.1 ac 1).toNatClampNeg = p := by rw [h2, nI_clamp (by omega)]
  have ev : ∀ j, uRow (σ.1 ac) (σ.2.1 ac) R j = if j = 3 then R 3 + 1 else if 445 ≤ j ∧ j < 685 then (if (j - 445) / 6 < p then R j else if (j - 445) / 6 = p then (if (j - 445) % 6 = 5 then 0 else σ.1 ac (4 + (j - 445) % 6)) else R (j - 6)) else R j := fun j => by
    unfold uRow
    rw [if_neg (show ¬ σ.1 ac 0 = 0 by rw [h0]; decide), if_neg (show ¬ σ.1 ac 0 = 1 by rw [h0]; decide), if_neg (show ¬ σ.1 ac 0 = 2 by rw [h0]; decide), if_neg (show ¬ σ.1 ac 0 = 3 by rw [h0]; decide), if_neg (show ¬ σ.1 ac 0 = 4 by rw [h0]; decide), hcl]
  have eo : ∀ j, j ≠ 3 → (j < 445 ∨ 685 ≤ j) → uRow (σ.1 ac) (σ.2.1 ac) R j = R j := fun j hj hj2 => by rw [ev, if_neg hj, if_neg (by omega)]
  have e3 : uRow (σ.1 ac) (σ.2.1 ac) R 3 = nI (nC R + 1) := by rw [ev, if_pos rfl, hn.1, nI_1]
  have nc' : nC (uRow (σ.1 ac) (σ.2.1 ac) R) = nC R + 1 := by
    unfold nC
    rw [e3]
    unfold nC at h1 ⊢
    rw [nI_clamp (by omega)]
  obtain ⟨xs, hxs⟩ : ∃ xs : Nat → Int32, xs = fun q => if q = 5 then 0 else σ.1 ac (4 + q) := ⟨_, rfl⟩
  have x5 : xs 5 = 0 := by rw [hxs]; exact if_pos rfl
  have xw : ∀ q, q ≠ 5 → xs q = σ.1 ac (4 + q) := fun q hq => by rw [hxs]; exact if_neg hq
  obtain ⟨σ', i1, i2, i3, i4, i5⟩ := c_insert (σ := σ) (xs := xs) (c := p) (n := nC R) x5 h1 hp (by rw [hC.2.2.1]; exact hn.1) (fun q hq => by
    rw [show σ.1 30 q = ct R q 5 from hC.2.2.2 q hq 5 (by decide)]
    exact (hR.2.2.2.2.1 q hq).2.2.2.2.2)
  rw [xw 0 (by decide), xw 1 (by decide), xw 2 (by decide), xw 3 (by decide), xw 4 (by decide)] at i1
  refine ⟨σ', ?_, i2, fun q hq => i3 q (by omega), ?_, ?_, ?_, fun c hc w hw => ?_⟩
  · unfold f_X8_takeBack
    rw [if_neg (show ¬ σ.1 ac 0 = 0 by rw [h0]; decide), if_neg (show ¬ σ.1 ac 0 = 1 by rw [h0]; decide), if_neg (show ¬ σ.1 ac 0 = 2 by rw [h0]; decide), if_neg (show ¬ σ.1 ac 0 = 3 by rw [h0]; decide), if_neg (show ¬ σ.1 ac 0 = 4 by rw [h0]; decide), if_pos h0, h2]
    exact ob i1 rfl
  · exact hC.1.ag hR.1 (fun c hc => i3 c (by rcases hg with y | y <;> rw [y] at hc <;> omega)) (fun k hk => eo k (by omega) (by omega))
  · exact hC.2.1.ag hR.1 (fun c hc => i3 c (by omega)) (fun k hk => eo k (by omega) (by omega))
  · rw [e3]; exact i4
  · rw [nc'] at hc
    have eu : uRow (σ.1 ac) (σ.2.1 ac) R (445 + 6 * c + w) = if c < p then R (445 + 6 * c + w) else if c = p then (if w = 5 then 0 else σ.1 ac (4 + w)) else R (445 + 6 * c + w - 6) := by
      rw [ev, if_neg (by omega), if_pos (by omega), show (445 + 6 * c + w - 445) / 6 = c by omega, show (445 + 6 * c + w - 445) % 6 = w by omega]
    rw [i5 w hw c (by omega), eu]
    by_cases z1 : c < p
    · rw [if_pos z1, if_pos z1]; exact hC.2.2.2 c (by omega) w hw
    rw [if_neg z1, if_neg z1]
    by_cases z2 : c = p
    · rw [if_pos z2, if_pos z2, hxs]
    · rw [if_neg z2, if_neg z2, show 445 + 6 * c + w - 6 = 445 + 6 * (c - 1) + w by omega]
      exact hC.2.2.2 (c - 1) (by omega) w hw
theorem tb (hg : isG σ.2.2.1) (hR : RowOk R) (hC : Cls σ σ.2.2.1 R) (ha : 36 ≤ ac) (hu : UOk (σ.1 ac) (σ.2.1 ac) R) : Back σ σ.2.2.1 ac R := by
  rcases hu with ⟨h0, h1⟩ | ⟨h0, k, h1, h2, h3⟩ | ⟨h0, k, h1, h2, h3⟩ | ⟨h0, h1, h2⟩ | ⟨h0, h1⟩ | ⟨h0, h1, c, h2, h3⟩
  · exact tb0 hg hR hC h0 h1
  · exact tb1 hg hR hC h0 h2 h1
  · exact tb2 hg hR hC h0 h2 h1 h3
  · exact tb3 hg hR hC h0 h1 h2
  · exact tb4 hg hR hC ha h0 h1
  · exact tb5 hg hR hC h0 h1 h2 h3
end TB
