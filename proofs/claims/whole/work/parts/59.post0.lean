/-! post -/
def rowAd (R : Nat → Int32) (k : Nat) (s i t d : Int32) : Nat → Int32 := fun j => if j = 4 then nI (k + 1) else if j = 685 + 4 * k then s else if j = 686 + 4 * k then i else if j = 687 + 4 * k then t else if j = 688 + 4 * k then d else R j
theorem rowAd_o {R : Nat → Int32} {k j : Nat} {s i t d : Int32} (h : j ≠ 4 ∧ (j < 685 + 4 * k ∨ 689 + 4 * k ≤ j)) : rowAd R k s i t d j = R j := by
  unfold rowAd
  rw [if_neg h.1, if_neg (by omega), if_neg (by omega), if_neg (by omega), if_neg (by omega)]
theorem rowAd_w {R : Nat → Int32} {k : Nat} {s i t d : Int32} : rowAd R k s i t d (685 + 4 * k) = s ∧ rowAd R k s i t d (686 + 4 * k) = i ∧ rowAd R k s i t d (687 + 4 * k) = t ∧ rowAd R k s i t d (688 + 4 * k) = d := by
  unfold rowAd
  refine ⟨?_, ?_, ?_, ?_⟩
  · rw [if_neg (by omega), if_pos rfl]
  · rw [if_neg (by omega), if_neg (by omega), if_pos rfl]
  · rw [if_neg (by omega), if_neg (by omega), if_neg (by omega), if_pos rfl]
  · rw [if_neg (by omega), if_neg (by omega), if_neg (by omega), if_neg (by omega), if_pos rfl]
theorem mix_b {R : Nat → Int32} (hM : RowM R) {s i t : Int32} {k : Nat} (hk : k < 2 * nM R) : (-99 ≤ (cS R s i t k + -cD R s i t 0 k).toInt ∧ (cS R s i t k + -cD R s i t 0 k).toInt ≤ 99) ∧ (-99 ≤ (cS R s i t k + cD R s i t 1 k).toInt ∧ (cS R s i t k + cD R s i t 1 k).toInt ≤ 99) := by
  have h1 := cS_b (s := s) (i := i) (t := t) hM hk
  have h2 := cD_b (s := s) (i := i) (t := t) (w := 0) hM hk
  have h3 := cD_b (s := s) (i := i) (t := t) (w := 1) hM hk
  have key : cS R s i t k = 0 ∨ (cD R s i t 0 k = 0 ∧ cD R s i t 1 k = 0) := by
    unfold cS cD dbB
    cases z1 : atB R s i k
    · exact Or.inl rfl
    · cases z2 : ovB R t k
      · exact Or.inl rfl
      · exact Or.inr ⟨rfl, rfl⟩
  have hneg : (-cD R s i t 0 k).toInt = -(cD R s i t 0 k).toInt := by
    have := small_sub (a := 0) (b := cD R s i t 0 k) (by decide) (by decide) (by omega) (by omega)
    rw [Int32.zero_sub, show (0 : Int32).toInt = 0 from rfl] at this
    rw [this]; omega
  rcases key with e | ⟨e1, e2⟩
  · rw [e, Int32.zero_add, Int32.zero_add, hneg]
    omega
  · rw [e1, e2, show (-0 : Int32) = 0 from rfl, Int32.add_zero]
    exact ⟨h1, h1⟩
theorem adj_b {R : Nat → Int32} (hR : RowOk R) {c : Nat} (hc : c < nC R) : -20000 ≤ aZ R (ct R c 0) (ct R c 1) (ct R c 2) + (difC R c).toInt ∧ aZ R (ct R c 0) (ct R c 1) (ct R c 2) + (difC R c).toInt ≤ 20000 := by
  obtain ⟨h1, h2, h3, h4, -⟩ := cnum hR hc
  have hM := hR.2.1
  have hm := hR.1.2.2.1.2
  obtain ⟨v, hv, e⟩ := hR.2.2.2.1 _ _ h1 h3
  rw [h2, h4]
  have e0 : (R (15 + 5 * sC R c + iC R c)).toInt = (v : Int) := by rw [e, nI_toInt (by omega)]
  have e2 : (aS R (nI (sC R c)) (nI (iC R c)) (ct R c 2)).toInt = Int.bmod (aZ R (nI (sC R c)) (nI (iC R c)) (ct R c 2)) (2 ^ 32) := tI_sum (nA R) (fun k _ => by
    unfold cAd cAz
    split
    · exact tI_self _
    · rfl)
  have hB := hR.2.2.2.2.2.2.2.1 (nI (sC R c)) (nI (iC R c)) (ct R c 2)
  rw [bm_small (by omega) (by omega)] at e2
  obtain ⟨-, -, -, ⟨u, hu, eu⟩, -⟩ := hR.2.2.2.2.1 c hc
  have e3 : (ct R c 3).toInt = (u : Int) := by rw [eu, nI_toInt (by omega)]
  have x0 := b_sum (c := fun k => cS R (nI (sC R c)) (nI (iC R c)) (ct R c 2) k + -cD R (nI (sC R c)) (nI (iC R c)) (ct R c 2) 0 k) (d := 2 * nM R) (by omega) (fun k hk => (mix_b hM hk).1)
  have x1 := b_sum (c := fun k => cS R (nI (sC R c)) (nI (iC R c)) (ct R c 2) k + cD R (nI (sC R c)) (nI (iC R c)) (ct R c 2) 1 k) (d := 2 * nM R) (by omega) (fun k hk => (mix_b hM hk).2)
  rw [sumF_add, sumF_neg] at x0
  rw [sumF_add] at x1
  have l0 : lstC R c = R (15 + 5 * sC R c + iC R c) + (sumF (cS R (nI (sC R c)) (nI (iC R c)) (ct R c 2)) (2 * nM R) 0 + -sumF (cD R (nI (sC R c)) (nI (iC R c)) (ct R c 2) 0) (2 * nM R) 0) + aS R (nI (sC R c)) (nI (iC R c)) (ct R c 2) := by
    unfold lstC sureC sureR lS dS
    rw [h2, h4, Int32.sub_eq_add_neg]
    ac_rfl
  have l1 : mstC R c = R (15 + 5 * sC R c + iC R c) + (sumF (cS R (nI (sC R c)) (nI (iC R c)) (ct R c 2)) (2 * nM R) 0 + sumF (cD R (nI (sC R c)) (nI (iC R c)) (ct R c 2) 1) (2 * nM R) 0) + aS R (nI (sC R c)) (nI (iC R c)) (ct R c 2) := by
    unfold mstC sureC sureR lS dS
    rw [h2, h4]
    ac_rfl
  have f0 : (lstC R c).toInt = (v : Int) + (sumF (cS R (nI (sC R c)) (nI (iC R c)) (ct R c 2)) (2 * nM R) 0 + -sumF (cD R (nI (sC R c)) (nI (iC R c)) (ct R c 2) 0) (2 * nM R) 0).toInt + aZ R (nI (sC R c)) (nI (iC R c)) (ct R c 2) := by
    have q := small_add (a := R (15 + 5 * sC R c + iC R c)) (b := sumF (cS R (nI (sC R c)) (nI (iC R c)) (ct R c 2)) (2 * nM R) 0 + -sumF (cD R (nI (sC R c)) (nI (iC R c)) (ct R c 2) 0) (2 * nM R) 0) (by omega) (by omega) (by omega) (by omega)
    rw [l0, small_add (by omega) (by omega) (by omega) (by omega), q, e0, e2]
  have f1 : (mstC R c).toInt = (v : Int) + (sumF (cS R (nI (sC R c)) (nI (iC R c)) (ct R c 2)) (2 * nM R) 0 + sumF (cD R (nI (sC R c)) (nI (iC R c)) (ct R c 2) 1) (2 * nM R) 0).toInt + aZ R (nI (sC R c)) (nI (iC R c)) (ct R c 2) := by
    have q := small_add (a := R (15 + 5 * sC R c + iC R c)) (b := sumF (cS R (nI (sC R c)) (nI (iC R c)) (ct R c 2)) (2 * nM R) 0 + sumF (cD R (nI (sC R c)) (nI (iC R c)) (ct R c 2) 1) (2 * nM R) 0) (by omega) (by omega) (by omega) (by omega)
    rw [l1, small_add (by omega) (by omega) (by omega) (by omega), q, e0, e2]
  have h0 : (0 : Int32).toInt = 0 := rfl
  unfold difC
  split
  · split
    · omega
    · rw [small_sub (by omega) (by omega) (by omega) (by omega)]; omega
  · rw [small_sub (by omega) (by omega) (by omega) (by omega)]; omega
theorem pc_mono {R Q : Nat → Int32} {c : Nat} (h0 : ct R c 5 = 0) (h1 : ct Q c 5 = 1) (h : ∀ q, q < 40 → ct R q 5 = 1 → ct Q q 5 = 1) : ∀ m, m ≤ 40 → pcN R m + (if c < m then 1 else 0) ≤ pcN Q m
  | 0, _ => by rw [if_neg (by omega)]; exact Nat.le_refl _
  | m + 1, hm => by
    have ih := pc_mono h0 h1 h m (by omega)
    have hq := h m (by omega)
    show pcN R m + (if ct R m 5 = 1 then 1 else 0) + (if c < m + 1 then 1 else 0) ≤ pcN Q m + (if ct Q m 5 = 1 then 1 else 0)
    by_cases z : c = m
    · subst z
      rw [if_neg (show ¬ c < c by omega)] at ih
      rw [h0, h1, if_neg (show ¬ (0 : Int32) = 1 by decide), if_pos (by omega), if_pos rfl]
      omega
    · have e : (if c < m + 1 then 1 else 0) = (if c < m then 1 else 0 : Nat) := by
        by_cases y : c < m
        · rw [if_pos y, if_pos (by omega)]
        · rw [if_neg y, if_neg (by omega)]
      rw [e]
      by_cases y : ct R m 5 = 1
      · rw [if_pos y, if_pos (hq y)]; omega
      · rw [if_neg y]; omega
theorem pc_le {Q : Nat → Int32} : ∀ m, pcN Q m ≤ m
  | 0 => Nat.le_refl _
  | m + 1 => by
    have := pc_le (Q := Q) m
    show pcN Q m + (if ct Q m 5 = 1 then 1 else 0) ≤ m + 1
    split <;> omega
/-- the row behind a post of the count c -/
def rowPo (R : Nat → Int32) (c : Nat) : Nat → Int32 := rowF (rowAd R (nA R) (ct R c 0) (ct R c 1) (ct R c 2) (difC R c)) (pP R (ct R c 0) (ct R c 1) (tC R c)) (nC R)
section PO
variable {R : Nat → Int32} {c : Nat}
theorem rowPo_o {j : Nat} (h : j ≠ 4 ∧ (j < 445 ∨ (685 ≤ j ∧ (j < 685 + 4 * nA R ∨ 689 + 4 * nA R ≤ j)))) : rowPo R c j = R j := by
  unfold rowPo
  rw [rowF_o (by omega), rowAd_o (by omega)]
theorem rowPo_w {q w : Nat} (hq : q < 40) (hw : w < 5) : ct (rowPo R c) q w = ct R q w := by
  unfold rowPo
  rw [rowF_w hw]
  exact rowAd_o (by omega)
theorem rowPo_5 {q : Nat} (hq : q < 40) : ct (rowPo R c) q 5 = if q < nC R ∧ pP R (ct R c 0) (ct R c 1) (tC R c) q = true then 1 else ct R q 5 := by
  unfold rowPo
  rw [rowF_5 hq, show ct (rowAd R (nA R) (ct R c 0) (ct R c 1) (ct R c 2) (difC R c)) q 5 = ct R q 5 from rowAd_o (by omega)]
theorem rowPo_4 : rowPo R c 4 = nI (nA R + 1) := by
  unfold rowPo
  rw [rowF_o (by omega)]
  exact if_pos rfl
theorem rowPo_a : rowPo R c (685 + 4 * nA R) = ct R c 0 ∧ rowPo R c (686 + 4 * nA R) = ct R c 1 ∧ rowPo R c (687 + 4 * nA R) = ct R c 2 ∧ rowPo R c (688 + 4 * nA R) = difC R c := by
  unfold rowPo
  rw [rowF_o (by omega), rowF_o (by omega), rowF_o (by omega), rowF_o (by omega)]
  exact rowAd_w
theorem rowPo_g : agG R (rowPo R c) := fun k hk => rowPo_o (by omega)
theorem po_n (h : RowOk R) (hc : c < nC R) (h0 : ct R c 5 = 0) : nA R + 1 ≤ pcN (rowPo R c) (nC R) ∧ nA R < 40 := by
  have hn := h.1.2.2.2.1.2
  have hP := h.2.2.2.2.2.2.2.2
  have ho : pP R (ct R c 0) (ct R c 1) (tC R c) c = true := by
    unfold pP
    rw [opB_iff.mpr ⟨rfl, rfl, h0⟩, decide_eq_true (Nat.le_refl _)]
    rfl
  have h1 : ct (rowPo R c) c 5 = 1 := by rw [rowPo_5 (by omega), if_pos ⟨hc, ho⟩]
  have m := pc_mono (Q := rowPo R c) h0 h1 (fun q hq e => by
    rw [rowPo_5 hq]
    split
    · rfl
    · exact e) (nC R) hn
  rw [if_pos hc] at m
  have m2 := pc_le (Q := rowPo R c) (nC R)
  unfold RowP at hP
  omega
theorem rowPo_N (h : RowOk R) (hc : c < nC R) (h0 : ct R c 5 = 0) : nA (rowPo R c) = nA R + 1 := by
  have := (po_n h hc h0).2
  unfold nA at this ⊢
  rw [rowPo_4, nI_clamp (by unfold nA; omega)]
  rfl
theorem ok_po (h : RowOk R) (hc : c < nC R) (h0 : ct R c 5 = 0) : RowOk (rowPo R c) := by
  obtain ⟨hN, -, -, -, hC, hD, hA, hB, hP⟩ := id h
  have hn := hN.2.2.2.1
  obtain ⟨np, n4⟩ := po_n h hc h0
  have e3 : rowPo R c 3 = R 3 := rowPo_o (by omega)
  have hNC : nC (rowPo R c) = nC R := ag_nC e3
  have hNA := rowPo_N h hc h0
  have gg : agG R (rowPo R c) := rowPo_g
  refine h.cnts gg (by rw [hNC, e3]; exact hn) ⟨by rw [hNA, rowPo_4], by rw [hNA]; omega⟩ (fun q hq => ?_) (fun q d hq hd e0 e1 e2 => ?_) (fun k hk => ?_) (fun s' i' t' => ?_) ?_
  · rw [hNC] at hq
    have q4 : q < 40 := by omega
    rw [ag_nS (gg 0 (by omega)), ag_nT (gg 1 (by omega)), rowPo_w q4 (by decide), rowPo_w q4 (by decide), rowPo_w q4 (by decide), rowPo_w q4 (by decide), rowPo_w q4 (by decide), rowPo_5 q4]
    obtain ⟨a1, a2, a3, a4, a5, a6⟩ := hC q hq
    refine ⟨a1, a2, a3, a4, a5, ?_⟩
    split
    · exact Or.inr rfl
    · exact a6
  · rw [hNC] at hq hd
    rw [rowPo_w (by omega) (by decide), rowPo_w (by omega) (by decide)] at e0 e1 e2
    exact hD q d hq hd e0 e1 e2
  · rw [hNA] at hk
    rw [hNC]
    by_cases z : k = nA R
    · rw [z, rowPo_a.1, rowPo_a.2.1, rowPo_a.2.2.1]
      have ho : pP R (ct R c 0) (ct R c 1) (tC R c) c = true := by
        unfold pP
        rw [opB_iff.mpr ⟨rfl, rfl, h0⟩, decide_eq_true (Nat.le_refl _)]
        rfl
      refine ⟨⟨c, hc, by rw [rowPo_5 (by omega), if_pos ⟨hc, ho⟩], (rowPo_w (by omega) (by decide)).symm, (rowPo_w (by omega) (by decide)).symm, (rowPo_w (by omega) (by decide)).symm⟩, fun d hd d1 d2 d3 => ?_⟩
      rw [rowPo_w (by omega) (by decide)] at d2 d3 ⊢
      rw [rowPo_5 (by omega)] at d1
      by_cases y : d < nC R ∧ pP R (ct R c 0) (ct R c 1) (tC R c) d = true
      · rw [if_pos y] at d1; exact absurd d1 (by decide)
      · rw [if_neg y] at d1
        have hnp : ¬ tC R d ≤ tC R c := fun w => y ⟨hd, by unfold pP; rw [opB_iff.mpr ⟨d2, d3, d1⟩, decide_eq_true w]; rfl⟩
        obtain ⟨tc1, tc2⟩ := tnum h hc
        obtain ⟨td1, td2⟩ := tnum h hd
        rw [tc2, td2, lt_nI (by omega) (by omega)]
        omega
    · have hk' : k < nA R := by omega
      rw [rowPo_o (j := 685 + 4 * k) (by omega), rowPo_o (j := 686 + 4 * k) (by omega), rowPo_o (j := 687 + 4 * k) (by omega)]
      obtain ⟨⟨p, hp, q1, q2, q3, q4⟩, q5⟩ := hA k hk'
      refine ⟨⟨p, hp, ?_, ?_, ?_, ?_⟩, fun d hd d1 d2 d3 => ?_⟩
      · rw [rowPo_5 (by omega)]
        split
        · rfl
        · exact q1
      · rw [rowPo_w (by omega) (by decide)]; exact q2
      · rw [rowPo_w (by omega) (by decide)]; exact q3
      · rw [rowPo_w (by omega) (by decide)]; exact q4
      · rw [rowPo_w (by omega) (by decide)] at d2 d3 ⊢
        rw [rowPo_5 (by omega)] at d1
        by_cases y : d < nC R ∧ pP R (ct R c 0) (ct R c 1) (tC R c) d = true
        · rw [if_pos y] at d1; exact absurd d1 (by decide)
        · rw [if_neg y] at d1
          exact q5 d hd d1 d2 d3
  · have e1 : aZ (rowPo R c) s' i' t' = aZ R s' i' t' + cAz (rowPo R c) s' i' t' (nA R) := by
      unfold aZ
      rw [hNA]
      show zF _ (nA R) + _ = _
      rw [zF_congr (b := cAz R s' i' t') (nA R) (fun k hk => by
        unfold cAz adB
        rw [rowPo_o (j := 685 + 4 * k) (by omega), rowPo_o (j := 686 + 4 * k) (by omega), rowPo_o (j := 687 + 4 * k) (by omega), rowPo_o (j := 688 + 4 * k) (by omega)])]
    rw [e1]
    unfold cAz
    by_cases z : adB (rowPo R c) s' i' t' (nA R) = true
    · rw [if_pos z, rowPo_a.2.2.2]
      unfold adB at z
      rw [rowPo_a.1, rowPo_a.2.1, rowPo_a.2.2.1] at z
      simp only [Bool.and_eq_true, decide_eq_true_eq, Bool.not_eq_true', decide_eq_false_iff_not] at z
      obtain ⟨z1, z2, z3⟩ := z
      have e2 : aZ R s' i' t' = aZ R (ct R c 0) (ct R c 1) (ct R c 2) := by
        rw [← z1, ← z2]
        unfold aZ
        refine zF_congr _ (fun k hk => ?_)
        unfold cAz adB
        by_cases y1 : R (685 + 4 * k) = ct R c 0
        · by_cases y2 : R (686 + 4 * k) = ct R c 1
          · have lt := (hA k hk).2 c hc h0 y1.symm y2.symm
            have l1 : ¬ ct R c 2 < R (687 + 4 * k) := Int32.not_lt.mpr (Int32.le_of_lt lt)
            have l2 : ¬ t' < R (687 + 4 * k) := fun w => z3 (Int32.lt_trans w lt)
            rw [decide_eq_false l1, decide_eq_false l2]
          · rw [decide_eq_false y2]; simp
        · rw [decide_eq_false y1]; simp
      rw [e2]
      exact adj_b h hc
    · rw [if_neg z, Int.add_zero]
      exact hB s' i' t'
  · unfold RowP
    rw [hNA, hNC]
    exact np
theorem eq_po (a : Nat → Int32) (w : Int64) (ha : a 0 = 4) (h : RowOk R) (hc : c < nC R) (h0 : ct R c 5 = 0) (hw : ∀ j, j < 40 → wbit w j = (decide (j < nC R) && pP R (ct R c 0) (ct R c 1) (tC R c) j)) : RowEq (uRow a w (rowPo R c)) R := by
  obtain ⟨-, n4⟩ := po_n h hc h0
  have hN := h.1
  have e : ∀ j, j < 685 + 4 * nA R → uRow a w (rowPo R c) j = R j := fun j hj => by
    unfold uRow
    rw [if_neg (show ¬ a 0 = 0 by rw [ha]; decide), if_neg (show ¬ a 0 = 1 by rw [ha]; decide), if_neg (show ¬ a 0 = 2 by rw [ha]; decide), if_neg (show ¬ a 0 = 3 by rw [ha]; decide), if_pos ha]
    show (if j = 4 then rowPo R c 4 - 1 else if 445 ≤ j ∧ j < 685 ∧ (j - 445) % 6 = 5 ∧ wbit w ((j - 445) / 6) = true then 0 else rowPo R c j) = R j
    by_cases z4 : j = 4
    · rw [if_pos z4, rowPo_4, z4, hN.2.2.2.2.1, ← nI_1]; exact Int32.add_sub_cancel _ _
    rw [if_neg z4]
    by_cases z : 445 ≤ j ∧ j < 685
    · obtain ⟨q, w', hq, hw', rfl⟩ : ∃ q w', q < 40 ∧ w' < 6 ∧ j = 445 + 6 * q + w' := ⟨(j - 445) / 6, (j - 445) % 6, by omega, by omega, by omega⟩
      rw [show (445 + 6 * q + w' - 445) / 6 = q by omega, show (445 + 6 * q + w' - 445) % 6 = w' by omega, hw q hq]
      by_cases y : w' = 5
      · subst y
        rw [show rowPo R c (445 + 6 * q + 5) = _ from rowPo_5 hq]
        by_cases p : q < nC R ∧ pP R (ct R c 0) (ct R c 1) (tC R c) q = true
        · rw [if_pos ⟨z.1, z.2, rfl, by rw [decide_eq_true p.1, p.2]; rfl⟩]
          have : opB R (ct R c 0) (ct R c 1) q = true := by
            have := p.2
            unfold pP at this
            simp only [Bool.and_eq_true] at this
            exact this.1
          exact (opB_iff.mp this).2.2.symm
        · rw [if_neg (fun y => p ?_), if_neg p]
          · rfl
          · have := y.2.2.2
            simp only [Bool.and_eq_true, decide_eq_true_eq] at this
            exact this
      · rw [if_neg (fun q => y q.2.2.1)]
        exact rowPo_w hq (by omega)
    · rw [if_neg (fun q => z ⟨q.1, q.2.1⟩), rowPo_o (by omega)]
  have b0 := hN.1.2.2
  have b1 := hN.2.1.2
  have b2 := hN.2.2.1.2
  have b3 := hN.2.2.2.1.2
  unfold RowEq
  rw [ag_nS (e 0 (by omega)), ag_nT (e 1 (by omega)), ag_nM (e 2 (by omega)), ag_nC (e 3 (by omega)), ag_nA (e 4 (by omega))]
  have el : ∀ k w', k < 2 * nM R → w' < 4 → lg (uRow a w (rowPo R c)) k w' = lg R k w' := fun k w' hk hw => e _ (by omega)
  exact ⟨fun j hj => e j (by omega), fun i hi => ⟨e _ (by omega), e _ (by omega)⟩, fun s i hs hi => e _ (by omega), fun q hq => ⟨e _ (by omega), e _ (by omega)⟩, fun k hk => ⟨el k 0 hk (by decide), fun _ => ⟨el k 1 hk (by decide), el k 2 hk (by decide), el k 3 hk (by decide)⟩⟩, fun q hq w' hw => e _ (by omega), fun k hk q hq => e _ (by omega)⟩
end PO
def apS (σ : St) (k : Nat) (a1 a2 a3 a4 : Int32) : St := upI (upI (upI (upI (upI σ 32 k a1) 33 k a2) 34 k a3) 35 k a4) 31 0 (nI (k + 1))
theorem c_append {σ : St} {k : Nat} (h : σ.1 31 0 = nI k) (hk : k < 40) (a1 a2 a3 a4 : Int32) : f_X1_append σ a1 a2 a3 a4 = some (apS σ k a1 a2 a3 a4) := by
  unfold f_X1_append apS
  rw [h, if_neg (show ¬ (40 : Int32) ≤ nI k from nI_ge (b := 40) hk (by omega))]
  refine ob (wr_at k rfl hk (by decide)) ?_
  refine ob (wr_at k (by rw [up_k (by decide), h]) hk (by decide)) ?_
  refine ob (wr_at k (by rw [up_k (by decide), up_k (by decide), h]) hk (by decide)) ?_
  refine ob (wr_at k (by rw [up_k (by decide), up_k (by decide), up_k (by decide), h]) hk (by decide)) ?_
  rw [nm_q, up_k (by decide), up_k (by decide), up_k (by decide), up_k (by decide), h, nI_1]
theorem ap_c {σ : St} {k c : Nat} {a1 a2 a3 a4 : Int32} (h : c < 31 ∨ 36 ≤ c) : (apS σ k a1 a2 a3 a4).1 c = σ.1 c := by
  unfold apS
  rw [up_k (by omega), up_k (by omega), up_k (by omega), up_k (by omega), up_k (by omega)]
theorem CStep.upL {σ σ1 : St} {js nx : Nat} {x : Int64} (h : CStep σ σ1 js nx) : CStep σ (upL σ1 (38 + nx) x) js nx := by
  obtain ⟨a1, a2, a3, a4, a5⟩ := h
  refine ⟨a1, a2, a3, a4, fun a b1 b2 b3 => ⟨(a5 a b1 b2 b3).1, ?_⟩⟩
  show (if a = 38 + nx then x else σ1.2.1 a) = _
  rw [if_neg b3]
  exact (a5 a b1 b2 b3).2
