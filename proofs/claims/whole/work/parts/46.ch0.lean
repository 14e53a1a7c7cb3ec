/-! the chosen count: first facts -/
theorem small_add {a b : Int32} (h1 : -400000 ≤ a.toInt) (h2 : a.toInt ≤ 400000) (h3 : -400000 ≤ b.toInt) (h4 : b.toInt ≤ 400000) : (a + b).toInt = a.toInt + b.toInt := by
  rw [Int32.toInt_add, bm_small (by omega) (by omega)]
theorem small_sub {a b : Int32} (h1 : -400000 ≤ a.toInt) (h2 : a.toInt ≤ 400000) (h3 : -400000 ≤ b.toInt) (h4 : b.toInt ≤ 400000) : (a - b).toInt = a.toInt - b.toInt := by
  rw [Int32.toInt_sub, bm_small (by omega) (by omega)]
theorem b_sum {c : Nat → Int32} {d : Nat} (hd : d ≤ 80) (h : ∀ k, k < d → -99 ≤ (c k).toInt ∧ (c k).toInt ≤ 99) : -7920 ≤ (sumF c d 0).toInt ∧ (sumF c d 0).toInt ≤ 7920 := by
  have l1 := zF_lo (a := fun k => (c k).toInt) (q := -99) d (fun k hk => (h k hk).1)
  have l2 := zF_hi (a := fun k => (c k).toInt) (q := 99) d (fun k hk => (h k hk).2)
  rw [tI_sum (z := fun k => (c k).toInt) d (fun k _ => tI_self _), bm_small (by omega) (by omega)]
  omega
theorem neg_b {x : Int32} (h1 : 1 ≤ x.toInt) (h2 : x.toInt ≤ 99) : (-x).toInt = -x.toInt := by
  rw [Int32.toInt_neg, bm_small (by omega) (by omega)]
theorem cS_b {R : Nat → Int32} (hM : RowM R) {s i t : Int32} {k : Nat} (hk : k < 2 * nM R) : -99 ≤ (cS R s i t k).toInt ∧ (cS R s i t k).toInt ≤ 99 := by
  obtain ⟨b1, b2⟩ := mS_b hM hk
  have h0 : (0 : Int32).toInt = 0 := rfl
  have h1 := neg_b b1 b2
  unfold cS sg
  split
  · split <;> omega
  · omega
theorem cD_b {R : Nat → Int32} (hM : RowM R) {s i t w : Int32} {k : Nat} (hk : k < 2 * nM R) : -99 ≤ (cD R s i t w k).toInt ∧ (cD R s i t w k).toInt ≤ 99 := by
  obtain ⟨b1, b2⟩ := mS_b hM hk
  have h0 : (0 : Int32).toInt = 0 := rfl
  have h1 : (1 : Int32).toInt = 1 := rfl
  unfold cD
  split
  · split
    · omega
    · split <;> omega
  · omega
theorem dif_b {R : Nat → Int32} (hR : RowOk R) {c : Nat} (hc : c < nC R) : -100000 ≤ (difC R c).toInt ∧ (difC R c).toInt ≤ 100000 := by
  obtain ⟨h1, h2, h3, h4, -⟩ := cnum hR hc
  have hM := hR.2.1
  have hm := hR.1.2.2.1.2
  obtain ⟨v, hv, e⟩ := hR.2.2.2.1 _ _ h1 h3
  have e0 : (R (15 + 5 * sC R c + iC R c)).toInt = (v : Int) := by rw [e, nI_toInt (by omega)]
  have e1 := b_sum (c := cS R (nI (sC R c)) (nI (iC R c)) (ct R c 2)) (d := 2 * nM R) (by omega) (fun k hk => cS_b hM hk)
  have e2 : (aS R (nI (sC R c)) (nI (iC R c)) (ct R c 2)).toInt = Int.bmod (aZ R (nI (sC R c)) (nI (iC R c)) (ct R c 2)) (2 ^ 32) := tI_sum (nA R) (fun k _ => by
    unfold cAd cAz
    split
    · exact tI_self _
    · rfl)
  have hB := hR.2.2.2.2.2.2.2.1 (nI (sC R c)) (nI (iC R c)) (ct R c 2)
  rw [bm_small (by omega) (by omega)] at e2
  have d0 := b_sum (c := cD R (ct R c 0) (ct R c 1) (ct R c 2) 0) (d := 2 * nM R) (by omega) (fun k hk => cD_b hM hk)
  have d1 := b_sum (c := cD R (ct R c 0) (ct R c 1) (ct R c 2) 1) (d := 2 * nM R) (by omega) (fun k hk => cD_b hM hk)
  obtain ⟨-, -, -, ⟨u, hu, eu⟩, -⟩ := hR.2.2.2.2.1 c hc
  have e3 : (ct R c 3).toInt = (u : Int) := by rw [eu, nI_toInt (by omega)]
  have s1 : (sureC R c).toInt = (v : Int) + (lS R (nI (sC R c)) (nI (iC R c)) (ct R c 2)).toInt + aZ R (nI (sC R c)) (nI (iC R c)) (ct R c 2) := by
    unfold sureC sureR
    have q : (R (15 + 5 * sC R c + iC R c) + lS R (nI (sC R c)) (nI (iC R c)) (ct R c 2)).toInt = (v : Int) + (lS R (nI (sC R c)) (nI (iC R c)) (ct R c 2)).toInt := by
      rw [small_add (by omega) (by omega) (by unfold lS; omega) (by unfold lS; omega), e0]
    unfold lS at q ⊢
    rw [small_add (by omega) (by omega) (by omega) (by omega), q, e2]
  unfold lS at s1
  have s2 : (lstC R c).toInt = (sureC R c).toInt - (dS R (ct R c 0) (ct R c 1) (ct R c 2) 0).toInt := by
    unfold lstC dS
    exact small_sub (by omega) (by omega) (by omega) (by omega)
  have s3 : (mstC R c).toInt = (sureC R c).toInt + (dS R (ct R c 0) (ct R c 1) (ct R c 2) 1).toInt := by
    unfold mstC dS
    exact small_add (by omega) (by omega) (by omega) (by omega)
  unfold dS at s2 s3
  have h0 : (0 : Int32).toInt = 0 := rfl
  unfold difC
  split
  · split
    · omega
    · rw [small_sub (by omega) (by omega) (by omega) (by omega)]; omega
  · rw [small_sub (by omega) (by omega) (by omega) (by omega)]; omega
/-- how far two differences are apart -/
theorem far_eq {a b : Int32} (h1 : -100000 ≤ a.toInt) (h2 : a.toInt ≤ 100000) (h3 : -100000 ≤ b.toInt) (h4 : b.toInt ≤ 100000) (σ : St) : f_X9_far σ a b = if 0 ≤ a - b then a - b else 0 - (a - b) := by
  have h0 : (0 : Int32).toInt = 0 := rfl
  have e := small_sub (a := a) (b := b) (by omega) (by omega) (by omega) (by omega)
  unfold f_X9_far
  by_cases z : b ≤ a
  · rw [if_pos z, if_pos (by rw [Int32.le_iff_toInt_le] at z ⊢; omega)]
  · rw [if_neg z, if_neg (by rw [Int32.le_iff_toInt_le] at z ⊢; omega), Int32.zero_sub, Int32.neg_sub]
theorem far_0 (a : Int32) (σ : St) : f_X9_far σ a 0 = if 0 ≤ a then a else 0 - a := by
  unfold f_X9_far
  rw [Int32.sub_zero]
theorem lst_lt {R : Nat → Int32} {s i : Int32} {k n : Nat} {f : Nat → Nat} (hL : Lst R s i k f n) {a b : Nat} (ha : a < n) (hb : b < n) : tC R (f a) < tC R (f b) ↔ a < b := by
  constructor
  · intro h
    rcases Nat.lt_trichotomy a b with w | w | w
    · exact w
    · subst w; omega
    · have := hL.2.2.1 b a w ha
      omega
  · intro h; exact hL.2.2.1 a b h hb
theorem lst_inj {R : Nat → Int32} {s i : Int32} {k n : Nat} {f : Nat → Nat} (hL : Lst R s i k f n) (hk : k ≤ 40) {a b : Nat} (ha : a < n) (hb : b < n) : nI (f a) = nI (f b) ↔ a = b := by
  constructor
  · intro h
    have h1 := (hL.2.1 a ha).1
    have h2 := (hL.2.1 b hb).1
    have h3 : f a = f b := nI_inj (by omega) (by omega) h
    rcases Nat.lt_trichotomy a b with w | w | w
    · have := hL.2.2.1 a b w hb
      rw [h3] at this; omega
    · exact w
    · have := hL.2.2.1 b a w ha
      rw [h3] at this; omega
  · intro h; rw [h]
theorem fst_at {R : Nat → Int32} {s i : Int32} {k n : Nat} {f : Nat → Nat} (hL : Lst R s i k f n) {r : Int32} (h : Fst R s i k r) : (n = 0 ∧ r = -1) ∨ (1 ≤ n ∧ r = nI (f 0)) := by
  rcases h with ⟨e, h⟩ | ⟨c, h1, h2, h3, h4⟩
  · refine Or.inl ⟨?_, e⟩
    by_cases z : n = 0
    · exact z
    · obtain ⟨q1, q2⟩ := hL.2.1 0 (by omega)
      rw [h _ q1] at q2; cases q2
  · obtain ⟨j, hj, e⟩ := hL.2.2.2 c h1 h3
    refine Or.inr ⟨by omega, ?_⟩
    by_cases z : j = 0
    · rw [h2, ← e, z]
    · have q := hL.2.2.1 0 j (by omega) hj
      obtain ⟨q1, q2⟩ := hL.2.1 0 (by omega)
      have := h4 _ q1 q2
      rw [e] at q; omega
theorem ahd_at {R : Nat → Int32} {s i : Int32} {k n m b : Nat} {f : Nat → Nat} (hL : Lst R s i k f n) (hm : m ≤ n) (hb : ∀ j, j < n → (tC R (f j) < b ↔ j < m)) {r : Int32} (h : Ahd R s i b k r) : (m = 0 ∧ r = -1) ∨ (1 ≤ m ∧ r = nI (f (m - 1))) := by
  rcases h with ⟨e, h⟩ | ⟨c, h1, h2, h3, h5, h4⟩
  · refine Or.inl ⟨?_, e⟩
    by_cases z : m = 0
    · exact z
    · obtain ⟨q1, q2⟩ := hL.2.1 0 (by omega)
      have := h _ q1 q2
      have := (hb 0 (by omega)).mpr (by omega)
      omega
  · obtain ⟨j, hj, e⟩ := hL.2.2.2 c h1 h3
    have hjm : j < m := (hb j hj).mp (by rw [e]; exact h5)
    refine Or.inr ⟨by omega, ?_⟩
    by_cases z : j = m - 1
    · rw [h2, ← e, z]
    · have q := hL.2.2.1 j (m - 1) (by omega) (by omega)
      obtain ⟨q1, q2⟩ := hL.2.1 (m - 1) (by omega)
      have := h4 _ q1 q2 ((hb (m - 1) (by omega)).mpr (by omega))
      rw [e] at q; omega
