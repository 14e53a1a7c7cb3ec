/-! below: whole numbers -/
theorem bm_small {x : Int} (h1 : -1000000 ≤ x) (h2 : x ≤ 1000000) : Int.bmod x (2 ^ 32) = x := by
  apply Int.bmod_eq_of_le <;> omega
theorem d_lt {a b : Nat} (ha : a < 2 ^ 31) (hb : b < 2 ^ 31) : decide (nI a < nI b) = decide (a < b) := decide_eq_decide.mpr (nI_ltI ha hb)
theorem d_le {a b : Nat} (ha : a < 2 ^ 31) (hb : b < 2 ^ 31) : decide (nI a ≤ nI b) = decide (a ≤ b) := decide_eq_decide.mpr (nI_leI ha hb)
theorem tI_add {a b : Int32} {x y : Int} (ha : a.toInt = Int.bmod x (2 ^ 32)) (hb : b.toInt = Int.bmod y (2 ^ 32)) : (a + b).toInt = Int.bmod (x + y) (2 ^ 32) := by
  rw [Int32.toInt_add, ha, hb, Int.bmod_add_bmod, Int.add_bmod_bmod]
theorem tI_self (a : Int32) : a.toInt = Int.bmod a.toInt (2 ^ 32) := by
  have h1 := Int32.le_toInt a
  have h2 := Int32.toInt_lt a
  rw [Int.bmod_eq_of_le (by omega) (by omega)]
theorem tI_sum {c : Nat → Int32} {z : Nat → Int} : ∀ d, (∀ k, k < d → (c k).toInt = Int.bmod (z k) (2 ^ 32)) → (sumF c d 0).toInt = Int.bmod (zF z d) (2 ^ 32)
  | 0, _ => rfl
  | d + 1, h => by
    rw [sumF_last, Nat.zero_add]
    exact tI_add (tI_sum d (fun k hk => h k (by omega))) (h d (by omega))
theorem zF_add {a b : Nat → Int} : ∀ d, zF (fun k => a k + b k) d = zF a d + zF b d
  | 0 => rfl
  | d + 1 => by
    show zF (fun k => a k + b k) d + (a d + b d) = (zF a d + a d) + (zF b d + b d)
    rw [zF_add d]; omega
theorem zF_le {a b : Nat → Int} : ∀ d, (∀ k, k < d → a k ≤ b k) → zF a d ≤ zF b d
  | 0, _ => Int.le_refl _
  | d + 1, h => by
    have h1 := zF_le d (fun k hk => h k (by omega))
    have h2 := h d (by omega)
    show zF a d + a d ≤ zF b d + b d
    omega
theorem zF_congr {a b : Nat → Int} (d : Nat) (h : ∀ k, k < d → a k = b k) : zF a d = zF b d :=
  Int.le_antisymm (zF_le d (fun k hk => Int.le_of_eq (h k hk))) (zF_le d (fun k hk => Int.le_of_eq (h k hk).symm))
theorem zF_lo {a : Nat → Int} {q : Int} : ∀ d : Nat, (∀ k, k < d → q ≤ a k) → q * d ≤ zF a d
  | 0, _ => by show q * ((0 : Nat) : Int) ≤ 0; simp
  | d + 1, h => by
    have h1 := zF_lo d (fun k hk => h k (by omega))
    have h2 := h d (by omega)
    show q * ((d + 1 : Nat) : Int) ≤ zF a d + a d
    rw [Int.natCast_add, Int.mul_add]
    simp only [Int.natCast_one, Int.mul_one]
    omega
theorem zF_hi {a : Nat → Int} {q : Int} : ∀ d : Nat, (∀ k, k < d → a k ≤ q) → zF a d ≤ q * d
  | 0, _ => by show 0 ≤ q * ((0 : Nat) : Int); simp
  | d + 1, h => by
    have h1 := zF_hi d (fun k hk => h k (by omega))
    have h2 := h d (by omega)
    show zF a d + a d ≤ q * ((d + 1 : Nat) : Int)
    rw [Int.natCast_add, Int.mul_add]
    simp only [Int.natCast_one, Int.mul_one]
    omega
/-- what a leg adds to MOST -/
def zl (R : Nat → Int32) (s i t : Int32) (k : Nat) : Int := if atB R s i k then (if k % 2 = 0 then (if ovB R t k then -(mS R (k / 2)).toInt else 0) else (if tcB R t k then 0 else (mS R (k / 2)).toInt)) else 0
def zM (R : Nat → Int32) (s i : Nat) (t : Int32) : Int := (R (15 + 5 * s + i)).toInt + zF (zl R (nI s) (nI i) t) (2 * nM R) + aZ R (nI s) (nI i) t
theorem mS_b {R : Nat → Int32} (hM : RowM R) {k : Nat} (hk : k < 2 * nM R) : 1 ≤ (mS R (k / 2)).toInt ∧ (mS R (k / 2)).toInt ≤ 99 := by
  obtain ⟨-, v, h1, h2, h3⟩ := hM (k / 2) (by omega)
  rw [h3, nI_toInt (by omega)]
  omega
theorem atB_there {R : Nat → Int32} {s i : Int32} {k : Nat} (h : atB R s i k = true) : lg R k 0 = 1 ∧ lg R k 1 = s ∧ mI R (k / 2) = i := by
  unfold atB at h
  simpa using h
theorem zl_eq {R : Nat → Int32} (hM : RowM R) (hL : RowL R) {s i t : Int32} {k : Nat} (hk : k < 2 * nM R) : (cS R s i t k + cD R s i t 1 k).toInt = Int.bmod (zl R s i t k) (2 ^ 32) := by
  obtain ⟨b1, b2⟩ := mS_b hM hk
  unfold cS cD zl sg dbB
  cases z1 : atB R s i k
  · simp only [Bool.false_and, if_false, Bool.false_eq_true]
    rfl
  · simp only [Bool.true_and, if_true]
    by_cases z2 : k % 2 = 0
    · rw [if_pos z2, if_pos z2, if_neg (show ¬ (1 : Int32) = 2 by decide), z2, if_neg (show ¬ nI 0 = 1 by decide), ite_self, Int32.add_zero]
      cases z3 : ovB R t k
      · rfl
      · rw [if_pos rfl, if_pos rfl, Int32.toInt_neg]
    · rw [if_neg z2, if_neg z2, if_neg (show ¬ (1 : Int32) = 2 by decide), show k % 2 = 1 by omega, if_pos (show nI 1 = 1 from rfl)]
      cases z3 : tcB R t k
      · cases z4 : ovB R t k
        · simp only [Bool.not_false, Bool.and_self, if_true, if_false, Bool.false_eq_true, Int32.zero_add]
          exact tI_self _
        · simp only [Bool.not_false, Bool.not_true, Bool.false_and, if_true, if_false, Bool.false_eq_true, Int32.add_zero]
          exact tI_self _
      · rw [tc_ov hL hk (atB_there z1).1 z3]
        rfl
theorem zl_b {R : Nat → Int32} (hM : RowM R) {s i t : Int32} {k : Nat} (hk : k < 2 * nM R) : -99 ≤ zl R s i t k ∧ zl R s i t k ≤ 99 := by
  obtain ⟨b1, b2⟩ := mS_b hM hk
  unfold zl
  split
  · split
    · split <;> omega
    · split <;> omega
  · omega
def mostR (R : Nat → Int32) (s i : Nat) (t : Int32) : Int32 := sureR R s i t + dS R (nI s) (nI i) t 1
theorem most_z {R : Nat → Int32} (hR : RowOk R) {s i : Nat} (hs : s < nS R) (hi : i < nT R) (t : Int32) : (mostR R s i t).toInt = zM R s i t := by
  obtain ⟨⟨-, -, ⟨-, hm⟩, -⟩, hM, hL, hS, -, -, -, hB, -⟩ := hR
  obtain ⟨v, hv, e⟩ := hS s i hs hi
  have h1 : (R (15 + 5 * s + i)).toInt = (v : Int) := by rw [e, nI_toInt (by omega)]
  have h2 := hB (nI s) (nI i) t
  have l1 := zF_lo (a := zl R (nI s) (nI i) t) (q := -99) (2 * nM R) (fun k hk => (zl_b hM hk).1)
  have l2 := zF_hi (a := zl R (nI s) (nI i) t) (q := 99) (2 * nM R) (fun k hk => (zl_b hM hk).2)
  have e1 : mostR R s i t = R (15 + 5 * s + i) + sumF (fun k => cS R (nI s) (nI i) t k + cD R (nI s) (nI i) t 1 k) (2 * nM R) 0 + aS R (nI s) (nI i) t := by
    unfold mostR sureR lS dS
    rw [sumF_add]
    ac_rfl
  have e2 : (aS R (nI s) (nI i) t).toInt = Int.bmod (aZ R (nI s) (nI i) t) (2 ^ 32) := tI_sum (nA R) (fun k _ => by
    unfold cAd cAz
    split
    · exact tI_self _
    · rfl)
  rw [e1, tI_add (tI_add (tI_self _) (tI_sum (z := zl R (nI s) (nI i) t) (2 * nM R) (fun k hk => zl_eq hM hL hk))) e2]
  unfold zM
  rw [bm_small]
  · omega
  · omega
/-- an instant at which something goes -/
def Cand (R : Nat → Int32) (s i t : Nat) : Prop := (∃ m, m < nM R ∧ atB R (nI s) (nI i) (2 * m) = true ∧ lg R (2 * m) 3 = nI t) ∨ ∃ k, k < nA R ∧ R (685 + 4 * k) = nI s ∧ R (686 + 4 * k) = nI i ∧ R (687 + 4 * k) = nI t
theorem adj_t {R : Nat → Int32} (hR : RowOk R) {k : Nat} (hk : k < nA R) : ∃ u, u ≤ 999 ∧ R (687 + 4 * k) = nI u := by
  obtain ⟨-, -, -, -, hC, -, hA, -⟩ := hR
  obtain ⟨⟨c, hc, -, -, -, e⟩, -⟩ := hA k hk
  obtain ⟨-, -, ⟨t, ht, e2⟩, -⟩ := hC c hc
  exact ⟨t, ht, e.trans e2⟩
theorem z_step1 {R : Nat → Int32} (hR : RowOk R) {s i t t1 : Nat} (ht : t < 999) (e1 : t1 = t + 1) (hn : ¬ Cand R s i t1) : zF (zl R (nI s) (nI i) (nI t)) (2 * nM R) ≤ zF (zl R (nI s) (nI i) (nI t1)) (2 * nM R) := by
  have hM := hR.2.1
  have hL := hR.2.2.1
  exact zF_le _ (fun k hk => by
    obtain ⟨b1, b2⟩ := mS_b hM hk
    unfold zl
    cases z1 : atB R (nI s) (nI i) k
    · simp only [Bool.false_eq_true, if_false]
      exact Int.le_refl 0
    · simp only [if_true]
      rcases hL k hk with z | ⟨-, -, e, l, he, hl, z2, z3⟩
      · rw [(atB_there z1).1] at z; exact absurd z (by decide)
      · unfold ovB tcB
        generalize (mS R (k / 2)).toInt = x at b1 b2 ⊢
        rw [z2, z3, d_lt (by omega) (by omega), d_lt (by omega) (by omega), d_le (by omega) (by omega), d_le (by omega) (by omega)]
        by_cases zk : k % 2 = 0
        · rw [if_pos zk, if_pos zk]
          have : l ≠ t1 := fun q => hn (Or.inl ⟨k / 2, by omega, by rw [show 2 * (k / 2) = k by omega]; exact z1, by rw [show 2 * (k / 2) = k by omega, z3, q]⟩)
          have eq : decide (t < l) = decide (t1 < l) := decide_eq_decide.mpr (by omega)
          rw [eq]
          exact Int.le_refl _
        · rw [if_neg zk, if_neg zk]
          cases q : decide (e ≤ t)
          · cases q2 : decide (e ≤ t1)
            · exact Int.le_refl _
            · show (0 : Int) ≤ x
              omega
          · have q3 := of_decide_eq_true q
            rw [decide_eq_true (show e ≤ t1 by omega)]
            exact Int.le_refl _)
theorem z_step2 {R : Nat → Int32} (hR : RowOk R) {s i t t1 : Nat} (ht : t < 999) (e1 : t1 = t + 1) (hn : ¬ Cand R s i t1) : aZ R (nI s) (nI i) (nI t) = aZ R (nI s) (nI i) (nI t1) := zF_congr _ (fun k hk => by
    obtain ⟨u, hu, e⟩ := adj_t hR hk
    unfold cAz adB
    rw [e, d_lt (by omega) (by omega), d_lt (by omega) (by omega)]
    by_cases q1 : R (685 + 4 * k) = nI s
    · by_cases q2 : R (686 + 4 * k) = nI i
      · have : u ≠ t1 := fun q => hn (Or.inr ⟨k, hk, q1, q2, by rw [e, q]⟩)
        by_cases q : t < u
        · rw [decide_eq_true q, decide_eq_true (show t1 < u by omega)]
        · rw [decide_eq_false q, decide_eq_false (show ¬ t1 < u by omega)]
      · simp [q2]
    · simp [q1])
theorem z_step {R : Nat → Int32} (hR : RowOk R) {s i t t1 : Nat} (ht : t < 999) (e1 : t1 = t + 1) (hn : ¬ Cand R s i t1) : zM R s i (nI t) ≤ zM R s i (nI t1) := by
  have h1 := z_step1 hR ht e1 hn
  have h2 := z_step2 hR ht e1 hn
  unfold zM
  omega
theorem z_base {R : Nat → Int32} (hR : RowOk R) {s i : Nat} (hs : s < nS R) (hi : i < nT R) (hn : ¬ Cand R s i 0) : 0 ≤ zM R s i (nI 0) := by
  have hM := hR.2.1
  have hL := hR.2.2.1
  obtain ⟨v, hv, e⟩ := hR.2.2.2.1 s i hs hi
  have h0 : (R (15 + 5 * s + i)).toInt = (v : Int) := by rw [e, nI_toInt (by omega)]
  have h1 := zF_lo (a := zl R (nI s) (nI i) (nI 0)) (q := 0) (2 * nM R) (fun k hk => by
    obtain ⟨b1, b2⟩ := mS_b hM hk
    unfold zl
    cases z1 : atB R (nI s) (nI i) k
    · exact Int.le_refl _
    · simp only [if_true]
      rcases hL k hk with z | ⟨-, -, e, l, he, hl, z2, z3⟩
      · rw [(atB_there z1).1] at z; exact absurd z (by decide)
      · unfold ovB
        rw [z3, d_lt (by omega) (by omega)]
        by_cases zk : k % 2 = 0
        · rw [if_pos zk]
          have : l ≠ 0 := fun q => hn (Or.inl ⟨k / 2, by omega, by rw [show 2 * (k / 2) = k by omega]; exact z1, by rw [show 2 * (k / 2) = k by omega, z3, q]⟩)
          rw [decide_eq_true (show 0 < l by omega)]
          exact Int.le_refl _
        · rw [if_neg zk]
          split <;> omega)
  have h2 : aZ R (nI s) (nI i) (nI 0) = zF (fun _ => 0) (nA R) := zF_congr _ (fun k hk => by
    obtain ⟨u, hu, e⟩ := adj_t hR hk
    unfold cAz adB
    rw [e, d_lt (by omega) (by omega)]
    by_cases q1 : R (685 + 4 * k) = nI s
    · by_cases q2 : R (686 + 4 * k) = nI i
      · have : u ≠ 0 := fun q => hn (Or.inr ⟨k, hk, q1, q2, by rw [e, q]⟩)
        rw [decide_eq_true (show 0 < u by omega)]
        simp
      · simp [q2]
    · simp [q1])
  have h3 := zF_lo (a := fun _ => (0 : Int)) (q := 0) (nA R) (fun _ _ => Int.le_refl _)
  unfold zM
  omega
theorem z_first {R : Nat → Int32} (hR : RowOk R) {s i : Nat} (hs : s < nS R) (hi : i < nT R) : ∀ t, t ≤ 999 → zM R s i (nI t) < 0 → ∃ u, u ≤ t ∧ Cand R s i u ∧ zM R s i (nI u) < 0
  | 0, _, h => by
    by_cases c : Cand R s i 0
    · exact ⟨0, Nat.le_refl _, c, h⟩
    · have := z_base hR hs hi c
      omega
  | t + 1, ht, h => by
    by_cases c : Cand R s i (t + 1)
    · exact ⟨t + 1, Nat.le_refl _, c, h⟩
    · have h1 := z_step hR (t := t) (by omega) rfl c
      obtain ⟨u, h2, h3, h4⟩ := z_first hR hs hi t (by omega) (by omega)
      exact ⟨u, by omega, h3, h4⟩
