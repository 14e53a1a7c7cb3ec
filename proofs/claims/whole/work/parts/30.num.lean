/-! PURE PART: numbers, reads and writes -/
theorem rd_at {σ : St} {k n : Nat} {i : Int32} (j : Nat) (hi : i = nI j) (h : j < n) (hn : n ≤ 100000) : rd σ k n i = some (σ.1 k j) := by
  subst hi
  have hc : (nI j).toNatClampNeg = j := nI_clamp (by omega)
  unfold rd
  rw [if_pos]
  · rw [hc]
  · simp only [inB, hc, Bool.and_eq_true, Bool.not_eq_true', decide_eq_false_iff_not, decide_eq_true_eq]
    exact ⟨nI_pos (by omega), h⟩
theorem wr_at {σ : St} {k n : Nat} {i x : Int32} (j : Nat) (hi : i = nI j) (h : j < n) (hn : n ≤ 100000) : wr σ k n i x = some (upI σ k j x) := by
  subst hi
  have hc : (nI j).toNatClampNeg = j := nI_clamp (by omega)
  unfold wr
  rw [if_pos]
  · rw [hc]
  · simp only [inB, hc, Bool.and_eq_true, Bool.not_eq_true', decide_eq_false_iff_not, decide_eq_true_eq]
    exact ⟨nI_pos (by omega), h⟩
theorem rdN_at {n : Nat} {i : Int32} (j : Nat) (hi : i = nI j) (h : j < n) (hn : n ≤ 100000) : rdN n i = some j := by
  subst hi
  have hc : (nI j).toNatClampNeg = j := nI_clamp (by omega)
  unfold rdN
  rw [if_pos]
  · rw [hc]
  · simp only [inB, hc, Bool.and_eq_true, Bool.not_eq_true', decide_eq_false_iff_not, decide_eq_true_eq]
    exact ⟨nI_pos (by omega), h⟩
theorem ob {α β : Type} {o : Option α} {a : α} {f : α → Option β} {r : Option β} (h : o = some a) (h2 : f a = r) : o.bind f = r := by subst h; exact h2
theorem up_s {σ : St} {k j : Nat} {x : Int32} : (upI σ k j x).1 k j = x := by simp [upI]
theorem up_n {σ : St} {k j a b : Nat} {x : Int32} (h : ¬ (a = k ∧ b = j)) : (upI σ k j x).1 a b = σ.1 a b := by simp only [upI]; rw [if_neg h]
theorem up_k {σ : St} {k j a : Nat} {x : Int32} (h : a ≠ k) : (upI σ k j x).1 a = σ.1 a := by
  funext b
  exact up_n (fun z => h z.1)
theorem up_j {σ : St} {k j b : Nat} {x : Int32} (h : b ≠ j) : (upI σ k j x).1 k b = σ.1 k b := up_n (fun z => h z.2)
theorem up_2 {σ : St} {k j : Nat} {x : Int32} : (upI σ k j x).2 = σ.2 := rfl
theorem b2i_0 {b : Bool} : (b2i b = 0) ↔ b = false := by cases b <;> simp [b2i]
theorem b2i_tt : b2i true = 1 := rfl
theorem b2i_ff : b2i false = 0 := rfl
theorem b2i_ne {b : Bool} (h : b = true) : ¬ b2i b = 0 := by subst h; decide
theorem b2i_eq {b : Bool} (h : b = false) : b2i b = 0 := by subst h; rfl
theorem nI_inj {a b : Nat} (ha : a < 2 ^ 31) (hb : b < 2 ^ 31) (h : nI a = nI b) : a = b := (nI_eq ha hb).mp h
theorem lt_nI {a b : Nat} (ha : a < 2 ^ 31) (hb : b < 2 ^ 31) : (nI a < nI b) = (a < b) := propext (nI_ltI ha hb)
theorem le_nI {a b : Nat} (ha : a < 2 ^ 31) (hb : b < 2 ^ 31) : (nI a ≤ nI b) = (a ≤ b) := propext (nI_leI ha hb)
theorem eq_nI {a b : Nat} (ha : a < 2 ^ 31) (hb : b < 2 ^ 31) : (nI a = nI b) = (a = b) := propext (nI_eq ha hb)
theorem nI_ltz {a : Nat} (ha : a < 2 ^ 31) : ¬ nI a < 0 := nI_pos ha
theorem nI_m1 {a : Nat} (ha : a < 2 ^ 31) : ¬ nI a = -1 := fun h => nI_pos ha (by rw [h]; decide)
/-- an int is below 0, or too large, or a number within -/
theorem ix_cases (x : Int32) (n : Nat) (hn : n < 2 ^ 31) : x < 0 ∨ (¬ x < 0 ∧ nI n ≤ x) ∨ ∃ j, j < n ∧ x = nI j := by
  rcases pk_ix x hn with h | h | h
  · exact Or.inl h
  · exact Or.inr (Or.inl ⟨fun z => by
      have h1 : nI n < 0 := Int32.lt_of_le_of_lt h z
      exact nI_pos hn h1, h⟩)
  · exact Or.inr (Or.inr h)
/-- sums over places k, k + 1 .. (d of them) -/
def sumF (c : Nat → Int32) : Nat → Nat → Int32
  | 0, _ => 0
  | d + 1, k => c k + sumF c d (k + 1)
theorem sumF_congr {c c' : Nat → Int32} : ∀ (d k : Nat), (∀ j, k ≤ j → j < k + d → c j = c' j) → sumF c d k = sumF c' d k
  | 0, _, _ => rfl
  | d + 1, k, h => by
    show c k + sumF c d (k + 1) = c' k + sumF c' d (k + 1)
    rw [h k (Nat.le_refl _) (by omega), sumF_congr d (k + 1) (fun j h1 h2 => h j (by omega) (by omega))]
theorem sumF_add {c c' : Nat → Int32} : ∀ (d k : Nat), sumF (fun j => c j + c' j) d k = sumF c d k + sumF c' d k
  | 0, _ => rfl
  | d + 1, k => by
    show (c k + c' k) + sumF _ d (k + 1) = (c k + sumF c d (k + 1)) + (c' k + sumF c' d (k + 1))
    rw [sumF_add d (k + 1)]
    ac_rfl
theorem sumF_neg {c : Nat → Int32} : ∀ (d k : Nat), sumF (fun j => - c j) d k = - sumF c d k
  | 0, _ => by show (0 : Int32) = -0; decide
  | d + 1, k => by
    show - c k + sumF _ d (k + 1) = - (c k + sumF c d (k + 1))
    rw [sumF_neg d (k + 1), Int32.neg_add, Int32.sub_eq_add_neg]
theorem sumF_zero {c : Nat → Int32} : ∀ (d k : Nat), (∀ j, k ≤ j → j < k + d → c j = 0) → sumF c d k = 0
  | 0, _, _ => rfl
  | d + 1, k, h => by
    show c k + sumF c d (k + 1) = 0
    rw [h k (Nat.le_refl _) (by omega), sumF_zero d (k + 1) (fun j h1 h2 => h j (by omega) (by omega))]
    rfl
theorem sumF_last {c : Nat → Int32} : ∀ (d k : Nat), sumF c (d + 1) k = sumF c d k + c (k + d)
  | 0, k => by
    show c k + 0 = 0 + c (k + 0)
    rw [Int32.add_zero, Int32.zero_add, Nat.add_zero]
  | d + 1, k => by
    show c k + sumF c (d + 1) (k + 1) = (c k + sumF c d (k + 1)) + c (k + (d + 1))
    rw [sumF_last d (k + 1), Int32.add_assoc, show k + 1 + d = k + (d + 1) by omega]
/-- a loop that adds up: at place k with x, d places to go -/
theorem sum_loop {f : Nat → Int32 → Int32 → Option Int32} {fin : Int32 → Option Int32} {c : Nat → Int32} (N : Nat) (hN : N < 100000)
    (hend : ∀ n x, f (n + 1) x (nI N) = fin x) (hstep : ∀ n k x, k < N → f (n + 1) x (nI k) = f n (x + c k) (nI (k + 1))) :
    ∀ (d k n : Nat) (x : Int32), k + d = N → d < n → f n x (nI k) = fin (x + sumF c d k)
  | 0, k, n, x, h1, h2 => by
    obtain ⟨n, rfl⟩ : ∃ m, n = m + 1 := ⟨n - 1, by omega⟩
    rw [show k = N by omega, hend]
    show fin x = fin (x + 0)
    rw [Int32.add_zero]
  | d + 1, k, n, x, h1, h2 => by
    obtain ⟨n, rfl⟩ : ∃ m, n = m + 1 := ⟨n - 1, by omega⟩
    rw [hstep n k x (by omega), sum_loop N hN hend hstep d (k + 1) n (x + c k) (by omega) (by omega)]
    show fin (x + c k + sumF c d (k + 1)) = fin (x + (c k + sumF c d (k + 1)))
    rw [Int32.add_assoc]
