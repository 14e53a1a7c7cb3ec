/-! sums of doubtful legs, the model; the class's relation to the row; the class's page -/
theorem m_doubtful {σ : St} (hN : RowN (σ.1 52)) (s i t w : Int32) : f_X9_doubtful σ s i t w = some (dS (σ.1 52) s i t w) := by
  obtain ⟨-, -, hM, -, -⟩ := hN
  unfold f_X9_doubtful
  refine (sum_loop (f := f_X9_doubtful_b6 σ s i t w) (fin := some) (c := cD (σ.1 52) s i t w) (2 * nM (σ.1 52)) (by omega) (fun n x => ?_) (fun n k x hk => ?_) (2 * nM (σ.1 52)) 0 10000 0 (by omega) (by omega)).trans ?_
  · rw [f_X9_doubtful_b6]
    refine ob (rd_at 2 rfl (by decide) (by decide)) ?_
    rw [hM.1, show (2 : Int32) * nI (nM (σ.1 52)) = nI (2 * nM (σ.1 52)) from pk_mul 2 _, if_pos (Int32.le_refl _)]
  · rw [f_X9_doubtful_b6]
    refine ob (rd_at 2 rfl (by decide) (by decide)) ?_
    rw [hM.1, show (2 : Int32) * nI (nM (σ.1 52)) = nI (2 * nM (σ.1 52)) from pk_mul 2 _, if_neg (nI_ge hk (by omega))]
    have hk8 : k < 80 := by omega
    refine ob (m_isAt (kdiv (by omega)) (krem (by omega)) hk8) ?_
    unfold cD
    by_cases c1 : atB (σ.1 52) s i k = true
    · rw [if_neg (b2i_ne c1)]
      refine ob (m_isDoubtful (kdiv (by omega)) (krem (by omega)) hk8) ?_
      by_cases c2 : dbB (σ.1 52) t k = true
      · rw [if_neg (b2i_ne c2)]
        simp only [c1, c2, Bool.and_self, if_true]
        by_cases c3 : w = 2
        · rw [if_pos c3, if_pos c3]
          simp only [nm, nI_1]
        · rw [if_neg c3, if_neg c3, krem (by omega)]
          by_cases c4 : nI (k % 2) = w
          · rw [if_pos c4, if_pos c4]
            refine ob (m_moved (k / 2) 1 (kdiv (by omega)) rfl (by omega) (by decide)) ?_
            simp only [nm, nI_1]
            rfl
          · rw [if_neg c4, if_neg c4]
            simp only [nm, nI_1]
      · have c2' : dbB (σ.1 52) t k = false := by simpa using c2
        rw [if_pos (b2i_eq c2')]
        simp [nm, nI_1, c2', Int32.add_zero]
    · have c1' : atB (σ.1 52) s i k = false := by simpa using c1
      rw [if_pos (b2i_eq c1')]
      simp [nm, nI_1, c1', Int32.add_zero]
  · show some ((0 : Int32) + _) = _
    rw [Int32.zero_add]
    rfl
theorem m_least {σ : St} (hN : RowN (σ.1 52)) (s i : Nat) (t : Int32) (hs : s < 6) (hi : i < 5) {a1 a2 : Int32} (h1 : a1 = nI s) (h2 : a2 = nI i) : f_X9_least σ a1 a2 t = some (sureR (σ.1 52) s i t - dS (σ.1 52) (nI s) (nI i) t 0) := by
  subst h1; subst h2
  unfold f_X9_least
  exact ob (m_sure hN s i t hs hi rfl rfl) (ob (m_doubtful hN _ _ _ _) rfl)
theorem m_most {σ : St} (hN : RowN (σ.1 52)) (s i : Nat) (t : Int32) (hs : s < 6) (hi : i < 5) {a1 a2 : Int32} (h1 : a1 = nI s) (h2 : a2 = nI i) : f_X9_most σ a1 a2 t = some (sureR (σ.1 52) s i t + dS (σ.1 52) (nI s) (nI i) t 1) := by
  subst h1; subst h2
  unfold f_X9_most
  exact ob (m_sure hN s i t hs hi rfl rfl) (ob (m_doubtful hN _ _ _ _) rfl)
/-- the class's goods at cell g say what the row says -/
def ClsG (σ : St) (g : Nat) (R : Nat → Int32) : Prop :=
  (σ.1 g 0 = R 0 ∧ σ.1 g 1 = R 1 ∧ σ.1 g 2 = R 2) ∧
  (∀ i, i < nT R → σ.1 (g + 1) i = R (5 + 2 * i) ∧ σ.1 (g + 2) i = R (5 + 2 * i + 1)) ∧
  (∀ s i, s < nS R → i < nT R → (if σ.1 (g + 3) (5 * s + i) < 0 then 0 else σ.1 (g + 3) (5 * s + i)) = R (15 + 5 * s + i)) ∧
  (∀ m, m < nM R → σ.1 (g + 4) m = mI R m ∧ σ.1 (g + 5) m = mS R m) ∧
  (∀ k, k < 2 * nM R → (lg R k 0 = 1 ∧ σ.1 (g + 6) k = lg R k 1 ∧ σ.1 (g + 7) k = lg R k 2 ∧ σ.1 (g + 8) k = lg R k 3) ∨ (lg R k 0 = 0 ∧ σ.1 (g + 6) k = -1 ∧ σ.1 (g + 7) k = -1 ∧ σ.1 (g + 8) k = -1))
/-- the class's adjustments -/
def ClsA (σ : St) (R : Nat → Int32) : Prop := σ.1 31 0 = R 4 ∧ ∀ k, k < nA R → σ.1 32 k = R (685 + 4 * k) ∧ σ.1 33 k = R (686 + 4 * k) ∧ σ.1 34 k = R (687 + 4 * k) ∧ σ.1 35 k = R (688 + 4 * k)
/-- the class's counts -/
def ClsC (σ : St) (R : Nat → Int32) : Prop := σ.1 24 0 = R 3 ∧ ∀ c, c < nC R → ∀ w, w < 6 → σ.1 (25 + w) c = R (445 + 6 * c + w)
/-- sums of moves, and what else a row keeps to -/
def RowM (R : Nat → Int32) : Prop := ∀ m, m < nM R → (∃ i, i < nT R ∧ mI R m = nI i) ∧ ∃ v, 1 ≤ v ∧ v ≤ 99 ∧ mS R m = nI v
/-- two states that differ in the page alone -/
def Off (σ0 σ : St) : Prop := (∀ c, c ≠ 48 → c ≠ 49 → σ.1 c = σ0.1 c) ∧ σ.2 = σ0.2
theorem Off.rf (σ : St) : Off σ σ := ⟨fun _ _ _ => rfl, rfl⟩
theorem Off.trans {a b c : St} (h1 : Off a b) (h2 : Off b c) : Off a c := ⟨fun k h h' => (h2.1 k h h').trans (h1.1 k h h'), h2.2.trans h1.2⟩
theorem Off.up48 {a b : St} {j : Nat} {x : Int32} (h : Off a b) : Off a (upI b 48 j x) := ⟨fun k h1 h2 => (up_k h1).trans (h.1 k h1 h2), h.2⟩
theorem Off.up49 {a b : St} {j : Nat} {x : Int32} (h : Off a b) : Off a (upI b 49 j x) := ⟨fun k h1 h2 => (up_k h2).trans (h.1 k h1 h2), h.2⟩
theorem ClsG.off {σ0 σ : St} {g : Nat} {R : Nat → Int32} (hg : isG g) (h : Off σ0 σ) (hc : ClsG σ0 g R) : ClsG σ g R := by
  have e : ∀ d, d < 9 → σ.1 (g + d) = σ0.1 (g + d) := fun d hd => h.1 _ (by rcases hg with rfl | rfl <;> omega) (by rcases hg with rfl | rfl <;> omega)
  unfold ClsG at hc ⊢
  rw [show σ.1 g = σ0.1 g from e 0 (by decide), e 1 (by decide), e 2 (by decide), e 3 (by decide), e 4 (by decide), e 5 (by decide), e 6 (by decide), e 7 (by decide), e 8 (by decide)]
  exact hc
theorem ClsA.off {σ0 σ : St} {R : Nat → Int32} (h : Off σ0 σ) (hc : ClsA σ0 R) : ClsA σ R := by
  unfold ClsA at hc ⊢
  rw [h.1 31 (by decide) (by decide), h.1 32 (by decide) (by decide), h.1 33 (by decide) (by decide), h.1 34 (by decide) (by decide), h.1 35 (by decide) (by decide)]
  exact hc
theorem ClsC.off {σ0 σ : St} {R : Nat → Int32} (h : Off σ0 σ) (hc : ClsC σ0 R) : ClsC σ R := by
  refine ⟨by rw [h.1 24 (by decide) (by decide)]; exact hc.1, fun c h1 w h2 => ?_⟩
  rw [h.1 (25 + w) (by omega) (by omega)]
  exact hc.2 c h1 w h2
theorem c_isAt {σ : St} {s i : Int32} {k : Nat} (hk : k < 40) : f_X1_isAt σ (nI k) s i = some (decide (σ.1 32 k = s) && decide (σ.1 33 k = i)) := by
  unfold f_X1_isAt
  refine ob (rd_at k rfl hk (by decide)) ?_
  by_cases c1 : σ.1 32 k = s
  · rw [if_pos c1]
    refine ob (rd_at k rfl hk (by decide)) ?_
    by_cases c2 : σ.1 33 k = i <;> simp [c1, c2]
  · rw [if_neg c1]; simp [c1]
theorem c_sumUpTo {σ : St} {R : Nat → Int32} (hN : RowN R) (hA : ClsA σ R) (s i t : Int32) : f_X1_sumUpTo σ s i t = some (aS R s i t) := by
  obtain ⟨-, -, -, -, hn⟩ := hN
  unfold f_X1_sumUpTo
  refine (sum_loop (f := f_X1_sumUpTo_b6 σ s i t) (fin := some) (c := cAd R s i t) (nA R) (by omega) (fun n x => ?_) (fun n k x hk => ?_) (nA R) 0 10000 0 (by omega) (by omega)).trans ?_
  · rw [f_X1_sumUpTo_b6, hA.1, hn.1, if_pos (Int32.le_refl _)]
  · rw [f_X1_sumUpTo_b6, hA.1, hn.1, if_neg (nI_ge hk (by omega))]
    obtain ⟨e1, e2, e3, e4⟩ := hA.2 k hk
    refine ob (c_isAt (by omega)) ?_
    unfold cAd adB
    rw [e1, e2]
    by_cases c1 : R (685 + 4 * k) = s
    · by_cases c2 : R (686 + 4 * k) = i
      · rw [if_neg (by simp [c1, c2, b2i])]
        refine ob (rd_at k rfl (by omega) (by decide)) ?_
        rw [e3]
        by_cases c3 : t < R (687 + 4 * k)
        · rw [if_pos c3]; simp [nm, nI_1, c3, Int32.add_zero]
        · rw [if_neg c3]
          refine ob (rd_at k rfl (by omega) (by decide)) ?_
          rw [e4]; simp [nm, nI_1, c1, c2, c3]
      · rw [if_pos (by simp [c2, b2i])]; simp [nm, nI_1, c2, Int32.add_zero]
    · rw [if_pos (by simp [c1, b2i])]; simp [nm, nI_1, c1, Int32.add_zero]
  · show some ((0 : Int32) + _) = _
    rw [Int32.zero_add]
    rfl
