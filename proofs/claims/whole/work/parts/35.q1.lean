/-! questions: fault, now, item, adjusted, book -/
theorem has_n (a : Int32) (n : Nat) (hn : n ≤ 1000) : (∃ j, j < n ∧ a = nI j ∧ (if a < 0 then false else (if nI n ≤ a then false else true)) = true ∧ ∀ σ, f_X9_isIn σ a 0 (nI n - 1) = true) ∨ ((if a < 0 then false else (if nI n ≤ a then false else true)) = false ∧ (∀ σ, f_X9_isIn σ a 0 (nI n - 1) = false) ∧ ∀ j, j < n → a ≠ nI j) := by
  have e1 : (nI n - 1).toInt = (n : Int) - 1 := pk_sub_toInt (a := n) (b := 1) (by omega) (by decide)
  rcases ix_cases a n (by omega) with h | ⟨h, h2⟩ | ⟨j, hj, rfl⟩
  · refine Or.inr ⟨by rw [if_pos h], fun σ => by unfold f_X9_isIn; rw [if_pos h], fun j hj z => ?_⟩
    rw [z] at h
    exact nI_pos (by omega) h
  · refine Or.inr ⟨by rw [if_neg h, if_pos h2], fun σ => ?_, fun j hj z => ?_⟩
    · unfold f_X9_isIn
      rw [if_neg h, if_pos]
      have h3 := Int32.le_iff_toInt_le.mp h2
      rw [nI_toInt (by omega)] at h3
      rw [Int32.lt_iff_toInt_lt, e1]
      omega
    · rw [z] at h2
      exact nI_ge hj (by omega) h2
  · refine Or.inl ⟨j, hj, rfl, ?_, fun σ => ?_⟩
    · rw [if_neg (nI_pos (by omega)), if_neg (nI_ge hj (by omega))]
    · unfold f_X9_isIn
      rw [if_neg (nI_pos (by omega)), if_neg]
      rw [Int32.lt_iff_toInt_lt, e1, nI_toInt (by omega)]
      omega
theorem sm0 (σ : St) (x : Int32) : Same σ (upI σ 50 0 x) := (Same.rf σ).up (by unfold rel; omega) (by decide)
theorem r52 {σ : St} {j : Nat} {x : Int32} : (upI σ 50 j x).1 52 = σ.1 52 := up_k (by decide)
theorem s_fault : S_fault Inv := by
  intro σ hI
  refine ⟨upI σ 50 0 0, ?_, hI.keep (sm0 σ 0)⟩
  unfold f_X9_fault f_X8_fault
  simp only [nm]
  rw [up_j (by decide), hI.2.2.2.2.1]
/-- open counts, counted -/
def cOp (R : Nat → Int32) (c : Nat) : Int32 := if ct R c 5 = 0 then 1 else 0
theorem c_openCounts {σ : St} {R : Nat → Int32} (hN : RowN R) (hC : ClsC σ R) : f_X3_openCounts σ = some (sumF (cOp R) (nC R) 0) := by
  obtain ⟨-, -, -, hn, -⟩ := hN
  unfold f_X3_openCounts
  refine (sum_loop (f := f_X3_openCounts_b4 σ) (fin := some) (c := cOp R) (nC R) (by omega) (fun n x => ?_) (fun n k x hk => ?_) (nC R) 0 10000 0 (by omega) (by omega)).trans (by show some ((0 : Int32) + _) = _; rw [Int32.zero_add])
  · rw [f_X3_openCounts_b4, hC.1, hn.1, if_pos (Int32.le_refl _)]
  · rw [f_X3_openCounts_b4, hC.1, hn.1, if_neg (nI_ge hk (by omega))]
    refine ob (rd_at k rfl (by omega) (by decide)) ?_
    rw [show σ.1 30 k = ct R k 5 from hC.2 k hk 5 (by decide)]
    unfold cOp
    by_cases z : ct R k 5 = 0
    · rw [if_pos z, if_pos z]; simp only [nm, nI_1]
    · rw [if_neg z, if_neg z]; simp only [nm, nI_1, Int32.add_zero]
theorem m_openMany {σ : St} (hN : RowN (σ.1 52)) : f_X9_openMany σ = some (sumF (cOp (σ.1 52)) (nC (σ.1 52)) 0) := by
  obtain ⟨-, -, -, hn, -⟩ := hN
  unfold f_X9_openMany
  refine (sum_loop (f := f_X9_openMany_b4 σ) (fin := some) (c := cOp (σ.1 52)) (nC (σ.1 52)) (by omega) (fun n x => ?_) (fun n k x hk => ?_) (nC (σ.1 52)) 0 10000 0 (by omega) (by omega)).trans (by show some ((0 : Int32) + _) = _; rw [Int32.zero_add])
  · rw [f_X9_openMany_b4]
    refine ob (rd_at 3 rfl (by decide) (by decide)) ?_
    rw [hn.1, if_pos (Int32.le_refl _)]
  · rw [f_X9_openMany_b4]
    refine ob (rd_at 3 rfl (by decide) (by decide)) ?_
    rw [hn.1, if_neg (nI_ge hk (by omega))]
    refine ob (m_counted k 5 rfl rfl (by omega) (by decide)) ?_
    show (if ct (σ.1 52) k 5 = 0 then _ else _) = _
    unfold cOp
    by_cases z : ct (σ.1 52) k 5 = 0
    · rw [if_pos z, if_pos z]; simp only [nm, nI_1]
    · rw [if_neg z, if_neg z]; simp only [nm, nI_1, Int32.add_zero]
theorem s_now : S_now Inv := by
  intro σ hI a1
  obtain ⟨-, hR, hC, hT, -, hJ⟩ := id hI
  have hN : RowN ((upI σ 50 0 0).1 52) := by rw [r52]; exact hR.1
  have rr : ∀ (i : Int32) (j : Nat), i = nI j → j < 845 → rd (upI σ 50 0 0) 52 845 i = some (σ.1 52 j) := fun i j hi hj => by rw [rd_at j hi hj (by decide), r52]
  obtain ⟨js, nx, -, -, j3, j4, -⟩ := hJ
  obtain ⟨n, -, t1, t2, -⟩ := hT
  unfold f_X8_now f_X9_now
  simp only [nm]
  by_cases c0 : a1 = 0
  · rw [if_pos c0, if_pos c0, rr 0 0 rfl (by decide)]
    exact ⟨_, _, congrArg some hC.1.1.1, rfl, hI.keep (sm0 σ 0)⟩
  rw [if_neg c0, if_neg c0]
  by_cases c1 : a1 = 1
  · rw [if_pos c1, if_pos c1, rr 1 1 rfl (by decide)]
    exact ⟨_, _, congrArg some hC.1.1.2.1, rfl, hI.keep (sm0 σ 0)⟩
  rw [if_neg c1, if_neg c1]
  by_cases c2 : a1 = 2
  · rw [if_pos c2, if_pos c2, rr 2 2 rfl (by decide)]
    exact ⟨_, _, congrArg some hC.1.1.2.2, rfl, hI.keep (sm0 σ 0)⟩
  rw [if_neg c2, if_neg c2]
  by_cases c3 : a1 = 3
  · rw [if_pos c3, if_pos c3, rr 3 3 rfl (by decide)]
    exact ⟨_, _, congrArg some hC.2.2.1, rfl, hI.keep (sm0 σ 0)⟩
  rw [if_neg c3, if_neg c3]
  by_cases c4 : a1 = 4
  · rw [if_pos c4, if_pos c4, m_openMany hN, c_openCounts hR.1 hC.2.2, r52]
    exact ⟨_, _, rfl, rfl, hI.keep (sm0 σ 0)⟩
  rw [if_neg c4, if_neg c4]
  by_cases c5 : a1 = 5
  · rw [if_pos c5, if_pos c5, rr 4 4 rfl (by decide)]
    exact ⟨_, _, congrArg some hC.2.1.1, rfl, hI.keep (sm0 σ 0)⟩
  rw [if_neg c5, if_neg c5]
  by_cases c6 : a1 = 6
  · rw [if_pos c6, if_pos c6, up_j (by decide), j3, j4]
    exact ⟨_, _, rfl, rfl, hI.keep (sm0 σ 0)⟩
  rw [if_neg c6, if_neg c6]
  by_cases c7 : a1 = 7
  · rw [if_pos c7, if_pos c7, up_j (by decide), t1, t2]
    exact ⟨_, _, rfl, rfl, hI.keep (sm0 σ 0)⟩
  rw [if_neg c7, if_neg c7]
  exact ⟨_, _, rfl, rfl, hI.keep (sm0 σ 0)⟩
/-- an item, a shelf: what both sides say -/
theorem item_c {σ τ : St} {g : Nat} {R : Nat → Int32} (hN : RowN R) (hG : σ.1 g 1 = R 1) (hτ : τ.1 52 = R) (a : Int32) : (∃ j, j < nT R ∧ a = nI j ∧ f_X4_hasItem σ g a = true ∧ f_X9_isItem τ a = some true) ∨ (f_X4_hasItem σ g a = false ∧ f_X9_isItem τ a = some false) := by
  obtain ⟨-, h1, -⟩ := hN
  unfold f_X4_hasItem f_X9_isItem
  rw [rd_at (i := 1) 1 rfl (by decide) (by decide), hG, hτ, h1.1]
  rcases has_n a (nT R) (by omega) with ⟨j, hj, e, e2, e3⟩ | ⟨e2, e3, -⟩
  · exact Or.inl ⟨j, hj, e, e2, congrArg some (e3 τ)⟩
  · exact Or.inr ⟨e2, congrArg some (e3 τ)⟩
theorem shelf_c {σ τ : St} {g : Nat} {R : Nat → Int32} (hN : RowN R) (hG : σ.1 g 0 = R 0) (hτ : τ.1 52 = R) (a : Int32) : (∃ j, j < nS R ∧ a = nI j ∧ f_X4_hasShelf σ g a = true ∧ f_X9_isShelf τ a = some true) ∨ (f_X4_hasShelf σ g a = false ∧ f_X9_isShelf τ a = some false) := by
  obtain ⟨h1, -⟩ := hN
  unfold f_X4_hasShelf f_X9_isShelf
  rw [rd_at (i := 0) 0 rfl (by decide) (by decide), hG, hτ, h1.1]
  rcases has_n a (nS R) (by omega) with ⟨j, hj, e, e2, e3⟩ | ⟨e2, e3, -⟩
  · exact Or.inl ⟨j, hj, e, e2, congrArg some (e3 τ)⟩
  · exact Or.inr ⟨e2, congrArg some (e3 τ)⟩
theorem move_c {σ τ : St} {g : Nat} {R : Nat → Int32} (hN : RowN R) (hG : σ.1 g 2 = R 2) (hτ : τ.1 52 = R) (a : Int32) : (∃ j, j < nM R ∧ a = nI j ∧ f_X4_hasMove σ g a = true ∧ f_X9_isMove τ a = some true) ∨ (f_X4_hasMove σ g a = false ∧ f_X9_isMove τ a = some false) := by
  obtain ⟨-, -, h1, -⟩ := hN
  unfold f_X4_hasMove f_X9_isMove
  rw [rd_at (i := 2) 2 rfl (by decide) (by decide), hG, hτ, h1.1]
  rcases has_n a (nM R) (by omega) with ⟨j, hj, e, e2, e3⟩ | ⟨e2, e3, -⟩
  · exact Or.inl ⟨j, hj, e, e2, congrArg some (e3 τ)⟩
  · exact Or.inr ⟨e2, congrArg some (e3 τ)⟩
theorem inst_c (σ τ : St) (a : Int32) : (∃ j, j < 1000 ∧ a = nI j ∧ f_X8_isInstant σ a = true ∧ f_X9_isInstant τ a = true) ∨ (f_X8_isInstant σ a = false ∧ f_X9_isInstant τ a = false) := by
  have e9 : (999 : Int32) = nI 1000 - 1 := rfl
  have k : ∀ b : Bool, (if a < 0 then false else (if nI 1000 ≤ a then false else true)) = b → f_X8_isInstant σ a = b := by
    intro b hb
    rw [← hb]
    unfold f_X8_isInstant
    by_cases z : a < 0
    · rw [if_pos z, if_pos z]
    · rw [if_neg z, if_neg z]
      have : (999 < a) = (nI 1000 ≤ a) := by
        apply propext
        rw [Int32.lt_iff_toInt_lt, Int32.le_iff_toInt_le, nI_toInt (by decide), show (999 : Int32).toInt = 999 by decide]
        omega
      by_cases z2 : nI 1000 ≤ a
      · rw [if_pos z2, if_pos (by rw [this]; exact z2)]
      · rw [if_neg z2, if_neg (by rw [this]; exact z2)]
  unfold f_X9_isInstant
  rw [e9]
  rcases has_n a 1000 (by omega) with ⟨j, hj, e, e2, e3⟩ | ⟨e2, e3, -⟩
  · exact Or.inl ⟨j, hj, e, k _ e2, e3 τ⟩
  · exact Or.inr ⟨k _ e2, e3 τ⟩
theorem bt0 : ¬ b2i true = 0 := by decide
theorem bf0 : b2i false = 0 := rfl
theorem s_item : S_item Inv := by
  intro σ hI a1 a2
  obtain ⟨-, hR, hC, -⟩ := id hI
  unfold f_X8_item f_X9_item
  simp only [nm]
  rcases item_c (σ := σ) (τ := upI σ 50 0 0) hR.1 hC.1.1.2.1 r52 a1 with ⟨j, hj, rfl, e1, e2⟩ | ⟨e1, e2⟩
  · rw [e1, e2, if_neg bt0]
    simp only [Option.bind_some]
    rw [if_neg bt0]
    have hT5 := hR.1.2.1.2
    obtain ⟨q1, q2⟩ := hC.1.2.1 j hj
    rcases has_n a2 2 (by decide) with ⟨w, hw, rfl, -, e3⟩ | ⟨-, e3, e4⟩
    · rw [show f_X9_isIn (upI σ 50 0 0) (nI w) 0 1 = true from e3 _]
      have hrd : rd (upI σ 50 0 0) 52 845 (5 + 2 * nI j + nI w) = some (σ.1 52 (5 + 2 * j + w)) := by
        rw [rd_at (5 + 2 * j + w) (by show nI 5 + nI 2 * nI j + nI w = _; simp only [pk_mul, nI_add]) (by omega) (by decide), r52]
      rw [hrd]
      rcases (show w = 0 ∨ w = 1 by omega) with rfl | rfl
      · rw [if_pos (show nI 0 = 0 from rfl), rd_at j rfl (by omega) (by decide), q1, if_neg bt0]
        exact ⟨_, _, rfl, rfl, hI.keep (sm0 σ 0)⟩
      · rw [if_neg (show ¬ nI 1 = 0 by decide), if_pos (show nI 1 = 1 from rfl), rd_at j rfl (by omega) (by decide), q2, if_neg bt0]
        exact ⟨_, _, rfl, rfl, hI.keep (sm0 σ 0)⟩
    · rw [show f_X9_isIn (upI σ 50 0 0) a2 0 1 = false from e3 _, if_neg (show ¬ a2 = 0 from e4 0 (by decide)), if_neg (show ¬ a2 = 1 from e4 1 (by decide)), if_pos bf0]
      exact ⟨_, _, rfl, rfl, hI.keep (sm0 σ 0)⟩
  · rw [e1, e2, if_pos bf0]
    simp only [Option.bind_some]
    rw [if_pos bf0]
    exact ⟨_, _, rfl, rfl, hI.keep (sm0 σ 0)⟩
