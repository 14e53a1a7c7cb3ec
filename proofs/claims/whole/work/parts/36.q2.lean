/-! questions: adjusted, book -/
theorem s_adjusted : S_adjusted Inv := by
  intro σ hI a1 a2
  obtain ⟨-, hR, hC, -⟩ := id hI
  have hn := hR.1.2.2.2.2
  unfold f_X8_adjusted f_X9_adjusted
  simp only [nm]
  rw [rd_at (i := 4) 4 rfl (by decide) (by decide), r52, hn.1, hC.2.1.1, hn.1]
  simp only [Option.bind_some]
  rcases ix_cases a1 (nA (σ.1 52)) (by omega) with h | ⟨h, h2⟩ | ⟨j, hj, rfl⟩
  · rcases has_n a1 (nA (σ.1 52)) (by omega) with ⟨j, hj, rfl, -, -⟩ | ⟨-, e3, -⟩
    · exact absurd h (nI_pos (by omega))
    · rw [if_pos h, e3, if_pos bf0]
      exact ⟨_, _, rfl, rfl, hI.keep (sm0 σ 0)⟩
  · rcases has_n a1 (nA (σ.1 52)) (by omega) with ⟨j, hj, rfl, -, -⟩ | ⟨-, e3, -⟩
    · exact absurd h2 (nI_ge hj (by omega))
    · rw [if_neg h, if_neg (Int32.not_lt.mpr h2), e3, if_pos bf0]
      exact ⟨_, _, rfl, rfl, hI.keep (sm0 σ 0)⟩
  · rcases has_n (nI j) (nA (σ.1 52)) (by omega) with ⟨-, -, -, -, e3⟩ | ⟨-, -, e4⟩
    · obtain ⟨q0, q1, q2, q3⟩ := hC.2.1.2 j hj
      rw [if_neg (nI_pos (by omega)), if_pos (show nI j < nI (nA (σ.1 52)) by rw [lt_nI (by omega) (by omega)]; exact hj), e3, if_neg bt0]
      rcases has_n a2 4 (by decide) with ⟨w, hw, rfl, -, e5⟩ | ⟨-, e5, e6⟩
      · rw [show f_X9_isIn (upI σ 50 0 0) (nI w) 0 3 = true from e5 _, if_neg bt0]
        have hrd : rd (upI σ 50 0 0) 52 845 (685 + 4 * nI j + nI w) = some (σ.1 52 (685 + 4 * j + w)) := by
          rw [rd_at (685 + 4 * j + w) (by show nI 685 + nI 4 * nI j + nI w = _; simp only [pk_mul, nI_add]) (by omega) (by decide), r52]
        rw [hrd]
        rcases (show w = 0 ∨ w = 1 ∨ w = 2 ∨ w = 3 by omega) with rfl | rfl | rfl | rfl
        · rw [if_pos (show nI 0 = 0 from rfl), rd_at j rfl (by omega) (by decide), q0]
          exact ⟨_, _, rfl, rfl, hI.keep (sm0 σ 0)⟩
        · rw [if_neg (show ¬ nI 1 = 0 by decide), if_pos (show nI 1 = 1 from rfl), rd_at j rfl (by omega) (by decide), q1, show 685 + 4 * j + 1 = 686 + 4 * j by omega]
          exact ⟨_, _, rfl, rfl, hI.keep (sm0 σ 0)⟩
        · rw [if_neg (show ¬ nI 2 = 0 by decide), if_neg (show ¬ nI 2 = 1 by decide), if_pos (show nI 2 = 2 from rfl), rd_at j rfl (by omega) (by decide), q2, show 685 + 4 * j + 2 = 687 + 4 * j by omega]
          exact ⟨_, _, rfl, rfl, hI.keep (sm0 σ 0)⟩
        · rw [if_neg (show ¬ nI 3 = 0 by decide), if_neg (show ¬ nI 3 = 1 by decide), if_neg (show ¬ nI 3 = 2 by decide), if_pos (show nI 3 = 3 from rfl), rd_at j rfl (by omega) (by decide), q3, show 685 + 4 * j + 3 = 688 + 4 * j by omega]
          exact ⟨_, _, rfl, rfl, hI.keep (sm0 σ 0)⟩
      · rw [show f_X9_isIn (upI σ 50 0 0) a2 0 3 = false from e5 _, if_pos bf0, if_neg (show ¬ a2 = 0 from e6 0 (by decide)), if_neg (show ¬ a2 = 1 from e6 1 (by decide)), if_neg (show ¬ a2 = 2 from e6 2 (by decide)), if_neg (show ¬ a2 = 3 from e6 3 (by decide))]
        exact ⟨_, _, rfl, rfl, hI.keep (sm0 σ 0)⟩
    · exact absurd rfl (e4 j hj)
/-! the same checks for all states at once -/
theorem item_u {R : Nat → Int32} (hN : RowN R) (a : Int32) : (∃ j, j < nT R ∧ a = nI j ∧ (∀ (σ : St) (g : Nat), σ.1 g 1 = R 1 → f_X4_hasItem σ g a = true) ∧ ∀ τ : St, τ.1 52 = R → f_X9_isItem τ a = some true) ∨ ((∀ (σ : St) (g : Nat), σ.1 g 1 = R 1 → f_X4_hasItem σ g a = false) ∧ (∀ τ : St, τ.1 52 = R → f_X9_isItem τ a = some false) ∧ ∀ j, j < nT R → a ≠ nI j) := by
  obtain ⟨-, h1, -⟩ := hN
  have kc : ∀ (b : Bool) (σ : St) (g : Nat), σ.1 g 1 = R 1 → (if a < 0 then false else (if nI (nT R) ≤ a then false else true)) = b → f_X4_hasItem σ g a = b := fun b σ g hG e => by
    unfold f_X4_hasItem
    rw [hG, h1.1]
    exact e
  have km : ∀ (b : Bool) (τ : St), τ.1 52 = R → f_X9_isIn τ a 0 (nI (nT R) - 1) = b → f_X9_isItem τ a = some b := fun b τ hτ e => by
    unfold f_X9_isItem
    rw [rd_at (i := 1) 1 rfl (by decide) (by decide), hτ, h1.1]
    exact congrArg some e
  rcases has_n a (nT R) (by omega) with ⟨j, hj, e, e2, e3⟩ | ⟨e2, e3, e4⟩
  · exact Or.inl ⟨j, hj, e, fun σ g h => kc _ σ g h e2, fun τ h => km _ τ h (e3 τ)⟩
  · exact Or.inr ⟨fun σ g h => kc _ σ g h e2, fun τ h => km _ τ h (e3 τ), e4⟩
theorem shelf_u {R : Nat → Int32} (hN : RowN R) (a : Int32) : (∃ j, j < nS R ∧ a = nI j ∧ (∀ (σ : St) (g : Nat), σ.1 g 0 = R 0 → f_X4_hasShelf σ g a = true) ∧ ∀ τ : St, τ.1 52 = R → f_X9_isShelf τ a = some true) ∨ ((∀ (σ : St) (g : Nat), σ.1 g 0 = R 0 → f_X4_hasShelf σ g a = false) ∧ (∀ τ : St, τ.1 52 = R → f_X9_isShelf τ a = some false) ∧ ∀ j, j < nS R → a ≠ nI j) := by
  obtain ⟨h1, -⟩ := hN
  have kc : ∀ (b : Bool) (σ : St) (g : Nat), σ.1 g 0 = R 0 → (if a < 0 then false else (if nI (nS R) ≤ a then false else true)) = b → f_X4_hasShelf σ g a = b := fun b σ g hG e => by
    unfold f_X4_hasShelf
    rw [hG, h1.1]
    exact e
  have km : ∀ (b : Bool) (τ : St), τ.1 52 = R → f_X9_isIn τ a 0 (nI (nS R) - 1) = b → f_X9_isShelf τ a = some b := fun b τ hτ e => by
    unfold f_X9_isShelf
    rw [rd_at (i := 0) 0 rfl (by decide) (by decide), hτ, h1.1]
    exact congrArg some e
  rcases has_n a (nS R) (by omega) with ⟨j, hj, e, e2, e3⟩ | ⟨e2, e3, e4⟩
  · exact Or.inl ⟨j, hj, e, fun σ g h => kc _ σ g h e2, fun τ h => km _ τ h (e3 τ)⟩
  · exact Or.inr ⟨fun σ g h => kc _ σ g h e2, fun τ h => km _ τ h (e3 τ), e4⟩
theorem move_u {R : Nat → Int32} (hN : RowN R) (a : Int32) : (∃ j, j < nM R ∧ a = nI j ∧ (∀ (σ : St) (g : Nat), σ.1 g 2 = R 2 → f_X4_hasMove σ g a = true) ∧ ∀ τ : St, τ.1 52 = R → f_X9_isMove τ a = some true) ∨ ((∀ (σ : St) (g : Nat), σ.1 g 2 = R 2 → f_X4_hasMove σ g a = false) ∧ (∀ τ : St, τ.1 52 = R → f_X9_isMove τ a = some false) ∧ ∀ j, j < nM R → a ≠ nI j) := by
  obtain ⟨-, -, h1, -⟩ := hN
  have kc : ∀ (b : Bool) (σ : St) (g : Nat), σ.1 g 2 = R 2 → (if a < 0 then false else (if nI (nM R) ≤ a then false else true)) = b → f_X4_hasMove σ g a = b := fun b σ g hG e => by
    unfold f_X4_hasMove
    rw [hG, h1.1]
    exact e
  have km : ∀ (b : Bool) (τ : St), τ.1 52 = R → f_X9_isIn τ a 0 (nI (nM R) - 1) = b → f_X9_isMove τ a = some b := fun b τ hτ e => by
    unfold f_X9_isMove
    rw [rd_at (i := 2) 2 rfl (by decide) (by decide), hτ, h1.1]
    exact congrArg some e
  rcases has_n a (nM R) (by omega) with ⟨j, hj, e, e2, e3⟩ | ⟨e2, e3, e4⟩
  · exact Or.inl ⟨j, hj, e, fun σ g h => kc _ σ g h e2, fun τ h => km _ τ h (e3 τ)⟩
  · exact Or.inr ⟨fun σ g h => kc _ σ g h e2, fun τ h => km _ τ h (e3 τ), e4⟩
theorem count_u {R : Nat → Int32} (hN : RowN R) (a : Int32) : (∃ j, j < nC R ∧ a = nI j ∧ (∀ σ : St, σ.1 24 0 = R 3 → f_X3_has σ a = true) ∧ ∀ τ : St, τ.1 52 = R → f_X9_isCount τ a = some true) ∨ ((∀ σ : St, σ.1 24 0 = R 3 → f_X3_has σ a = false) ∧ (∀ τ : St, τ.1 52 = R → f_X9_isCount τ a = some false) ∧ ∀ j, j < nC R → a ≠ nI j) := by
  obtain ⟨-, -, -, h1, -⟩ := hN
  have kc : ∀ (b : Bool) (σ : St), σ.1 24 0 = R 3 → (if a < 0 then false else (if nI (nC R) ≤ a then false else true)) = b → f_X3_has σ a = b := fun b σ hG e => by
    unfold f_X3_has
    rw [hG, h1.1]
    exact e
  have km : ∀ (b : Bool) (τ : St), τ.1 52 = R → f_X9_isIn τ a 0 (nI (nC R) - 1) = b → f_X9_isCount τ a = some b := fun b τ hτ e => by
    unfold f_X9_isCount
    rw [rd_at (i := 3) 3 rfl (by decide) (by decide), hτ, h1.1]
    exact congrArg some e
  rcases has_n a (nC R) (by omega) with ⟨j, hj, e, e2, e3⟩ | ⟨e2, e3, e4⟩
  · exact Or.inl ⟨j, hj, e, fun σ h => kc _ σ h e2, fun τ h => km _ τ h (e3 τ)⟩
  · exact Or.inr ⟨fun σ h => kc _ σ h e2, fun τ h => km _ τ h (e3 τ), e4⟩
theorem inst_u (a : Int32) : (∃ j, j < 1000 ∧ a = nI j ∧ (∀ σ, f_X8_isInstant σ a = true) ∧ ∀ τ, f_X9_isInstant τ a = true) ∨ ((∀ σ, f_X8_isInstant σ a = false) ∧ (∀ τ, f_X9_isInstant τ a = false) ∧ ∀ j, j < 1000 → a ≠ nI j) := by
  have n1 : ∀ j, j < 1000 → a = nI j → ∀ σ τ, f_X8_isInstant σ a = true ∧ f_X9_isInstant τ a = true := by
    intro j hj e σ τ
    have e9 : (999 : Int32) = nI 999 := rfl
    subst e
    constructor
    · unfold f_X8_isInstant
      rw [if_neg (nI_pos (by omega)), e9, if_neg (by rw [lt_nI (by omega) (by omega)]; omega)]
    · unfold f_X9_isInstant f_X9_isIn
      rw [if_neg (nI_pos (by omega)), e9, if_neg (by rw [lt_nI (by omega) (by omega)]; omega)]
  by_cases h : ∃ j, j < 1000 ∧ a = nI j
  · obtain ⟨j, hj, e⟩ := h
    exact Or.inl ⟨j, hj, e, fun σ => (n1 j hj e σ σ).1, fun σ => (n1 j hj e σ σ).2⟩
  · refine Or.inr ⟨fun σ => ?_, fun σ => ?_, fun j hj e => h ⟨j, hj, e⟩⟩
    · rcases inst_c σ σ a with ⟨j, hj, e, -⟩ | ⟨e, -⟩
      · exact absurd ⟨j, hj, e⟩ h
      · exact e
    · rcases inst_c σ σ a with ⟨j, hj, e, -⟩ | ⟨-, e⟩
      · exact absurd ⟨j, hj, e⟩ h
      · exact e
/-- how many doubtful legs -/
theorem dlen_up (R : Nat → Int32) (s i t : Int32) : ∀ k, sumF (cD R s i t 2) k 0 = nI (dlst R s i t k).length
  | 0 => rfl
  | k + 1 => by
    rw [sumF_last, dlen_up R s i t k, Nat.zero_add]
    unfold cD
    by_cases c : (atB R s i k && dbB R t k) = true
    · rw [if_pos c, if_pos rfl, nI_1]
      simp only [dlst, c, if_true, List.length_append, List.length_cons, List.length_nil]
    · rw [if_neg c, Int32.add_zero]
      simp only [dlst, if_neg c, List.append_nil]
theorem dlen (R : Nat → Int32) (s i t : Int32) : dS R s i t 2 = nI (dlst R s i t (2 * nM R)).length := dlen_up R s i t _
theorem s_book : S_book Inv := by
  intro σ hI a1 a2 a3 a4
  obtain ⟨⟨hg, -⟩, hR, hC, -⟩ := id hI
  have hs6 := hR.1.1.2.2
  have hi5 := hR.1.2.1.2
  have k1 := r52 (σ := σ) (j := 0) (x := 0)
  have hb : Inv (upI σ 50 0 0) := hI.keep (sm0 σ 0)
  unfold f_X8_book f_X4_hasCouple
  rcases shelf_u hR.1 a1 with ⟨s, hs, rfl, e1, m1⟩ | ⟨e1, m1, -⟩
  · rcases item_u hR.1 a2 with ⟨i, hi, rfl, e2, m2⟩ | ⟨e2, m2, -⟩
    · rcases inst_u a3 with ⟨t, ht, rfl, e3, m3⟩ | ⟨e3, m3, -⟩
      · obtain ⟨σ', p0, p1, p2, p3, p4, p5, -⟩ := c_readAt hg hR.1 hR.2.1 hC.1 hC.2.1 s i hs hi (nI t) rfl rfl
        have hI' := hI.keep p1.same
        have e52 : σ'.1 52 = σ.1 52 := p1.1 52 (by decide) (by decide)
        have k2 : (upI σ' 50 0 0).1 52 = σ.1 52 := r52.trans e52
        have hN' : RowN ((upI σ' 50 0 0).1 52) := by rw [k2]; exact hR.1
        have hb' : Inv (upI σ' 50 0 0) := hI'.keep (sm0 σ' 0)
        rw [e1 _ _ hC.1.1.1, e2 _ _ hC.1.1.2.1, if_neg bt0, if_neg bt0, if_neg bt0, e3, if_neg bt0, p0]
        simp only [Option.bind_some]
        rw [p2, p3, p4, p5, ← dlen]
        have m : ∀ r : Int32, (if (b2i (f_X9_isIn (upI σ' 50 0 0) a4 0 3)) = 0 then (some ((-100000000 : Int32), upI σ' 50 0 0)) else (if a4 = 0 then ((f_X9_sure (upI σ' 50 0 0) (nI s) (nI i) (nI t)).bind fun q16 => some (q16, (upI σ' 50 0 0))) else (if a4 = 1 then ((f_X9_least (upI σ' 50 0 0) (nI s) (nI i) (nI t)).bind fun q15 => some (q15, (upI σ' 50 0 0))) else (if a4 = 2 then ((f_X9_most (upI σ' 50 0 0) (nI s) (nI i) (nI t)).bind fun q14 => some (q14, (upI σ' 50 0 0))) else ((f_X9_doubtful (upI σ' 50 0 0) (nI s) (nI i) (nI t) 2).bind fun q13 => some (q13, (upI σ' 50 0 0))))))) = some (r, upI σ' 50 0 0) → ∃ r_1 σ1 σ2, some (r, σ') = some (r_1, σ1) ∧ f_X9_book σ1 (nI s) (nI i) (nI t) a4 = some (r_1, σ2) ∧ Inv σ2 := by
          intro r h
          refine ⟨r, σ', upI σ' 50 0 0, rfl, ?_, hb'⟩
          rw [← h]
          unfold f_X9_book
          simp only [nm]
          rw [m1 _ k2, m2 _ k2, m3]
          simp only [Option.bind_some]
          rw [if_neg bt0, if_neg bt0, if_neg bt0]
        rw [m_sure hN' s i (nI t) (by omega) (by omega) rfl rfl, m_least hN' s i (nI t) (by omega) (by omega) rfl rfl, m_most hN' s i (nI t) (by omega) (by omega) rfl rfl, m_doubtful hN', k2] at m
        simp only [Option.bind_some] at m
        rcases has_n a4 4 (by decide) with ⟨w, hw, rfl, -, e5⟩ | ⟨-, e5, e6⟩
        · rw [show f_X9_isIn (upI σ' 50 0 0) (nI w) 0 3 = true from e5 _] at m
          rcases (show w = 0 ∨ w = 1 ∨ w = 2 ∨ w = 3 by omega) with rfl | rfl | rfl | rfl
          · rw [if_pos (show nI 0 = 0 from rfl)]
            exact m _ rfl
          · rw [if_neg (show ¬ nI 1 = 0 by decide), if_pos (show nI 1 = 1 from rfl)]
            exact m _ rfl
          · rw [if_neg (show ¬ nI 2 = 0 by decide), if_neg (show ¬ nI 2 = 1 by decide), if_pos (show nI 2 = 2 from rfl)]
            exact m _ rfl
          · rw [if_neg (show ¬ nI 3 = 0 by decide), if_neg (show ¬ nI 3 = 1 by decide), if_neg (show ¬ nI 3 = 2 by decide), if_pos (show nI 3 = 3 from rfl)]
            exact m _ rfl
        · rw [show f_X9_isIn (upI σ' 50 0 0) a4 0 3 = false from e5 _] at m
          rw [if_neg (show ¬ a4 = 0 from e6 0 (by decide)), if_neg (show ¬ a4 = 1 from e6 1 (by decide)), if_neg (show ¬ a4 = 2 from e6 2 (by decide)), if_neg (show ¬ a4 = 3 from e6 3 (by decide))]
          exact m _ rfl
      · rw [e1 _ _ hC.1.1.1, e2 _ _ hC.1.1.2.1, if_neg bt0, if_neg bt0, if_neg bt0, e3, if_pos bf0]
        refine ⟨_, _, upI σ 50 0 0, rfl, ?_, hb⟩
        unfold f_X9_book
        simp only [nm]
        rw [m1 _ k1, m2 _ k1, m3]
        rfl
    · rw [e1 _ _ hC.1.1.1, e2 _ _ hC.1.1.2.1]
      refine ⟨_, _, upI σ 50 0 0, rfl, ?_, hb⟩
      unfold f_X9_book
      simp only [nm]
      rw [m1 _ k1, m2 _ k1]
      rfl
  · rw [e1 _ _ hC.1.1.1]
    refine ⟨_, _, upI σ 50 0 0, rfl, ?_, hb⟩
    unfold f_X9_book
    simp only [nm]
    rw [m1 _ k1]
    rfl
