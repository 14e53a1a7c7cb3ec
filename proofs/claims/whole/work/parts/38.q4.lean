/-! count, move: with what they throw -/
theorem Same.upL {a b : St} {k : Nat} {x : Int64} (h : Same a b) (h1 : ¬ (38 ≤ k ∧ k < 48)) : Same a (upL b k x) :=
  h.trans ⟨rfl, fun _ _ => rfl, ⟨rfl, rfl, rfl, rfl, rfl⟩, fun q h2 h3 => by
    show (if q = k then x else b.2.1 q) = _
    rw [if_neg (by omega)]⟩
theorem fin_c {σ : St} (z : Int32) (hI : Inv σ) : f_X9_thrown (upI (upL σ 57 z.toInt64) 50 0 0) = oR (some z) ∧ (∀ y, some z = some y → y = z) ∧ (∀ y, some z = some y → (upI (upL σ 57 z.toInt64) 50 0 0).2.1 57 = y.toInt64) ∧ Inv (upI (upL σ 57 z.toInt64) 50 0 0) := by
  refine ⟨up_s, fun y h => by cases h; rfl, fun y h => ?_, hI.keep (((Same.rf σ).upL (by omega)).trans (sm0 _ 0))⟩
  cases h
  rfl
theorem fin_n {σ : St} (hI : Inv σ) : f_X9_thrown (upI (upI σ 50 0 0) 50 0 1) = oR none ∧ (∀ y : Int32, none = some y → y = 0) ∧ (∀ y : Int32, none = some y → (upI (upI σ 50 0 0) 50 0 1).2.1 57 = y.toInt64) ∧ Inv (upI (upI σ 50 0 0) 50 0 1) :=
  ⟨up_s, fun _ h => by injection h, fun _ h => by injection h, hI.keep ((sm0 σ 0).trans (sm0 _ 1))⟩
theorem s_count : S_count Inv := by
  intro σ hI a1 a2
  obtain ⟨⟨hg, -⟩, hR, hC, -⟩ := id hI
  unfold f_X8_count
  rcases count_u hR.1 a1 with ⟨c, hc, rfl, e1, m1⟩ | ⟨e1, m1, -⟩
  · rw [e1 _ hC.2.2.1, if_neg bt0]
    have h7 := (cnum hR hc).2.2.2.2.2.2
    have q := hC.2.2.2 c hc
    have mm : ∀ (σ1 : St) (z : Int32), Same σ σ1 → (∃ w, w < 6 ∧ a2 = nI w ∧ z = ct (σ.1 52) c w) → f_X9_count (oS (some z) σ1) (nI c) a2 = some (z, upI (upL σ1 57 z.toInt64) 50 0 0) := by
      intro σ1 z hs ⟨w, hw, e2, hz⟩
      subst e2; subst hz
      have k2 : ∀ x, (upI (upL σ1 57 x) 50 0 0).1 52 = σ.1 52 := fun x => r52.trans (hs.2.1 52 (by unfold rel; omega))
      show f_X9_count (upL _ 57 _) _ _ = _
      unfold f_X9_count
      simp only [nm]
      refine ob (m1 _ (k2 _)) ?_
      rw [if_neg bt0]
      rcases has_n (nI w) 7 (by decide) with ⟨-, -, -, -, e5⟩ | ⟨-, -, e6⟩
      · rw [show f_X9_isIn _ (nI w) 0 6 = true from e5 _, if_neg bt0, if_neg (show ¬ (6 : Int32) ≤ nI w from nI_ge (b := 6) hw (by decide))]
        exact ob (m_ct hR (k2 _) hc rfl w hw rfl) rfl
      · exact absurd rfl (e6 w (by omega))
    have fin : ∀ w, w < 6 → a2 = nI w → ∃ (o : Option Int32) (σ1 : St) (b : Int32) (σ2 : St), (some (some (ct (σ.1 52) c w), σ) : Option (Option Int32 × St)) = some (o, σ1) ∧ f_X9_count (oS o σ1) (nI c) a2 = some (b, σ2) ∧ f_X9_thrown σ2 = oR o ∧ (∀ z, o = some z → z = b) ∧ (∀ z, o = some z → σ2.2.1 57 = z.toInt64) ∧ Inv σ2 := fun w hw e2 => ⟨_, _, _, _, rfl, mm σ _ (Same.rf σ) ⟨w, hw, e2, rfl⟩, fin_c _ hI⟩
    rcases has_n a2 7 (by decide) with ⟨w, hw, rfl, -, e5⟩ | ⟨-, e5, e6⟩
    · rcases (show w = 0 ∨ w = 1 ∨ w = 2 ∨ w = 3 ∨ w = 4 ∨ w = 5 ∨ w = 6 by omega) with rfl | rfl | rfl | rfl | rfl | rfl | rfl
      · rw [if_pos (show nI 0 = 0 from rfl), rd_at c rfl h7 (by decide), show σ.1 25 c = ct (σ.1 52) c 0 from q 0 (by decide)]
        exact fin 0 (by decide) rfl
      · rw [if_neg (show ¬ nI 1 = 0 by decide), if_pos (show nI 1 = 1 from rfl), rd_at c rfl h7 (by decide), show σ.1 26 c = ct (σ.1 52) c 1 from q 1 (by decide)]
        exact fin 1 (by decide) rfl
      · rw [if_neg (show ¬ nI 2 = 0 by decide), if_neg (show ¬ nI 2 = 1 by decide), if_pos (show nI 2 = 2 from rfl), rd_at c rfl h7 (by decide), show σ.1 27 c = ct (σ.1 52) c 2 from q 2 (by decide)]
        exact fin 2 (by decide) rfl
      · rw [if_neg (show ¬ nI 3 = 0 by decide), if_neg (show ¬ nI 3 = 1 by decide), if_neg (show ¬ nI 3 = 2 by decide), if_pos (show nI 3 = 3 from rfl), rd_at c rfl h7 (by decide), show σ.1 28 c = ct (σ.1 52) c 3 from q 3 (by decide)]
        exact fin 3 (by decide) rfl
      · rw [if_neg (show ¬ nI 4 = 0 by decide), if_neg (show ¬ nI 4 = 1 by decide), if_neg (show ¬ nI 4 = 2 by decide), if_neg (show ¬ nI 4 = 3 by decide), if_pos (show nI 4 = 4 from rfl), rd_at c rfl h7 (by decide), show σ.1 29 c = ct (σ.1 52) c 4 from q 4 (by decide)]
        exact fin 4 (by decide) rfl
      · rw [if_neg (show ¬ nI 5 = 0 by decide), if_neg (show ¬ nI 5 = 1 by decide), if_neg (show ¬ nI 5 = 2 by decide), if_neg (show ¬ nI 5 = 3 by decide), if_neg (show ¬ nI 5 = 4 by decide), if_pos (show nI 5 = 5 from rfl), rd_at c rfl h7 (by decide), show σ.1 30 c = ct (σ.1 52) c 5 from q 5 (by decide)]
        simp only [Option.bind_some]
        have hp := (hR.2.2.2.2.1 c hc).2.2.2.2.2
        rcases hp with z | z
        · rw [if_pos z, ← z]
          exact fin 5 (by decide) rfl
        · rw [if_neg (by rw [z]; decide), ← z]
          exact fin 5 (by decide) rfl
      · obtain ⟨σ', p0, p1⟩ := c_alw hg hR hC hc rfl
        rw [if_neg (show ¬ nI 6 = 0 by decide), if_neg (show ¬ nI 6 = 1 by decide), if_neg (show ¬ nI 6 = 2 by decide), if_neg (show ¬ nI 6 = 3 by decide), if_neg (show ¬ nI 6 = 4 by decide), if_neg (show ¬ nI 6 = 5 by decide), if_pos (show nI 6 = 6 from rfl), p0]
        refine ⟨_, _, _, _, rfl, ?_, fin_c (alwC (σ.1 52) c) (hI.keep p1.same)⟩
        have k2 : ∀ x, (upI (upL σ' 57 x) 50 0 0).1 52 = σ.1 52 := fun x => r52.trans (p1.1 52 (by decide) (by decide))
        show f_X9_count (upL _ 57 _) _ _ = _
        unfold f_X9_count
        simp only [nm]
        refine ob (m1 _ (k2 _)) ?_
        rw [if_neg bt0, show f_X9_isIn _ (nI 6) 0 6 = true from e5 _, if_neg bt0, if_pos (show (6 : Int32) ≤ nI 6 by decide)]
        exact ob (m_alw hR (k2 _) hc rfl) rfl
    · rw [if_neg (show ¬ a2 = 0 from e6 0 (by decide)), if_neg (show ¬ a2 = 1 from e6 1 (by decide)), if_neg (show ¬ a2 = 2 from e6 2 (by decide)), if_neg (show ¬ a2 = 3 from e6 3 (by decide)), if_neg (show ¬ a2 = 4 from e6 4 (by decide)), if_neg (show ¬ a2 = 5 from e6 5 (by decide)), if_neg (show ¬ a2 = 6 from e6 6 (by decide))]
      refine ⟨_, _, _, _, rfl, ?_, fin_n hI⟩
      show f_X9_count σ _ _ = _
      unfold f_X9_count
      simp only [nm]
      refine ob (m1 _ r52) ?_
      rw [if_neg bt0, show f_X9_isIn _ a2 0 6 = false from e5 _, if_pos bf0]
      rfl
  · rw [e1 _ hC.2.2.1, if_pos bf0]
    refine ⟨_, _, _, _, rfl, ?_, fin_n hI⟩
    show f_X9_count σ _ _ = _
    unfold f_X9_count
    simp only [nm]
    refine ob (m1 _ r52) ?_
    rw [if_pos bf0]
    rfl
/-- a move's numbers: 0 item, 1 sum, 10 .. 12 and 20 .. 22 its legs -/
theorem s_move : S_move Inv := by
  intro σ hI a1 a2
  obtain ⟨⟨hg, -⟩, hR, hC, -⟩ := id hI
  have hm40 := hR.1.2.2.1.2
  unfold f_X8_move
  rcases move_u hR.1 a1 with ⟨m, hm, rfl, e1, m1⟩ | ⟨e1, m1, -⟩
  · rw [e1 _ _ hC.1.1.2.2, if_neg bt0]
    obtain ⟨q1, q2⟩ := hC.1.2.2.2.1 m hm
    have isn : ∀ (τ : St) (a b : Nat), b < 1000 → ∀ x : Nat, x < 1000 → (f_X9_isIn τ (nI x) (nI a) (nI b) = (decide (a ≤ x) && decide (x ≤ b)) ∨ a ≥ 1000) := by
      intro τ a b hb x hx
      by_cases ha : a < 1000
      · left
        unfold f_X9_isIn
        by_cases z : x < a
        · rw [if_pos (by rw [lt_nI (by omega) (by omega)]; exact z)]
          rw [decide_eq_false (by omega : ¬ a ≤ x), Bool.false_and]
        · rw [if_neg (by rw [lt_nI (by omega) (by omega)]; exact z), decide_eq_true (by omega : a ≤ x), Bool.true_and]
          by_cases z2 : b < x
          · rw [if_pos (by rw [lt_nI (by omega) (by omega)]; exact z2), decide_eq_false (by omega)]
          · rw [if_neg (by rw [lt_nI (by omega) (by omega)]; exact z2), decide_eq_true (by omega)]
      · right; omega
    have mmv : ∀ w, w < 2 → a2 = nI w → f_X9_move (oS (some (σ.1 52 (45 + 10 * m + w))) σ) (nI m) a2 = some (σ.1 52 (45 + 10 * m + w), upI (upL σ 57 (σ.1 52 (45 + 10 * m + w)).toInt64) 50 0 0) := by
      intro w hw e
      subst e
      have k2 : ∀ x, (upI (upL σ 57 x) 50 0 0).1 52 = σ.1 52 := fun x => r52
      show f_X9_move (upL _ 57 _) _ _ = _
      unfold f_X9_move
      simp only [nm]
      have j1 : ∀ τ, f_X9_isIn τ (nI w) 10 12 = false := fun τ => by
        rcases isn τ 10 12 (by omega) w (by omega) with h | h
        · refine Eq.trans h ?_; rw [decide_eq_false (by omega), Bool.false_and]
        · omega
      have j2 : ∀ τ, f_X9_isIn τ (nI w) 20 22 = false := fun τ => by
        rcases isn τ 20 22 (by omega) w (by omega) with h | h
        · refine Eq.trans h ?_; rw [decide_eq_false (by omega), Bool.false_and]
        · omega
      have j3 : ∀ τ, f_X9_isIn τ (nI w) 0 1 = true := fun τ => by
        rcases isn τ 0 1 (by omega) w (by omega) with h | h
        · refine Eq.trans h ?_; rw [decide_eq_true (by omega), decide_eq_true (by omega)]; rfl
        · omega
      rw [j1, if_pos bf0, j2, if_pos bf0]
      unfold f_X9_move_b32
      refine ob (m1 _ (k2 _)) ?_
      rw [if_neg bt0, j3, if_neg bt0]
      unfold f_X9_move_b59
      rw [if_pos rfl]
      refine ob (m_moved m w rfl rfl (by omega) hw) ?_
      rw [k2]
    have mlg : ∀ (d w : Nat) (z : Int32), d < 2 → w < 3 → a2 = nI (10 * (d + 1) + w) → z = (if lg (σ.1 52) (2 * m + d) 0 = 1 then lg (σ.1 52) (2 * m + d) (1 + w) else -1) → f_X9_move (oS (some z) σ) (nI m) a2 = some (z, upI (upL σ 57 z.toInt64) 50 0 0) := by
      intro d w z hd hw e hz
      subst e
      have k2 : ∀ x, (upI (upL σ 57 x) 50 0 0).1 52 = σ.1 52 := fun x => r52
      have b59 : f_X9_move_b32 (nI m) (nI (10 * (d + 1) + w)) (upI (upL σ 57 z.toInt64) 50 0 0) 1 = some (z, upI (upL σ 57 z.toInt64) 50 0 0) := by
        have j3 : ∀ τ, f_X9_isIn τ (nI (10 * (d + 1) + w)) 0 1 = false := fun τ => by
          rcases isn τ 0 1 (by omega) (10 * (d + 1) + w) (by omega) with h | h
          · refine Eq.trans h ?_; rw [decide_eq_false (by omega : ¬ 10 * (d + 1) + w ≤ 1), Bool.and_false]
          · omega
        have hq : f_X9_move_b59 (nI m) (nI (10 * (d + 1) + w)) (upI (upL σ 57 z.toInt64) 50 0 0) 1 = some (z, upI (upL σ 57 z.toInt64) 50 0 0) := by
          unfold f_X9_move_b59
          rw [if_neg (by decide)]
          have hdv : nI (10 * (d + 1) + w) / 10 = nI (d + 1) := by
            refine (pk_div (d := 10) (by omega) (by decide) (by decide)).trans (congrArg nI (by omega))
          have hd1 : nI (10 * (d + 1) + w) / 10 - 1 = nI d := by
            rw [hdv, ← nI_1, Int32.add_sub_cancel]
          have hrm : 1 + (nI (10 * (d + 1) + w) - nI (10 * (d + 1) + w) / 10 * 10) = nI (1 + w) := by
            rw [show nI (10 * (d + 1) + w) - nI (10 * (d + 1) + w) / 10 * 10 = nI w from (pk_rem (d := 10) (by omega) (by decide) (by decide)).trans (congrArg nI (by omega))]
            exact nI_add 1 w
          simp only [nm]
          rw [hd1, hrm]
          refine ob (m_isThere (k := 2 * m + d) (congrArg nI (by omega)) (congrArg nI (by omega)) (by omega)) ?_
          rw [k2]
          by_cases z2 : lg (σ.1 52) (2 * m + d) 0 = 1
          · rw [if_neg (b2i_ne (decide_eq_true z2))]
            refine ob (m_legk (k := 2 * m + d) (w := 1 + w) (congrArg nI (by omega)) (congrArg nI (by omega)) rfl (by omega) (by omega)) ?_
            rw [k2, hz, if_pos z2]
          · rw [if_pos (b2i_eq (decide_eq_false z2)), hz, if_neg z2]
        unfold f_X9_move_b32
        refine ob (m1 _ (k2 _)) ?_
        rw [if_neg bt0, j3, if_pos bf0, if_neg (by decide), hq]
      show f_X9_move (upL _ 57 _) _ _ = _
      unfold f_X9_move
      simp only [nm]
      rcases (show d = 0 ∨ d = 1 by omega) with rfl | rfl
      · have j1 : ∀ τ, f_X9_isIn τ (nI (10 * (0 + 1) + w)) 10 12 = true := fun τ => by
          rcases isn τ 10 12 (by omega) (10 * (0 + 1) + w) (by omega) with h | h
          · refine Eq.trans h ?_; rw [decide_eq_true (by omega), decide_eq_true (by omega)]; rfl
          · omega
        rw [j1, if_neg bt0, b59]
      · have j1 : ∀ τ, f_X9_isIn τ (nI (10 * (1 + 1) + w)) 10 12 = false := fun τ => by
          rcases isn τ 10 12 (by omega) (10 * (1 + 1) + w) (by omega) with h | h
          · refine Eq.trans h ?_; rw [decide_eq_false (by omega : ¬ 10 * (1 + 1) + w ≤ 12), Bool.and_false]
          · omega
        have j2 : ∀ τ, f_X9_isIn τ (nI (10 * (1 + 1) + w)) 20 22 = true := fun τ => by
          rcases isn τ 20 22 (by omega) (10 * (1 + 1) + w) (by omega) with h | h
          · refine Eq.trans h ?_; rw [decide_eq_true (by omega), decide_eq_true (by omega)]; rfl
          · omega
        rw [j1, if_pos bf0, j2, if_neg bt0, b59]
    have cl : ∀ (d w : Nat), d < 2 → w < 3 → a2 = nI (10 * (d + 1) + w) → ∃ (o : Option Int32) (b : Int32) (σ2 : St), ((rd σ (σ.2.2.1 + (6 + w)) 80 (f_X8_legOf σ (nI m) (nI d))).bind fun v => some (some v)) = some o ∧ f_X9_move (oS o σ) (nI m) a2 = some (b, σ2) ∧ f_X9_thrown σ2 = oR o ∧ (∀ z, o = some z → z = b) ∧ (∀ z, o = some z → σ2.2.1 57 = z.toInt64) ∧ Inv σ2 := by
      intro d w hd hw e
      have hl : f_X8_legOf σ (nI m) (nI d) = nI (2 * m + d) := by
        unfold f_X8_legOf
        show nI 2 * nI m + nI d = _
        simp only [pk_mul, nI_add]
      refine ⟨_, _, _, ob (rd_at (2 * m + d) hl (by omega) (by decide)) rfl, mlg d w _ hd hw e ?_, fin_c _ hI⟩
      rcases hC.1.2.2.2.2 (2 * m + d) (by omega) with ⟨g0, g1, g2, g3⟩ | ⟨g0, g1, g2, g3⟩
      · rw [if_pos g0]
        rcases (show w = 0 ∨ w = 1 ∨ w = 2 by omega) with rfl | rfl | rfl
        · exact g1
        · exact g2
        · exact g3
      · rw [if_neg (by rw [g0]; decide)]
        rcases (show w = 0 ∨ w = 1 ∨ w = 2 by omega) with rfl | rfl | rfl
        · exact g1
        · exact g2
        · exact g3
    by_cases a0 : a2 = 0
    · rw [if_pos a0, rd_at m rfl (by omega) (by decide), q1]
      exact ⟨_, _, _, rfl, mmv 0 (by decide) a0, fin_c _ hI⟩
    · rw [if_neg a0]
      by_cases b1 : a2 = 1
      · rw [if_pos b1, rd_at m rfl (by omega) (by decide), q2]
        exact ⟨_, _, _, rfl, mmv 1 (by decide) b1, fin_c _ hI⟩
      · rw [if_neg b1]
        by_cases b2 : a2 = 10
        · rw [if_pos b2]
          exact cl 0 0 (by decide) (by decide) b2
        · rw [if_neg b2]
          by_cases b3 : a2 = 11
          · rw [if_pos b3]
            exact cl 0 1 (by decide) (by decide) b3
          · rw [if_neg b3]
            by_cases b4 : a2 = 12
            · rw [if_pos b4]
              exact cl 0 2 (by decide) (by decide) b4
            · rw [if_neg b4]
              by_cases b5 : a2 = 20
              · rw [if_pos b5]
                exact cl 1 0 (by decide) (by decide) b5
              · rw [if_neg b5]
                by_cases b6 : a2 = 21
                · rw [if_pos b6]
                  exact cl 1 1 (by decide) (by decide) b6
                · rw [if_neg b6]
                  by_cases b7 : a2 = 22
                  · rw [if_pos b7]
                    exact cl 1 2 (by decide) (by decide) b7
                  · rw [if_neg b7]
                    refine ⟨_, _, _, rfl, ?_, fin_n hI⟩
                    have ins : ∀ (τ : St) (lo n : Nat), lo < 1000 → n < 1000 → (∀ j, j < n → a2 ≠ nI (lo + j)) → f_X9_isIn τ a2 (nI lo) (nI (lo + n) - 1) = false := by
                      intro τ lo n h1 h2 h3
                      unfold f_X9_isIn
                      by_cases c1 : a2 < nI lo
                      · rw [if_pos c1]
                      · rw [if_neg c1]
                        by_cases c2 : nI (lo + n) - 1 < a2
                        · rw [if_pos c2]
                        · exfalso
                          rcases ix_cases a2 (lo + n) (by omega) with h | ⟨h, h5⟩ | ⟨j, hj, e⟩
                          · exact c1 (Int32.lt_of_lt_of_le h (Int32.not_lt.mp (nI_pos (by omega))))
                          · apply c2
                            have h6 := Int32.le_iff_toInt_le.mp h5
                            rw [nI_toInt (by omega)] at h6
                            rw [Int32.lt_iff_toInt_lt, show (nI (lo + n) - 1).toInt = _ from pk_sub_toInt (a := lo + n) (b := 1) (by omega) (by decide)]
                            omega
                          · have : lo ≤ j := by
                              rw [e, lt_nI (by omega) (by omega)] at c1
                              omega
                            exact h3 (j - lo) (by omega) (e.trans (congrArg nI (by omega)))
                    have c3 : ∀ (lo : Nat), a2 ≠ nI (lo + 0) → a2 ≠ nI (lo + 1) → a2 ≠ nI (lo + 2) → ∀ j, j < 3 → a2 ≠ nI (lo + j) := by
                      intro lo h0 h1 h2 j hj
                      rcases (show j = 0 ∨ j = 1 ∨ j = 2 by omega) with rfl | rfl | rfl
                      · exact h0
                      · exact h1
                      · exact h2
                    show f_X9_move σ _ _ = _
                    unfold f_X9_move
                    simp only [nm]
                    rw [show f_X9_isIn _ a2 10 12 = false from ins _ 10 3 (by decide) (by decide) (c3 10 b2 b3 b4), if_pos bf0, show f_X9_isIn _ a2 20 22 = false from ins _ 20 3 (by decide) (by decide) (c3 20 b5 b6 b7), if_pos bf0]
                    unfold f_X9_move_b32
                    refine ob (m1 _ r52) ?_
                    rw [if_neg bt0, show f_X9_isIn _ a2 0 1 = false from ins _ 0 2 (by decide) (by decide) (fun j hj => by
                      rcases (show j = 0 ∨ j = 1 by omega) with rfl | rfl
                      · exact a0
                      · exact b1), if_pos bf0, if_pos rfl]
                    rfl
  · rw [e1 _ _ hC.1.1.2.2, if_pos bf0]
    refine ⟨_, _, _, rfl, ?_, fin_n hI⟩
    have hb : ∀ x, f_X9_move_b32 a1 a2 (upI σ 50 0 0) x = some (0, upI (upI σ 50 0 0) 50 0 1) := by
      intro x
      unfold f_X9_move_b32
      refine ob (m1 _ r52) ?_
      rw [if_pos bf0]
      rfl
    show f_X9_move σ _ _ = _
    unfold f_X9_move
    simp only [nm]
    rw [hb, hb, ite_self, ite_self]
