/-! the chosen count -/
theorem Cls.off {σ σ' : St} {R : Nat → Int32} (hg : isG σ.2.2.1) (h : Off σ σ') (hC : Cls σ σ.2.2.1 R) : isG σ'.2.2.1 ∧ Cls σ' σ'.2.2.1 R := by
  have e : σ'.2.2.1 = σ.2.2.1 := by rw [h.2]
  rw [e]
  exact ⟨hg, hC.1.off hg h, hC.2.1.off h, hC.2.2.off h⟩
theorem mid_eq (σ : St) {a b c : Int32} {α : Type} {x y z : α} : (if a = f_X8_middleOf σ a b c then x else (if b = f_X8_middleOf σ a b c then y else z)) = (if ¬ b < a ∧ c ≤ a then x else if ¬ a < b ∧ ¬ c < a then x else if ¬ a < b ∧ c ≤ b then y else if b < a then z else if c < b then z else y) := by
  have i : ∀ p q : Int32, (p = q) = (p.toInt = q.toInt) := fun p q => propext Int32.toInt_inj.symm
  have l : ∀ p q : Int32, (p < q) = (p.toInt < q.toInt) := fun p q => propext Int32.lt_iff_toInt_lt
  have m : ∀ p q : Int32, (p ≤ q) = (p.toInt ≤ q.toInt) := fun p q => propext Int32.le_iff_toInt_le
  unfold f_X8_middleOf
  simp only [i, l, m, apply_ite Int32.toInt]
  repeat' split
  all_goals first | rfl | (exfalso; omega)
/-- what may be chosen -/
def OpR (R : Nat → Int32) (s i r : Int32) : Prop := r = -1 ∨ r = -2 ∨ ∃ c, c < nC R ∧ r = nI c ∧ opB R s i c = true
theorem OpR.ite {R : Nat → Int32} {s i a b : Int32} {p : Prop} [Decidable p] (h1 : OpR R s i a) (h2 : OpR R s i b) : OpR R s i (if p then a else b) := by
  by_cases z : p
  · rw [if_pos z]; exact h1
  · rw [if_neg z]; exact h2
theorem ch2 {σ τ : St} {R : Nat → Int32} (hg : isG σ.2.2.1) (hR : RowOk R) (hC : Cls σ σ.2.2.1 R) (hτ : τ.1 52 = R) (s i : Int32) : ∃ (r : Int32) (σ' τ' : St), f_X8_chosenOf σ s i = some (r, σ') ∧ Off σ σ' ∧ f_X9_choose τ s i = some (r, τ') ∧ Same τ τ' ∧ OpR R s i r := by
  obtain ⟨τ', f, n, l1, l2, l3, l4, l5⟩ := m_laysOpen hR hτ s i
  have hn40 := hR.1.2.2.2.1.2
  have hnk := l4.1
  have hτ' : τ'.1 52 = R := (l2.2.1 52 (by unfold rel; omega)).trans hτ
  have F : ∀ j, j < n → f j < nC R := fun j hj => (l4.2.1 j hj).1
  have O : ∀ j, j < n → OpR R s i (nI (f j)) := fun j hj => Or.inr (Or.inr ⟨f j, F j hj, rfl, (l4.2.1 j hj).2⟩)
  have M : ∀ j a, j < n → a = nI j → rd τ' 55 40 a = some (nI (f j)) := fun j a hj ha => by
    rw [rd_at j ha (by omega) (by decide), l5 j hj]
  have D : ∀ j, j < n → f_X9_differenceOf τ' (nI (f j)) = some (difC R (f j)) := fun j hj => m_dif hR hτ' (F j hj) rfl
  have A : ∀ j, j < n → f_X9_allowed τ' (nI (f j)) = some (alwC R (f j)) := fun j hj => m_alw hR hτ' (F j hj) rfl
  obtain ⟨r1, o1, o2⟩ := c_openFirst hR hC.2.2 s i
  rcases fst_at l4 o2 with ⟨n0, e⟩ | ⟨n1, e⟩
  · refine ⟨-1, σ, τ', ?_, Off.rf σ, ?_, l2, Or.inl rfl⟩
    · unfold f_X8_chosenOf
      refine ob o1 ?_
      rw [if_pos e]
    · unfold f_X9_choose
      refine ob l1 ?_
      rw [if_pos (show τ'.1 50 19 = 0 by rw [l3, n0]; rfl)]
  · subst e
    have f0 : ¬ nI (f 0) = -1 := nI_m1 (by have := F 0 (by omega); omega)
    have nn : ¬ τ'.1 50 19 = 0 := by rw [l3]; exact nI_ne0 (by omega) (by omega)
    obtain ⟨σ1, p0, p1, -⟩ := c_dif hg hR hC (F 0 (by omega)) rfl
    obtain ⟨g1, c1⟩ := Cls.off hg p1 hC
    obtain ⟨σ2, p2, p3⟩ := c_alw g1 hR c1 (F 0 (by omega)) rfl
    obtain ⟨g2, c2⟩ := Cls.off g1 p3 c1
    have o12 := p1.trans p3
    by_cases z : alwC R (f 0) < (if 0 ≤ difC R (f 0) then difC R (f 0) else 0 - difC R (f 0))
    · have z' : alwC R (f 0) < f_X9_far τ' (difC R (f 0)) 0 := by rw [far_0]; exact z
      obtain ⟨r6, a1, a2⟩ := c_openAhead hR c2.2.2 s i 1000 (Nat.le_refl _)
      have a3 : r6 = nI (f (n - 1)) := by
        rcases ahd_at l4 (Nat.le_refl n) (fun j hj => ⟨fun _ => hj, fun _ => by have := (tnum hR (F j hj)).1; omega⟩) a2 with ⟨q, -⟩ | ⟨-, q⟩
        · omega
        · exact q
      have f6 : ¬ r6 = -1 := by rw [a3]; exact nI_m1 (by have := F (n - 1) (by omega); omega)
      by_cases w1 : n = 1
      · refine ⟨-2, σ2, τ', ?_, o12, ?_, l2, Or.inr (Or.inl rfl)⟩
        · unfold f_X8_chosenOf
          refine ob o1 ?_
          rw [if_neg f0]
          refine ob p0 (ob p2 ?_)
          dsimp only
          rw [if_pos z]
          refine ob a1 ?_
          rw [if_neg f6, if_pos (by rw [a3, w1])]
        · unfold f_X9_choose
          refine ob l1 ?_
          rw [if_neg nn]
          refine ob (M 0 _ (by omega) rfl) (ob (D 0 (by omega)) (ob (M 0 _ (by omega) rfl) (ob (A 0 (by omega)) ?_)))
          rw [if_pos z', if_pos (show τ'.1 50 19 = 1 by rw [l3, w1]; rfl)]
      · have ne6 : ¬ r6 = nI (f 0) := by rw [a3, lst_inj l4 hn40 (by omega) (by omega)]; omega
        have h27 : rd σ2 27 40 r6 = some (nI (tC R (f (n - 1)))) := by
          rw [rd_at (f (n - 1)) a3 (by have := F (n - 1) (by omega); omega) (by decide), show σ2.1 27 (f (n - 1)) = ct R (f (n - 1)) 2 from c2.2.2.2 _ (F (n - 1) (by omega)) 2 (by decide), (tnum hR (F (n - 1) (by omega))).2]
        obtain ⟨r10, a4, a5⟩ := c_openAhead hR c2.2.2 s i (tC R (f (n - 1))) (by have := (tnum hR (F (n - 1) (by omega))).1; omega)
        have a6 : r10 = nI (f (n - 2)) := by
          rcases ahd_at l4 (show n - 1 ≤ n by omega) (fun j hj => lst_lt l4 hj (by omega)) a5 with ⟨q, -⟩ | ⟨-, q⟩
          · omega
          · rw [q, show n - 1 - 1 = n - 2 by omega]
        have f10 : ¬ r10 = -1 := by rw [a6]; exact nI_m1 (by have := F (n - 2) (by omega); omega)
        by_cases w2 : n = 2
        · subst w2
          obtain ⟨σ3, p4, p5, -⟩ := c_dif g2 hR c2 (F 0 (by omega)) rfl
          obtain ⟨g3, c3⟩ := Cls.off g2 p5 c2
          obtain ⟨σ4, p6, p7, -⟩ := c_dif g3 hR c3 (F 1 (by omega)) a3
          obtain ⟨g4, c4⟩ := Cls.off g3 p7 c3
          obtain ⟨σ5, p8, p9⟩ := c_alw g4 hR c4 (F 1 (by omega)) a3
          have o15 := ((o12.trans p5).trans p7).trans p9
          have b1 := dif_b hR (F 0 (by omega))
          have b2 := dif_b hR (F 1 (by omega))
          have hfar := far_eq b1.1 b1.2 b2.1 b2.2 τ'
          refine ⟨if alwC R (f 1) < f_X9_far τ' (difC R (f 0)) (difC R (f 1)) then -2 else nI (f 1), σ5, τ', ?_, o15, ?_, l2, OpR.ite (Or.inr (Or.inl rfl)) (O 1 (by omega))⟩
          · unfold f_X8_chosenOf
            refine ob o1 ?_
            rw [if_neg f0]
            refine ob p0 (ob p2 ?_)
            dsimp only
            rw [if_pos z]
            refine ob a1 ?_
            rw [if_neg f6, if_neg ne6]
            refine ob h27 (ob a4 ?_)
            rw [if_neg f10, if_pos a6]
            unfold f_X8_chosenOf_b97
            refine ob p4 (ob p6 ?_)
            simp only [nm]
            refine ob p8 ?_
            dsimp only
            by_cases w : alwC R (f 1) < f_X9_far τ' (difC R (f 0)) (difC R (f 1))
            · have w' := w
              rw [hfar] at w'
              rw [if_pos w', if_pos w]
            · have w' := w
              rw [hfar] at w'
              rw [if_neg w', if_neg w, a3]
          · unfold f_X9_choose
            refine ob l1 ?_
            rw [if_neg nn]
            refine ob (M 0 _ (by omega) rfl) (ob (D 0 (by omega)) (ob (M 0 _ (by omega) rfl) (ob (A 0 (by omega)) ?_)))
            rw [if_pos z', if_neg (show ¬ τ'.1 50 19 = 1 by rw [l3]; decide), if_pos (show τ'.1 50 19 = 2 by rw [l3]; rfl)]
            refine ob (M 0 _ (by omega) rfl) (ob (D 0 (by omega)) (ob (M 1 _ (by omega) rfl) (ob (D 1 (by omega)) (ob (M 1 _ (by omega) rfl) (ob (A 1 (by omega)) ?_)))))
            by_cases w : alwC R (f 1) < f_X9_far τ' (difC R (f 0)) (difC R (f 1))
            · rw [if_pos w, if_pos w]
            · rw [if_neg w, if_neg w]
              exact ob (M 1 _ (by omega) rfl) rfl
        · have ne10 : ¬ r10 = nI (f 0) := by rw [a6, lst_inj l4 hn40 (by omega) (by omega)]; omega
          have h27' : rd σ2 27 40 r10 = some (nI (tC R (f (n - 2)))) := by
            rw [rd_at (f (n - 2)) a6 (by have := F (n - 2) (by omega); omega) (by decide), show σ2.1 27 (f (n - 2)) = ct R (f (n - 2)) 2 from c2.2.2.2 _ (F (n - 2) (by omega)) 2 (by decide), (tnum hR (F (n - 2) (by omega))).2]
          obtain ⟨r19, a7, a8⟩ := c_openAhead hR c2.2.2 s i (tC R (f (n - 2))) (by have := (tnum hR (F (n - 2) (by omega))).1; omega)
          have a9 : r19 = nI (f (n - 3)) := by
            rcases ahd_at l4 (show n - 2 ≤ n by omega) (fun j hj => lst_lt l4 hj (by omega)) a8 with ⟨q, -⟩ | ⟨-, q⟩
            · omega
            · rw [q, show n - 2 - 1 = n - 3 by omega]
          have f19 : ¬ r19 = -1 := by rw [a9]; exact nI_m1 (by have := F (n - 3) (by omega); omega)
          obtain ⟨σ3, p4, p5, -⟩ := c_dif g2 hR c2 (F (n - 3) (by omega)) a9
          obtain ⟨g3, c3⟩ := Cls.off g2 p5 c2
          obtain ⟨σ4, p6, p7, -⟩ := c_dif g3 hR c3 (F (n - 2) (by omega)) a6
          obtain ⟨g4, c4⟩ := Cls.off g3 p7 c3
          obtain ⟨σ5, p8, p9, -⟩ := c_dif g4 hR c4 (F (n - 1) (by omega)) a3
          have o15 := ((o12.trans p5).trans p7).trans p9
          have E3 : τ'.1 50 19 - 3 = nI (n - 3) := by rw [l3]; exact pk_sub (b := 3) (by omega)
          have E2 : τ'.1 50 19 - 2 = nI (n - 2) := by rw [l3]; exact pk_sub (b := 2) (by omega)
          have E1 : τ'.1 50 19 - 1 = nI (n - 1) := by rw [l3]; exact pk_sub (b := 1) (by omega)
          have M3 := M (n - 3) _ (by omega) E3
          have M2 := M (n - 2) _ (by omega) E2
          have M1 := M (n - 1) _ (by omega) E1
          refine ⟨(if ¬ difC R (f (n - 2)) < difC R (f (n - 3)) ∧ difC R (f (n - 1)) ≤ difC R (f (n - 3)) then nI (f (n - 3)) else if ¬ difC R (f (n - 3)) < difC R (f (n - 2)) ∧ ¬ difC R (f (n - 1)) < difC R (f (n - 3)) then nI (f (n - 3)) else if ¬ difC R (f (n - 3)) < difC R (f (n - 2)) ∧ difC R (f (n - 1)) ≤ difC R (f (n - 2)) then nI (f (n - 2)) else if difC R (f (n - 2)) < difC R (f (n - 3)) then nI (f (n - 1)) else if difC R (f (n - 1)) < difC R (f (n - 2)) then nI (f (n - 1)) else nI (f (n - 2))), σ5, τ', ?_, o15, ?_, l2, OpR.ite (O (n - 3) (by omega)) (OpR.ite (O (n - 3) (by omega)) (OpR.ite (O (n - 2) (by omega)) (OpR.ite (O (n - 1) (by omega)) (OpR.ite (O (n - 1) (by omega)) (O (n - 2) (by omega))))))⟩
          rotate_left
          · unfold f_X9_choose
            refine ob l1 ?_
            rw [if_neg nn]
            refine ob (M 0 _ (by omega) rfl) (ob (D 0 (by omega)) (ob (M 0 _ (by omega) rfl) (ob (A 0 (by omega)) ?_)))
            rw [if_pos z', if_neg (show ¬ τ'.1 50 19 = 1 by rw [l3]; exact fun q => w1 (nI_inj (b := 1) (by omega) (by decide) q)), if_neg (show ¬ τ'.1 50 19 = 2 by rw [l3]; exact fun q => w2 (nI_inj (b := 2) (by omega) (by decide) q))]
            refine ob M3 (ob (D (n - 3) (by omega)) (ob M2 (ob (D (n - 2) (by omega)) (ob M1 (ob (D (n - 1) (by omega)) ?_)))))
            unfold f_X9_choose_b178 f_X9_choose_b202 f_X9_choose_b215
            rw [M1, M2, M3]
            simp only [Option.bind_some]
            generalize difC R (f (n - 3)) = a
            generalize difC R (f (n - 2)) = b
            generalize difC R (f (n - 1)) = c
            by_cases q1 : b < a <;> by_cases q2 : c ≤ a <;> by_cases q3 : a < b <;> by_cases q4 : c < a <;> by_cases q5 : c ≤ b <;> by_cases q6 : c < b <;> simp only [q1, q2, q3, q4, q5, q6, if_true, if_false, not_true, not_false_iff, and_true, and_false, true_and, false_and]
          · unfold f_X8_chosenOf
            refine ob o1 ?_
            rw [if_neg f0]
            refine ob p0 (ob p2 ?_)
            dsimp only
            rw [if_pos z]
            refine ob a1 ?_
            rw [if_neg f6, if_neg ne6]
            refine ob h27 (ob a4 ?_)
            rw [if_neg f10, if_neg ne10]
            refine ob h27' (ob a7 ?_)
            rw [if_neg f19]
            refine ob p4 (ob p6 (ob p8 ?_))
            simp only [nm]
            rw [mid_eq σ5, a9, a6, a3]
            generalize difC R (f (n - 3)) = a
            generalize difC R (f (n - 2)) = b
            generalize difC R (f (n - 1)) = c
            by_cases q1 : b < a <;> by_cases q2 : c ≤ a <;> by_cases q3 : a < b <;> by_cases q4 : c < a <;> by_cases q5 : c ≤ b <;> by_cases q6 : c < b <;> simp only [q1, q2, q3, q4, q5, q6, if_true, if_false, not_true, not_false_iff, and_true, and_false, true_and, false_and]
    · have z' : ¬ alwC R (f 0) < f_X9_far τ' (difC R (f 0)) 0 := by rw [far_0]; exact z
      refine ⟨nI (f 0), σ2, τ', ?_, o12, ?_, l2, O _ (by omega)⟩
      · unfold f_X8_chosenOf
        refine ob o1 ?_
        rw [if_neg f0]
        refine ob p0 (ob p2 ?_)
        dsimp only
        rw [if_neg z]
      · unfold f_X9_choose
        refine ob l1 ?_
        rw [if_neg nn]
        refine ob (M 0 _ (by omega) rfl) (ob (D 0 (by omega)) (ob (M 0 _ (by omega) rfl) (ob (A 0 (by omega)) ?_)))
        rw [if_neg z']
        exact ob (M 0 _ (by omega) rfl) rfl
theorem ch {σ τ : St} {R : Nat → Int32} (hg : isG σ.2.2.1) (hR : RowOk R) (hC : Cls σ σ.2.2.1 R) (hτ : τ.1 52 = R) (s i : Int32) : ∃ (r : Int32) (σ' τ' : St), f_X8_chosenOf σ s i = some (r, σ') ∧ Off σ σ' ∧ f_X9_choose τ s i = some (r, τ') ∧ Same τ τ' := by
  obtain ⟨r, σ', τ', h1, h2, h3, h4, -⟩ := ch2 hg hR hC hτ s i
  exact ⟨r, σ', τ', h1, h2, h3, h4⟩
