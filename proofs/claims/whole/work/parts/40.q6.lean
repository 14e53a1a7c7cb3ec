/-! share -/
theorem ckN_some {x : UInt32} (h : Jvm.FP.Core.fIsNaN x = false) : ckN x = some () := by
  have h1 := (Jvm.FP.Core.ne_nan32 x).mp ((Jvm.FP.Core.notNaN_iff32 x).mp h)
  unfold ckN
  rw [if_pos]
  rw [UInt32.le_iff_toNat_le, UInt32.toNat_and, show (0x7fffffff : UInt32).toNat = 2 ^ 31 - 1 from rfl, Nat.and_two_pow_sub_one_eq_mod]
  exact h1
theorem fl_ok {d v : Int32} (hv : v ≠ 0) : ckN (FP.fmul 1148846080 (FP.i2f d)) = some () ∧ ckN (FP.fdiv (FP.fmul 1148846080 (FP.i2f d)) (FP.i2f v)) = some () := by
  have h1 : Jvm.FP.Core.fIsNaN (Jvm.FP.Core.fmul 1148846080 (Jvm.FP.Core.i2f d)) = false := Jvm.FP.Core.fmul_out ((Jvm.FP.Core.fin_bits32 _).mpr (by decide)) (Jvm.FP.Core.i2f_fin d)
  refine ⟨ckN_some h1, ckN_some (Jvm.FP.Core.fdiv_out h1 (Jvm.FP.Core.i2f_fin v) ?_)⟩
  intro hz
  have h2 := Jvm.FP.Core.i2f_ne_zero hv
  exact h2 ((Jvm.FP.Core.zero_bits232 _).mp hz)
theorem s_share : S_share Inv := by
  intro σ hI a1
  obtain ⟨⟨hg, -⟩, hR, hC, -⟩ := id hI
  unfold f_X8_share
  rcases count_u hR.1 a1 with ⟨c, hc, rfl, e1, m1⟩ | ⟨e1, m1, -⟩
  · obtain ⟨σ', p0, p1, p2⟩ := c_dif hg hR hC hc rfl
    rw [e1 _ hC.2.2.1, if_neg bt0, p0]
    simp only [Option.bind_some]
    rw [p2]
    have k2 : (upI σ' 50 0 0).1 52 = σ.1 52 := r52.trans (p1.1 52 (by decide) (by decide))
    have hb := (hI.keep p1.same).keep (sm0 σ' 0)
    by_cases z : sureC (σ.1 52) c = 0
    · rw [if_pos z]
      refine ⟨_, _, upI σ' 50 0 0, rfl, ?_, hb⟩
      unfold f_X9_share
      simp only [nm]
      refine ob (m1 _ k2) ?_
      rw [if_neg bt0]
      refine ob (m_sureOf hR k2 hc rfl) ?_
      rw [if_pos z]
    · obtain ⟨f1, f2⟩ := fl_ok (d := difC (σ.1 52) c) z
      rw [if_neg z, f1, f2]
      refine ⟨_, _, upI σ' 50 0 0, rfl, ?_, hb⟩
      unfold f_X9_share
      simp only [nm]
      refine ob (m1 _ k2) ?_
      rw [if_neg bt0]
      refine ob (m_sureOf hR k2 hc rfl) ?_
      rw [if_neg z]
      exact ob (m_dif hR k2 hc rfl) (ob f1 (ob f2 rfl))
  · rw [e1 _ hC.2.2.1, if_pos bf0]
    refine ⟨_, _, upI σ 50 0 0, rfl, ?_, hI.keep (sm0 σ 0)⟩
    unfold f_X9_share
    simp only [nm]
    refine ob (m1 _ r52) ?_
    rw [if_pos bf0]
