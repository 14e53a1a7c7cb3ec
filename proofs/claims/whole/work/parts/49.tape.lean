/-! the tape: end -/
theorem Inv.tp {σ τ : St} (h : Inv σ) (k1 : τ.2 = σ.2) (k2 : ∀ c, (6 ≤ c ∧ c < 48) ∨ c = 52 ∨ c = 54 → τ.1 c = σ.1 c) (k4 : τ.1 1 6 = σ.1 1 6) (k6 : τ.1 50 8 = σ.1 50 8) (k7 : τ.1 50 14 = σ.1 50 14) (ht : Tp τ) : Inv τ := by
  obtain ⟨h1, h2, h3, -, h5, h6⟩ := h
  have e52 : τ.1 52 = σ.1 52 := k2 52 (by omega)
  have e54 : τ.1 54 = σ.1 54 := k2 54 (by omega)
  have e36 : τ.1 36 = σ.1 36 := k2 36 (by omega)
  unfold Inv
  rw [k1, e52, k4, k6]
  refine ⟨h1, h2, ?_, ht, h5, ?_⟩
  · obtain ⟨g1, g2, g3⟩ := h3
    have hg := h1.1
    refine ⟨?_, ?_, ?_⟩
    · have e : ∀ d, d < 9 → τ.1 (σ.2.2.1 + d) = σ.1 (σ.2.2.1 + d) := fun d hd => k2 _ (by rcases hg with z | z <;> rw [z] <;> omega)
      unfold ClsG at g1 ⊢
      rw [show τ.1 σ.2.2.1 = σ.1 σ.2.2.1 from e 0 (by decide), e 1 (by decide), e 2 (by decide), e 3 (by decide), e 4 (by decide), e 5 (by decide), e 6 (by decide), e 7 (by decide), e 8 (by decide)]
      exact g1
    · unfold ClsA at g2 ⊢
      rw [k2 31 (by omega), k2 32 (by omega), k2 33 (by omega), k2 34 (by omega), k2 35 (by omega)]
      exact g2
    · refine ⟨by rw [k2 24 (by omega)]; exact g3.1, fun c hc w hw => ?_⟩
      rw [k2 (25 + w) (by omega)]
      exact g3.2 c hc w hw
  · obtain ⟨js, nx, j1, j2, j3, j4, j5, j6⟩ := h6
    refine ⟨js, nx, j1, j2, by rw [e36]; exact j3, by rw [k7]; exact j4, by rw [e36]; exact j5, fun j hj => ?_⟩
    have es : ∀ q, stR τ js q = stR σ js q := fun q => by
      cases q with
      | zero => exact e52
      | succ q => show (fun k => τ.1 54 _) = fun k => σ.1 54 _; rw [e54]
    have ea : actN nx j < 48 ∧ 38 ≤ actN nx j := by unfold actN; omega
    rw [es, es, k2 (actN nx j) (by omega), k1]
    exact j6 j hj
theorem s_end : S_end Inv := by
  intro σ hI a1
  obtain ⟨n, hn, t1, t2, t3⟩ := hI.2.2.2.1
  have hb : Inv (upI σ 50 0 0) := hI.keep (sm0 σ 0)
  unfold f_X8_end
  by_cases z : a1 < 0
  · rw [if_pos z]
    refine ⟨_, _, upI σ 50 0 0, rfl, ?_, hb⟩
    unfold f_X9_end
    simp only [nm]
    rw [if_pos z]
  · rw [if_neg z, t1]
    by_cases w : a1 ≤ nI n
    · rw [if_pos w]
      obtain ⟨m, hm, e⟩ : ∃ m, m ≤ n ∧ a1 = nI m := by
        rcases ix_cases a1 (n + 1) (by omega) with q | ⟨-, q⟩ | ⟨j, hj, q⟩
        · exact absurd q z
        · have := Int32.le_trans q w
          rw [le_nI (by omega) (by omega)] at this
          omega
        · exact ⟨j, by omega, q⟩
      refine ⟨_, _, upI (upI (upI σ 2 0 a1) 50 0 0) 50 2 a1, rfl, ?_, ?_⟩
      · unfold f_X9_end
        simp only [nm]
        rw [if_neg z, up_j (by decide), up_k (by decide), t2, if_pos w]
      · refine hI.tp rfl (fun c hc => ?_) ?_ ?_ ?_ ?_
        · rw [up_k (by omega), up_k (by omega), up_k (by omega)]
        · rw [up_k (by decide), up_k (by decide), up_k (by decide)]
        · rw [up_j (by decide), up_j (by decide), up_k (by decide)]
        · rw [up_j (by decide), up_j (by decide), up_k (by decide)]
        · refine ⟨m, by omega, ?_, ?_, fun j hj => ?_⟩
          · rw [up_k (by decide), up_k (by decide), up_s, e]
          · rw [up_s, e]
          · rw [up_k (by decide), up_k (by decide), up_k (by decide), up_k (by decide), up_k (by decide), up_k (by decide)]
            exact t3 j (by omega)
    · rw [if_neg w]
      refine ⟨_, _, upI σ 50 0 0, rfl, ?_, hb⟩
      unfold f_X9_end
      simp only [nm]
      rw [if_neg z, up_j (by decide), t2, if_neg w]
