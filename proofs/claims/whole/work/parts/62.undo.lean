theorem m_undoL {js : Nat} (hj : js < 10) : ∀ (d k n : Nat) (σ : St), k + d = 845 → d < n → σ.1 50 14 = nI js → ∃ τ, f_X9_undo_b26 n σ (nI k) = some (nI js, τ) ∧ τ.2 = σ.2 ∧ (∀ c, c ≠ 52 → τ.1 c = σ.1 c) ∧ (∀ q, q < k → τ.1 52 q = σ.1 52 q) ∧ ∀ q, k ≤ q → q < 845 → τ.1 52 q = σ.1 54 (845 * js + q)
  | 0, k, n, σ, h1, h2, h3 => by
    obtain ⟨n, rfl⟩ : ∃ m, n = m + 1 := ⟨n - 1, by omega⟩
    refine ⟨σ, ?_, rfl, fun _ _ => rfl, fun _ _ => rfl, fun q h4 h5 => by omega⟩
    rw [f_X9_undo_b26, if_pos (show (845 : Int32) ≤ nI k from (nI_leI (a := 845) (by omega) (by omega)).mpr (by omega)), h3]
  | d + 1, k, n, σ, h1, h2, h3 => by
    obtain ⟨n, rfl⟩ : ∃ m, n = m + 1 := ⟨n - 1, by omega⟩
    obtain ⟨τ, t1, t2, t3, t4, t5⟩ := m_undoL hj d (k + 1) n (upI σ 52 k (σ.1 54 (845 * js + k))) (by omega) (by omega) (by rw [up_k (by decide)]; exact h3)
    refine ⟨τ, ?_, t2, fun c hc => by rw [t3 c hc, up_k hc], fun q hq => by rw [t4 q (by omega), up_j (by omega)], fun q h4 h5 => ?_⟩
    · rw [f_X9_undo_b26, if_neg (show ¬ (845 : Int32) ≤ nI k from nI_ge (b := 845) (by omega) (by omega))]
      refine ob (rd_at (845 * js + k) ?_ (by omega) (by decide)) (ob (wr_at k rfl (by omega) (by decide)) ?_)
      · rw [h3]
        show nI 845 * nI js + nI k = _
        rw [pk_mul, nI_add]
      · rw [nm_q, nI_1]
        exact t1
    · by_cases z : q = k
      · rw [z, t4 k (by omega), up_s]
      · rw [t5 q (by omega) h5, up_k (by decide)]
theorem s_undo : S_undo Inv := by
  intro σ hI
  obtain ⟨⟨hg, hs, hgs⟩, hR, hC, hT, hF, js, nx, j1, j2, j3, j4, j5, j6⟩ := id hI
  have k1 := r52 (σ := σ) (j := 0) (x := 0)
  have hb : Inv (upI σ 50 0 0) := hI.keep (sm0 σ 0)
  unfold f_X8_undo
  rw [j3]
  by_cases z : js = 0
  · rw [if_neg (show ¬ (0 : Int32) < nI js by rw [z]; decide)]
    refine ⟨-1, σ, upI σ 50 0 0, rfl, ?_, hb⟩
    unfold f_X9_undo
    rw [nm_q, if_pos (show (upI σ 50 0 0).1 50 14 = 0 by rw [up_j (by decide), j4, z]; rfl)]
  · rw [if_pos (show (0 : Int32) < nI js from (nI_ltI (a := 0) (by omega) (by omega)).mpr (by omega))]
    obtain ⟨r1, r2, r3⟩ := j6 0 (by omega)
    obtain ⟨nx', hnx⟩ : ∃ q, q = (nx + 9) % 10 := ⟨_, rfl⟩
    have ea : actN nx 0 = 38 + nx' := by unfold actN; rw [hnx]; rfl
    rw [ea] at r2 r3
    obtain ⟨σ3, hσ3⟩ : ∃ q, q = upI (upI σ 36 1 (nI nx')) 36 0 (nI (js - 1)) := ⟨_, rfl⟩
    have o3 : ∀ q, q ≠ 36 → σ3.1 q = σ.1 q := fun q hq => by rw [hσ3, up_k hq, up_k hq]
    have s3 : σ3.2 = σ.2 := by rw [hσ3]; rfl
    have ejs : nI js - 1 = nI (js - 1) := pk_sub (b := 1) (by omega)
    have hl : f_X5_takeLatest σ = some (38 + nx', σ3) := by
      have key : ∀ s1, s1 = nI nx' → f_X5_takeLatest_b19 σ s1 = some (38 + nx', σ3) := fun s1 hs1 => by
        unfold f_X5_takeLatest_b19
        rw [nm_q, nm_q, up_j (b := 0) (by decide), j3, ejs, if_neg (show ¬ nI (js - 1) < 0 from nI_pos (by omega)), hs1]
        refine ob (rdN_at nx' (by rw [up_j (by decide), up_s]) (by omega) (by decide)) ?_
        rw [hσ3]
      unfold f_X5_takeLatest
      rw [j5]
      by_cases y : nx = 0
      · rw [if_pos (show nI nx ≤ 0 by rw [y]; decide)]
        exact key 9 (by rw [hnx, y]; rfl)
      · rw [if_neg (show ¬ nI nx ≤ 0 from nI_ge (a := 0) (by omega) (by omega))]
        refine key _ ?_
        rw [show nI nx - 1 = nI (nx - 1) from pk_sub (b := 1) (by omega), hnx]
        exact congrArg nI (by omega)
    have hg3 : σ3.2.2.1 = σ.2.2.1 := by rw [s3]
    have hC3 : Cls σ3 σ3.2.2.1 (σ.1 52) := by
      rw [hg3]
      refine ⟨hC.1.ag hR.1 (fun c hc => o3 c (by rcases hg with y | y <;> rw [y] at hc <;> omega)) (fun _ _ => rfl), hC.2.1.ag hR.1 (fun c hc => o3 c (by omega)) (fun _ _ => rfl), hC.2.2.ag hR.1 (fun c hc => o3 c (by omega)) (fun _ _ => rfl)⟩
    have ac1 : σ3.1 (38 + nx') = σ.1 (38 + nx') := o3 _ (by omega)
    have ac2 : σ3.2.1 (38 + nx') = σ.2.1 (38 + nx') := by rw [s3]
    obtain ⟨σ4, b1, b2, b3, b4⟩ := tb (σ := σ3) (ac := 38 + nx') (by rw [hg3]; exact hg) hR hC3 (by omega) (by rw [ac1, ac2]; exact r2)
    rw [ac1, ac2, hg3] at b4
    have b4' := b4.eq r3
    have f36 : σ4.1 36 0 = nI (js - 1) ∧ σ4.1 36 1 = nI nx' := by
      rw [b3 36 (by omega), hσ3]
      exact ⟨up_s, by rw [up_j (by decide), up_s]⟩
    have o4 : ∀ q, q < 6 ∨ 37 ≤ q → σ4.1 q = σ.1 q := fun q hq => by rw [b3 q (by omega), o3 q (by omega)]
    obtain ⟨τ, t1, t2, t3, -, t5⟩ := m_undoL (js := js - 1) (by omega) 845 0 10000 (upI (upI σ4 50 0 0) 50 14 (nI (js - 1))) (by omega) (by omega) up_s
    have oc : ∀ q, q ≠ 52 → q ≠ 50 → τ.1 q = σ4.1 q := fun q h1 h2 => by rw [t3 q h1, up_k h2, up_k h2]
    have o5 : ∀ q, q ≠ 14 → q ≠ 0 → τ.1 50 q = σ.1 50 q := fun q h1 h2 => by rw [t3 50 (by decide), up_j h1, up_j h2, o4 50 (by omega)]
    have e52 : ∀ k, k < 845 → τ.1 52 k = stR σ js 1 k := fun k hk => by
      rw [t5 k (by omega) hk, up_k (by decide), up_k (by decide), o4 54 (by omega)]
      rfl
    have e2 : τ.2 = σ.2 := by rw [t2]; exact b2.trans s3
    have hRτ : RowOk (τ.1 52) := r1.cg e52
    refine ⟨nI (js - 1), σ4, τ, ?_, ?_, ?_⟩
    · refine ob hl (ob b1 ?_)
      rw [f36.1]
    · unfold f_X9_undo
      rw [nm_q, if_neg (show ¬ (upI σ4 50 0 0).1 50 14 = 0 by rw [up_j (by decide), o4 50 (by omega), j4]; exact nI_ne0 (by omega) (by omega)), nm_q, up_j (b := 14) (by decide), o4 50 (by omega), j4, ejs]
      exact t1
    · refine ⟨by rw [e2]; exact ⟨hg, hs, hgs⟩, hRτ, ?_, ?_, ?_, js - 1, nx', by omega, by omega, ?_, ?_, ?_, fun j hj => ?_⟩
      · rw [e2]
        have gc : ∀ c, 6 ≤ c ∧ c < 36 → τ.1 c = σ4.1 c := fun c hc => oc c (by omega) (by omega)
        refine ⟨b4'.1.ag r1.1 (fun c hc => gc c (by rcases hg with y | y <;> rw [y] at hc <;> omega)) (fun k hk => e52 k (by omega)), b4'.2.1.ag r1.1 (fun c hc => gc c (by omega)) (fun k hk => e52 k (by omega)), b4'.2.2.ag r1.1 (fun c hc => gc c (by omega)) (fun k hk => e52 k (by omega))⟩
      · unfold Tp at hT ⊢
        rw [oc 2 (by decide) (by decide), oc 3 (by decide) (by decide), oc 51 (by decide) (by decide), o5 2 (by decide) (by decide), o4 2 (by omega), o4 3 (by omega), o4 51 (by omega)]
        exact hT
      · rw [oc 1 (by decide) (by decide), o5 8 (by decide) (by decide), o4 1 (by omega)]
        exact hF
      · rw [oc 36 (by decide) (by decide)]; exact f36.1
      · rw [t3 50 (by decide), up_s]
      · rw [oc 36 (by decide) (by decide)]; exact f36.2
      · have es : ∀ q, 1 ≤ q → stR τ (js - 1) q = stR σ js (q + 1) := fun q hq => by
          obtain ⟨p, rfl⟩ : ∃ p, q = p + 1 := ⟨q - 1, by omega⟩
          show (fun k => τ.1 54 (845 * (js - 1 - 1 - p) + k)) = fun k => σ.1 54 (845 * (js - 1 - (p + 1)) + k)
          rw [oc 54 (by decide) (by decide), o4 54 (by omega), show js - 1 - 1 - p = js - 1 - (p + 1) by omega]
        obtain ⟨y1, y2, y3⟩ := j6 (j + 1) (by omega)
        have eact : actN nx' j = actN nx (j + 1) := by unfold actN; omega
        have ebd : 38 ≤ actN nx (j + 1) ∧ actN nx (j + 1) < 48 := by unfold actN; omega
        rw [eact, es (j + 1) (by omega), oc _ (by omega) (by omega), o4 _ (by omega), e2]
        by_cases w : j = 0
        · subst w
          exact ⟨y1, y2.cg r1.1 e52, y3.cg y1.1 (uRow_cg e52) (fun _ _ => rfl)⟩
        · rw [es j (by omega)]
          exact ⟨y1, y2, y3⟩
