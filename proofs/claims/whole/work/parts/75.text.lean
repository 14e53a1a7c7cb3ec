/-! text -/
theorem dat_row {g a b m : Nat} {σ τ : St} (h : Dat g a b m σ τ) : RowOk (τ.1 53) ∧ ClsG σ g (τ.1 53) := by
  obtain ⟨⟨⟨a1, a2, a3⟩, ⟨b1, b2, b3⟩, m1, m2, m3⟩, e3, e4, e5, e6, e7, e8⟩ := h
  have nS' : nS (τ.1 53) = a := by unfold nS; rw [a2, nI_clamp (by omega)]
  have nT' : nT (τ.1 53) = b := by unfold nT; rw [b2, nI_clamp (by omega)]
  have nM' : nM (τ.1 53) = m := by unfold nM; rw [m2, nI_clamp (by omega)]
  refine ⟨RowOk.fresh (by rw [nS']; exact ⟨a2, a3⟩) (by rw [nT']; exact ⟨b2, b3⟩) (by rw [nM']; exact ⟨m2, by omega⟩) e8.1 e8.2 (fun q hq => ?_) (fun k hk => ?_) (fun s i hs hi => ?_), ?_⟩
  · rw [nM'] at hq
    rw [nT']
    obtain ⟨⟨i, i1, -, i2⟩, x, x1, x2, -, x3⟩ := e5 q hq
    exact ⟨⟨i, i1, i2⟩, x, x1, x2, x3⟩
  · rw [nM'] at hk
    rw [nS']
    rcases e6 k hk with ⟨y, -⟩ | ⟨y, s, e, l, y1, y2, y3, -, -, -, y4, y5, y6⟩
    · exact Or.inl y
    · exact Or.inr ⟨y, ⟨s, y1, y4⟩, e, l, y2, y3, y5, y6⟩
  · rw [nS'] at hs
    rw [nT'] at hi
    rw [show 15 + 5 * s + i = 15 + (5 * s + i) by omega]
    rcases e4 (5 * s + i) (by omega) with ⟨-, y, -⟩ | ⟨x, x1, -, y, -⟩
    · exact ⟨0, by omega, y⟩
    · exact ⟨x, x1, y⟩
  · unfold ClsG
    rw [nS', nT', nM', a1, a2, b1, b2, m1, m2]
    refine ⟨⟨rfl, rfl, rfl⟩, e3, fun s i hs hi => ?_, fun q hq => ?_, fun k hk => ?_⟩
    · rw [show 15 + 5 * s + i = 15 + (5 * s + i) by omega]
      rcases e4 (5 * s + i) (by omega) with ⟨y1, y2, -⟩ | ⟨x, x1, y1, y2, -⟩
      · rw [y1, y2, if_pos (by decide)]
      · rw [y1, y2, if_neg (nI_pos (by omega))]
    · obtain ⟨⟨i, -, i1, i2⟩, x, -, -, x1, x2⟩ := e5 q hq
      rw [i1, i2, x1, x2]
      exact ⟨rfl, rfl⟩
    · rcases e6 k hk with ⟨y, y1⟩ | ⟨y, s, e, l, -, -, -, y1, y2, y3, y4, y5, y6⟩
      · exact Or.inr ⟨y, y1⟩
      · exact Or.inl ⟨y, y1.trans y4.symm, y2.trans y5.symm, y3.trans y6.symm⟩
theorem s_text : S_text Inv := by
  intro σ hI
  obtain ⟨⟨hg, hs, hgs⟩, hR, hC, ⟨n, hn, t1, t2, t3⟩, hF, hJ⟩ := id hI
  have hg0 : 6 ≤ σ.2.2.1 ∧ σ.2.2.1 ≤ 15 := by rcases hg with y | y <;> rw [y] <;> omega
  have hs0 : 6 ≤ σ.2.2.2 ∧ σ.2.2.2 ≤ 15 := by rcases hs with y | y <;> rw [y] <;> omega
  have dis : ∀ c, σ.2.2.1 ≤ c ∧ c < σ.2.2.1 + 9 → ¬ (σ.2.2.2 ≤ c ∧ c < σ.2.2.2 + 9) := fun c hc => by
    rcases hg with y | y <;> rcases hs with z | z
    · exact absurd (y.trans z.symm) hgs
    · rw [y] at hc; rw [z]; omega
    · rw [y] at hc; rw [z]; omega
    · exact absurd (y.trans z.symm) hgs
  obtain ⟨v, hv⟩ : ∃ v : Nat → Nat, v = fun j => (σ.1 51 j).toNatClampNeg := ⟨_, rfl⟩
  have hvj : ∀ j, j < n → v j < 256 ∧ σ.1 51 j = nI (v j) ∧ σ.1 3 j = sb (v j) := fun j hj => by
    obtain ⟨x, x1, x2, x3⟩ := t3 j hj
    have e : v j = x := by rw [hv]; show (σ.1 51 j).toNatClampNeg = x; rw [x2, nI_clamp (by omega)]
    rw [e]
    exact ⟨x1, x2, x3⟩
  have hTC : TpC σ v n := ⟨hn, t1, fun j hj => ⟨(hvj j hj).1, (hvj j hj).2.2⟩⟩
  obtain ⟨ok, σr, -, r1, r2, -, -, -⟩ := text_pair (τ := σ) hs hTC t2 (fun j hj => (hvj j hj).2.1)
  -- the model behind a class state that differs from σr in what the model doesn't read
  have again : ∀ τ : St, τ.1 50 = σ.1 50 → τ.1 51 = σ.1 51 → ∃ τr, f_X9_text τ = (if b2i ok = 0 then some ((-1) - (τr.1 50 9), τr) else f_X9_text_b80 10000 τr 0) ∧
      (τr.2.2 = τ.2.2 ∧ (∀ a, a ≠ 50 → τr.2.1 a = τ.2.1 a) ∧ (∀ c, c ≠ 50 → c ≠ 53 → τr.1 c = τ.1 c) ∧ τr.1 50 14 = τ.1 50 14 ∧ τr.1 50 2 = 0) ∧
      ((ok = true ∧ ∃ a b m, SY σ.2.2.2 a b m σr τr) ∨ (ok = false ∧ σr.1 1 6 = τr.1 50 8 ∧ σr.1 1 7 = τr.1 50 9)) := fun τ h50 h51 => by
    obtain ⟨ok', σr', τr, q1, -, q3, q4, q5⟩ := text_pair (τ := τ) hs hTC (by rw [h50]; exact t2) (fun j hj => by rw [h51]; exact (hvj j hj).2.1)
    have e := r1.symm.trans q1
    injection e with e
    injection e with e1 e2
    subst e1
    subst e2
    exact ⟨τr, q3, q4, q5⟩
  have r50 : σr.1 50 = σ.1 50 := r2.2 50 (by decide) (by decide) (by decide) (by decide) (by omega)
  have r51 : σr.1 51 = σ.1 51 := r2.2 51 (by decide) (by decide) (by decide) (by decide) (by omega)
  unfold f_X8_text
  rw [r1, Option.bind_some, nm_q, nm_q]
  obtain ⟨js, nx, j1, j2, j3, j4, j5, j6⟩ := hJ
  cases ok with
  | false =>
    rw [if_pos bf0, up_k (by decide)]
    obtain ⟨τr, q1, ⟨q2, q3, q4, q5, q6⟩, q7⟩ := again (upI σr 2 0 0) (by rw [up_k (by decide)]; exact r50) (by rw [up_k (by decide)]; exact r51)
    rcases q7 with ⟨y, -⟩ | ⟨-, q7, q8⟩
    · exact absurd y (by decide)
    rw [if_pos bf0] at q1
    refine ⟨_, _, τr, rfl, by rw [q1, q8], ?_⟩
    have cc : ∀ c, c ≠ 1 → c ≠ 2 → c ≠ 4 → c ≠ 5 → c ≠ 50 → c ≠ 53 → ¬ (σ.2.2.2 ≤ c ∧ c < σ.2.2.2 + 9) → τr.1 c = σ.1 c := fun c c1 c2 c3 c4 c5 c6 c7 => by
      rw [q4 c c5 c6, up_k c2, r2.2 c c1 c2 c3 c4 c7]
    have e22 : τr.2.2 = σ.2.2 := by rw [q2]; show σr.2.2 = _; rw [r2.1]
    have e21 : ∀ a, a ≠ 50 → τr.2.1 a = σ.2.1 a := fun a ha => by rw [q3 a ha]; show σr.2.1 a = _; rw [r2.1]
    have e52 : τr.1 52 = σ.1 52 := cc 52 (by decide) (by decide) (by decide) (by decide) (by decide) (by decide) (by omega)
    have e54 : τr.1 54 = σ.1 54 := cc 54 (by decide) (by decide) (by decide) (by decide) (by decide) (by decide) (by omega)
    have e36 : τr.1 36 = σ.1 36 := cc 36 (by decide) (by decide) (by decide) (by decide) (by decide) (by decide) (by omega)
    refine ⟨by rw [e22]; exact ⟨hg, hs, hgs⟩, by rw [e52]; exact hR, ?_, ⟨0, by decide, ?_, ?_, fun j hj => by omega⟩, ?_, js, nx, j1, j2, by rw [e36]; exact j3, ?_, by rw [e36]; exact j5, fun j hj => ?_⟩
    · rw [e22, e52]
      refine ⟨hC.1.ag hR.1 (fun c hc => cc c (by omega) (by omega) (by omega) (by omega) (by omega) (by omega) (dis c hc)) (fun _ _ => rfl), hC.2.1.ag hR.1 (fun c hc => cc c (by omega) (by omega) (by omega) (by omega) (by omega) (by omega) (by omega)) (fun _ _ => rfl), hC.2.2.ag hR.1 (fun c hc => cc c (by omega) (by omega) (by omega) (by omega) (by omega) (by omega) (by omega)) (fun _ _ => rfl)⟩
    · rw [q4 2 (by decide) (by decide), up_s]; rfl
    · rw [q6]; rfl
    · rw [q4 1 (by decide) (by decide), up_k (by decide)]; exact q7
    · rw [q5, up_k (by decide), r50]; exact j4
    · have ea : actN nx j < 48 ∧ 38 ≤ actN nx j := by unfold actN; omega
      rw [stR_eq e52 e54, stR_eq e52 e54, cc (actN nx j) (by omega) (by omega) (by omega) (by omega) (by omega) (by omega) (by omega), e21 _ (by omega)]
      exact j6 j hj
  | true =>
    rw [if_neg (show ¬ b2i true = 0 from bt0), nm_q, nm_q, nm_q, nm_q, nm_q]
    obtain ⟨σ1, hσ1⟩ : ∃ z, z = upI (upI (upI (upG (upS (upI σr 2 0 0) (upI σr 2 0 0).2.2.1) (upI σr 2 0 0).2.2.2) 24 0 0) 31 0 0) 36 0 0 := ⟨_, rfl⟩
    have c1 : ∀ c, c ≠ 2 → c ≠ 24 → c ≠ 31 → c ≠ 36 → σ1.1 c = σr.1 c := fun c h1 h2 h3 h4 => by
      rw [hσ1, up_k h4, up_k h3, up_k h2]
      exact up_k h1
    have s22 : σ1.2.2 = (σ.2.2.2, σ.2.2.1) := by
      rw [hσ1]
      show (σr.2.2.2, σr.2.2.1) = _
      rw [r2.1]
    rw [← hσ1]
    obtain ⟨τr, q1, ⟨q2, q3, q4, q5, q6⟩, q7⟩ := again σ1 (by rw [c1 50 (by decide) (by decide) (by decide) (by decide)]; exact r50) (by rw [c1 51 (by decide) (by decide) (by decide) (by decide)]; exact r51)
    rcases q7 with ⟨-, a, b, m, q7, q8, q9, q10⟩ | ⟨y, -⟩
    rotate_left
    · exact absurd y (by decide)
    rw [if_neg bt0] at q1
    obtain ⟨τ, u1, u2, u3, u4, u5, -, u7⟩ := m_cp 845 0 10000 τr (by omega) (by omega)
    refine ⟨σ1.1 1 5, σ1, τ, rfl, ?_, ?_⟩
    · rw [q1, c1 1 (by decide) (by decide) (by decide) (by decide), q8]
      exact u1
    · obtain ⟨ro, rc⟩ := dat_row q7
      have e52 : ∀ k, k < 845 → τ.1 52 k = τr.1 53 k := fun k hk => u7 k (by omega) hk
      have cc : ∀ c, c ≠ 50 → c ≠ 52 → c ≠ 53 → τ.1 c = σ1.1 c := fun c h1 h2 h3 => by rw [u3 c h2 h1, q4 c h1 h3]
      have e22 : τ.2.2 = (σ.2.2.2, σ.2.2.1) := by rw [u2, q2]; exact s22
      have hRo : RowOk (τ.1 52) := ro.cg e52
      have n3 : τ.1 52 3 = 0 ∧ τ.1 52 4 = 0 := by
        rw [e52 3 (by decide), e52 4 (by decide)]
        exact q7.2.2.2.2.2.2
      refine ⟨by rw [e22]; exact ⟨hs, hg, fun y => hgs y.symm⟩, hRo, ?_, ⟨0, by decide, ?_, ?_, fun j hj => by omega⟩, ?_, 0, nx, by decide, j2, ?_, ?_, ?_, fun j hj => by omega⟩
      · rw [e22]
        refine ⟨rc.ag ro.1 (fun c hc => ?_) (fun k hk => e52 k (by omega)), ⟨?_, fun k hk => ?_⟩, ?_, fun c hc => ?_⟩
        · have hc' : σ.2.2.2 ≤ c ∧ c < σ.2.2.2 + 9 := hc
          rw [cc c (by omega) (by omega) (by omega), c1 c (by omega) (by omega) (by omega) (by omega)]
        · rw [cc 31 (by decide) (by decide) (by decide), hσ1, up_k (by decide), up_s, n3.2]
        · exfalso
          have : nA (τ.1 52) = 0 := by unfold nA; rw [n3.2]; rfl
          omega
        · rw [cc 24 (by decide) (by decide) (by decide), hσ1, up_k (by decide), up_k (by decide), up_s, n3.1]
        · exfalso
          have : nC (τ.1 52) = 0 := by unfold nC; rw [n3.1]; rfl
          omega
      · rw [cc 2 (by decide) (by decide) (by decide), hσ1, up_k (by decide), up_k (by decide), up_k (by decide)]
        show (upI σr 2 0 0).1 2 0 = nI 0
        exact up_s
      · rw [u4 2 (by decide), q6]; rfl
      · rw [cc 1 (by decide) (by decide) (by decide), c1 1 (by decide) (by decide) (by decide) (by decide), q9, u4 8 (by decide), q10]
      · rw [cc 36 (by decide) (by decide) (by decide), hσ1, up_s]; rfl
      · rw [u5]; rfl
      · rw [cc 36 (by decide) (by decide) (by decide), hσ1, up_j (by decide), up_k (by decide), up_k (by decide)]
        show (upI σr 2 0 0).1 36 1 = nI nx
        rw [up_k (by decide), r2.2 36 (by decide) (by decide) (by decide) (by decide) (by omega)]
        exact j5
theorem all_steps : StepsAll Inv := ⟨s_feed, s_end, s_text, s_fault, s_now, s_item, s_move, s_book, s_transit, s_below, s_count, s_difference, s_share, s_chosen, s_due, s_explained, s_adjusted, s_moves, s_leg, s_narrow, s_counts, s_post, s_drop, s_undo⟩
