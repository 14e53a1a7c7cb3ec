/-! text: the end -/
theorem c_clear {σ : St} {g : Nat} : ∃ σ', f_X4_clear σ g = some σ' ∧ σ'.2 = σ.2 ∧ (∀ c, c ≠ g → c ≠ g + 3 → σ'.1 c = σ.1 c) ∧ (σ'.1 g 1 = 0 ∧ σ'.1 g 2 = 0) ∧ ∀ j, j < 30 → σ'.1 (g + 3) j = -1 := by
  have main : ∀ (d k fu : Nat) (σ : St), k + d = 30 → d < fu → ∃ σ', f_X4_clear_b17 g fu σ (nI k) = some σ' ∧ σ'.2 = σ.2 ∧ (∀ c, c ≠ g + 3 → σ'.1 c = σ.1 c) ∧ (∀ j, j < k → σ'.1 (g + 3) j = σ.1 (g + 3) j) ∧ ∀ j, k ≤ j → j < 30 → σ'.1 (g + 3) j = -1 := by
    intro d
    induction d with
    | zero =>
      intro k fu σ e1 e2
      obtain ⟨fu, rfl⟩ : ∃ m, fu = m + 1 := ⟨fu - 1, by omega⟩
      refine ⟨σ, ?_, rfl, fun _ _ => rfl, fun _ _ => rfl, fun j h1 h2 => by omega⟩
      rw [f_X4_clear_b17, if_pos (show (30 : Int32) ≤ nI k from (nI_leI (a := 30) (by omega) (by omega)).mpr (by omega))]
    | succ d ih =>
      intro k fu σ e1 e2
      obtain ⟨fu, rfl⟩ : ∃ m, fu = m + 1 := ⟨fu - 1, by omega⟩
      obtain ⟨σ', q1, q2, q3, q4, q5⟩ := ih (k + 1) fu (upI σ (g + 3) k (-1)) (by omega) (by omega)
      refine ⟨σ', ?_, q2, fun c hc => by rw [q3 c hc, up_k hc], fun j hj => by rw [q4 j (by omega), up_j (by omega)], fun j h1 h2 => ?_⟩
      · rw [f_X4_clear_b17, if_neg (show ¬ (30 : Int32) ≤ nI k from nI_ge (b := 30) (by omega) (by omega)), wr_at k rfl (by omega) (by decide), Option.bind_some, nm_q, nI_1]
        exact q1
      · by_cases z : j = k
        · rw [z, q4 k (by omega), up_s]
        · exact q5 j (by omega) h2
  obtain ⟨σ', q1, q2, q3, q4, q5⟩ := main 30 0 10000 (upI (upI (upI σ g 0 1) g 1 0) g 2 0) (by omega) (by omega)
  refine ⟨σ', ?_, q2, fun c h1 h2 => by rw [q3 c h2, up_k h1, up_k h1, up_k h1], ⟨?_, ?_⟩, fun j hj => q5 j (by omega) hj⟩
  · unfold f_X4_clear
    rw [nm_q, nm_q, nm_q]
    exact q1
  · rw [q3 g (by omega), up_j (by decide), up_s]
  · rw [q3 g (by omega), up_s]
def mTx (τ : St) : Option (Int32 × St) := (f_X9_go τ).bind fun q9 => (f_X9_readWhole q9).bind fun q10 => if (b2i q10.1) = 0 then (some ((-1) - (q10.2.1 50 9), q10.2)) else (f_X9_text_b80 10000 q10.2 0)
theorem m_zero : ∀ (d k fu : Nat) (σ : St), k + d = 845 → d < fu → ∃ τ, f_X9_text_b40 fu σ (nI k) = mTx τ ∧ τ.2 = σ.2 ∧ (∀ c, c ≠ 53 → τ.1 c = σ.1 c) ∧ (∀ j, j < k → τ.1 53 j = σ.1 53 j) ∧ ∀ j, k ≤ j → j < 845 → τ.1 53 j = 0
  | 0, k, fu, σ, e1, e2 => by
    obtain ⟨fu, rfl⟩ : ∃ m, fu = m + 1 := ⟨fu - 1, by omega⟩
    refine ⟨σ, ?_, rfl, fun _ _ => rfl, fun _ _ => rfl, fun j h1 h2 => by omega⟩
    rw [f_X9_text_b40, if_pos (show (845 : Int32) ≤ nI k from (nI_leI (a := 845) (by omega) (by omega)).mpr (by omega))]
    rfl
  | d + 1, k, fu, σ, e1, e2 => by
    obtain ⟨fu, rfl⟩ : ∃ m, fu = m + 1 := ⟨fu - 1, by omega⟩
    obtain ⟨τ, q1, q2, q3, q4, q5⟩ := m_zero d (k + 1) fu (upI σ 53 k 0) (by omega) (by omega)
    refine ⟨τ, ?_, q2, fun c hc => by rw [q3 c hc, up_k hc], fun j hj => by rw [q4 j (by omega), up_j (by omega)], fun j h1 h2 => ?_⟩
    · rw [f_X9_text_b40, if_neg (show ¬ (845 : Int32) ≤ nI k from nI_ge (b := 845) (by omega) (by omega)), wr_at k rfl (by omega) (by decide), Option.bind_some, nm_q, nI_1]
      exact q1
    · by_cases z : j = k
      · rw [z, q4 k (by omega), up_s]
      · exact q5 j (by omega) h2
theorem m_cp : ∀ (d k fu : Nat) (σ : St), k + d = 845 → d < fu → ∃ τ, f_X9_text_b80 fu σ (nI k) = some (σ.1 50 17, τ) ∧ τ.2 = σ.2 ∧ (∀ c, c ≠ 52 → c ≠ 50 → τ.1 c = σ.1 c) ∧ (∀ q, q ≠ 14 → τ.1 50 q = σ.1 50 q) ∧ τ.1 50 14 = 0 ∧ (∀ j, j < k → τ.1 52 j = σ.1 52 j) ∧ ∀ j, k ≤ j → j < 845 → τ.1 52 j = σ.1 53 j
  | 0, k, fu, σ, e1, e2 => by
    obtain ⟨fu, rfl⟩ : ∃ m, fu = m + 1 := ⟨fu - 1, by omega⟩
    refine ⟨upI σ 50 14 0, ?_, rfl, fun c _ hc => up_k hc, fun q hq => up_j hq, up_s, fun j hj => by rw [up_k (by decide)], fun j h1 h2 => by omega⟩
    rw [f_X9_text_b80, if_pos (show (845 : Int32) ≤ nI k from (nI_leI (a := 845) (by omega) (by omega)).mpr (by omega)), nm_q, up_j (by decide)]
  | d + 1, k, fu, σ, e1, e2 => by
    obtain ⟨fu, rfl⟩ : ∃ m, fu = m + 1 := ⟨fu - 1, by omega⟩
    obtain ⟨τ, q1, q2, q3, q4, q5, q6, q7⟩ := m_cp d (k + 1) fu (upI σ 52 k (σ.1 53 k)) (by omega) (by omega)
    refine ⟨τ, ?_, q2, fun c h1 h2 => by rw [q3 c h1 h2, up_k h1], fun q hq => by rw [q4 q hq, up_k (by decide)], q5, fun j hj => by rw [q6 j (by omega), up_j (by omega)], fun j h1 h2 => ?_⟩
    · rw [f_X9_text_b80, if_neg (show ¬ (845 : Int32) ≤ nI k from nI_ge (b := 845) (by omega) (by omega)), rd_at k rfl (by omega) (by decide), Option.bind_some, wr_at k rfl (by omega) (by decide), Option.bind_some, nm_q, nI_1, q1, up_k (by decide)]
    · by_cases z : j = k
      · rw [z, q6 k (by omega), up_s]
      · rw [q7 j (by omega) h2, up_k (by decide)]
/-- where the class may have written -/
def FT (g : Nat) (σ σ' : St) : Prop := σ'.2 = σ.2 ∧ ∀ c, c ≠ 1 → c ≠ 2 → c ≠ 4 → c ≠ 5 → ¬ (g ≤ c ∧ c < g + 9) → σ'.1 c = σ.1 c
theorem text_pair {σ τ : St} {v : Nat → Nat} {n g : Nat} (hg : isG g) (hC : TpC σ v n) (hn : τ.1 50 2 = nI n) (hM : ∀ j, j < n → τ.1 51 j = nI (v j)) :
    ∃ ok σr τr, f_X7_readText σ g = some (ok, σr) ∧ FT g σ σr ∧ f_X9_text τ = (if b2i ok = 0 then some ((-1) - (τr.1 50 9), τr) else f_X9_text_b80 10000 τr 0) ∧
      (τr.2.2 = τ.2.2 ∧ (∀ a, a ≠ 50 → τr.2.1 a = τ.2.1 a) ∧ (∀ c, c ≠ 50 → c ≠ 53 → τr.1 c = τ.1 c) ∧ τr.1 50 14 = τ.1 50 14 ∧ τr.1 50 2 = 0) ∧
      ((ok = true ∧ ∃ a b m, SY g a b m σr τr) ∨ (ok = false ∧ σr.1 1 6 = τr.1 50 8 ∧ σr.1 1 7 = τr.1 50 9)) := by
  have hg6 : 6 ≤ g := by rcases hg with y | y <;> rw [y] <;> omega
  obtain ⟨σ1, P, T, s1, s2, s3, s4⟩ := c_scan hC
  obtain ⟨σ2, t1, t2, t3, t4, t5⟩ := c_clear (σ := σ1) (g := g)
  have e2 : σ2.1 2 = σ1.1 2 := t3 2 (by omega) (by omega)
  have e4 : σ2.1 4 = σ1.1 4 := t3 4 (by omega) (by omega)
  have e5 : σ2.1 5 = σ1.1 5 := t3 5 (by omega) (by omega)
  obtain ⟨E0, E2, E1, E6, Et⟩ := id s3
  obtain ⟨⟨p1, s, p2, p3⟩, -⟩ := Et 0 (by omega)
  rw [s4] at p1 p3
  -- the class's first token
  obtain ⟨σ5, hσ5⟩ : ∃ z, z = upI (upI (upI σ2 1 1 0) 1 5 0) 1 6 0 := ⟨_, rfl⟩
  have f5 : ∀ c, c ≠ 1 → σ5.1 c = σ2.1 c := fun c hc => by rw [hσ5, up_k hc, up_k hc, up_k hc]
  have f51 : σ5.1 1 1 = 0 ∧ σ5.1 1 5 = 0 ∧ σ5.1 1 6 = 0 := by
    rw [hσ5]
    exact ⟨by rw [up_j (by decide), up_j (by decide), up_s], by rw [up_j (by decide), up_s], up_s⟩
  obtain ⟨σ6, hσ6⟩ : ∃ z, z = upI (upI (upI σ5 1 2 (σ1.1 4 0)) 1 3 (σ1.1 5 0)) 1 1 (nI (0 + 1)) := ⟨_, rfl⟩
  have hadv : f_X7_advance σ5 = some σ6 := by
    unfold f_X7_advance
    rw [f5 2 (by decide), e2, E2, f51.1, if_neg (show ¬ nI T ≤ 0 from nI_ge (a := 0) (by omega) (by omega)), if_neg (show ¬ (601 : Int32) ≤ 0 by decide), rd_at (i := 0) 0 rfl (by decide) (by decide), Option.bind_some, nm_q, rd_at 0 (by rw [up_j (by decide)]; exact f51.1) (by decide) (by decide), Option.bind_some, nm_q, nm_q, up_k (a := 5) (by decide), f5 4 (by decide), f5 5 (by decide), e4, e5, up_j (b := 1) (by decide), up_j (b := 1) (by decide), f51.1, hσ6]
    rfl
  have f6 : ∀ c, c ≠ 1 → σ6.1 c = σ2.1 c := fun c hc => by rw [hσ6, up_k hc, up_k hc, up_k hc, f5 c hc]
  have f61 : σ6.1 1 1 = nI (0 + 1) ∧ σ6.1 1 2 = σ1.1 4 0 ∧ σ6.1 1 3 = σ1.1 5 0 ∧ σ6.1 1 5 = 0 ∧ σ6.1 1 6 = 0 := by
    rw [hσ6]
    refine ⟨up_s, ?_, ?_, ?_, ?_⟩
    · rw [up_j (by decide), up_j (by decide), up_s]
    · rw [up_j (by decide), up_s]
    · rw [up_j (by decide), up_j (by decide), up_j (by decide)]; exact f51.2.1
    · rw [up_j (by decide), up_j (by decide), up_j (by decide)]; exact f51.2.2
  -- the model's first token
  obtain ⟨τ7, hτ7⟩ : ∃ z, z = upI (upI (upI (upI (upI (upI (upI τ 50 0 0) 50 3 (nI n)) 50 2 0) 50 8 0) 50 4 0) 50 17 0) 50 16 0 := ⟨_, rfl⟩
  have g7 : ∀ c, c ≠ 50 → τ7.1 c = τ.1 c := fun c hc => by rw [hτ7, up_k hc, up_k hc, up_k hc, up_k hc, up_k hc, up_k hc, up_k hc]
  have g75 : τ7.1 50 3 = nI n ∧ τ7.1 50 4 = 0 ∧ τ7.1 50 8 = 0 ∧ τ7.1 50 17 = 0 ∧ τ7.1 50 16 = 0 ∧ τ7.1 50 2 = 0 ∧ τ7.1 50 14 = τ.1 50 14 := by
    rw [hτ7]
    refine ⟨?_, ?_, ?_, ?_, up_s, ?_, ?_⟩
    · rw [up_j (by decide), up_j (by decide), up_j (by decide), up_j (by decide), up_j (by decide), up_s]
    · rw [up_j (by decide), up_j (by decide), up_s]
    · rw [up_j (by decide), up_j (by decide), up_j (by decide), up_s]
    · rw [up_j (by decide), up_s]
    · rw [up_j (by decide), up_j (by decide), up_j (by decide), up_j (by decide), up_s]
    · rw [up_j (by decide), up_j (by decide), up_j (by decide), up_j (by decide), up_j (by decide), up_j (by decide), up_j (by decide)]
  obtain ⟨τz, z1, z2, z3, -, z5⟩ := m_zero 845 0 10000 τ7 (by omega) (by omega)
  have hTM : TpM τz v n := ⟨hC.1, by rw [z3 50 (by decide)]; exact g75.1, fun j hj => ⟨(hC.2.2 j hj).1, by rw [z3 51 (by decide), g7 51 (by decide)]; exact hM j hj⟩⟩
  obtain ⟨τ6, m1, m2, m3⟩ := m_go hTM (p := 0) (by rw [z3 50 (by decide), g75.2.1]; rfl) (by omega)
  obtain ⟨l1, l2, l3⟩ := link p3 m3
  have hcur : Cur v n P T σ6 τ6 0 := by
    refine ⟨?_, hTM.fg m2, by omega, f61.1, ?_, ?_, ?_, ?_⟩
    · rw [f6 2 (by decide), f6 4 (by decide), f6 5 (by decide), e2, e4, e5]; exact s3
    · rw [f61.2.1, f6 4 (by decide), e4]
    · rw [f61.2.2.1, p2, l1]
    · rw [f61.2.1]; exact l2
    · rw [f61.2.1]; exact l3
  have k6 : ∀ q, 8 ≤ q → τ6.1 50 q = τ7.1 50 q := fun q hq => by rw [m2.q hq, z3 50 (by decide)]
  have W := p_whole (g := g) hg6 hcur ⟨by rw [f6 g (by omega)]; exact t4.1, by rw [f6 g (by omega)]; exact t4.2⟩ (fun j hj => by rw [f6 (g + 3) (by omega)]; exact t5 j hj) (fun j hj => by rw [m2.r]; exact z5 j (by omega) hj) (by rw [k6 16 (by decide)]; exact g75.2.2.2.2.1) (by rw [k6 17 (by decide), f61.2.2.2.1]; exact g75.2.2.2.1.symm) f61.2.2.2.2 (by rw [k6 8 (by decide)]; exact g75.2.2.1)
  have ft6 : FT g σ σ6 := by
    refine ⟨?_, fun c c1 c2 c3 c4 c5 => ?_⟩
    · rw [hσ6, up_2, up_2, up_2, hσ5, up_2, up_2, up_2, t2]; exact s2.1
    · rw [f6 c c1, t3 c (by omega) (by omega), s2.2.1 c c2 c3 c4]
  have fm6 : FMd τz τ6 := m2.md
  have ftr : ∀ σ', FCl g σ6 σ' → FT g σ σ' := fun σ' h => ⟨h.1.trans ft6.1, fun c c1 c2 c3 c4 c5 => (h.2 c c1 c5).trans (ft6.2 c c1 c2 c3 c4 c5)⟩
  have fmr : ∀ τ', FMd τ6 τ' → τ'.2.2 = τ.2.2 ∧ (∀ a, a ≠ 50 → τ'.2.1 a = τ.2.1 a) ∧ (∀ c, c ≠ 50 → c ≠ 53 → τ'.1 c = τ.1 c) ∧ τ'.1 50 14 = τ.1 50 14 ∧ τ'.1 50 2 = 0 := fun τ' h => by
    have h' := fm6.trans h
    have ez : τz.2 = τ.2 := by rw [z2, hτ7]; rfl
    refine ⟨by rw [h'.1, ez], fun a ha => by rw [h'.2.1 a ha, ez], fun c c1 c2 => by rw [h'.2.2.1 c c1 c2, z3 c c2, g7 c c1], ?_, ?_⟩
    · rw [h'.2.2.2 14 (by omega), z3 50 (by decide)]; exact g75.2.2.2.2.2.2
    · rw [h'.2.2.2 2 (by omega), z3 50 (by decide)]; exact g75.2.2.2.2.2.1
  have hcls : ∀ X, X = f_X7_readText σ g → X = ((f_X7_readShelves σ6 g).bind fun q7 => if (b2i q7.1) = 0 then (some (false, q7.2)) else ((f_X7_readItems q7.2 g).bind fun q9 => if (b2i q9.1) = 0 then (some (false, q9.2)) else ((f_X7_readStocks q9.2 g).bind fun q11 => if (b2i q11.1) = 0 then (some (false, q11.2)) else ((f_X7_readMoves q11.2 g).bind fun q13 => if (b2i q13.1) = 0 then (some (false, q13.2)) else ((f_X7_readEnd q13.2).bind fun q15 => if (b2i q15.1) = 0 then (some (false, q15.2)) else (some (true, q15.2))))))) := fun X hX => by
    rw [hX]
    unfold f_X7_readText
    rw [s1, Option.bind_some, t1, Option.bind_some, nm_q, nm_q, nm_q, ← hσ5, hadv, Option.bind_some]
  have hmod : f_X9_text τ = ((f_X9_readWhole τ6).bind fun q10 => if (b2i q10.1) = 0 then (some ((-1) - (q10.2.1 50 9), q10.2)) else (f_X9_text_b80 10000 q10.2 0)) := by
    unfold f_X9_text
    rw [nm_q, nm_q, nm_q, nm_q, nm_q, nm_q, nm_q, up_j (b := 2) (by decide), hn, ← hτ7]
    refine z1.trans ?_
    unfold mTx
    rw [m1, Option.bind_some]
  rcases W with ⟨σr, τr, i', w1, w2, -, w4, w5, w6⟩ | ⟨σr, τr, w1, w2, w3⟩
  · refine ⟨true, σr, τr, (hcls _ rfl).trans w1, ftr _ w4, ?_, fmr _ w5, Or.inl ⟨rfl, w6⟩⟩
    rw [hmod, w2, Option.bind_some]
  · refine ⟨false, σr, τr, (hcls _ rfl).trans w1, ftr _ w3.1, ?_, fmr _ w3.2.1, Or.inr ⟨rfl, w3.2.2⟩⟩
    rw [hmod, w2, Option.bind_some]
