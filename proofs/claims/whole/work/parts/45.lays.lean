/-! open counts: the model's sorted list -/
def Lst (R : Nat → Int32) (s i : Int32) (k : Nat) (f : Nat → Nat) (n : Nat) : Prop :=
  n ≤ k ∧ (∀ j, j < n → f j < k ∧ opB R s i (f j) = true) ∧ (∀ j j', j < j' → j' < n → tC R (f j) < tC R (f j')) ∧ ∀ c, c < k → opB R s i c = true → ∃ j, j < n ∧ f j = c
theorem m_insert {σ : St} {R : Nat → Int32} {s i : Int32} (hR : RowOk R) (h52 : σ.1 52 = R) {k n : Nat} {f : Nat → Nat} (hk : k < nC R) (hL : Lst R s i k f n) (ho : opB R s i k = true) (k7 : St → Int32 → Option St) :
    ∀ (p fu : Nat) (τ : St), p ≤ n → p < fu → Same σ τ → τ.1 50 19 = nI n → (∀ j, j < p → τ.1 55 j = nI (f j)) → (∀ j, p < j → j ≤ n → τ.1 55 j = nI (f (j - 1))) → (∀ j, p ≤ j → j < n → tC R k < tC R (f j)) →
      ∃ (τ' : St) (p' : Nat), f_X9_laysOpen_b36 s i k7 fu τ (nI k) (nI p) = k7 τ' (nI (k + 1)) ∧ Same σ τ' ∧ τ'.1 50 19 = nI (n + 1) ∧ p' ≤ n ∧ (∀ j, j < p' → tC R (f j) < tC R k) ∧ (∀ j, p' ≤ j → j < n → tC R k < tC R (f j)) ∧ (∀ j, j < p' → τ'.1 55 j = nI (f j)) ∧ τ'.1 55 p' = nI k ∧ ∀ j, p' < j → j ≤ n → τ'.1 55 j = nI (f (j - 1)) := by
  have hn := hR.1.2.2.2.1
  have hnk := hL.1
  have fin : ∀ (p : Nat) (τ : St), p ≤ n → Same σ τ → τ.1 50 19 = nI n → (∀ j, j < p → τ.1 55 j = nI (f j)) → (∀ j, p < j → j ≤ n → τ.1 55 j = nI (f (j - 1))) → (∀ j, p ≤ j → j < n → tC R k < tC R (f j)) → (∀ j, j < p → tC R (f j) < tC R k) →
      ∃ (τ' : St) (p' : Nat), f_X9_laysOpen_b86 s i k7 τ (nI k) (nI p) = k7 τ' (nI (k + 1)) ∧ Same σ τ' ∧ τ'.1 50 19 = nI (n + 1) ∧ p' ≤ n ∧ (∀ j, j < p' → tC R (f j) < tC R k) ∧ (∀ j, p' ≤ j → j < n → tC R k < tC R (f j)) ∧ (∀ j, j < p' → τ'.1 55 j = nI (f j)) ∧ τ'.1 55 p' = nI k ∧ ∀ j, p' < j → j ≤ n → τ'.1 55 j = nI (f (j - 1)) := by
    intro p τ h1 h2 h3 h4 h5 h6 h7
    have e55 : (upI (upI τ 55 p (nI k)) 50 19 (nI (n + 1))).1 55 = (upI τ 55 p (nI k)).1 55 := up_k (by decide)
    refine ⟨upI (upI τ 55 p (nI k)) 50 19 (nI (n + 1)), p, ?_, ?_, up_s, h1, h7, h6, fun j hj => ?_, ?_, fun j h8 h9 => ?_⟩
    · unfold f_X9_laysOpen_b86
      refine ob (wr_at p rfl (by omega) (by decide)) ?_
      simp only [nm, nI_1]
      rw [show (upI τ 55 p (nI k)).1 50 19 = nI n by rw [up_k (by decide)]; exact h3, nI_1]
    · exact (h2.up (by unfold rel; omega) ⟨by simp, by simp, by simp, by simp, by simp⟩).up (by unfold rel; omega) (by decide)
    · rw [e55, up_j (by omega)]; exact h4 j hj
    · rw [e55, up_s]
    · rw [e55, up_j (by omega)]; exact h5 j h8 h9
  intro p
  induction p with
  | zero =>
    intro fu τ h1 h2 h3 h4 h5 h6 h7
    obtain ⟨fu, rfl⟩ : ∃ m, fu = m + 1 := ⟨fu - 1, by omega⟩
    rw [f_X9_laysOpen_b36, if_pos (show nI 0 ≤ 0 by decide)]
    exact fin 0 τ h1 h3 h4 h5 h6 h7 (fun j hj => by omega)
  | succ p ih =>
    intro fu τ h1 h2 h3 h4 h5 h6 h7
    obtain ⟨fu, rfl⟩ : ∃ m, fu = m + 1 := ⟨fu - 1, by omega⟩
    have hτ : τ.1 52 = R := (h3.2.1 52 (by unfold rel; omega)).trans h52
    obtain ⟨g1, g2⟩ := hL.2.1 p (by omega)
    have gC : f p < nC R := by omega
    have em : nI (p + 1) - 1 = nI p := by rw [← nI_1, Int32.add_sub_cancel]
    have t1 := tnum hR hk
    have t2 := tnum hR gC
    rw [f_X9_laysOpen_b36, if_neg (show ¬ nI (p + 1) ≤ 0 by show ¬ nI (p + 1) ≤ nI 0; rw [le_nI (by omega) (by omega)]; omega), em, rd_at p rfl (by omega) (by decide), h5 p (by omega)]
    simp only [Option.bind_some]
    rw [m_ct hR hτ gC rfl (b := 2) 2 (by decide) rfl, m_ct hR hτ hk rfl (b := 2) 2 (by decide) rfl, t1.2, t2.2]
    simp only [Option.bind_some]
    by_cases w : nI (tC R (f p)) ≤ nI (tC R k)
    · rw [if_pos w]
      rw [le_nI (by omega) (by omega)] at w
      refine fin (p + 1) τ h1 h3 h4 h5 h6 h7 (fun j hj => ?_)
      have hne : tC R (f p) ≠ tC R k := fun e => by
        have := t_inj hR gC hk g2 ho e
        omega
      by_cases wj : j = p
      · rw [wj]; omega
      · have := hL.2.2.1 j p (by omega) (by omega)
        omega
    · rw [if_neg w, wr_at (p + 1) rfl (by omega) (by decide)]
      rw [le_nI (by omega) (by omega)] at w
      simp only [Option.bind_some, nm, pk_m1]
      refine ih fu (upI τ 55 (p + 1) (nI (f p))) (by omega) (by omega) (h3.up (by unfold rel; omega) ⟨by simp, by simp, by simp, by simp, by simp⟩) (by rw [up_k (by decide)]; exact h4) (fun j hj => by rw [up_j (by omega)]; exact h5 j (by omega)) (fun j h8 h9 => ?_) (fun j h8 h9 => ?_)
      · by_cases wj : j = p + 1
        · rw [wj, up_s]; rfl
        · rw [up_j wj]; exact h6 j (by omega) h9
      · by_cases wj : j = p
        · rw [wj]; omega
        · exact h7 j (by omega) h9
theorem m_laysOpen {σ : St} {R : Nat → Int32} (hR : RowOk R) (h52 : σ.1 52 = R) (s i : Int32) : ∃ (τ : St) (f : Nat → Nat) (n : Nat), f_X9_laysOpen σ s i = some τ ∧ Same σ τ ∧ τ.1 50 19 = nI n ∧ Lst R s i (nC R) f n ∧ ∀ j, j < n → τ.1 55 j = nI (f j) := by
  have hn := hR.1.2.2.2.1
  have key : ∀ (d k fu n : Nat) (f : Nat → Nat) (τ : St), k + d = nC R → d < fu → Same σ τ → τ.1 50 19 = nI n → Lst R s i k f n → (∀ j, j < n → τ.1 55 j = nI (f j)) → ∃ (τ' : St) (f' : Nat → Nat) (n' : Nat), f_X9_laysOpen_b7 s i fu τ (nI k) = some τ' ∧ Same σ τ' ∧ τ'.1 50 19 = nI n' ∧ Lst R s i (nC R) f' n' ∧ ∀ j, j < n' → τ'.1 55 j = nI (f' j) := by
    intro d
    induction d with
    | zero =>
      intro k fu n f τ h1 h2 h3 h4 h5 h6
      obtain ⟨fu, rfl⟩ : ∃ m, fu = m + 1 := ⟨fu - 1, by omega⟩
      obtain rfl : k = nC R := by omega
      have hτ : τ.1 52 = R := (h3.2.1 52 (by unfold rel; omega)).trans h52
      refine ⟨τ, f, n, ?_, h3, h4, h5, h6⟩
      rw [f_X9_laysOpen_b7]
      refine ob (rd_at 3 rfl (by decide) (by decide)) ?_
      rw [hτ, hn.1, if_pos (Int32.le_refl _)]
    | succ d ih =>
      intro k fu n f τ h1 h2 h3 h4 h5 h6
      obtain ⟨fu, rfl⟩ : ∃ m, fu = m + 1 := ⟨fu - 1, by omega⟩
      have hk : k < nC R := by omega
      have hτ : τ.1 52 = R := (h3.2.1 52 (by unfold rel; omega)).trans h52
      rw [f_X9_laysOpen_b7, rd_at (i := 3) 3 rfl (by decide) (by decide), hτ, hn.1]
      simp only [Option.bind_some]
      rw [if_neg (nI_ge hk (by omega)), m_isOpenAt hR hτ hk rfl]
      simp only [Option.bind_some, nm, nI_1]
      cases z : opB R s i k
      · rw [if_pos bf0]
        refine ih (k + 1) fu n f τ (by omega) (by omega) h3 h4 ⟨by have := h5.1; omega, fun j hj => ⟨by have := (h5.2.1 j hj).1; omega, (h5.2.1 j hj).2⟩, h5.2.2.1, fun c hc ho => ?_⟩ h6
        by_cases w : c = k
        · rw [w, z] at ho; cases ho
        · exact h5.2.2.2 c (by omega) ho
      · rw [if_neg bt0, h4]
        obtain ⟨τ', p, r1, r2, r3, r4, r5, r6, r7, r8, r9⟩ := m_insert hR h52 hk h5 z (fun σ x3 => f_X9_laysOpen_b7 s i fu σ x3) n 10000 τ (Nat.le_refl _) (by have := h5.1; omega) h3 h4 h6 (fun j h7 h8 => by omega) (fun j h7 h8 => by omega)
        rw [r1]
        have v1 : ∀ j, j < p → (if j < p then f j else if j = p then k else f (j - 1)) = f j := fun j hj => if_pos hj
        have v2 : (if p < p then f p else if p = p then k else f (p - 1)) = k := by rw [if_neg (by omega), if_pos rfl]
        have v3 : ∀ j, p < j → (if j < p then f j else if j = p then k else f (j - 1)) = f (j - 1) := fun j hj => by rw [if_neg (by omega), if_neg (by omega)]
        refine ih (k + 1) fu (n + 1) (fun j => if j < p then f j else if j = p then k else f (j - 1)) τ' (by omega) (by omega) r2 r3 ⟨by have := h5.1; omega, fun j hj => ?_, fun j j' h7 h8 => ?_, fun c hc ho => ?_⟩ (fun j hj => ?_)
        · show (if j < p then f j else if j = p then k else f (j - 1)) < k + 1 ∧ opB R s i (if j < p then f j else if j = p then k else f (j - 1)) = true
          rcases Nat.lt_trichotomy j p with w | w | w
          · rw [v1 j w]
            have := h5.2.1 j (by omega)
            exact ⟨by omega, this.2⟩
          · subst w
            rw [v2]
            exact ⟨by omega, z⟩
          · rw [v3 j w]
            have := h5.2.1 (j - 1) (by omega)
            exact ⟨by omega, this.2⟩
        · show tC R (if j < p then f j else if j = p then k else f (j - 1)) < tC R (if j' < p then f j' else if j' = p then k else f (j' - 1))
          rcases Nat.lt_trichotomy j' p with w | w | w
          · rw [v1 j' w, v1 j (by omega)]
            exact h5.2.2.1 j j' h7 (by omega)
          · subst w
            rw [v2, v1 j h7]
            exact r5 j h7
          · rw [v3 j' w]
            rcases Nat.lt_trichotomy j p with w2 | w2 | w2
            · rw [v1 j w2]
              by_cases w3 : j < j' - 1
              · exact h5.2.2.1 j (j' - 1) w3 (by omega)
              · omega
            · subst w2
              rw [v2]
              exact r6 (j' - 1) (by omega) (by omega)
            · rw [v3 j w2]
              exact h5.2.2.1 (j - 1) (j' - 1) (by omega) (by omega)
        · by_cases w : c = k
          · exact ⟨p, by omega, by show (if p < p then f p else if p = p then k else f (p - 1)) = c; rw [v2, w]⟩
          · obtain ⟨j, hj, e⟩ := h5.2.2.2 c (by omega) ho
            by_cases w2 : j < p
            · exact ⟨j, by omega, by show (if j < p then f j else if j = p then k else f (j - 1)) = c; rw [v1 j w2, e]⟩
            · exact ⟨j + 1, by omega, by show (if j + 1 < p then f (j + 1) else if j + 1 = p then k else f (j + 1 - 1)) = c; rw [v3 (j + 1) (by omega), Nat.add_sub_cancel, e]⟩
        · show τ'.1 55 j = nI (if j < p then f j else if j = p then k else f (j - 1))
          rcases Nat.lt_trichotomy j p with w | w | w
          · rw [v1 j w]; exact r7 j w
          · subst w; rw [v2]; exact r8
          · rw [v3 j w]; exact r9 j w (by omega)
  unfold f_X9_laysOpen
  simp only [nm]
  exact key (nC R) 0 10000 0 (fun _ => 0) (upI σ 50 19 0) (by omega) (by omega) ((Same.rf σ).up (by unfold rel; omega) (by decide)) up_s ⟨Nat.le_refl _, fun j hj => by omega, fun j j' _ hj => by omega, fun c hc => by omega⟩ (fun j hj => by omega)
