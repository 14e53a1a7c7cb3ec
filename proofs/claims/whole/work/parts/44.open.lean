/-! open counts: the class's searches, the model's list -/
def opB (R : Nat → Int32) (s i : Int32) (c : Nat) : Bool := decide (ct R c 0 = s) && (decide (ct R c 1 = i) && decide (ct R c 5 = 0))
def tC (R : Nat → Int32) (c : Nat) : Nat := (ct R c 2).toNatClampNeg
theorem tnum {R : Nat → Int32} (hR : RowOk R) {c : Nat} (hc : c < nC R) : tC R c ≤ 999 ∧ ct R c 2 = nI (tC R c) := by
  obtain ⟨-, -, -, -, h, -⟩ := hR
  obtain ⟨-, -, ⟨t, ht, e⟩, -⟩ := h c hc
  have q : tC R c = t := by unfold tC; rw [e]; exact nI_clamp (by omega)
  rw [q]
  exact ⟨ht, e⟩
theorem opB_iff {R : Nat → Int32} {s i : Int32} {c : Nat} : opB R s i c = true ↔ ct R c 0 = s ∧ ct R c 1 = i ∧ ct R c 5 = 0 := by
  unfold opB
  simp
theorem t_inj {R : Nat → Int32} (hR : RowOk R) {s i : Int32} {c d : Nat} (hc : c < nC R) (hd : d < nC R) (h1 : opB R s i c = true) (h2 : opB R s i d = true) (h : tC R c = tC R d) : c = d := by
  obtain ⟨a1, a2, -⟩ := opB_iff.mp h1
  obtain ⟨b1, b2, -⟩ := opB_iff.mp h2
  refine hR.2.2.2.2.2.1 c d hc hd (a1.trans b1.symm) (a2.trans b2.symm) ?_
  rw [(tnum hR hc).2, (tnum hR hd).2, h]
theorem c_isOpenAt {σ : St} {R : Nat → Int32} (hC : ClsC σ R) (hn : nC R ≤ 40) {c : Nat} (hc : c < nC R) {s i a : Int32} (ha : a = nI c) : f_X3_isOpenAt σ a s i = some (opB R s i c) := by
  have q := hC.2 c hc
  unfold f_X3_isOpenAt f_X3_isAt opB
  rw [rd_at c ha (by omega) (by decide), rd_at c ha (by omega) (by decide), rd_at c ha (by omega) (by decide), show σ.1 30 c = ct R c 5 from q 5 (by decide), show σ.1 25 c = ct R c 0 from q 0 (by decide), show σ.1 26 c = ct R c 1 from q 1 (by decide)]
  simp only [Option.bind_some]
  by_cases z1 : ct R c 5 = 0
  · rw [if_pos z1]
    by_cases z2 : ct R c 0 = s
    · rw [if_pos z2]
      by_cases z3 : ct R c 1 = i
      · rw [if_pos z3]
        simp [z1, z2, z3, b2i]
      · rw [if_neg z3]
        simp [z3, b2i]
    · rw [if_neg z2]
      simp [z2, b2i]
  · rw [if_neg z1]
    simp [z1]
theorem m_isOpenAt {τ : St} {R : Nat → Int32} (hR : RowOk R) (hτ : τ.1 52 = R) {c : Nat} (hc : c < nC R) {s i a : Int32} (ha : a = nI c) : f_X9_isOpenAt τ a s i = some (opB R s i c) := by
  unfold f_X9_isOpenAt opB
  refine ob (m_ct hR hτ hc ha 0 (by decide) rfl) ?_
  by_cases z2 : ct R c 0 = s
  · rw [if_pos z2]
    refine ob (m_ct hR hτ hc ha 1 (by decide) rfl) ?_
    by_cases z3 : ct R c 1 = i
    · rw [if_pos z3]
      refine ob (m_ct hR hτ hc ha 5 (by decide) rfl) ?_
      by_cases z1 : ct R c 5 = 0
      · rw [if_pos z1]
        simp [z1, z2, z3]
      · rw [if_neg z1]
        simp [z1]
    · rw [if_neg z3]
      simp [z3]
  · rw [if_neg z2]
    simp [z2]
/-- the least open one among the first k -/
def Fst (R : Nat → Int32) (s i : Int32) (k : Nat) (x : Int32) : Prop := (x = -1 ∧ ∀ c, c < k → opB R s i c = false) ∨ ∃ c, c < k ∧ x = nI c ∧ opB R s i c = true ∧ ∀ d, d < k → opB R s i d = true → tC R c ≤ tC R d
theorem c_openFirst {σ : St} {R : Nat → Int32} (hR : RowOk R) (hC : ClsC σ R) (s i : Int32) : ∃ r, f_X3_openFirst σ s i = some r ∧ Fst R s i (nC R) r := by
  have hn := hR.1.2.2.2.1
  have key : ∀ (d k n : Nat) (x : Int32), k + d = nC R → d < n → Fst R s i k x → ∃ r, f_X3_openFirst_b5 σ s i n x (nI k) = some r ∧ Fst R s i (nC R) r := by
    intro d
    induction d with
    | zero =>
      intro k n x h1 h2 h3
      obtain ⟨n, rfl⟩ : ∃ m, n = m + 1 := ⟨n - 1, by omega⟩
      obtain rfl : k = nC R := by omega
      refine ⟨x, ?_, h3⟩
      rw [f_X3_openFirst_b5, hC.1, hn.1, if_pos (Int32.le_refl _)]
    | succ d ih =>
      intro k n x h1 h2 h3
      obtain ⟨n, rfl⟩ : ∃ m, n = m + 1 := ⟨n - 1, by omega⟩
      have hk : k < nC R := by omega
      have q := hC.2 k hk
      rw [f_X3_openFirst_b5, hC.1, hn.1, if_neg (nI_ge hk (by omega)), c_isOpenAt hC hn.2 hk rfl]
      simp only [Option.bind_some, nm, nI_1]
      cases z : opB R s i k
      · rw [if_pos bf0]
        refine ih (k + 1) n x (by omega) (by omega) ?_
        rcases h3 with ⟨e, h⟩ | ⟨c, h4, h5, h6, h7⟩
        · exact Or.inl ⟨e, fun c hc => by
            by_cases w : c = k
            · rw [w]; exact z
            · exact h c (by omega)⟩
        · exact Or.inr ⟨c, by omega, h5, h6, fun d hd ho => by
            by_cases w : d = k
            · rw [w, z] at ho; cases ho
            · exact h7 d (by omega) ho⟩
      · rw [if_neg bt0]
        rcases h3 with ⟨e, h⟩ | ⟨c, h4, h5, h6, h7⟩
        · rw [if_pos e]
          refine ih (k + 1) n (nI k) (by omega) (by omega) (Or.inr ⟨k, by omega, rfl, z, fun d hd ho => ?_⟩)
          by_cases w : d = k
          · rw [w]; exact Nat.le_refl _
          · rw [h d (by omega)] at ho; cases ho
        · rw [if_neg (by rw [h5]; exact nI_m1 (by omega)), rd_at k rfl (by omega) (by decide), rd_at c h5 (by omega) (by decide), show σ.1 27 k = ct R k 2 from q 2 (by decide), show σ.1 27 c = ct R c 2 from hC.2 c (by omega) 2 (by decide), (tnum hR hk).2, (tnum hR (show c < nC R by omega)).2]
          have t1 := (tnum hR hk).1
          have t2 := (tnum hR (show c < nC R by omega)).1
          simp only [Option.bind_some]
          by_cases w : nI (tC R c) ≤ nI (tC R k)
          · rw [if_pos w]
            rw [le_nI (by omega) (by omega)] at w
            refine ih (k + 1) n x (by omega) (by omega) (Or.inr ⟨c, by omega, h5, h6, fun d hd ho => ?_⟩)
            by_cases w2 : d = k
            · rw [w2]; exact w
            · exact h7 d (by omega) ho
          · rw [if_neg w]
            rw [le_nI (by omega) (by omega)] at w
            refine ih (k + 1) n (nI k) (by omega) (by omega) (Or.inr ⟨k, by omega, rfl, z, fun d hd ho => ?_⟩)
            by_cases w2 : d = k
            · rw [w2]; exact Nat.le_refl _
            · have := h7 d (by omega) ho
              omega
  unfold f_X3_openFirst
  exact key (nC R) 0 10000 (-1) (by omega) (by omega) (Or.inl ⟨rfl, fun c hc => by omega⟩)
/-- the greatest open one ahead of an instant, among the first k -/
def Ahd (R : Nat → Int32) (s i : Int32) (b k : Nat) (x : Int32) : Prop := (x = -1 ∧ ∀ c, c < k → opB R s i c = true → b ≤ tC R c) ∨ ∃ c, c < k ∧ x = nI c ∧ opB R s i c = true ∧ tC R c < b ∧ ∀ d, d < k → opB R s i d = true → tC R d < b → tC R d ≤ tC R c
theorem c_openAhead {σ : St} {R : Nat → Int32} (hR : RowOk R) (hC : ClsC σ R) (s i : Int32) (b : Nat) (hb : b ≤ 1000) : ∃ r, f_X3_openAhead σ s i (nI b) = some r ∧ Ahd R s i b (nC R) r := by
  have hn := hR.1.2.2.2.1
  have key : ∀ (d k n : Nat) (x : Int32), k + d = nC R → d < n → Ahd R s i b k x → ∃ r, f_X3_openAhead_b6 σ s i (nI b) n x (nI k) = some r ∧ Ahd R s i b (nC R) r := by
    intro d
    induction d with
    | zero =>
      intro k n x h1 h2 h3
      obtain ⟨n, rfl⟩ : ∃ m, n = m + 1 := ⟨n - 1, by omega⟩
      obtain rfl : k = nC R := by omega
      refine ⟨x, ?_, h3⟩
      rw [f_X3_openAhead_b6, hC.1, hn.1, if_pos (Int32.le_refl _)]
    | succ d ih =>
      intro k n x h1 h2 h3
      obtain ⟨n, rfl⟩ : ∃ m, n = m + 1 := ⟨n - 1, by omega⟩
      have hk : k < nC R := by omega
      have q := hC.2 k hk
      have t1 := (tnum hR hk).1
      have skip : (opB R s i k = true → b ≤ tC R k) → Ahd R s i b (k + 1) x := fun hz => by
        rcases h3 with ⟨e, h⟩ | ⟨c, h4, h5, h6, h7, h8⟩
        · exact Or.inl ⟨e, fun c hc ho => by
            by_cases w : c = k
            · rw [w] at ho ⊢; exact hz ho
            · exact h c (by omega) ho⟩
        · exact Or.inr ⟨c, by omega, h5, h6, h7, fun d hd ho hb => by
            by_cases w : d = k
            · rw [w] at ho hb; have := hz ho; omega
            · exact h8 d (by omega) ho hb⟩
      rw [f_X3_openAhead_b6, hC.1, hn.1, if_neg (nI_ge hk (by omega)), c_isOpenAt hC hn.2 hk rfl]
      simp only [Option.bind_some, nm, nI_1]
      cases z : opB R s i k
      · rw [if_pos bf0]
        exact ih (k + 1) n x (by omega) (by omega) (skip (fun ho => by rw [z] at ho; cases ho))
      · rw [if_neg bt0, rd_at k rfl (by omega) (by decide), show σ.1 27 k = ct R k 2 from q 2 (by decide), (tnum hR hk).2]
        simp only [Option.bind_some]
        by_cases w0 : nI b ≤ nI (tC R k)
        · rw [if_pos w0]
          rw [le_nI (by omega) (by omega)] at w0
          exact ih (k + 1) n x (by omega) (by omega) (skip (fun _ => w0))
        · rw [if_neg w0]
          rw [le_nI (by omega) (by omega)] at w0
          rcases h3 with ⟨e, h⟩ | ⟨c, h4, h5, h6, h7, h8⟩
          · rw [if_pos e]
            refine ih (k + 1) n (nI k) (by omega) (by omega) (Or.inr ⟨k, by omega, rfl, z, by omega, fun d hd ho hb => ?_⟩)
            by_cases w : d = k
            · rw [w]; exact Nat.le_refl _
            · have := h d (by omega) ho
              omega
          · have t2 := (tnum hR (show c < nC R by omega)).1
            rw [if_neg (by rw [h5]; exact nI_m1 (by omega)), rd_at c h5 (by omega) (by decide), show σ.1 27 c = ct R c 2 from hC.2 c (by omega) 2 (by decide), (tnum hR (show c < nC R by omega)).2]
            simp only [Option.bind_some]
            by_cases w : nI (tC R k) ≤ nI (tC R c)
            · rw [if_pos w]
              rw [le_nI (by omega) (by omega)] at w
              refine ih (k + 1) n x (by omega) (by omega) (Or.inr ⟨c, by omega, h5, h6, h7, fun d hd ho hb => ?_⟩)
              by_cases w2 : d = k
              · rw [w2]; exact w
              · exact h8 d (by omega) ho hb
            · rw [if_neg w]
              rw [le_nI (by omega) (by omega)] at w
              refine ih (k + 1) n (nI k) (by omega) (by omega) (Or.inr ⟨k, by omega, rfl, z, by omega, fun d hd ho hb => ?_⟩)
              by_cases w2 : d = k
              · rw [w2]; exact Nat.le_refl _
              · have := h8 d (by omega) ho hb
                omega
  unfold f_X3_openAhead
  exact key (nC R) 0 10000 (-1) (by omega) (by omega) (Or.inl ⟨rfl, fun c hc => by omega⟩)
