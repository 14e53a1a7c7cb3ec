/-! below -/
theorem most_neg {R : Nat → Int32} (hR : RowOk R) {s i : Nat} (hs : s < nS R) (hi : i < nT R) (t : Int32) : (0 ≤ mostR R s i t) = (0 ≤ zM R s i t) := by
  rw [← most_z hR hs hi]
  exact propext Int32.le_iff_toInt_le
theorem c_isBelow {σ : St} {R : Nat → Int32} (hg : isG σ.2.2.1) (hR : RowOk R) (hG : ClsG σ σ.2.2.1 R) (hA : ClsA σ R) {s i : Nat} (hs : s < nS R) (hi : i < nT R) (t : Int32) : ∃ σ', f_X8_isBelow σ (nI s) (nI i) t = some (decide (zM R s i t < 0), σ') ∧ Off σ σ' := by
  obtain ⟨σ', p0, p1, -, -, p4, -⟩ := c_readAt hg hR.1 hR.2.1 hG hA s i hs hi t rfl rfl
  refine ⟨σ', ?_, p1⟩
  unfold f_X8_isBelow
  refine ob p0 ?_
  rw [p4]
  have h := most_neg hR hs hi t
  unfold mostR at h
  by_cases z : 0 ≤ zM R s i t
  · rw [if_pos (by rw [h]; exact z), decide_eq_false (by omega)]
  · rw [if_neg (by rw [h]; exact z), decide_eq_true (by omega)]
/-- the best candidate so far -/
def Bst (R : Nat → Int32) (s i b : Nat) : Prop := b ≤ 1000 ∧ (b < 1000 → zM R s i (nI b) < 0)
theorem b_legs {σ0 : St} {R : Nat → Int32} (hg : isG σ0.2.2.1) (hR : RowOk R) (hG : ClsG σ0 σ0.2.2.1 R) (hA : ClsA σ0 R) {s i : Nat} (hs : s < nS R) (hi : i < nT R) :
    ∀ (d m n b : Nat) (σ : St), m + d = nM R → d < n → Off σ0 σ → Bst R s i b → (∀ q v, q < m → v ≤ 999 → atB R (nI s) (nI i) (2 * q) = true → lg R (2 * q) 3 = nI v → zM R s i (nI v) < 0 → b ≤ v) →
      ∃ b' σ', f_X8_below_b21 (nI s) (nI i) n σ (nI b) (nI m) = f_X8_below_b122 (nI s) (nI i) 10000 σ' (nI b') 0 ∧ Off σ0 σ' ∧ Bst R s i b' ∧ ∀ q v, q < nM R → v ≤ 999 → atB R (nI s) (nI i) (2 * q) = true → lg R (2 * q) 3 = nI v → zM R s i (nI v) < 0 → b' ≤ v
  | 0, m, n, b, σ, h1, h2, h3, h4, h5 => by
    obtain ⟨n, rfl⟩ : ∃ k, n = k + 1 := ⟨n - 1, by omega⟩
    obtain rfl : m = nM R := by omega
    refine ⟨b, σ, ?_, h3, h4, h5⟩
    have eg : σ.2.2.1 = σ0.2.2.1 := by rw [h3.2]
    rw [f_X8_below_b21, eg, ((hG.off hg h3).1.2.2), hR.1.2.2.1.1, if_pos (Int32.le_refl _)]
  | d + 1, m, n, b, σ, h1, h2, h3, h4, h5 => by
    obtain ⟨n, rfl⟩ : ∃ k, n = k + 1 := ⟨n - 1, by omega⟩
    have ih := b_legs hg hR hG hA hs hi d (m + 1) n
    have hm := hR.1.2.2.1
    have hs6 := hR.1.1.2.2
    have eg : σ.2.2.1 = σ0.2.2.1 := by rw [h3.2]
    have hc := hG.off hg h3
    have hc' := hA.off h3
    have hk : m < nM R := by omega
    obtain ⟨q1, -⟩ := hc.2.2.2.1 m hk
    have l0 : f_X8_legOf σ (nI m) 0 = nI (2 * m) := by
      unfold f_X8_legOf
      show nI 2 * nI m + nI 0 = _
      simp only [pk_mul, nI_add, Nat.add_zero]
    have nxt : (¬ atB R (nI s) (nI i) (2 * m) = true) → ∀ q v, q < m + 1 → v ≤ 999 → atB R (nI s) (nI i) (2 * q) = true → lg R (2 * q) 3 = nI v → zM R s i (nI v) < 0 → b ≤ v := fun hn q v hq hv ha hl hz => by
      by_cases z : q = m
      · subst z; exact absurd ha hn
      · exact h5 q v (by omega) hv ha hl hz
    rw [f_X8_below_b21, eg, hc.1.2.2, hm.1, if_neg (nI_ge hk (by omega))]
    simp only [nm, l0, nI_1]
    refine (show ∀ {o : Option (Int32 × St)} {p : Option (Int32 × St)}, o = p → (∃ b' σ', p = f_X8_below_b122 (nI s) (nI i) 10000 σ' (nI b') 0 ∧ Off σ0 σ' ∧ Bst R s i b' ∧ ∀ q v, q < nM R → v ≤ 999 → atB R (nI s) (nI i) (2 * q) = true → lg R (2 * q) 3 = nI v → zM R s i (nI v) < 0 → b' ≤ v) → ∃ b' σ', o = f_X8_below_b122 (nI s) (nI i) 10000 σ' (nI b') 0 ∧ Off σ0 σ' ∧ Bst R s i b' ∧ ∀ q v, q < nM R → v ≤ 999 → atB R (nI s) (nI i) (2 * q) = true → lg R (2 * q) 3 = nI v → zM R s i (nI v) < 0 → b' ≤ v from fun e h => e ▸ h) (ob (rd_at m rfl (by omega) (by decide)) rfl) ?_
    rw [q1]
    by_cases zi : mI R m = nI i
    · rw [if_pos zi, rd_at (2 * m) rfl (by omega) (by decide)]
      simp only [Option.bind_some]
      have hat := at_c hc (k := 2 * m) (s := s) (i := nI i) (by omega) (by omega) (by rw [show 2 * m / 2 = m by omega]; exact zi)
      by_cases za : atB R (nI s) (nI i) (2 * m) = true
      · have ht := (atB_there za).1
        rw [if_pos (by rw [hat]; exact za), rd_at (2 * m) rfl (by omega) (by decide)]
        simp only [Option.bind_some]
        rcases hR.2.2.1 (2 * m) (by omega) with z | ⟨-, -, e, l, he, hl, z2, z3⟩
        · rw [ht] at z; exact absurd z (by decide)
        · have e8 : σ.1 (σ0.2.2.1 + 8) (2 * m) = nI l := by
            rcases hc.2.2.2.2 (2 * m) (by omega) with ⟨-, -, -, w⟩ | ⟨w, -⟩
            · exact w.trans z3
            · rw [ht] at w; exact absurd w (by decide)
          have upd : ∀ b2, (zM R s i (nI l) < 0 → b2 ≤ l) → b2 ≤ b → ∀ q v, q < m + 1 → v ≤ 999 → atB R (nI s) (nI i) (2 * q) = true → lg R (2 * q) 3 = nI v → zM R s i (nI v) < 0 → b2 ≤ v := fun b2 hb hbb q v hq hv ha hlv hz => by
            by_cases z : q = m
            · subst z
              have : l = v := nI_inj (by omega) (by omega) (z3.symm.trans hlv)
              subst this
              exact hb hz
            · exact Nat.le_trans hbb (h5 q v (by omega) hv ha hlv hz)
          rw [e8]
          by_cases zb : nI b ≤ nI l
          · rw [if_pos zb]
            rw [le_nI (by have := h4.1; omega) (by omega)] at zb
            exact ih b σ (by omega) (by omega) h3 h4 (upd b (fun _ => zb) (Nat.le_refl _))
          · rw [if_neg zb]
            rw [le_nI (by have := h4.1; omega) (by omega)] at zb
            obtain ⟨σ', w0, w1⟩ := c_isBelow (σ := σ) (by rw [eg]; exact hg) hR (by rw [eg]; exact hc) hc' hs hi (nI l)
            have o2 := h3.trans w1
            have eg2 : σ'.2.2.1 = σ0.2.2.1 := by rw [o2.2]
            rw [w0]
            simp only [Option.bind_some]
            by_cases zz : zM R s i (nI l) < 0
            · rw [decide_eq_true zz, if_neg bt0, eg2, rd_at (2 * m) rfl (by omega) (by decide)]
              simp only [Option.bind_some]
              have e9 : σ'.1 (σ0.2.2.1 + 8) (2 * m) = nI l := by
                rw [w1.1 _ (by rcases hg with z | z <;> rw [z] <;> omega) (by rcases hg with z | z <;> rw [z] <;> omega)]
                exact e8
              rw [e9]
              exact ih l σ' (by omega) (by omega) o2 ⟨by omega, fun _ => zz⟩ (upd l (fun _ => Nat.le_refl _) (by omega))
            · rw [decide_eq_false zz, if_pos bf0]
              exact ih b σ' (by omega) (by omega) o2 h4 (upd b (fun q => absurd q zz) (Nat.le_refl _))
      · rw [if_neg (by rw [hat]; exact za)]
        exact ih b σ (by omega) (by omega) h3 h4 (nxt za)
    · rw [if_neg zi]
      refine ih b σ (by omega) (by omega) h3 h4 (nxt (fun ha => zi ?_))
      have := (atB_there ha).2.2
      rw [show 2 * m / 2 = m by omega] at this
      exact this
theorem b_adjs {σ0 : St} {R : Nat → Int32} (hg : isG σ0.2.2.1) (hR : RowOk R) (hG : ClsG σ0 σ0.2.2.1 R) (hA : ClsA σ0 R) {s i : Nat} (hs : s < nS R) (hi : i < nT R) :
    ∀ (d k n b : Nat) (σ : St), k + d = nA R → d < n → Off σ0 σ → Bst R s i b → (∀ q v, q < k → v ≤ 999 → R (685 + 4 * q) = nI s → R (686 + 4 * q) = nI i → R (687 + 4 * q) = nI v → zM R s i (nI v) < 0 → b ≤ v) →
      ∃ b' σ', f_X8_below_b122 (nI s) (nI i) n σ (nI b) (nI k) = some (if b' ≤ 999 then nI b' else -1, σ') ∧ Off σ0 σ' ∧ b' ≤ b ∧ Bst R s i b' ∧ ∀ q v, q < nA R → v ≤ 999 → R (685 + 4 * q) = nI s → R (686 + 4 * q) = nI i → R (687 + 4 * q) = nI v → zM R s i (nI v) < 0 → b' ≤ v
  | 0, k, n, b, σ, h1, h2, h3, h4, h5 => by
    obtain ⟨n, rfl⟩ : ∃ k, n = k + 1 := ⟨n - 1, by omega⟩
    obtain rfl : k = nA R := by omega
    refine ⟨b, σ, ?_, h3, Nat.le_refl _, h4, h5⟩
    have hc' := hA.off h3
    rw [f_X8_below_b122, hc'.1, hR.1.2.2.2.2.1, if_pos (Int32.le_refl _)]
    by_cases z : b ≤ 999
    · rw [if_pos z, if_pos (show nI b ≤ 999 by show nI b ≤ nI 999; rw [le_nI (by omega) (by omega)]; exact z)]
    · rw [if_neg z, if_neg (show ¬ nI b ≤ 999 by show ¬ nI b ≤ nI 999; rw [le_nI (by have := h4.1; omega) (by omega)]; exact z)]
  | d + 1, k, n, b, σ, h1, h2, h3, h4, h5 => by
    obtain ⟨n, rfl⟩ : ∃ k, n = k + 1 := ⟨n - 1, by omega⟩
    have ih := b_adjs hg hR hG hA hs hi d (k + 1) n
    have hn := hR.1.2.2.2.2
    have eg : σ.2.2.1 = σ0.2.2.1 := by rw [h3.2]
    have hc := hG.off hg h3
    have hc' := hA.off h3
    have hk : k < nA R := by omega
    obtain ⟨e1, e2, e3, -⟩ := hc'.2 k hk
    obtain ⟨l, hl, z3⟩ := adj_t hR hk
    rw [f_X8_below_b122, hc'.1, hn.1, if_neg (nI_ge hk (by omega)), c_isAt (by omega), e1, e2]
    simp only [Option.bind_some, nm, nI_1]
    have upd : ∀ b2, ((R (685 + 4 * k) = nI s ∧ R (686 + 4 * k) = nI i) → zM R s i (nI l) < 0 → b2 ≤ l) → b2 ≤ b → ∀ q v, q < k + 1 → v ≤ 999 → R (685 + 4 * q) = nI s → R (686 + 4 * q) = nI i → R (687 + 4 * q) = nI v → zM R s i (nI v) < 0 → b2 ≤ v := fun b2 hb hbb q v hq hv ha ha2 hlv hz => by
      by_cases z : q = k
      · subst z
        have : l = v := nI_inj (by omega) (by omega) (z3.symm.trans hlv)
        subst this
        exact hb ⟨ha, ha2⟩ hz
      · exact Nat.le_trans hbb (h5 q v (by omega) hv ha ha2 hlv hz)
    by_cases za : R (685 + 4 * k) = nI s ∧ R (686 + 4 * k) = nI i
    · rw [decide_eq_true za.1, decide_eq_true za.2, Bool.and_self, if_neg bt0, rd_at k rfl (by omega) (by decide), e3, z3]
      simp only [Option.bind_some]
      by_cases zb : nI b ≤ nI l
      · rw [if_pos zb]
        rw [le_nI (by have := h4.1; omega) (by omega)] at zb
        exact ih b σ (by omega) (by omega) h3 h4 (upd b (fun _ _ => zb) (Nat.le_refl _))
      · rw [if_neg zb]
        rw [le_nI (by have := h4.1; omega) (by omega)] at zb
        obtain ⟨σ', w0, w1⟩ := c_isBelow (σ := σ) (by rw [eg]; exact hg) hR (by rw [eg]; exact hc) hc' hs hi (nI l)
        have o2 := h3.trans w1
        rw [w0]
        simp only [Option.bind_some]
        by_cases zz : zM R s i (nI l) < 0
        · rw [decide_eq_true zz, if_neg bt0, rd_at k rfl (by omega) (by decide)]
          simp only [Option.bind_some]
          rw [((hA.off o2).2 k hk).2.2.1, z3]
          obtain ⟨b', σ'', r1, r2, r3, r4, r5⟩ := ih l σ' (by omega) (by omega) o2 ⟨by omega, fun _ => zz⟩ (upd l (fun _ _ => Nat.le_refl _) (by omega))
          exact ⟨b', σ'', r1, r2, by omega, r4, r5⟩
        · rw [decide_eq_false zz, if_pos bf0]
          exact ih b σ' (by omega) (by omega) o2 h4 (upd b (fun _ q => absurd q zz) (Nat.le_refl _))
    · have e : (decide (R (685 + 4 * k) = nI s) && decide (R (686 + 4 * k) = nI i)) = false := by
        rw [← Bool.not_eq_true, Bool.and_eq_true, decide_eq_true_eq, decide_eq_true_eq]
        exact za
      rw [e, if_pos bf0]
      exact ih b σ (by omega) (by omega) h3 h4 (upd b (fun q => absurd q za) (Nat.le_refl _))
theorem m_below {τ : St} {R : Nat → Int32} (hR : RowOk R) (hτ : τ.1 52 = R) {s i : Nat} (hs : s < nS R) (hi : i < nT R) :
    ∀ (d t n : Nat), t + d = 1000 → d < n → (∃ u, t ≤ u ∧ u ≤ 999 ∧ zM R s i (nI u) < 0 ∧ (∀ q, t ≤ q → q < u → 0 ≤ zM R s i (nI q)) ∧ f_X9_below_b25 (nI s) (nI i) n τ (nI t) = some (nI u, τ)) ∨ ((∀ q, t ≤ q → q ≤ 999 → 0 ≤ zM R s i (nI q)) ∧ f_X9_below_b25 (nI s) (nI i) n τ (nI t) = some (-1, τ))
  | 0, t, n, h1, h2 => by
    obtain ⟨n, rfl⟩ : ∃ k, n = k + 1 := ⟨n - 1, by omega⟩
    obtain rfl : t = 1000 := by omega
    refine Or.inr ⟨fun q h3 h4 => by omega, ?_⟩
    rw [f_X9_below_b25, if_pos (show (999 : Int32) < nI 1000 by decide)]
  | d + 1, t, n, h1, h2 => by
    obtain ⟨n, rfl⟩ : ∃ k, n = k + 1 := ⟨n - 1, by omega⟩
    have hs6 := hR.1.1.2.2
    have hi5 := hR.1.2.1.2
    have hN : RowN (τ.1 52) := by rw [hτ]; exact hR.1
    rw [f_X9_below_b25, if_neg (show ¬ (999 : Int32) < nI t by show ¬ nI 999 < nI t; rw [lt_nI (by omega) (by omega)]; omega), m_most hN s i (nI t) (by omega) (by omega) rfl rfl, hτ]
    simp only [Option.bind_some, nm, nI_1]
    have h := most_neg hR hs hi (nI t)
    unfold mostR at h
    by_cases z : 0 ≤ zM R s i (nI t)
    · rw [if_pos (by rw [h]; exact z)]
      rcases m_below hR hτ hs hi d (t + 1) n (by omega) (by omega) with ⟨u, g1, g2, g3, g4, g5⟩ | ⟨g1, g2⟩
      · refine Or.inl ⟨u, by omega, g2, g3, fun q h3 h4 => ?_, g5⟩
        by_cases zq : q = t
        · rw [zq]; exact z
        · exact g4 q (by omega) h4
      · refine Or.inr ⟨fun q h3 h4 => ?_, g2⟩
        by_cases zq : q = t
        · rw [zq]; exact z
        · exact g1 q (by omega) h4
    · rw [if_neg (by rw [h]; exact z)]
      exact Or.inl ⟨t, Nat.le_refl _, by omega, by omega, fun q h3 h4 => by omega, rfl⟩
theorem s_below : S_below Inv := by
  intro σ hI a1 a2
  obtain ⟨⟨hg, -⟩, hR, hC, -⟩ := id hI
  have k1 := r52 (σ := σ) (j := 0) (x := 0)
  have hb : Inv (upI σ 50 0 0) := hI.keep (sm0 σ 0)
  unfold f_X8_below f_X4_hasCouple
  rcases shelf_u hR.1 a1 with ⟨s, hs, rfl, e1, m1⟩ | ⟨e1, m1, -⟩
  · rcases item_u hR.1 a2 with ⟨i, hi, rfl, e2, m2⟩ | ⟨e2, m2, -⟩
    · rw [e1 _ _ hC.1.1.1, e2 _ _ hC.1.1.2.1, if_neg bt0, if_neg bt0, if_neg bt0]
      have hm := hR.1.2.2.1
      have hn := hR.1.2.2.2.2
      obtain ⟨b1, σ1, w1, w2, w3, w4⟩ := b_legs hg hR hC.1 hC.2.1 hs hi (nM (σ.1 52)) 0 10000 1000 σ (by omega) (by omega) (Off.rf σ) ⟨Nat.le_refl _, fun h => absurd h (by omega)⟩ (fun q v h => absurd h (by omega))
      obtain ⟨b2, σ2, v1, v2, v3, v4, v5⟩ := b_adjs hg hR hC.1 hC.2.1 hs hi (nA (σ.1 52)) 0 10000 b1 σ1 (by omega) (by omega) w2 w3 (fun q v h => absurd h (by omega))
      have hI2 := hI.keep v2.same
      have e52 : σ2.1 52 = σ.1 52 := v2.1 52 (by decide) (by decide)
      have k2 : (upI σ2 50 0 0).1 52 = σ.1 52 := r52.trans e52
      have allc : ∀ v, v ≤ 999 → Cand (σ.1 52) s i v → zM (σ.1 52) s i (nI v) < 0 → b2 ≤ v := by
        intro v hv hc hz
        rcases hc with ⟨m, c1, c2, c3⟩ | ⟨k, c1, c2, c3, c4⟩
        · have := w4 m v c1 hv c2 c3 hz
          omega
        · exact v5 k v c1 hv c2 c3 c4 hz
      refine ⟨_, _, upI σ2 50 0 0, w1.trans v1, ?_, hI2.keep (sm0 σ2 0)⟩
      unfold f_X9_below
      simp only [nm]
      refine ob (m1 _ k2) ?_
      rw [if_neg bt0]
      refine ob (m2 _ k2) ?_
      rw [if_neg bt0]
      rcases m_below (τ := upI σ2 50 0 0) hR k2 hs hi 1000 0 10000 (by omega) (by omega) with ⟨u, g1, g2, g3, g4, g5⟩ | ⟨g1, g2⟩
      · refine g5.trans ?_
        obtain ⟨u', c1, c2, c3⟩ := z_first hR hs hi u g2 g3
        have hu : u' = u := by
          by_cases q : u' < u
          · have := g4 u' (by omega) q
            omega
          · omega
        subst hu
        have h1 := allc u' g2 c2 g3
        have h2 : ¬ b2 < u' := fun q => by
          have := g4 b2 (by omega) q
          have := v4.2 (by omega)
          omega
        have h3 : b2 = u' := by omega
        rw [h3, if_pos g2]
      · refine g2.trans ?_
        have h1 : ¬ b2 ≤ 999 := fun q => by
          have := g1 b2 (by omega) q
          have := v4.2 (by omega)
          omega
        rw [if_neg h1]
    · rw [e1 _ _ hC.1.1.1, e2 _ _ hC.1.1.2.1]
      refine ⟨_, _, upI σ 50 0 0, rfl, ?_, hb⟩
      unfold f_X9_below
      simp only [nm]
      rw [m1 _ k1, m2 _ k1]
      rfl
  · rw [e1 _ _ hC.1.1.1]
    refine ⟨_, _, upI σ 50 0 0, rfl, ?_, hb⟩
    unfold f_X9_below
    simp only [nm]
    rw [m1 _ k1]
    rfl
