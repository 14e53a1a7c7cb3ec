/-! questions about a count -/
def sC (R : Nat → Int32) (c : Nat) : Nat := (ct R c 0).toNatClampNeg
def iC (R : Nat → Int32) (c : Nat) : Nat := (ct R c 1).toNatClampNeg
def sureC (R : Nat → Int32) (c : Nat) : Int32 := sureR R (sC R c) (iC R c) (ct R c 2)
def lstC (R : Nat → Int32) (c : Nat) : Int32 := sureC R c - dS R (ct R c 0) (ct R c 1) (ct R c 2) 0
def mstC (R : Nat → Int32) (c : Nat) : Int32 := sureC R c + dS R (ct R c 0) (ct R c 1) (ct R c 2) 1
def dlC (R : Nat → Int32) (c : Nat) : List Int32 := dlst R (ct R c 0) (ct R c 1) (ct R c 2) (2 * nM R)
def difC (R : Nat → Int32) (c : Nat) : Int32 := if ct R c 3 ≤ mstC R c then (if lstC R c ≤ ct R c 3 then 0 else ct R c 3 - lstC R c) else ct R c 3 - mstC R c
def ptC (R : Nat → Int32) (c : Nat) : Int32 := R (5 + 2 * iC R c + 1) * (if sureC R c < 0 then 0 else sureC R c) / 100
def alwC (R : Nat → Int32) (c : Nat) : Int32 := if R (5 + 2 * iC R c) < ptC R c then ptC R c else R (5 + 2 * iC R c)
theorem cnum {R : Nat → Int32} (hR : RowOk R) {c : Nat} (hc : c < nC R) : sC R c < nS R ∧ ct R c 0 = nI (sC R c) ∧ iC R c < nT R ∧ ct R c 1 = nI (iC R c) ∧ nS R ≤ 6 ∧ nT R ≤ 5 ∧ c < 40 := by
  obtain ⟨⟨⟨-, -, n1⟩, ⟨-, n2⟩, -, ⟨-, n3⟩, -⟩, -, -, -, h, -⟩ := hR
  obtain ⟨⟨s, hs, e1⟩, ⟨i, hi, e2⟩, -⟩ := h c hc
  have q1 : sC R c = s := by unfold sC; rw [e1]; exact nI_clamp (by omega)
  have q2 : iC R c = i := by unfold iC; rw [e2]; exact nI_clamp (by omega)
  rw [q1, q2]
  exact ⟨hs, e1, hi, e2, n1, n2, by omega⟩
theorem c_turnTo {σ : St} {R : Nat → Int32} (hg : isG σ.2.2.1) (hR : RowOk R) (hC : Cls σ σ.2.2.1 R) {c : Nat} (hc : c < nC R) {a : Int32} (ha : a = nI c) :
    ∃ σ', f_X8_turnTo σ a = some σ' ∧ Off σ σ' ∧ σ'.1 48 0 = sureC R c ∧ σ'.1 48 1 = lstC R c ∧ σ'.1 48 2 = mstC R c ∧ σ'.1 48 3 = nI (dlC R c).length ∧ ∀ j, j < (dlC R c).length → j < 10 → σ'.1 49 j = (dlC R c).getD j 0 := by
  subst ha
  obtain ⟨h1, h2, h3, h4, h5, h6, h7⟩ := cnum hR hc
  obtain ⟨σ', p0, p1, p2, p3, p4, p5, p6⟩ := c_readAt hg hR.1 hR.2.1 hC.1 hC.2.1 (sC R c) (iC R c) h1 h3 (ct R c 2) h2 h4
  rw [← h2, ← h4] at p3 p4 p5 p6
  refine ⟨σ', ?_, p1, p2, p3, p4, p5, p6⟩
  unfold f_X8_turnTo
  have q := hC.2.2.2 c hc
  refine ob (rd_at c rfl h7 (by decide)) (ob (rd_at c rfl h7 (by decide)) (ob (rd_at c rfl h7 (by decide)) ?_))
  rw [show σ.1 25 c = ct R c 0 from q 0 (by decide), show σ.1 26 c = ct R c 1 from q 1 (by decide), show σ.1 27 c = ct R c 2 from q 2 (by decide)]
  exact ob p0 rfl
theorem c_dif {σ : St} {R : Nat → Int32} (hg : isG σ.2.2.1) (hR : RowOk R) (hC : Cls σ σ.2.2.1 R) {c : Nat} (hc : c < nC R) {a : Int32} (ha : a = nI c) : ∃ σ', f_X8_differenceOf σ a = some (difC R c, σ') ∧ Off σ σ' ∧ σ'.1 48 0 = sureC R c := by
  obtain ⟨σ', p0, p1, p2, p3, p4, -⟩ := c_turnTo hg hR hC hc ha
  refine ⟨σ', ?_, p1, p2⟩
  subst ha
  have h7 := (cnum hR hc).2.2.2.2.2.2
  unfold f_X8_differenceOf
  refine ob p0 (ob (rd_at c rfl h7 (by decide)) ?_)
  rw [show σ'.1 28 = σ.1 28 from p1.1 28 (by decide) (by decide), show σ.1 28 c = ct R c 3 from hC.2.2.2 c hc 3 (by decide), p3, p4]
  unfold difC
  by_cases z : ct R c 3 ≤ mstC R c
  · rw [if_pos z, if_pos z]
    by_cases z2 : lstC R c ≤ ct R c 3
    · rw [if_pos z2, if_pos z2]
    · rw [if_neg z2, if_neg z2]
  · rw [if_neg z, if_neg z]
theorem m_ct {τ : St} {R : Nat → Int32} (hR : RowOk R) (hτ : τ.1 52 = R) {c : Nat} (hc : c < nC R) {a b : Int32} (ha : a = nI c) (w : Nat) (hw : w < 6) (hb : b = nI w) : f_X9_counted τ a b = some (ct R c w) := by
  rw [m_counted c w ha hb (cnum hR hc).2.2.2.2.2.2 hw, hτ]
  rfl
theorem m_sureOf {τ : St} {R : Nat → Int32} (hR : RowOk R) (hτ : τ.1 52 = R) {c : Nat} (hc : c < nC R) {a : Int32} (ha : a = nI c) : f_X9_sureOf τ a = some (sureC R c) := by
  obtain ⟨h1, h2, h3, h4, h5, h6, h7⟩ := cnum hR hc
  have hN : RowN (τ.1 52) := by rw [hτ]; exact hR.1
  unfold f_X9_sureOf
  refine ob (m_ct hR hτ hc ha 0 (by decide) rfl) (ob (m_ct hR hτ hc ha 1 (by decide) rfl) (ob (m_ct hR hτ hc ha 2 (by decide) rfl) (ob (m_sure hN (sC R c) (iC R c) _ (by omega) (by omega) h2 h4) ?_)))
  rw [hτ]
  rfl
theorem m_dif {τ : St} {R : Nat → Int32} (hR : RowOk R) (hτ : τ.1 52 = R) {c : Nat} (hc : c < nC R) {a : Int32} (ha : a = nI c) : f_X9_differenceOf τ a = some (difC R c) := by
  obtain ⟨h1, h2, h3, h4, h5, h6, h7⟩ := cnum hR hc
  have hN : RowN (τ.1 52) := by rw [hτ]; exact hR.1
  unfold f_X9_differenceOf
  refine ob (m_ct hR hτ hc ha 0 (by decide) rfl) (ob (m_ct hR hτ hc ha 1 (by decide) rfl) (ob (m_ct hR hτ hc ha 2 (by decide) rfl) (ob (m_least hN (sC R c) (iC R c) _ (by omega) (by omega) h2 h4) ?_)))
  refine ob (m_ct hR hτ hc ha 0 (by decide) rfl) (ob (m_ct hR hτ hc ha 1 (by decide) rfl) (ob (m_ct hR hτ hc ha 2 (by decide) rfl) (ob (m_most hN (sC R c) (iC R c) _ (by omega) (by omega) h2 h4) ?_)))
  refine ob (m_ct hR hτ hc ha 3 (by decide) rfl) ?_
  rw [hτ, ← h2, ← h4]
  show (if ct R c 3 ≤ mstC R c then (if lstC R c ≤ ct R c 3 then _ else some (ct R c 3 - lstC R c)) else some (ct R c 3 - mstC R c)) = _
  unfold difC
  by_cases z : ct R c 3 ≤ mstC R c
  · rw [if_pos z, if_pos z]
    by_cases z2 : lstC R c ≤ ct R c 3
    · rw [if_pos z2, if_pos z2]
    · rw [if_neg z2, if_neg z2]
  · rw [if_neg z, if_neg z]
theorem s_difference : S_difference Inv := by
  intro σ hI a1
  obtain ⟨⟨hg, -⟩, hR, hC, -⟩ := id hI
  unfold f_X8_difference
  rcases count_u hR.1 a1 with ⟨c, hc, rfl, e1, m1⟩ | ⟨e1, m1, -⟩
  · obtain ⟨σ', p0, p1, -⟩ := c_dif hg hR hC hc rfl
    rw [e1 _ hC.2.2.1, if_neg bt0, p0]
    have k2 : (upI σ' 50 0 0).1 52 = σ.1 52 := r52.trans (p1.1 52 (by decide) (by decide))
    refine ⟨_, _, upI σ' 50 0 0, rfl, ?_, (hI.keep p1.same).keep (sm0 σ' 0)⟩
    unfold f_X9_difference
    simp only [nm]
    refine ob (m1 _ k2) ?_
    rw [if_neg bt0]
    exact ob (m_dif hR k2 hc rfl) rfl
  · rw [e1 _ hC.2.2.1, if_pos bf0]
    refine ⟨_, _, upI σ 50 0 0, rfl, ?_, hI.keep (sm0 σ 0)⟩
    unfold f_X9_difference
    simp only [nm]
    refine ob (m1 _ r52) ?_
    rw [if_pos bf0]
theorem c_alw {σ : St} {R : Nat → Int32} (hg : isG σ.2.2.1) (hR : RowOk R) (hC : Cls σ σ.2.2.1 R) {c : Nat} (hc : c < nC R) {a : Int32} (ha : a = nI c) : ∃ σ', f_X8_allowedFor σ a = some (alwC R c, σ') ∧ Off σ σ' := by
  obtain ⟨σ', p0, p1, p2, p3, p4, -⟩ := c_turnTo hg hR hC hc ha
  refine ⟨σ', ?_, p1⟩
  subst ha
  obtain ⟨h1, h2, h3, h4, h5, h6, h7⟩ := cnum hR hc
  have hc' := hC.1.off hg p1
  have eg : σ'.2.2.1 = σ.2.2.1 := by rw [p1.2]
  obtain ⟨q1, q2⟩ := hc'.2.1 _ h3
  unfold f_X8_allowedFor
  refine ob p0 (ob (rd_at c rfl h7 (by decide)) ?_)
  rw [show σ'.1 26 = σ.1 26 from p1.1 26 (by decide) (by decide), show σ.1 26 c = ct R c 1 from hC.2.2.2 c hc 1 (by decide), p2, eg]
  refine ob (rd_at (iC R c) h4 (by omega) (by decide)) ?_
  simp only [nm]
  refine ob (rd_at (iC R c) h4 (by omega) (by decide)) ?_
  rw [q1, q2]
  rfl
theorem m_alw {τ : St} {R : Nat → Int32} (hR : RowOk R) (hτ : τ.1 52 = R) {c : Nat} (hc : c < nC R) {a : Int32} (ha : a = nI c) : f_X9_allowed τ a = some (alwC R c) := by
  obtain ⟨h1, h2, h3, h4, h5, h6, h7⟩ := cnum hR hc
  have hb : ∀ x, x = ptC R c → f_X9_allowed_b38 τ a (nI (5 + 2 * iC R c)) x = some (alwC R c) := by
    intro x hx
    subst hx
    unfold f_X9_allowed_b38 alwC
    rw [rd_at (5 + 2 * iC R c) rfl (by omega) (by decide), hτ]
    simp only [Option.bind_some]
    by_cases z : R (5 + 2 * iC R c) < ptC R c
    · rw [if_neg (Int32.not_le.mpr z), if_pos z]
    · rw [if_pos (Int32.not_lt.mp z), if_neg z]
  unfold f_X9_allowed
  refine ob (m_ct hR hτ hc ha 1 (by decide) rfl) ?_
  simp only [nm]
  rw [h4, show (5 : Int32) + 2 * nI (iC R c) = nI (5 + 2 * iC R c) by show nI 5 + nI 2 * nI _ = _; simp only [pk_mul, nI_add]]
  refine ob (m_sureOf hR hτ hc ha) ?_
  by_cases z : 0 ≤ sureC R c
  · rw [if_pos z]
    refine ob (rd_at (5 + 2 * iC R c + 1) (nI_1 _) (by omega) (by decide)) (hb _ ?_)
    unfold ptC
    rw [hτ, if_neg (Int32.not_lt.mpr z)]
  · rw [if_neg z]
    refine hb _ ?_
    unfold ptC
    rw [if_pos (Int32.not_le.mp z), Int32.mul_zero]
    rfl
