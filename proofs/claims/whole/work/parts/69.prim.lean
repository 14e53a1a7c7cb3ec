/-! text: both readers side by side -/
def Cur (v : Nat → Nat) (n : Nat) (P : Nat → Nat) (T : Nat) (σ τ : St) (i : Nat) : Prop :=
  EnvOk v n P T (σ.1 2) (σ.1 4) (σ.1 5) ∧ TpM τ v n ∧ i < T ∧ σ.1 1 1 = nI (i + 1) ∧ σ.1 1 2 = σ.1 4 i ∧ σ.1 1 3 = τ.1 50 5 ∧ KR n (σ.1 1 2) (τ.1 50 6) (τ.2.1 50) (τ.1 50 7) ∧ (¬ σ.1 1 2 = -2 → τ.1 50 4 = nI (P (i + 1)))
/-- a step of the class's reader: its own places alone -/
def FA (σ σ' : St) : Prop := σ'.2 = σ.2 ∧ (∀ c, c ≠ 1 → σ'.1 c = σ.1 c) ∧ ∀ q, q ≠ 1 → q ≠ 2 → q ≠ 3 → q ≠ 4 → σ'.1 1 q = σ.1 1 q
theorem FA.rf (σ : St) : FA σ σ := ⟨rfl, fun _ _ => rfl, fun _ _ _ _ _ => rfl⟩
theorem FA.trans {a b c : St} (h : FA a b) (k : FA b c) : FA a c := ⟨k.1.trans h.1, fun x y => (k.2.1 x y).trans (h.2.1 x y), fun q q1 q2 q3 q4 => (k.2.2 q q1 q2 q3 q4).trans (h.2.2 q q1 q2 q3 q4)⟩
def FCl (g : Nat) (σ σ' : St) : Prop := σ'.2 = σ.2 ∧ ∀ c, c ≠ 1 → ¬ (g ≤ c ∧ c < g + 9) → σ'.1 c = σ.1 c
theorem FCl.rf (g : Nat) (σ : St) : FCl g σ σ := ⟨rfl, fun _ _ _ => rfl⟩
theorem FCl.trans {g : Nat} {a b c : St} (h : FCl g a b) (k : FCl g b c) : FCl g a c := ⟨k.1.trans h.1, fun x y z => (k.2 x y z).trans (h.2 x y z)⟩
theorem FA.cl {a b : St} (h : FA a b) (g : Nat) : FCl g a b := ⟨h.1, fun c hc _ => h.2.1 c hc⟩
def FMd (τ τ' : St) : Prop := τ'.2.2 = τ.2.2 ∧ (∀ a, a ≠ 50 → τ'.2.1 a = τ.2.1 a) ∧ (∀ c, c ≠ 50 → c ≠ 53 → τ'.1 c = τ.1 c) ∧ ∀ q, q = 0 ∨ q = 2 ∨ q = 3 ∨ q = 14 → τ'.1 50 q = τ.1 50 q
theorem FMd.rf (τ : St) : FMd τ τ := ⟨rfl, fun _ _ => rfl, fun _ _ _ => rfl, fun _ _ => rfl⟩
theorem FMd.trans {a b c : St} (h : FMd a b) (k : FMd b c) : FMd a c := ⟨k.1.trans h.1, fun x y => (k.2.1 x y).trans (h.2.1 x y), fun x y z => (k.2.2.1 x y z).trans (h.2.2.1 x y z), fun q hq => (k.2.2.2 q hq).trans (h.2.2.2 q hq)⟩
theorem FG.md {a b : St} (h : FG a b) : FMd a b := ⟨h.1, h.2.1, fun c h1 _ => h.2.2.1 c h1, fun q hq => h.2.2.2 q (by omega) (by omega) (by omega) (by omega)⟩
theorem FMd.up53 {a b : St} (h : FMd a b) {j : Nat} {x : Int32} : FMd a (upI b 53 j x) := h.trans ⟨rfl, fun _ _ => rfl, fun c _ h2 => up_k h2, fun q _ => by rw [up_k (by decide)]⟩
theorem FMd.up50 {a b : St} (h : FMd a b) {j : Nat} {x : Int32} (hj : j ≠ 0 ∧ j ≠ 2 ∧ j ≠ 3 ∧ j ≠ 14) : FMd a (upI b 50 j x) := h.trans ⟨rfl, fun _ _ => rfl, fun c h1 _ => up_k h1, fun q hq => up_j (by omega)⟩
/-- both have failed alike -/
def Bad (g : Nat) (σ σ' τ τ' : St) : Prop := FCl g σ σ' ∧ FMd τ τ' ∧ σ'.1 1 6 = τ'.1 50 8 ∧ σ'.1 1 7 = τ'.1 50 9
theorem Bad.pre {g : Nat} {σ0 σ σ' τ0 τ τ' : St} (h : Bad g σ σ' τ τ') (h1 : FCl g σ0 σ) (h2 : FMd τ0 τ) : Bad g σ0 σ' τ0 τ' := ⟨h1.trans h.1, h2.trans h.2.1, h.2.2⟩
section PRIM
variable {v : Nat → Nat} {n : Nat} {P : Nat → Nat} {T i : Nat} {σ τ : St}
theorem Cur.keep {σ' τ' : St} (h : Cur v n P T σ τ i) (h2 : σ'.1 2 = σ.1 2) (h4 : σ'.1 4 = σ.1 4) (h5 : σ'.1 5 = σ.1 5) (h1 : ∀ q, q = 1 ∨ q = 2 ∨ q = 3 → σ'.1 1 q = σ.1 1 q) (m1 : τ'.1 51 = τ.1 51) (m2 : ∀ q, 3 ≤ q ∧ q ≤ 7 → τ'.1 50 q = τ.1 50 q) (m3 : τ'.2.1 50 = τ.2.1 50) : Cur v n P T σ' τ' i := by
  unfold Cur TpM at h ⊢
  rw [h2, h4, h5, h1 1 (by omega), h1 2 (by omega), h1 3 (by omega), m1, m2 3 (by omega), m2 4 (by omega), m2 5 (by omega), m2 6 (by omega), m2 7 (by omega), m3]
  exact h
theorem adv_go (h : Cur v n P T σ τ i) (hne : ¬ σ.1 1 2 = -2) : ∃ σ' τ', f_X7_advance σ = some σ' ∧ f_X9_go τ = some τ' ∧ Cur v n P T σ' τ' (i + 1) ∧ FA σ σ' ∧ σ'.1 1 4 = σ.1 1 4 ∧ FG τ τ' := by
  obtain ⟨hE, hM, hi, c1, c2, c3, c4, c5⟩ := h
  obtain ⟨e0, e2, e1, e6, et⟩ := id hE
  have hi1 : i + 1 < T := by
    have := (et i hi).2
    rw [← c2] at this
    rcases Nat.lt_or_ge (i + 1) T with y | y
    · exact y
    · exact absurd (this.mpr (by omega)) hne
  obtain ⟨⟨p1, s, p2, p3⟩, p4⟩ := et (i + 1) hi1
  obtain ⟨τ', g1, g2, g3⟩ := m_go hM (c5 hne) p1
  obtain ⟨l1, l2, l3⟩ := link p3 g3
  refine ⟨upI (upI (upI σ 1 2 (σ.1 4 (i + 1))) 1 3 (σ.1 5 (i + 1))) 1 1 (nI (i + 1 + 1)), τ', ?_, g1, ⟨?_, hM.fg g2, hi1, up_s, ?_, ?_, ?_, ?_⟩, ⟨rfl, fun c hc => by rw [up_k hc, up_k hc, up_k hc], fun q q1 q2 q3 q4 => by rw [up_j q1, up_j q3, up_j q2]⟩, by rw [up_j (by decide), up_j (by decide), up_j (by decide)], g2⟩
  · unfold f_X7_advance
    rw [c1, e2, if_neg (nI_ge hi1 (by omega)), if_neg (show ¬ (601 : Int32) ≤ nI (i + 1) from nI_ge (b := 601) (by omega) (by omega)), rd_at (i + 1) rfl (by omega) (by decide), Option.bind_some, nm_q, rd_at (i + 1) (by rw [up_j (by decide)]; exact c1) (by omega) (by decide), Option.bind_some, nm_q, nm_q, up_k (a := 5) (by decide), up_j (b := 1) (by decide), up_j (b := 1) (by decide), c1, nI_1]
  · rw [up_k (by decide), up_k (by decide), up_k (by decide), up_k (by decide), up_k (by decide), up_k (by decide), up_k (by decide), up_k (by decide), up_k (by decide)]
    exact hE
  · rw [up_j (by decide), up_j (by decide), up_s, up_k (by decide), up_k (by decide), up_k (by decide)]
  · rw [up_j (by decide), up_s, p2, l1]
  · rw [up_j (by decide), up_j (by decide), up_s]; exact l2
  · rw [up_j (by decide), up_j (by decide), up_s]; exact l3
theorem fail_b (h : Cur v n P T σ τ i) (g : Nat) (c : Int32) (hc : c = 1 ∨ ¬ τ.1 50 6 = 1) : ∃ σ' τ', f_X7_fail σ c = some (false, σ') ∧ f_X9_bad τ c = some (false, τ') ∧ Bad g σ σ' τ τ' := by
  obtain ⟨hE, hM, hi, c1, c2, c3, c4, c5⟩ := h
  refine ⟨upI (upI σ 1 6 c) 1 7 (σ.1 1 3), upI (upI τ 50 8 c) 50 9 (τ.1 50 5), ?_, ?_, ⟨⟨rfl, fun q hq _ => by rw [up_k hq, up_k hq]⟩, ((FMd.rf τ).up50 (by decide)).up50 (by decide), ?_, ?_⟩⟩
  · unfold f_X7_fail
    rw [nm_q, nm_q, up_j (b := 3) (by decide)]
  · unfold f_X9_bad
    have e : ∀ x, f_X9_bad_b14 c τ x = some (false, upI (upI τ 50 8 x) 50 9 (τ.1 50 5)) := fun x => by
      unfold f_X9_bad_b14
      rw [nm_q, nm_q, up_j (b := 5) (by decide)]
    rw [e, e]
    by_cases z : τ.1 50 6 = 1
    · rw [if_pos z]
      rcases hc with y | y
      · rw [y]
      · exact absurd z y
    · rw [if_neg z]
  · rw [up_j (by decide), up_s, up_j (by decide), up_s]
  · rw [up_s, up_s]; exact c3
theorem p_word (h : Cur v n P T σ τ i) {w : Nat} (hw : w < 6) {a : Int32} (ha : a = wk w) (hk : σ.1 1 2 = a) : ∃ σ' τ', f_X7_take σ a = some (true, σ') ∧ f_X9_go τ = some τ' ∧ Cur v n P T σ' τ' (i + 1) ∧ FA σ σ' ∧ FG τ τ' := by
  obtain ⟨σ', τ', q1, q2, q3, q4, -, q5⟩ := adv_go h (by rw [hk, ha]; exact (wk_2 w hw).1)
  refine ⟨σ', τ', ?_, q2, q3, q4, q5⟩
  unfold f_X7_take
  rw [if_pos hk]
  exact ob q1 rfl
theorem KR.num {kc km N : Int32} {L : Int64} (h : KR n kc km L N) : (∃ x, x ≤ 999 ∧ kc = nI x ∧ km = 3 ∧ N = nI x) ∨ (kc < 0 ∧ ¬ km = 3) := by
  rcases h with y | ⟨y1, y2⟩ | ⟨y1, y2⟩ | ⟨y1, y2, -⟩ | ⟨y1, y2⟩
  · exact Or.inl y
  · exact Or.inr ⟨by rw [y1]; decide, by rw [y2]; decide⟩
  · exact Or.inr ⟨by rw [y1]; decide, by rw [y2]; decide⟩
  · refine Or.inr ⟨?_, by rw [y2]; decide⟩
    rcases y1 with y | ⟨w, hw, y⟩
    · rw [y]; decide
    · rw [y]; exact (wk_2 w hw).2.1
  · refine Or.inr ⟨by rw [y1]; decide, ?_⟩
    rw [y2]
    split <;> decide
/-- a number: the class; ok: what the model does with it ahead of its go -/
theorem p_numG (h : Cur v n P T σ τ i) (lo hi : Int32) (g : Nat) {M : Option (Bool × St)} {W : Int32 → St} (hW : ∀ x, (W x).1 51 = τ.1 51 ∧ (∀ q, 3 ≤ q ∧ q ≤ 7 → (W x).1 50 q = τ.1 50 q) ∧ (W x).2.1 50 = τ.2.1 50)
    (hM : M = if τ.1 50 6 = 3 then (if b2i (f_X9_isIn τ (τ.1 50 7) lo hi) = 0 then ((f_X9_bad τ 2).bind fun q6 => some (q6.1, q6.2)) else ((f_X9_go (W (τ.1 50 7))).bind fun q5 => some (true, q5))) else ((f_X9_bad τ 1).bind fun q7 => some (q7.1, q7.2))) :
    (∃ σ' τ' x, f_X7_takeNumber σ lo hi = some (true, σ') ∧ M = some (true, τ') ∧ Cur v n P T σ' τ' (i + 1) ∧ FA σ σ' ∧ σ'.1 1 4 = nI x ∧ x ≤ 999 ∧ ¬ nI x < lo ∧ nI x ≤ hi ∧ τ.1 50 7 = nI x ∧ FG (W (nI x)) τ') ∨ (∃ σ' τ', f_X7_takeNumber σ lo hi = some (false, σ') ∧ M = some (false, τ') ∧ Bad g σ σ' τ τ') := by
  obtain ⟨hE, hTM, hi', c1, c2, c3, c4, c5⟩ := id h
  unfold f_X7_takeNumber
  rw [hM]
  rcases c4.num with ⟨x, x1, x2, x3, x4⟩ | ⟨x1, x2⟩
  · have hb : ∃ σ' τ', ((f_X7_fail σ 2).bind fun q3 => some (q3.1, q3.2)) = some (false, σ') ∧ ((f_X9_bad τ 2).bind fun q6 => some (q6.1, q6.2)) = some (false, τ') ∧ Bad g σ σ' τ τ' := by
      obtain ⟨σ', τ', b1, b2, b3⟩ := fail_b h g 2 (Or.inr (by rw [x3]; decide))
      exact ⟨σ', τ', ob b1 rfl, ob b2 rfl, b3⟩
    rw [if_pos (show 0 ≤ σ.1 1 2 by rw [x2]; exact Int32.not_lt.mp (nI_pos (by omega))), if_pos x3, x2, x4]
    unfold f_X9_isIn
    by_cases z1 : nI x < lo
    · obtain ⟨σ', τ', b1, b2, b3⟩ := hb
      refine Or.inr ⟨σ', τ', ?_, ?_, b3⟩
      · rw [if_pos z1]; exact b1
      · rw [if_pos z1, if_pos bf0]; exact b2
    · by_cases z2 : nI x ≤ hi
      · have hk : Cur v n P T (upI σ 1 4 (nI x)) (W (nI x)) i := h.keep (up_k (by decide)) (up_k (by decide)) (up_k (by decide)) (fun q hq => up_j (by omega)) (hW _).1 (hW _).2.1 (hW _).2.2
        have hne : ¬ (upI σ 1 4 (nI x)).1 1 2 = -2 := by
          rw [up_j (by decide), x2]
          intro y
          have : nI x < 0 := by rw [y]; decide
          exact nI_pos (by omega) this
        obtain ⟨σ', τ', q1, q2, q3, q4, q6, q5⟩ := adv_go hk hne
        have f1 : FA σ (upI σ 1 4 (nI x)) := ⟨rfl, fun c hc => up_k hc, fun q _ _ _ q4 => up_j q4⟩
        refine Or.inl ⟨σ', τ', x, ?_, ?_, q3, f1.trans q4, by rw [q6, up_s], x1, z1, z2, rfl, q5⟩
        · rw [if_neg z1, if_pos z2, nm_q, q1]; rfl
        · rw [if_neg z1, if_neg (Int32.not_lt.mpr z2), if_neg bt0, q2]; rfl
      · obtain ⟨σ', τ', b1, b2, b3⟩ := hb
        refine Or.inr ⟨σ', τ', ?_, ?_, b3⟩
        · rw [if_neg z1, if_neg z2]; exact b1
        · rw [if_neg z1, if_pos (Int32.not_le.mp z2), if_pos bf0]; exact b2
  · obtain ⟨σ', τ', b1, b2, b3⟩ := fail_b h g 1 (Or.inl rfl)
    refine Or.inr ⟨σ', τ', ?_, ?_, b3⟩
    · rw [if_neg (Int32.not_le.mpr x1), b1]; rfl
    · rw [if_neg x2, b2]; rfl
theorem p_told (h : Cur v n P T σ τ i) (lo hi : Int32) (g : Nat) {j : Nat} (hj : j < 845) {a : Int32} (ha : a = nI j) :
    (∃ σ' τ' x, f_X7_takeNumber σ lo hi = some (true, σ') ∧ f_X9_told τ a lo hi = some (true, τ') ∧ Cur v n P T σ' τ' (i + 1) ∧ FA σ σ' ∧ σ'.1 1 4 = nI x ∧ x ≤ 999 ∧ ¬ nI x < lo ∧ nI x ≤ hi ∧ FG (upI τ 53 j (nI x)) τ') ∨ (∃ σ' τ', f_X7_takeNumber σ lo hi = some (false, σ') ∧ f_X9_told τ a lo hi = some (false, τ') ∧ Bad g σ σ' τ τ') := by
  rcases p_numG h lo hi g (M := f_X9_told τ a lo hi) (W := fun x => upI τ 53 j x) (fun x => ⟨up_k (by decide), fun q _ => by rw [up_k (by decide)], rfl⟩) (by
    unfold f_X9_told
    rw [wr_at j ha hj (by decide), Option.bind_some]) with ⟨σ', τ', x, q1, q2, q3, q4, q5, q6, q7, q8, -, q9⟩ | q
  · exact Or.inl ⟨σ', τ', x, q1, q2, q3, q4, q5, q6, q7, q8, q9⟩
  · exact Or.inr q
theorem p_takes (h : Cur v n P T σ τ i) (lo hi : Int32) (g : Nat) :
    (∃ σ' τ' x, f_X7_takeNumber σ lo hi = some (true, σ') ∧ f_X9_takes τ lo hi = some (true, τ') ∧ Cur v n P T σ' τ' (i + 1) ∧ FA σ σ' ∧ σ'.1 1 4 = nI x ∧ x ≤ 999 ∧ ¬ nI x < lo ∧ nI x ≤ hi ∧ FG (upI τ 50 15 (nI x)) τ') ∨ (∃ σ' τ', f_X7_takeNumber σ lo hi = some (false, σ') ∧ f_X9_takes τ lo hi = some (false, τ') ∧ Bad g σ σ' τ τ') := by
  rcases p_numG h lo hi g (M := f_X9_takes τ lo hi) (W := fun x => upI τ 50 15 x) (fun x => ⟨up_k (by decide), fun q hq => up_j (by omega), rfl⟩) (by
    unfold f_X9_takes
    rw [nm_q]) with ⟨σ', τ', x, q1, q2, q3, q4, q5, q6, q7, q8, -, q9⟩ | q
  · exact Or.inl ⟨σ', τ', x, q1, q2, q3, q4, q5, q6, q7, q8, q9⟩
  · exact Or.inr q
theorem p_end (h : Cur v n P T σ τ i) (g : Nat) : (∃ σ' τ', f_X7_takeLineEnd σ = some (true, σ') ∧ f_X9_readEnd τ = some (true, τ') ∧ Cur v n P T σ' τ' (i + 1) ∧ FA (upI σ 1 5 (σ.1 1 5 + 1)) σ' ∧ FG τ τ') ∨ (∃ σ' τ', f_X7_takeLineEnd σ = some (false, σ') ∧ f_X9_readEnd τ = some (false, τ') ∧ Bad g σ σ' τ τ') := by
  have hk : Cur v n P T (upI σ 1 5 (σ.1 1 5 + 1)) τ i := h.keep (up_k (by decide)) (up_k (by decide)) (up_k (by decide)) (fun q hq => up_j (by omega)) rfl (fun _ _ => rfl) rfl
  obtain ⟨hE, hTM, hi', c1, c2, c3, c4, c5⟩ := id hk
  unfold f_X7_takeLineEnd f_X9_readEnd f_X7_take
  rw [nm_q]
  have key : ((upI σ 1 5 (σ.1 1 5 + 1)).1 1 2 = -3 ∧ τ.1 50 6 = 4) ∨ (¬ (upI σ 1 5 (σ.1 1 5 + 1)).1 1 2 = -3 ∧ ¬ τ.1 50 6 = 4) := by
    rcases c4 with ⟨x, y1, y2, y3, -⟩ | ⟨y1, y2⟩ | ⟨y1, y2⟩ | ⟨y1, y2, -⟩ | ⟨y1, y2⟩
    · refine Or.inr ⟨fun y => ?_, by rw [y3]; decide⟩
      rw [y2] at y
      have : nI x < 0 := by rw [y]; decide
      exact nI_pos (by omega) this
    · exact Or.inr ⟨by rw [y1]; decide, by rw [y2]; decide⟩
    · exact Or.inl ⟨y1, y2⟩
    · refine Or.inr ⟨?_, by rw [y2]; decide⟩
      rcases y1 with y | ⟨w, hw, y⟩
      · rw [y]; decide
      · rw [y]; exact (wk_2 w hw).2.2.1
    · refine Or.inr ⟨by rw [y1]; decide, ?_⟩
      rw [y2]; split <;> decide
  rcases key with ⟨z1, z2⟩ | ⟨z1, z2⟩
  · obtain ⟨σ', τ', q1, q2, q3, q4, -, q5⟩ := adv_go hk (by rw [z1]; decide)
    refine Or.inl ⟨σ', τ', ?_, ?_, q3, q4, q5⟩
    · rw [if_pos z1, q1]; rfl
    · rw [if_pos z2, q2]; rfl
  · obtain ⟨σ', τ', b1, b2, b3⟩ := fail_b hk g 1 (Or.inl rfl)
    refine Or.inr ⟨σ', τ', ?_, ?_, b3.pre ⟨rfl, fun c hc _ => up_k hc⟩ (FMd.rf τ)⟩
    · rw [if_neg z1, b1]; rfl
    · rw [if_neg z2, b2]; rfl
/-- is the word w next? -/
theorem p_isW (h : Cur v n P T σ τ i) {w : Nat} (hw : w < 6) : (σ.1 1 2 = wk w ∧ f_X9_isWord τ (cW w) = true) ∨ (¬ σ.1 1 2 = wk w ∧ f_X9_isWord τ (cW w) = false) := by
  obtain ⟨-, -, -, -, -, -, c4, -⟩ := h
  unfold f_X9_isWord
  have w3 := wk_2 w hw
  rcases c4 with ⟨x, y1, y2, y3, -⟩ | ⟨y1, y2⟩ | ⟨y1, y2⟩ | ⟨y1, y2, y3⟩ | ⟨y1, y2⟩
  · refine Or.inr ⟨fun y => ?_, by rw [if_neg (by rw [y3]; decide)]⟩
    rw [y2] at y
    have : nI x < 0 := by rw [y]; exact w3.2.1
    exact nI_pos (by omega) this
  · exact Or.inr ⟨fun y => w3.2.2.2 (y.symm.trans y1), by rw [if_neg (by rw [y2]; decide)]⟩
  · exact Or.inr ⟨fun y => w3.2.2.1 (y.symm.trans y1), by rw [if_neg (by rw [y2]; decide)]⟩
  · rw [if_pos y2]
    have e1 : ∀ x y : Int64, (lg_cmp x y = 0) ↔ x = y := fun x y => by
      unfold lg_cmp
      constructor
      · intro h
        by_cases z1 : x > y
        · rw [if_pos z1] at h; exact absurd h (by decide)
        · rw [if_neg z1] at h
          by_cases z2 : x = y
          · exact z2
          · rw [if_neg z2] at h; exact absurd h (by decide)
      · intro h
        rw [h, if_neg (fun z => Int64.lt_irrefl z), if_pos rfl]
    by_cases z : σ.1 1 2 = wk w
    · exact Or.inl ⟨z, by rw [if_pos ((e1 _ _).mpr ((y3 w hw).mp z))]⟩
    · exact Or.inr ⟨z, by rw [if_neg (fun y => z ((y3 w hw).mpr ((e1 _ _).mp y)))]⟩
  · refine Or.inr ⟨fun y => w3.1 (y.symm.trans y1), by rw [if_neg]; rw [y2]; split <;> decide⟩
end PRIM
