/-! the steps of a change -/
theorem stR_eq {σ τ : St} {js : Nat} (h1 : τ.1 52 = σ.1 52) (h2 : τ.1 54 = σ.1 54) (j : Nat) : stR τ js j = stR σ js j := by
  cases j with
  | zero => exact h1
  | succ j => show (fun k => τ.1 54 _) = fun k => σ.1 54 _; rw [h2]
def CStep (σ σ1 : St) (js nx : Nat) : Prop := σ1.2.2 = σ.2.2 ∧ (∀ c, c = 1 ∨ c = 2 ∨ c = 3 ∨ (50 ≤ c ∧ c < 55) → σ1.1 c = σ.1 c) ∧ σ1.1 36 0 = nI (jsN js) ∧ σ1.1 36 1 = nI (nxN nx) ∧ ∀ a, 38 ≤ a → a < 48 → a ≠ 38 + nx → σ1.1 a = σ.1 a ∧ σ1.2.1 a = σ.2.1 a
def MStep (σ1 τ : St) (js : Nat) : Prop := τ.2.2 = σ1.2.2 ∧ (∀ c, c = 3 ∨ (6 ≤ c ∧ c < 48) ∨ c = 51 → τ.1 c = σ1.1 c) ∧ (τ.1 2 0 = σ1.1 2 0 ∧ τ.1 1 6 = σ1.1 1 6 ∧ τ.1 50 2 = σ1.1 50 2 ∧ τ.1 50 8 = σ1.1 50 8) ∧ (∀ a, 38 ≤ a → a < 48 → τ.2.1 a = σ1.2.1 a) ∧ τ.1 50 14 = nI (jsN js) ∧ ∀ j, j < jsN js → ∀ k, k < 845 → τ.1 54 (845 * (jsN js - 1 - j) + k) = stR σ1 js j k
theorem MStep.row {σ1 τ1 τ : St} {js : Nat} (h : MStep σ1 τ1 js) (h1 : τ.2 = τ1.2) (h2 : ∀ c, c ≠ 52 → τ.1 c = τ1.1 c) : MStep σ1 τ js := by
  obtain ⟨a1, a2, a3, a4, a5, a6⟩ := h
  refine ⟨by rw [h1]; exact a1, fun c hc => (h2 c (by omega)).trans (a2 c hc), ?_, fun a h3 h4 => by rw [h1]; exact a4 a h3 h4, ?_, fun j hj k hk => ?_⟩
  · rw [h2 50 (by decide), h2 2 (by decide), h2 1 (by decide)]; exact a3
  · rw [h2 50 (by decide)]; exact a5
  · rw [h2 54 (by decide)]; exact a6 j hj k hk
theorem m_snap1 {σ σ1 : St} {js : Nat} (hj : js ≤ 10) (hs : Same σ σ1) (h : σ.1 50 14 = nI js) : ∃ τ, f_X9_snap σ1 = some τ ∧ MStep σ τ js ∧ τ.1 52 = σ.1 52 := by
  obtain ⟨s1, s2, ⟨s3, s4, s5, s6, s7⟩, s8⟩ := hs
  obtain ⟨τ, t1, t2, t3, t4, t5, t6⟩ := m_snap hj (s7.trans h)
  have e52 := s2 52 (by unfold rel; omega)
  have e54 := s2 54 (by unfold rel; omega)
  refine ⟨τ, t1, ⟨by rw [t2]; exact s1, fun c hc => ?_, ⟨?_, ?_, ?_, ?_⟩, fun a h3 h4 => by rw [t2]; exact s8 a h3 h4, t5, fun j hj k hk => ?_⟩, ?_⟩
  · rw [t3 c (by omega) (by omega)]
    exact s2 c (by unfold rel; omega)
  · rw [t3 2 (by decide) (by decide)]; exact s3
  · rw [t3 1 (by decide) (by decide)]; exact s4
  · rw [t4 2 (by decide)]; exact s5
  · rw [t4 8 (by decide)]; exact s6
  · rw [t6 j hj k hk, stR_eq e52 e54]
  · rw [t3 52 (by decide) (by decide)]; exact e52
theorem Cls.cells {σ τ : St} {g : Nat} {R : Nat → Int32} (hg : isG g) (h : ∀ c, 6 ≤ c ∧ c < 48 → τ.1 c = σ.1 c) (hC : Cls σ g R) : Cls τ g R := by
  obtain ⟨g1, g2, g3⟩ := hC
  refine ⟨?_, ?_, ?_⟩
  · have e : ∀ d, d < 9 → τ.1 (g + d) = σ.1 (g + d) := fun d hd => h _ (by rcases hg with z | z <;> rw [z] <;> omega)
    unfold ClsG at g1 ⊢
    rw [show τ.1 g = σ.1 g from e 0 (by decide), e 1 (by decide), e 2 (by decide), e 3 (by decide), e 4 (by decide), e 5 (by decide), e 6 (by decide), e 7 (by decide), e 8 (by decide)]
    exact g1
  · unfold ClsA at g2 ⊢
    rw [h 31 (by omega), h 32 (by omega), h 33 (by omega), h 34 (by omega), h 35 (by omega)]
    exact g2
  · refine ⟨by rw [h 24 (by omega)]; exact g3.1, fun c hc w hw => ?_⟩
    rw [h (25 + w) (by omega)]
    exact g3.2 c hc w hw
/-- A CHANGE: class, then model -/
theorem Inv.mut {σ σ1 τ : St} {js nx : Nat} (h : Inv σ) (hj : js ≤ 10) (hn : nx < 10) (h0 : σ.1 36 0 = nI js) (h1 : σ.1 36 1 = nI nx) (hc : CStep σ σ1 js nx) (hm : MStep σ1 τ js) (hR : RowOk (τ.1 52)) (hC : Cls σ1 σ.2.2.1 (τ.1 52))
    (hu : UOk (σ1.1 (38 + nx)) (σ1.2.1 (38 + nx)) (τ.1 52)) (he : RowEq (uRow (σ1.1 (38 + nx)) (σ1.2.1 (38 + nx)) (τ.1 52)) (σ.1 52)) : Inv τ := by
  obtain ⟨c1, c2, c3, c4, c5⟩ := hc
  obtain ⟨m1, m2, ⟨m3, m4, m5, m6⟩, m7, m8, m9⟩ := hm
  have ea := m2 (38 + nx) (by omega)
  have el := m7 (38 + nx) (by omega) (by omega)
  refine h.push hj hn h0 h1 (m1.trans c1) ⟨(m2 3 (by omega)).trans (c2 3 (by omega)), (m2 51 (by omega)).trans (c2 51 (by omega))⟩ ?_ ?_ ?_ ?_ ?_ ?_ (fun a a1 a2 a3 => ?_) m8 (fun j hj k hk => ?_) hR (hC.cells h.1.1 (fun c hc => m2 c (by omega))) ?_ ?_
  · rw [m3, c2 2 (by omega)]
  · rw [m4, c2 1 (by omega)]
  · rw [m5, c2 50 (by omega)]
  · rw [m6, c2 50 (by omega)]
  · rw [m2 36 (by omega)]; exact c3
  · rw [m2 36 (by omega)]; exact c4
  · rw [m2 a (by omega), m7 a a1 a2]; exact c5 a a1 a2 a3
  · rw [m9 j hj k hk, stR_eq (c2 52 (by omega)) (c2 54 (by omega))]
  · rw [ea, el]; exact hu
  · rw [ea, el]; exact he
theorem ClsA.ag {σ σ1 : St} {R Q : Nat → Int32} (hN : RowN R) (h : ClsA σ R) (hc : ∀ c, 31 ≤ c ∧ c < 36 → σ1.1 c = σ.1 c) (a : agA R Q) : ClsA σ1 Q := by
  have hm := hN.2.2.2.2.2
  refine ⟨by rw [hc 31 (by omega), a 4 (by omega)]; exact h.1, fun k hk => ?_⟩
  rw [ag_nA (a 4 (by omega))] at hk
  rw [hc 32 (by omega), hc 33 (by omega), hc 34 (by omega), hc 35 (by omega), a (685 + 4 * k) (by omega), a (686 + 4 * k) (by omega), a (687 + 4 * k) (by omega), a (688 + 4 * k) (by omega)]
  exact h.2 k hk
theorem ClsC.ag {σ σ1 : St} {R Q : Nat → Int32} (hN : RowN R) (h : ClsC σ R) (hc : ∀ c, 24 ≤ c ∧ c < 31 → σ1.1 c = σ.1 c) (a : agC R Q) : ClsC σ1 Q := by
  have hm := hN.2.2.2.1.2
  refine ⟨by rw [hc 24 (by omega), a 3 (by omega)]; exact h.1, fun c h1 w hw => ?_⟩
  rw [ag_nC (a 3 (by omega))] at h1
  rw [hc (25 + w) (by omega), a (445 + 6 * c + w) (by omega)]
  exact h.2 c h1 w hw
theorem ClsG.ag {σ σ1 : St} {g : Nat} {R Q : Nat → Int32} (hN : RowN R) (h : ClsG σ g R) (hc : ∀ c, g ≤ c ∧ c < g + 9 → σ1.1 c = σ.1 c) (a : agG R Q) : ClsG σ1 g Q := by
  have b0 := hN.1.2.2
  have b1 := hN.2.1.2
  have b2 := hN.2.2.1.2
  obtain ⟨g1, g2, g3, g4, g5⟩ := h
  unfold ClsG
  rw [ag_nS (a 0 (by omega)), ag_nT (a 1 (by omega)), ag_nM (a 2 (by omega)), hc g (by omega), hc (g + 1) (by omega), hc (g + 2) (by omega), hc (g + 3) (by omega), hc (g + 4) (by omega), hc (g + 5) (by omega), hc (g + 6) (by omega), hc (g + 7) (by omega), hc (g + 8) (by omega), a 0 (by omega), a 1 (by omega), a 2 (by omega)]
  refine ⟨g1, fun i hi => ?_, fun s i hs hi => ?_, fun m hm => ?_, fun k hk => ?_⟩
  · rw [a _ (by omega), a _ (by omega)]; exact g2 i hi
  · rw [a _ (by omega)]; exact g3 s i hs hi
  · have e1 : mI Q m = mI R m := a _ (by omega)
    have e2 : mS Q m = mS R m := a _ (by omega)
    rw [e1, e2]; exact g4 m hm
  · rw [ag_lg (k := k) (w := 0) a (by omega) (by decide), ag_lg (k := k) (w := 1) a (by omega) (by decide), ag_lg (k := k) (w := 2) a (by omega) (by decide), ag_lg (k := k) (w := 3) a (by omega) (by decide)]
    exact g5 k hk
/-- what begin leaves as it was -/
theorem beg_c {σ : St} {js nx : Nat} {a b : Int32} {c : Nat} (h1 : c ≠ 36) (h2 : c ≠ 38 + nx) : (begS σ js nx a b).1 c = σ.1 c := by
  unfold begS
  rw [up_k h1, up_k h1, up_k h2, up_k h2]
theorem beg_step {σ σa : St} {js nx : Nat} {a b : Int32} (hn : nx < 10) (h1 : σa.2 = σ.2) (h2 : ∀ c, c < 6 ∨ (38 ≤ c ∧ c < 48) ∨ (50 ≤ c ∧ c < 55) → σa.1 c = σ.1 c) : CStep σ (begS σa js nx a b) js nx := by
  refine ⟨by show σa.2.2 = _; rw [h1], fun c hc => ?_, ?_, ?_, fun c c1 c2 c3 => ⟨?_, ?_⟩⟩
  · rw [beg_c (by omega) (by omega), h2 c (by omega)]
  · unfold begS; rw [up_s]
  · unfold begS; rw [up_j (by decide), up_s]
  · rw [beg_c (by omega) c3, h2 c (by omega)]
  · show σa.2.1 c = _; rw [h1]
theorem beg_0 {σ : St} {js nx : Nat} {a b : Int32} (hn : nx < 10) : (begS σ js nx a b).1 (38 + nx) 0 = a := by
  unfold begS
  rw [up_k (by omega), up_k (by omega), up_j (by decide), up_s]
theorem beg_1 {σ : St} {js nx : Nat} {a b : Int32} (hn : nx < 10) : (begS σ js nx a b).1 (38 + nx) 1 = b := by
  unfold begS
  rw [up_k (by omega), up_k (by omega), up_s]
