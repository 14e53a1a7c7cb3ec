/-! THE INVARIANT -/
/-- legs that are there have a shelf and a span -/
def RowL (R : Nat → Int32) : Prop := ∀ k, k < 2 * nM R → lg R k 0 = 0 ∨ (lg R k 0 = 1 ∧ (∃ a, a < nS R ∧ lg R k 1 = nI a) ∧ ∃ e l, e ≤ l ∧ l ≤ 999 ∧ lg R k 2 = nI e ∧ lg R k 3 = nI l)
def RowS (R : Nat → Int32) : Prop := ∀ s i, s < nS R → i < nT R → ∃ v, v ≤ 999 ∧ R (15 + 5 * s + i) = nI v
def ct (R : Nat → Int32) (c w : Nat) : Int32 := R (445 + 6 * c + w)
/-- a count's numbers -/
def RowC (R : Nat → Int32) : Prop := ∀ c, c < nC R → (∃ s, s < nS R ∧ ct R c 0 = nI s) ∧ (∃ i, i < nT R ∧ ct R c 1 = nI i) ∧ (∃ t, t ≤ 999 ∧ ct R c 2 = nI t) ∧ (∃ v, v ≤ 9999 ∧ ct R c 3 = nI v) ∧ (∃ w, w ≤ 3 ∧ ct R c 4 = nI w) ∧ (ct R c 5 = 0 ∨ ct R c 5 = 1)
/-- no two of one shelf, item and instant -/
def RowD (R : Nat → Int32) : Prop := ∀ c d, c < nC R → d < nC R → ct R c 0 = ct R d 0 → ct R c 1 = ct R d 1 → ct R c 2 = ct R d 2 → c = d
/-- an adjustment has a posted count at its instant, and open ones come later -/
def RowA (R : Nat → Int32) : Prop := ∀ k, k < nA R → (∃ c, c < nC R ∧ ct R c 5 = 1 ∧ R (685 + 4 * k) = ct R c 0 ∧ R (686 + 4 * k) = ct R c 1 ∧ R (687 + 4 * k) = ct R c 2) ∧ ∀ c, c < nC R → ct R c 5 = 0 → ct R c 0 = R (685 + 4 * k) → ct R c 1 = R (686 + 4 * k) → R (687 + 4 * k) < ct R c 2
/-- sums of adjustments, as whole numbers -/
def zF (c : Nat → Int) : Nat → Int
  | 0 => 0
  | d + 1 => zF c d + c d
def cAz (R : Nat → Int32) (s i t : Int32) (k : Nat) : Int := if adB R s i t k then (R (688 + 4 * k)).toInt else 0
def aZ (R : Nat → Int32) (s i t : Int32) : Int := zF (cAz R s i t) (nA R)
def RowB (R : Nat → Int32) : Prop := ∀ s i t, -20000 ≤ aZ R s i t ∧ aZ R s i t ≤ 20000
/-- how many of the first counts are posted -/
def pcN (R : Nat → Int32) : Nat → Nat
  | 0 => 0
  | c + 1 => pcN R c + (if ct R c 5 = 1 then 1 else 0)
def RowP (R : Nat → Int32) : Prop := nA R ≤ pcN R (nC R)
def RowOk (R : Nat → Int32) : Prop := RowN R ∧ RowM R ∧ RowL R ∧ RowS R ∧ RowC R ∧ RowD R ∧ RowA R ∧ RowB R ∧ RowP R
def Cls (σ : St) (g : Nat) (R : Nat → Int32) : Prop := ClsG σ g R ∧ ClsA σ R ∧ ClsC σ R
/-- two rows that say the same -/
def RowEq (R Q : Nat → Int32) : Prop := (∀ j, j < 5 → R j = Q j) ∧ (∀ i, i < nT R → R (5 + 2 * i) = Q (5 + 2 * i) ∧ R (5 + 2 * i + 1) = Q (5 + 2 * i + 1)) ∧ (∀ s i, s < nS R → i < nT R → R (15 + 5 * s + i) = Q (15 + 5 * s + i)) ∧
  (∀ m, m < nM R → mI R m = mI Q m ∧ mS R m = mS Q m) ∧ (∀ k, k < 2 * nM R → lg R k 0 = lg Q k 0 ∧ (lg R k 0 = 1 → lg R k 1 = lg Q k 1 ∧ lg R k 2 = lg Q k 2 ∧ lg R k 3 = lg Q k 3)) ∧
  (∀ c, c < nC R → ∀ w, w < 6 → ct R c w = ct Q c w) ∧ (∀ k, k < nA R → ∀ w, w < 4 → R (685 + 4 * k + w) = Q (685 + 4 * k + w))
def lgB (k : Nat) : Nat := 47 + 10 * (k / 2) + 4 * (k % 2)
def wbit (w : Int64) (c : Nat) : Bool := w.toBitVec.getLsbD c
/-- what undoing an act makes of a row -/
def uRow (a : Nat → Int32) (w : Int64) (R : Nat → Int32) : Nat → Int32 :=
  if a 0 = 0 then (fun j => if j = 2 then R 2 - 1 else R j)
  else if a 0 = 1 then (fun j => if j = lgB (a 1).toNatClampNeg then 0 else R j)
  else if a 0 = 2 then (fun j => if j = lgB (a 1).toNatClampNeg + 2 then a 2 else if j = lgB (a 1).toNatClampNeg + 3 then a 3 else R j)
  else if a 0 = 3 then (fun j => if j = 3 then R 3 - 1 else R j)
  else if a 0 = 4 then (fun j => if j = 4 then R 4 - 1 else if 445 ≤ j ∧ j < 685 ∧ (j - 445) % 6 = 5 ∧ wbit w ((j - 445) / 6) = true then 0 else R j)
  else (fun j => if j = 3 then R 3 + 1 else if 445 ≤ j ∧ j < 685 then (if (j - 445) / 6 < (a 1).toNatClampNeg then R j else if (j - 445) / 6 = (a 1).toNatClampNeg then (if (j - 445) % 6 = 5 then 0 else a (4 + (j - 445) % 6)) else R (j - 6)) else R j)
/-- an act that can be undone on a row -/
def UOk (a : Nat → Int32) (w : Int64) (R : Nat → Int32) : Prop :=
  (a 0 = 0 ∧ 1 ≤ nM R) ∨ (a 0 = 1 ∧ ∃ k, k < 2 * nM R ∧ a 1 = nI k ∧ lg R k 0 = 1) ∨ (a 0 = 2 ∧ ∃ k, k < 2 * nM R ∧ a 1 = nI k ∧ lg R k 0 = 1) ∨ (a 0 = 3 ∧ 1 ≤ nC R ∧ a 1 = nI (nC R - 1)) ∨
  (a 0 = 4 ∧ 1 ≤ nA R) ∨ (a 0 = 5 ∧ nC R < 40 ∧ ∃ c, c ≤ nC R ∧ a 1 = nI c)
def stR (σ : St) (js : Nat) : Nat → (Nat → Int32)
  | 0 => σ.1 52
  | j + 1 => fun k => σ.1 54 (845 * (js - 1 - j) + k)
def actN (nx j : Nat) : Nat := 38 + (nx + 9 - j) % 10
/-- what can be undone: the class's acts lead from each row to the one that was kept ahead of it -/
def Jr (σ : St) : Prop := ∃ js nx : Nat, js ≤ 10 ∧ nx < 10 ∧ σ.1 36 0 = nI js ∧ σ.1 50 14 = nI js ∧ σ.1 36 1 = nI nx ∧ ∀ j, j < js → RowOk (stR σ js (j + 1)) ∧ UOk (σ.1 (actN nx j)) (σ.2.1 (actN nx j)) (stR σ js j) ∧ RowEq (uRow (σ.1 (actN nx j)) (σ.2.1 (actN nx j)) (stR σ js j)) (stR σ js (j + 1))
/-- the tapes -/
def Tp (σ : St) : Prop := ∃ n : Nat, n ≤ 640 ∧ σ.1 2 0 = nI n ∧ σ.1 50 2 = nI n ∧ ∀ j, j < n → ∃ v, v < 256 ∧ σ.1 51 j = nI v ∧ σ.1 3 j = (nI v).toInt8.toInt32
def Inv (σ : St) : Prop := (isG σ.2.2.1 ∧ isG σ.2.2.2 ∧ σ.2.2.1 ≠ σ.2.2.2) ∧ RowOk (σ.1 52) ∧ Cls σ σ.2.2.1 (σ.1 52) ∧ Tp σ ∧ σ.1 1 6 = σ.1 50 8 ∧ Jr σ
/-- states that the invariant doesn't tell apart -/
def rel (c : Nat) : Prop := c = 3 ∨ (6 ≤ c ∧ c < 48) ∨ c = 51 ∨ c = 52 ∨ c = 54
def Same (σ τ : St) : Prop := τ.2.2 = σ.2.2 ∧ (∀ c, rel c → τ.1 c = σ.1 c) ∧ (τ.1 2 0 = σ.1 2 0 ∧ τ.1 1 6 = σ.1 1 6 ∧ τ.1 50 2 = σ.1 50 2 ∧ τ.1 50 8 = σ.1 50 8 ∧ τ.1 50 14 = σ.1 50 14) ∧ ∀ a, 38 ≤ a → a < 48 → τ.2.1 a = σ.2.1 a
theorem Same.rf (σ : St) : Same σ σ := ⟨rfl, fun _ _ => rfl, ⟨rfl, rfl, rfl, rfl, rfl⟩, fun _ _ _ => rfl⟩
theorem Same.trans {a b c : St} (h : Same a b) (k : Same b c) : Same a c := ⟨k.1.trans h.1, fun x hx => (k.2.1 x hx).trans (h.2.1 x hx), ⟨k.2.2.1.1.trans h.2.2.1.1, k.2.2.1.2.1.trans h.2.2.1.2.1, k.2.2.1.2.2.1.trans h.2.2.1.2.2.1, k.2.2.1.2.2.2.1.trans h.2.2.1.2.2.2.1, k.2.2.1.2.2.2.2.trans h.2.2.1.2.2.2.2⟩, fun x h1 h2 => (k.2.2.2 x h1 h2).trans (h.2.2.2 x h1 h2)⟩
theorem Off.same {a b : St} (h : Off a b) : Same a b := by
  refine ⟨by rw [h.2], fun c hc => h.1 c ?_ ?_, ⟨by rw [h.1 2 (by decide) (by decide)], by rw [h.1 1 (by decide) (by decide)], by rw [h.1 50 (by decide) (by decide)], by rw [h.1 50 (by decide) (by decide)], by rw [h.1 50 (by decide) (by decide)]⟩, fun x _ _ => by rw [h.2]⟩
  · unfold rel at hc; omega
  · unfold rel at hc; omega
theorem Same.up {a b : St} {k j : Nat} {x : Int32} (h : Same a b) (h1 : ¬ rel k) (h2 : (k, j) ≠ (2, 0) ∧ (k, j) ≠ (1, 6) ∧ (k, j) ≠ (50, 2) ∧ (k, j) ≠ (50, 8) ∧ (k, j) ≠ (50, 14)) : Same a (upI b k j x) := by
  have n1 : ∀ p q : Nat, (k, j) ≠ (p, q) → (upI b k j x).1 p q = b.1 p q := fun p q hn => up_n (fun z => hn (by rw [z.1, z.2]))
  refine h.trans ⟨rfl, fun c hc => up_k (fun z => h1 (z ▸ hc)), ⟨n1 _ _ h2.1, n1 _ _ h2.2.1, n1 _ _ h2.2.2.1, n1 _ _ h2.2.2.2.1, n1 _ _ h2.2.2.2.2⟩, fun _ _ _ => rfl⟩
theorem Inv.keep {σ τ : St} (h : Inv σ) (k : Same σ τ) : Inv τ := by
  obtain ⟨h1, h2, h3, h4, h5, h6⟩ := h
  obtain ⟨k1, k2, ⟨k3, k4, k5, k6, k7⟩, k8⟩ := k
  have e52 : τ.1 52 = σ.1 52 := k2 52 (by unfold rel; omega)
  have e54 : τ.1 54 = σ.1 54 := k2 54 (by unfold rel; omega)
  have e36 : τ.1 36 = σ.1 36 := k2 36 (by unfold rel; omega)
  have e3 : τ.1 3 = σ.1 3 := k2 3 (by unfold rel; omega)
  have e51 : τ.1 51 = σ.1 51 := k2 51 (by unfold rel; omega)
  unfold Inv
  rw [k1, e52, k4, k6]
  refine ⟨h1, h2, ?_, ?_, h5, ?_⟩
  · obtain ⟨g1, g2, g3⟩ := h3
    have hg := h1.1
    refine ⟨?_, ?_, ?_⟩
    · have e : ∀ d, d < 9 → τ.1 (σ.2.2.1 + d) = σ.1 (σ.2.2.1 + d) := fun d hd => k2 _ (by unfold rel; rcases hg with z | z <;> rw [z] <;> omega)
      unfold ClsG at g1 ⊢
      rw [show τ.1 σ.2.2.1 = σ.1 σ.2.2.1 from e 0 (by decide), e 1 (by decide), e 2 (by decide), e 3 (by decide), e 4 (by decide), e 5 (by decide), e 6 (by decide), e 7 (by decide), e 8 (by decide)]
      exact g1
    · unfold ClsA at g2 ⊢
      rw [k2 31 (by unfold rel; omega), k2 32 (by unfold rel; omega), k2 33 (by unfold rel; omega), k2 34 (by unfold rel; omega), k2 35 (by unfold rel; omega)]
      exact g2
    · refine ⟨by rw [k2 24 (by unfold rel; omega)]; exact g3.1, fun c hc w hw => ?_⟩
      rw [k2 (25 + w) (by unfold rel; omega)]
      exact g3.2 c hc w hw
  · unfold Tp at h4 ⊢
    rw [k3, k5, e3, e51]
    exact h4
  · obtain ⟨js, nx, j1, j2, j3, j4, j5, j6⟩ := h6
    refine ⟨js, nx, j1, j2, by rw [e36]; exact j3, by rw [k7]; exact j4, by rw [e36]; exact j5, fun j hj => ?_⟩
    have es : ∀ q, stR τ js q = stR σ js q := fun q => by
      cases q with
      | zero => exact e52
      | succ q => show (fun k => τ.1 54 _) = fun k => σ.1 54 _; rw [e54]
    have ea : actN nx j < 48 ∧ 38 ≤ actN nx j := by unfold actN; omega
    rw [es, es, k2 (actN nx j) (by unfold rel; omega), k8 _ ea.2 ea.1]
    exact j6 j hj
