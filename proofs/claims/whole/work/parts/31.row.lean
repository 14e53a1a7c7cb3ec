/-! the model's row, and its readings -/
def nS (R : Nat → Int32) : Nat := (R 0).toNatClampNeg
def nT (R : Nat → Int32) : Nat := (R 1).toNatClampNeg
def nM (R : Nat → Int32) : Nat := (R 2).toNatClampNeg
def nC (R : Nat → Int32) : Nat := (R 3).toNatClampNeg
def nA (R : Nat → Int32) : Nat := (R 4).toNatClampNeg
/-- how many there are of each -/
def RowN (R : Nat → Int32) : Prop := (R 0 = nI (nS R) ∧ 1 ≤ nS R ∧ nS R ≤ 6) ∧ (R 1 = nI (nT R) ∧ nT R ≤ 5) ∧ (R 2 = nI (nM R) ∧ nM R ≤ 40) ∧ (R 3 = nI (nC R) ∧ nC R ≤ 40) ∧ (R 4 = nI (nA R) ∧ nA R ≤ 40)
def lg (R : Nat → Int32) (k w : Nat) : Int32 := R (47 + 10 * (k / 2) + 4 * (k % 2) + w)
def mI (R : Nat → Int32) (m : Nat) : Int32 := R (45 + 10 * m)
def mS (R : Nat → Int32) (m : Nat) : Int32 := R (45 + 10 * m + 1)
def atB (R : Nat → Int32) (s i : Int32) (k : Nat) : Bool := decide (lg R k 0 = 1) && (decide (lg R k 1 = s) && decide (mI R (k / 2) = i))
def ovB (R : Nat → Int32) (t : Int32) (k : Nat) : Bool := !decide (t < lg R k 3)
def tcB (R : Nat → Int32) (t : Int32) (k : Nat) : Bool := !decide (lg R k 2 ≤ t)
def dbB (R : Nat → Int32) (t : Int32) (k : Nat) : Bool := !ovB R t k && !tcB R t k
def sg (R : Nat → Int32) (k : Nat) : Int32 := if k % 2 = 0 then -mS R (k / 2) else mS R (k / 2)
def cS (R : Nat → Int32) (s i t : Int32) (k : Nat) : Int32 := if atB R s i k && ovB R t k then sg R k else 0
def cD (R : Nat → Int32) (s i t w : Int32) (k : Nat) : Int32 := if atB R s i k && dbB R t k then (if w = 2 then 1 else if nI (k % 2) = w then mS R (k / 2) else 0) else 0
def adB (R : Nat → Int32) (s i t : Int32) (k : Nat) : Bool := decide (R (685 + 4 * k) = s) && (decide (R (686 + 4 * k) = i) && !decide (t < R (687 + 4 * k)))
def cAd (R : Nat → Int32) (s i t : Int32) (k : Nat) : Int32 := if adB R s i t k then R (688 + 4 * k) else 0
def aS (R : Nat → Int32) (s i t : Int32) : Int32 := sumF (cAd R s i t) (nA R) 0
def lS (R : Nat → Int32) (s i t : Int32) : Int32 := sumF (cS R s i t) (2 * nM R) 0
def dS (R : Nat → Int32) (s i t w : Int32) : Int32 := sumF (cD R s i t w) (2 * nM R) 0
def sureR (R : Nat → Int32) (s i : Nat) (t : Int32) : Int32 := R (15 + 5 * s + i) + lS R (nI s) (nI i) t + aS R (nI s) (nI i) t
theorem m_leg {σ : St} {a1 a2 a3 : Int32} (m d w : Nat) (h1 : a1 = nI m) (h2 : a2 = nI d) (h3 : a3 = nI w) (hm : m < 40) (hd : d < 2) (hw : w < 4) : f_X9_leg σ a1 a2 a3 = some (σ.1 52 (47 + 10 * m + 4 * d + w)) := by
  subst h1; subst h2; subst h3
  unfold f_X9_leg
  refine ob (rd_at (47 + 10 * m + 4 * d + w) ?_ (by omega) (by decide)) rfl
  show ((nI 45 + nI 10 * nI m) + nI 2) + nI 4 * nI d + nI w = _
  simp only [pk_mul, nI_add]
  exact congrArg nI (by omega)
theorem m_moved {σ : St} {a1 a2 : Int32} (m w : Nat) (h1 : a1 = nI m) (h2 : a2 = nI w) (hm : m < 40) (hw : w < 2) : f_X9_moved σ a1 a2 = some (σ.1 52 (45 + 10 * m + w)) := by
  subst h1; subst h2
  unfold f_X9_moved
  refine ob (rd_at (45 + 10 * m + w) ?_ (by omega) (by decide)) rfl
  show nI 45 + nI 10 * nI m + nI w = _
  simp only [pk_mul, nI_add]
theorem m_counted {σ : St} {a1 a2 : Int32} (c w : Nat) (h1 : a1 = nI c) (h2 : a2 = nI w) (hc : c < 40) (hw : w < 6) : f_X9_counted σ a1 a2 = some (σ.1 52 (445 + 6 * c + w)) := by
  subst h1; subst h2
  unfold f_X9_counted
  refine ob (rd_at (445 + 6 * c + w) ?_ (by omega) (by decide)) rfl
  show nI 445 + nI 6 * nI c + nI w = _
  simp only [pk_mul, nI_add]
theorem kdiv {k : Nat} (hk : k < 1000) : nI k / 2 = nI (k / 2) := pk_div (d := 2) (by omega) (by decide) (by decide)
theorem krem {k : Nat} (hk : k < 1000) : nI k - nI k / 2 * 2 = nI (k % 2) := pk_rem (d := 2) (by omega) (by decide) (by decide)
section MREAD
variable {σ : St} {k : Nat} {s i t : Int32}
theorem m_legk {w : Nat} {a1 a2 a3 : Int32} (h1 : a1 = nI (k / 2)) (h2 : a2 = nI (k % 2)) (h3 : a3 = nI w) (hk : k < 80) (hw : w < 4) : f_X9_leg σ a1 a2 a3 = some (lg (σ.1 52) k w) := m_leg (k / 2) (k % 2) w h1 h2 h3 (by omega) (by omega) hw
theorem m_isThere {a1 a2 : Int32} (h1 : a1 = nI (k / 2)) (h2 : a2 = nI (k % 2)) (hk : k < 80) : f_X9_isThere σ a1 a2 = some (decide (lg (σ.1 52) k 0 = 1)) := by
  unfold f_X9_isThere
  refine ob (m_legk h1 h2 (w := 0) rfl hk (by decide)) ?_
  by_cases h : lg (σ.1 52) k 0 = 1 <;> simp [h]
theorem m_isAt {a1 a2 : Int32} (h1 : a1 = nI (k / 2)) (h2 : a2 = nI (k % 2)) (hk : k < 80) : f_X9_isAt σ a1 a2 s i = some (atB (σ.1 52) s i k) := by
  unfold f_X9_isAt
  refine ob (m_isThere h1 h2 hk) ?_
  unfold atB
  by_cases h : lg (σ.1 52) k 0 = 1
  · rw [if_neg (by simp [h, b2i])]
    refine ob (m_legk h1 h2 (w := 1) rfl hk (by decide)) ?_
    by_cases h3 : lg (σ.1 52) k 1 = s
    · rw [if_pos h3]
      refine ob (m_moved (k / 2) 0 h1 rfl (by omega) (by decide)) ?_
      show (if mI (σ.1 52) (k / 2) = i then some true else some false) = _
      by_cases h4 : mI (σ.1 52) (k / 2) = i <;> simp [h, h3, h4]
    · rw [if_neg h3]; simp [h3]
  · rw [if_pos (by simp [h, b2i])]; simp [h]
theorem m_isOver {a1 a2 : Int32} (h1 : a1 = nI (k / 2)) (h2 : a2 = nI (k % 2)) (hk : k < 80) : f_X9_isOver σ a1 a2 t = some (ovB (σ.1 52) t k) := by
  unfold f_X9_isOver ovB
  refine ob (m_legk h1 h2 (w := 3) rfl hk (by decide)) ?_
  by_cases h : t < lg (σ.1 52) k 3 <;> simp [h]
theorem m_isToCome {a1 a2 : Int32} (h1 : a1 = nI (k / 2)) (h2 : a2 = nI (k % 2)) (hk : k < 80) : f_X9_isToCome σ a1 a2 t = some (tcB (σ.1 52) t k) := by
  unfold f_X9_isToCome tcB
  refine ob (m_legk h1 h2 (w := 2) rfl hk (by decide)) ?_
  by_cases h : lg (σ.1 52) k 2 ≤ t <;> simp [h]
theorem m_isDoubtful {a1 a2 : Int32} (h1 : a1 = nI (k / 2)) (h2 : a2 = nI (k % 2)) (hk : k < 80) : f_X9_isDoubtful σ a1 a2 t = some (dbB (σ.1 52) t k) := by
  unfold f_X9_isDoubtful dbB
  refine ob (m_isOver h1 h2 hk) ?_
  by_cases h : ovB (σ.1 52) t k = true
  · rw [if_neg (b2i_ne h)]; simp [h]
  · have h' : ovB (σ.1 52) t k = false := by simpa using h
    rw [if_pos (b2i_eq h')]
    refine ob (m_isToCome h1 h2 hk) ?_
    by_cases h3 : tcB (σ.1 52) t k = true
    · rw [if_neg (b2i_ne h3)]; simp [h3]
    · have h3' : tcB (σ.1 52) t k = false := by simpa using h3
      rw [if_pos (b2i_eq h3')]; simp [h', h3']
end MREAD
theorem m_sure {σ : St} (hN : RowN (σ.1 52)) (s i : Nat) (t : Int32) (hs : s < 6) (hi : i < 5) {a1 a2 : Int32} (h1 : a1 = nI s) (h2 : a2 = nI i) : f_X9_sure σ a1 a2 t = some (sureR (σ.1 52) s i t) := by
  subst h1; subst h2
  obtain ⟨-, -, hM, -, hA⟩ := hN
  unfold f_X9_sure
  refine ob (rd_at (15 + 5 * s + i) ?_ (by omega) (by decide)) ?_
  · show nI 15 + nI 5 * nI s + nI i = _
    simp only [pk_mul, nI_add]
  · have hb : ∀ x, f_X9_sure_b107 σ (nI s) (nI i) t 10000 x 0 = some (x + aS (σ.1 52) (nI s) (nI i) t) := by
      intro x
      refine sum_loop (f := f_X9_sure_b107 σ (nI s) (nI i) t) (fin := some) (nA (σ.1 52)) (by omega) (fun n x => ?_) (fun n k x hk => ?_) (nA (σ.1 52)) 0 10000 x (by omega) (by omega)
      · rw [f_X9_sure_b107]
        refine ob (rd_at 4 rfl (by decide) (by decide)) ?_
        rw [hA.1, if_pos (Int32.le_refl _)]
      · rw [f_X9_sure_b107]
        refine ob (rd_at 4 rfl (by decide) (by decide)) ?_
        rw [hA.1, if_neg (nI_ge hk (by omega))]
        have e0 : (685 : Int32) + 4 * nI k = nI (685 + 4 * k) := by
          show nI 685 + nI 4 * nI k = _
          simp only [pk_mul, nI_add]
        simp only [nm, e0]
        refine ob (rd_at (685 + 4 * k) rfl (by omega) (by decide)) ?_
        unfold cAd adB
        by_cases c1 : σ.1 52 (685 + 4 * k) = nI s
        · rw [if_pos c1]
          refine ob (rd_at (686 + 4 * k) (by rw [nI_1]; exact congrArg nI (by omega)) (by omega) (by decide)) ?_
          by_cases c2 : σ.1 52 (686 + 4 * k) = nI i
          · rw [if_pos c2]
            refine ob (rd_at (687 + 4 * k) (by show nI _ + nI 2 = _; rw [nI_add]; exact congrArg nI (by omega)) (by omega) (by decide)) ?_
            by_cases c3 : t < σ.1 52 (687 + 4 * k)
            · rw [if_pos c3, nI_1]; simp [c3, Int32.add_zero]
            · rw [if_neg c3]
              refine ob (rd_at (688 + 4 * k) (by show nI _ + nI 3 = _; rw [nI_add]; exact congrArg nI (by omega)) (by omega) (by decide)) ?_
              rw [nI_1]; simp [c1, c2, c3]
          · rw [if_neg c2, nI_1]; simp [c2, Int32.add_zero]
        · rw [if_neg c1, nI_1]; simp [c1, Int32.add_zero]
    refine (sum_loop (f := f_X9_sure_b18 σ (nI s) (nI i) t) (fin := fun x => some (x + aS (σ.1 52) (nI s) (nI i) t)) (c := cS (σ.1 52) (nI s) (nI i) t) (2 * nM (σ.1 52)) (by omega) (fun n x => ?_) (fun n k x hk => ?_) (2 * nM (σ.1 52)) 0 10000 _ (by omega) (by omega)).trans ?_
    · rw [f_X9_sure_b18]
      refine ob (rd_at 2 rfl (by decide) (by decide)) ?_
      rw [hM.1, show (2 : Int32) * nI (nM (σ.1 52)) = nI (2 * nM (σ.1 52)) from pk_mul 2 _, if_pos (Int32.le_refl _)]
      exact hb x
    · rw [f_X9_sure_b18]
      refine ob (rd_at 2 rfl (by decide) (by decide)) ?_
      rw [hM.1, show (2 : Int32) * nI (nM (σ.1 52)) = nI (2 * nM (σ.1 52)) from pk_mul 2 _, if_neg (nI_ge hk (by omega))]
      have hk8 : k < 80 := by omega
      refine ob (m_isAt (kdiv (by omega)) (krem (by omega)) hk8) ?_
      unfold cS
      by_cases c1 : atB (σ.1 52) (nI s) (nI i) k = true
      · rw [if_neg (b2i_ne c1)]
        refine ob (m_isOver (kdiv (by omega)) (krem (by omega)) hk8) ?_
        by_cases c2 : ovB (σ.1 52) t k = true
        · rw [if_neg (b2i_ne c2)]
          simp only [c1, c2, Bool.and_self, if_true]
          unfold sg
          by_cases c3 : k % 2 = 0
          · rw [if_pos (show nI k - nI k / 2 * 2 = 0 by rw [krem (by omega), c3]; rfl), if_pos c3]
            refine ob (m_moved (k / 2) 1 (kdiv (by omega)) rfl (by omega) (by decide)) ?_
            simp only [nm, nI_1]
            rfl
          · rw [if_neg (show ¬ nI k - nI k / 2 * 2 = 0 by rw [krem (by omega)]; exact nI_ne0 (by omega) (by omega)), if_neg c3]
            refine ob (m_moved (k / 2) 1 (kdiv (by omega)) rfl (by omega) (by decide)) ?_
            simp only [nm, nI_1]
            rfl
        · have c2' : ovB (σ.1 52) t k = false := by simpa using c2
          rw [if_pos (b2i_eq c2')]
          simp [nm, nI_1, c2', Int32.add_zero]
      · have c1' : atB (σ.1 52) (nI s) (nI i) k = false := by simpa using c1
        rw [if_pos (b2i_eq c1')]
        simp [nm, nI_1, c1', Int32.add_zero]
    · rfl
