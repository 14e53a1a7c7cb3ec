/-! text: bytes -/
def isAl (x : Nat) : Bool := decide (97 ≤ x) && decide (x ≤ 122)
def isDg (x : Nat) : Bool := decide (48 ≤ x) && decide (x ≤ 57)
def isBl (x : Nat) : Bool := decide (x = 32) || decide (x = 10)
def isAn (x : Nat) : Bool := isAl x || isDg x
def sb (x : Nat) : Int32 := (nI x).toInt8.toInt32
theorem sb_all : ∀ x, x < 256 → (if sb x < 97 then false else if 122 < sb x then false else true) = isAl x ∧ (if sb x < 48 then false else if 57 < sb x then false else true) = isDg x ∧ (if sb x = 32 then true else if sb x = 10 then true else false) = isBl x ∧ decide (sb x = 59) = decide (x = 59) ∧ (x < 128 → sb x = nI x) := by decide +kernel
theorem mb_all : ∀ x, x < 256 → (if nI x < 97 then false else if 122 < nI x then false else true) = isAl x ∧ (if nI x < 48 then false else if 57 < nI x then false else true) = isDg x ∧ (if nI x = 32 then true else if nI x = 10 then true else false) = isBl x ∧ decide (nI x = 59) = decide (x = 59) := by decide +kernel
theorem c_let (σ : St) {x : Nat} (hx : x < 256) : f_X6_isLetter σ (sb x) = isAl x := (sb_all x hx).1
theorem c_dig (σ : St) {x : Nat} (hx : x < 256) : f_X6_isDigit σ (sb x) = isDg x := (sb_all x hx).2.1
theorem c_bla (σ : St) {x : Nat} (hx : x < 256) : f_X6_isBlank σ (sb x) = isBl x := (sb_all x hx).2.2.1
theorem c_59 {x : Nat} (hx : x < 256) : (sb x = 59) = (x = 59) := propext (decide_eq_decide.mp (sb_all x hx).2.2.2.1)
theorem sb_lo {x : Nat} (hx : x < 128) : sb x = nI x := (sb_all x (by omega)).2.2.2.2 hx
theorem m_let (σ : St) {x : Nat} (hx : x < 256) : f_X9_isLetter σ (nI x) = isAl x := (mb_all x hx).1
theorem m_dig (σ : St) {x : Nat} (hx : x < 256) : f_X9_isDigit σ (nI x) = isDg x := (mb_all x hx).2.1
theorem m_59 {x : Nat} (hx : x < 256) : (nI x = 59) = (x = 59) := propext (decide_eq_decide.mp (mb_all x hx).2.2.2)
theorem al_b {x : Nat} (h : isAl x = true) : 97 ≤ x ∧ x ≤ 122 := by unfold isAl at h; simpa using h
theorem dg_b {x : Nat} (h : isDg x = true) : 48 ≤ x ∧ x ≤ 57 := by unfold isDg at h; simpa using h
theorem al_dg {x : Nat} (h : isAl x = true) : isDg x = false := by
  have := al_b h
  unfold isDg
  rw [decide_eq_false (show ¬ x ≤ 57 by omega), Bool.and_false]
/-! runs -/
def rn (v : Nat → Nat) : Nat → Nat → Nat
  | 0, p => p
  | d + 1, p => if isAn (v p) then rn v d (p + 1) else p
theorem rn_ge (v : Nat → Nat) : ∀ d p, p ≤ rn v d p ∧ rn v d p ≤ p + d
  | 0, p => ⟨Nat.le_refl _, Nat.le_refl _⟩
  | d + 1, p => by
    unfold rn
    split
    · have := rn_ge v d (p + 1); omega
    · omega
theorem rn_in (v : Nat → Nat) : ∀ d p j, p ≤ j → j < rn v d p → isAn (v j) = true
  | 0, p, j, h1, h2 => by unfold rn at h2; omega
  | d + 1, p, j, h1, h2 => by
    unfold rn at h2
    by_cases z : isAn (v p) = true
    · rw [if_pos z] at h2
      by_cases y : j = p
      · rw [y]; exact z
      · exact rn_in v d (p + 1) j (by omega) h2
    · rw [if_neg z] at h2; omega
theorem rn_out (v : Nat → Nat) : ∀ d p, rn v d p < p + d → isAn (v (rn v d p)) = false
  | 0, p, h => by unfold rn at h; omega
  | d + 1, p, h => by
    unfold rn at h ⊢
    by_cases z : isAn (v p) = true
    · rw [if_pos z] at h ⊢
      exact rn_out v d (p + 1) (by omega)
    · rw [if_neg z]
      simpa using z
/-- where the token that starts at p ends -/
def te (v : Nat → Nat) (n p : Nat) : Nat := if isAn (v p) = true then rn v (n - p) p else p + 1
theorem te_b {v : Nat → Nat} {n p : Nat} (h : p < n) : p < te v n p ∧ te v n p ≤ n := by
  unfold te
  by_cases z : isAn (v p) = true
  · rw [if_pos z]
    obtain ⟨m, hm⟩ : ∃ m, n - p = m + 1 := ⟨n - p - 1, by omega⟩
    have h1 := rn_ge v (n - p) p
    rw [hm] at h1 ⊢
    unfold rn at h1 ⊢
    rw [if_pos z] at h1 ⊢
    have := rn_ge v m (p + 1)
    omega
  · rw [if_neg z]; omega
def TpC (σ : St) (v : Nat → Nat) (n : Nat) : Prop := n ≤ 640 ∧ σ.1 2 0 = nI n ∧ ∀ j, j < n → v j < 256 ∧ σ.1 3 j = sb (v j)
def TpM (τ : St) (v : Nat → Nat) (n : Nat) : Prop := n ≤ 640 ∧ τ.1 50 3 = nI n ∧ ∀ j, j < n → v j < 256 ∧ τ.1 51 j = nI (v j)
theorem c_behind {σ : St} {v : Nat → Nat} {n : Nat} (hT : TpC σ v n) {p : Nat} (hp : p < n) : f_X6_behindRun σ (nI p) = some (nI (te v n p)) := by
  obtain ⟨hn, h0, h1⟩ := hT
  have main : ∀ (d q fu : Nat), q + d = n → d < fu → p ≤ q → f_X6_behindRun_b2 σ (nI p) fu (nI q) = some (nI (if rn v d q < p + 1 then p + 1 else rn v d q)) := by
    have fin : ∀ q, q ≤ n → (if nI q < nI p + 1 then nI p + 1 else nI q) = nI (if q < p + 1 then p + 1 else q) := fun q hq => by
      rw [nI_1]
      by_cases z : q < p + 1
      · rw [if_pos z, if_pos (by rw [lt_nI (by omega) (by omega)]; exact z)]
      · rw [if_neg z, if_neg (by rw [lt_nI (by omega) (by omega)]; exact z)]
    intro d
    induction d with
    | zero =>
      intro q fu e1 e2 e3
      obtain ⟨fu, rfl⟩ : ∃ m, fu = m + 1 := ⟨fu - 1, by omega⟩
      rw [f_X6_behindRun_b2, h0, if_pos (by rw [le_nI (by omega) (by omega)]; omega), fin q (by omega)]
      rfl
    | succ d ih =>
      intro q fu e1 e2 e3
      obtain ⟨fu, rfl⟩ : ∃ m, fu = m + 1 := ⟨fu - 1, by omega⟩
      obtain ⟨b1, b2⟩ := h1 q (by omega)
      rw [f_X6_behindRun_b2, h0, if_neg (nI_ge (show q < n by omega) (by omega)), rd_at q rfl (by omega) (by decide), Option.bind_some, b2, c_let σ b1, Option.bind_some, c_dig σ b1]
      show _ = some (nI (if (if isAn (v q) = true then rn v d (q + 1) else q) < p + 1 then p + 1 else (if isAn (v q) = true then rn v d (q + 1) else q)))
      cases z1 : isAl (v q)
      · rw [if_pos bf0]
        cases z2 : isDg (v q)
        · rw [if_pos bf0, if_neg (show ¬ isAn (v q) = true by unfold isAn; rw [z1, z2]; decide), fin q (by omega)]
        · rw [if_neg bt0, if_pos (show isAn (v q) = true by unfold isAn; rw [z1, z2]; decide), nm_q, nI_1]
          exact ih (q + 1) fu (by omega) (by omega) (by omega)
      · rw [if_neg bt0, if_pos (show isAn (v q) = true by unfold isAn; rw [z1]; rfl), nm_q, nI_1]
        exact ih (q + 1) fu (by omega) (by omega) (by omega)
  unfold f_X6_behindRun
  rw [main (n - p) p 10000 (by omega) (by omega) (Nat.le_refl _)]
  have hb := te_b (v := v) hp
  unfold te at hb ⊢
  by_cases z : isAn (v p) = true
  · rw [if_pos z] at hb ⊢
    rw [if_neg (by omega)]
  · rw [if_neg z]
    obtain ⟨m, hm⟩ : ∃ m, n - p = m + 1 := ⟨n - p - 1, by omega⟩
    rw [hm]
    unfold rn
    rw [if_neg z, if_pos (by omega)]
