/-! text: the class's kinds -/
def cntL (v : Nat → Nat) (p : Nat) : Nat → Nat
  | 0 => 0
  | k + 1 => cntL v p k + (if isAl (v (p + k)) = true then 1 else 0)
def cntD (v : Nat → Nat) (p : Nat) : Nat → Nat
  | 0 => 0
  | k + 1 => cntD v p k + (if isDg (v (p + k)) = true then 1 else 0)
def vF (v : Nat → Nat) (p : Nat) : Nat → Int32
  | 0 => 0
  | k + 1 => if isAl (v (p + k)) = true then vF v p k else if isDg (v (p + k)) = true then (10 * vF v p k + sb (v (p + k))) - 48 else vF v p k
def vl (v : Nat → Nat) (p : Nat) : Nat → Nat
  | 0 => 0
  | k + 1 => 10 * vl v p k + (v (p + k) - 48)
def AllL (v : Nat → Nat) (p m : Nat) : Prop := ∀ j, j < m → isAl (v (p + j)) = true
def AllD (v : Nat → Nat) (p m : Nat) : Prop := ∀ j, j < m → isDg (v (p + j)) = true
theorem cntL_all {v : Nat → Nat} {p : Nat} : ∀ m, cntL v p m ≤ m ∧ (cntL v p m = m ↔ AllL v p m)
  | 0 => ⟨Nat.le_refl _, fun _ j hj => by omega, fun _ => rfl⟩
  | m + 1 => by
    obtain ⟨h1, h2⟩ := cntL_all (v := v) (p := p) m
    unfold cntL
    by_cases z : isAl (v (p + m)) = true
    · rw [if_pos z]
      refine ⟨by omega, fun h j hj => ?_, fun h => ?_⟩
      · by_cases y : j = m
        · rw [y]; exact z
        · exact h2.mp (by omega) j (by omega)
      · have := h2.mpr (fun j hj => h j (by omega)); omega
    · rw [if_neg z]
      exact ⟨by omega, fun h => by omega, fun h => absurd (h m (by omega)) z⟩
theorem cntD_all {v : Nat → Nat} {p : Nat} : ∀ m, cntD v p m ≤ m ∧ (cntD v p m = m ↔ AllD v p m)
  | 0 => ⟨Nat.le_refl _, fun _ j hj => by omega, fun _ => rfl⟩
  | m + 1 => by
    obtain ⟨h1, h2⟩ := cntD_all (v := v) (p := p) m
    unfold cntD
    by_cases z : isDg (v (p + m)) = true
    · rw [if_pos z]
      refine ⟨by omega, fun h j hj => ?_, fun h => ?_⟩
      · by_cases y : j = m
        · rw [y]; exact z
        · exact h2.mp (by omega) j (by omega)
      · have := h2.mpr (fun j hj => h j (by omega)); omega
    · rw [if_neg z]
      exact ⟨by omega, fun h => by omega, fun h => absurd (h m (by omega)) z⟩
theorem vl_b {v : Nat → Nat} {p : Nat} : ∀ m, AllD v p m → vl v p m < 10 ^ m
  | 0, _ => by show 0 < 1; decide
  | m + 1, h => by
    have h1 := vl_b m (fun j hj => h j (by omega))
    have h2 := dg_b (h m (by omega))
    unfold vl
    rw [Nat.pow_succ]
    omega
theorem dig_add {a x : Nat} (h : a < 100000) (hx : 48 ≤ x ∧ x ≤ 57) : (10 * nI a + nI x) - 48 = nI (10 * a + (x - 48)) := by
  rw [show (10 : Int32) * nI a = nI (10 * a) from pk_mul 10 a, nI_add, show (48 : Int32) = nI 48 from rfl, pk_sub (by omega)]
  exact congrArg nI (by omega)
theorem vF_vl {v : Nat → Nat} {p : Nat} : ∀ m, m ≤ 3 → AllD v p m → vF v p m = nI (vl v p m)
  | 0, _, _ => rfl
  | m + 1, hm, h => by
    have h1 := vF_vl m (by omega) (fun j hj => h j (by omega))
    have h2 := h m (by omega)
    have h3 := dg_b h2
    have h4 := vl_b m (fun j hj => h j (by omega))
    have h5 : (10 : Nat) ^ m ≤ 10 ^ 3 := Nat.pow_le_pow_right (by decide) (by omega)
    unfold vF vl
    rw [if_neg (show ¬ isAl (v (p + m)) = true from fun y => by rw [al_dg y] at h2; exact absurd h2 (by decide)), if_pos h2, h1, sb_lo (by omega), dig_add (by omega) h3]
def wds : List (List Nat) := [[115, 104, 101, 108, 118, 101, 115], [105, 116, 101, 109], [115, 116, 111, 99, 107], [109, 111, 118, 101], [102, 114, 111, 109], [116, 111]]
def wd (w : Nat) : List Nat := wds.getD w []
def isW (v : Nat → Nat) (p m w : Nat) : Prop := m = (wd w).length ∧ ∀ j, j < m → v (p + j) = (wd w).getD j 0
theorem wd_len : ∀ w, w < 6 → lenS.getD w 0 = (wd w).length ∧ (wd w).length ≤ 7 ∧ 2 ≤ (wd w).length := by decide
theorem wd_ch : ∀ w, w < 6 → ∀ j, j < (wd w).length → chA w (nI j) = some (nI ((wd w).getD j 0)) ∧ 97 ≤ (wd w).getD j 0 ∧ (wd w).getD j 0 ≤ 122 := by decide +kernel
theorem wd_inj : ∀ w, w < 6 → ∀ w', w' < 6 → wd w = wd w' → w = w' := by decide
theorem getD_in (l : List Nat) (j : Nat) (h : j < l.length) : l.getD j 0 = l[j] := by simp [List.getD_eq_getElem?_getD, h]
theorem isW_inj {v : Nat → Nat} {p m w w' : Nat} (hw : w < 6) (hw' : w' < 6) (h1 : isW v p m w) (h2 : isW v p m w') : w = w' := by
  apply wd_inj w hw w' hw'
  apply List.ext_getElem (by rw [← h1.1, ← h2.1])
  intro j q1 q2
  have a := h1.2 j (by rw [h1.1]; exact q1)
  have b := h2.2 j (by rw [h2.1]; exact q2)
  rw [getD_in _ _ q1] at a
  rw [getD_in _ _ q2] at b
  rw [← a, ← b]
theorem c_isWord {σ : St} {v : Nat → Nat} {n : Nat} (hT : TpC σ v n) {p m w : Nat} (hw : w < 6) (hm : p + m ≤ n) (hL : AllL v p m) : ∃ b, f_X6_isWord σ (nI p) (nI m) w = some b ∧ (b = true ↔ isW v p m w) := by
  obtain ⟨hn, h0, h1⟩ := hT
  obtain ⟨l1, l2, l3⟩ := wd_len w hw
  have main : m = (wd w).length → ∀ (d j fu : Nat), j + d = m → d < fu → ∃ b, f_X6_isWord_b13 σ (nI p) (nI m) w fu (nI j) = some b ∧ (b = true ↔ ∀ i, j ≤ i → i < m → v (p + i) = (wd w).getD i 0) := by
    intro hml d
    induction d with
    | zero =>
      intro j fu e1 e2
      obtain ⟨fu, rfl⟩ : ∃ m, fu = m + 1 := ⟨fu - 1, by omega⟩
      refine ⟨true, ?_, ⟨fun _ i h3 h4 => by omega, fun _ => rfl⟩⟩
      rw [f_X6_isWord_b13, if_pos (by rw [le_nI (by omega) (by omega)]; omega)]
    | succ d ih =>
      intro j fu e1 e2
      obtain ⟨fu, rfl⟩ : ∃ m, fu = m + 1 := ⟨fu - 1, by omega⟩
      obtain ⟨b1, b2⟩ := h1 (p + j) (by omega)
      have hl := al_b (hL j (by omega))
      obtain ⟨w1, w2, w3⟩ := wd_ch w hw j (by omega)
      have un : f_X6_isWord_b13 σ (nI p) (nI m) w (fu + 1) (nI j) = if nI (v (p + j)) = nI ((wd w).getD j 0) then f_X6_isWord_b13 σ (nI p) (nI m) w fu (nI (j + 1)) else some false := by
        rw [f_X6_isWord_b13, if_neg (nI_ge (show j < m by omega) (by omega)), nI_add, rd_at (p + j) rfl (by omega) (by decide), Option.bind_some, w1, Option.bind_some, b2, sb_lo (by omega), nm_q, nI_1]
      rw [un]
      by_cases z : v (p + j) = (wd w).getD j 0
      · rw [if_pos (by rw [z])]
        obtain ⟨b, c1, c2⟩ := ih (j + 1) fu (by omega) (by omega)
        refine ⟨b, c1, c2.trans ⟨fun h i h3 h4 => ?_, fun h i h3 h4 => h i (by omega) h4⟩⟩
        by_cases y : i = j
        · rw [y]; exact z
        · exact h i (by omega) h4
      · rw [if_neg (by rw [eq_nI (by omega) (by omega)]; exact z)]
        exact ⟨false, rfl, ⟨fun h => absurd h (by decide), fun h => absurd (h j (Nat.le_refl _) (by omega)) z⟩⟩
  unfold f_X6_isWord
  rw [l1]
  by_cases z : m = (wd w).length
  · rw [if_pos (by rw [z])]
    obtain ⟨b, c1, c2⟩ := main z m 0 10000 (by omega) (by omega)
    exact ⟨b, c1, c2.trans ⟨fun h => ⟨z, fun j hj => h j (by omega) hj⟩, fun h i _ h4 => h.2 i h4⟩⟩
  · rw [if_neg (by rw [eq_nI (by omega) (by omega)]; exact z)]
    exact ⟨false, rfl, ⟨fun h => absurd h (by decide), fun h => absurd h.1 z⟩⟩
def wk (w : Nat) : Int32 := ([-5, -6, -7, -8, -9, -10] : List Int32).getD w 0
theorem wk_inj : ∀ w, w < 6 → ∀ w', w' < 6 → wk w = wk w' → w = w' := by decide
theorem wk_4 : ∀ w, w < 6 → ¬ (-4 : Int32) = wk w := by decide
/-- a word's kind -/
def KW (v : Nat → Nat) (p m : Nat) (kc : Int32) : Prop := (kc = -4 ∨ ∃ w, w < 6 ∧ kc = wk w) ∧ ∀ w, w < 6 → (kc = wk w ↔ isW v p m w)
theorem c_kindOfWord {σ : St} {v : Nat → Nat} {n : Nat} (hT : TpC σ v n) {p m : Nat} (hm : p + m ≤ n) (hL : AllL v p m) : ∃ kc, f_X6_kindOfWord σ (nI p) (nI m) = some kc ∧ KW v p m kc := by
  have yes : ∀ w, w < 6 → isW v p m w → KW v p m (wk w) := fun w hw h => ⟨Or.inr ⟨w, hw, rfl⟩, fun w' hw' => ⟨fun e => by rw [← wk_inj w hw w' hw' e]; exact h, fun h' => by rw [isW_inj hw hw' h h']⟩⟩
  obtain ⟨b0, e0, i0⟩ := c_isWord hT (w := 0) (by decide) hm hL
  obtain ⟨b1, e1, i1⟩ := c_isWord hT (w := 1) (by decide) hm hL
  obtain ⟨b2, e2, i2⟩ := c_isWord hT (w := 2) (by decide) hm hL
  obtain ⟨b3, e3, i3⟩ := c_isWord hT (w := 3) (by decide) hm hL
  obtain ⟨b4, e4, i4⟩ := c_isWord hT (w := 4) (by decide) hm hL
  obtain ⟨b5, e5, i5⟩ := c_isWord hT (w := 5) (by decide) hm hL
  unfold f_X6_kindOfWord
  rw [e0, Option.bind_some, e1, Option.bind_some, e2, Option.bind_some, e3, Option.bind_some, e4, Option.bind_some, e5, Option.bind_some]
  cases b0
  · rw [if_pos bf0]
    cases b1
    · rw [if_pos bf0]
      cases b2
      · rw [if_pos bf0]
        cases b3
        · rw [if_pos bf0]
          cases b4
          · rw [if_pos bf0]
            cases b5
            · rw [if_pos bf0]
              refine ⟨-4, rfl, Or.inl rfl, fun w hw => ⟨fun e => absurd e (wk_4 w hw), fun h => ?_⟩⟩
              rcases (show w = 0 ∨ w = 1 ∨ w = 2 ∨ w = 3 ∨ w = 4 ∨ w = 5 by omega) with rfl | rfl | rfl | rfl | rfl | rfl
              · exact absurd (i0.mpr h) (by decide)
              · exact absurd (i1.mpr h) (by decide)
              · exact absurd (i2.mpr h) (by decide)
              · exact absurd (i3.mpr h) (by decide)
              · exact absurd (i4.mpr h) (by decide)
              · exact absurd (i5.mpr h) (by decide)
            · rw [if_neg bt0]
              exact ⟨_, rfl, yes 5 (by decide) (i5.mp rfl)⟩
          · rw [if_neg bt0]
            exact ⟨_, rfl, yes 4 (by decide) (i4.mp rfl)⟩
        · rw [if_neg bt0]
          exact ⟨_, rfl, yes 3 (by decide) (i3.mp rfl)⟩
      · rw [if_neg bt0]
        exact ⟨_, rfl, yes 2 (by decide) (i2.mp rfl)⟩
    · rw [if_neg bt0]
      exact ⟨_, rfl, yes 1 (by decide) (i1.mp rfl)⟩
  · rw [if_neg bt0]
    exact ⟨_, rfl, yes 0 (by decide) (i0.mp rfl)⟩
/-- the class's kind of the token from p to e -/
def KC (v : Nat → Nat) (n p : Nat) (kc : Int32) : Prop :=
  (isAn (v p) = false ∧ kc = if v p = 59 then -3 else -1) ∨
  (isAn (v p) = true ∧ ((AllL v p (te v n p - p) ∧ KW v p (te v n p - p) kc) ∨ (¬ AllL v p (te v n p - p) ∧ AllD v p (te v n p - p) ∧ te v n p - p ≤ 3 ∧ kc = nI (vl v p (te v n p - p))) ∨ (¬ AllL v p (te v n p - p) ∧ ¬ (AllD v p (te v n p - p) ∧ te v n p - p ≤ 3) ∧ kc = -1)))
theorem c_kindOf {σ : St} {v : Nat → Nat} {n : Nat} (hT : TpC σ v n) {p : Nat} (hp : p < n) : ∃ kc, f_X6_kindOf σ (nI p) (nI (te v n p)) = some kc ∧ KC v n p kc := by
  obtain ⟨hn, h0, h1⟩ := id hT
  obtain ⟨b1, b2⟩ := te_b (v := v) hp
  generalize hm : te v n p - p = m
  have he : te v n p = p + m := by omega
  have hm1 : 1 ≤ m := by omega
  have main : ∀ (d k fu : Nat), k + d = m → d < fu → f_X6_kindOf_b11 σ (nI p) (nI (p + m)) fu (nI (cntL v p k)) (nI (cntD v p k)) (vF v p k) (nI (p + k)) = f_X6_kindOf_b11 σ (nI p) (nI (p + m)) 1 (nI (cntL v p m)) (nI (cntD v p m)) (vF v p m) (nI (p + m)) := by
    intro d
    induction d with
    | zero =>
      intro k fu e1 e2
      obtain ⟨fu, rfl⟩ : ∃ m, fu = m + 1 := ⟨fu - 1, by omega⟩
      obtain rfl : k = m := by omega
      rw [f_X6_kindOf_b11, f_X6_kindOf_b11, if_pos (Int32.le_refl _), if_pos (Int32.le_refl _)]
    | succ d ih =>
      intro k fu e1 e2
      obtain ⟨fu, rfl⟩ : ∃ m, fu = m + 1 := ⟨fu - 1, by omega⟩
      rw [← ih (k + 1) fu (by omega) (by omega)]
      obtain ⟨y1, y2⟩ := h1 (p + k) (by omega)
      have eL : cntL v p (k + 1) = cntL v p k + (if isAl (v (p + k)) = true then 1 else 0) := rfl
      have eD : cntD v p (k + 1) = cntD v p k + (if isDg (v (p + k)) = true then 1 else 0) := rfl
      have eV : vF v p (k + 1) = if isAl (v (p + k)) = true then vF v p k else if isDg (v (p + k)) = true then (10 * vF v p k + sb (v (p + k))) - 48 else vF v p k := rfl
      rw [eL, eD, eV, f_X6_kindOf_b11, if_neg (nI_ge (show p + k < p + m by omega) (by omega)), rd_at (p + k) rfl (by omega) (by decide), Option.bind_some, y2, c_let σ y1, Option.bind_some, c_dig σ y1]
      cases z1 : isAl (v (p + k))
      · rw [if_pos bf0, if_neg (show ¬ false = true by decide), if_neg (show ¬ false = true by decide)]
        cases z2 : isDg (v (p + k))
        · rw [if_pos bf0, nm_q, nI_1, if_neg (show ¬ false = true by decide), if_neg (show ¬ false = true by decide)]
          rfl
        · rw [if_neg bt0, nm_q, Option.bind_some, nm_q, nm_q, nI_1, nI_1, if_pos rfl, if_pos rfl]
          rfl
      · rw [if_neg bt0, al_dg z1, nm_q, nm_q, nI_1, nI_1, if_pos rfl, if_pos rfl, if_neg (show ¬ false = true by decide)]
        rfl
  have st := main m 0 10000 (by omega) (by omega)
  have cl := cntL_all (v := v) (p := p) m
  have cd := cntD_all (v := v) (p := p) m
  have es : nI (p + m) - nI p = nI m := by rw [pk_sub (by omega)]; exact congrArg nI (by omega)
  have fin : f_X6_kindOf σ (nI p) (nI (te v n p)) = if cntL v p m = m then f_X6_kindOfWord σ (nI p) (nI (cntL v p m)) else if cntD v p m = m then (if 3 < cntD v p m then some (if v p = 59 then -3 else -1) else some (vF v p m)) else some (if v p = 59 then -3 else -1) := by
    unfold f_X6_kindOf
    rw [he]
    refine st.trans ?_
    rw [f_X6_kindOf_b11, if_pos (Int32.le_refl _), es]
    obtain ⟨y1, y2⟩ := h1 p hp
    have r59 : ((rd σ 3 640 (nI p)).bind fun v4 => if v4 = 59 then (some (-3)) else (some (-1 : Int32))) = some (if v p = 59 then -3 else -1) := by
      rw [rd_at p rfl (by omega) (by decide), Option.bind_some, y2]
      by_cases z : v p = 59
      · rw [if_pos z, if_pos (by rw [c_59 y1]; exact z)]
      · rw [if_neg z, if_neg (by rw [c_59 y1]; exact z)]
    rw [r59]
    by_cases z1 : cntL v p m = m
    · rw [if_pos z1, if_pos (by rw [z1])]
      cases f_X6_kindOfWord σ (nI p) (nI (cntL v p m)) <;> rfl
    · rw [if_neg z1, if_neg (by rw [eq_nI (by omega) (by omega)]; exact z1)]
      by_cases z2 : cntD v p m = m
      · rw [if_pos z2, if_pos (by rw [z2])]
        by_cases z3 : 3 < cntD v p m
        · rw [if_pos z3, if_pos (show (3 : Int32) < nI (cntD v p m) from (nI_ltI (a := 3) (by omega) (by omega)).mpr z3)]
        · rw [if_neg z3, if_neg (show ¬ (3 : Int32) < nI (cntD v p m) from fun y => z3 ((nI_ltI (a := 3) (by omega) (by omega)).mp y))]
      · rw [if_neg z2, if_neg (by rw [eq_nI (by omega) (by omega)]; exact z2)]
  rw [fin]
  cases za : isAn (v p) with
  | false =>
    have hz : isAl (v p) = false ∧ isDg (v p) = false := by unfold isAn at za; simpa using za
    have e1 : ¬ cntL v p m = m := fun y => by
      have := cl.2.mp y 0 (by omega)
      rw [Nat.add_zero, hz.1] at this
      exact absurd this (by decide)
    have e2 : ¬ cntD v p m = m := fun y => by
      have := cd.2.mp y 0 (by omega)
      rw [Nat.add_zero, hz.2] at this
      exact absurd this (by decide)
    rw [if_neg e1, if_neg e2]
    exact ⟨_, rfl, Or.inl ⟨za, rfl⟩⟩
  | true =>
    have h59 : ¬ v p = 59 := fun y => by rw [y] at za; exact absurd za (by decide)
    by_cases z1 : cntL v p m = m
    · rw [if_pos z1, z1]
      obtain ⟨kc, k1, k2⟩ := c_kindOfWord hT (p := p) (m := m) (by omega) (cl.2.mp z1)
      exact ⟨kc, k1, Or.inr ⟨za, Or.inl ⟨by rw [hm]; exact cl.2.mp z1, by rw [hm]; exact k2⟩⟩⟩
    · have n1 : ¬ AllL v p m := fun y => z1 (cl.2.mpr y)
      rw [if_neg z1, if_neg h59]
      by_cases z2 : cntD v p m = m
      · rw [if_pos z2, z2]
        by_cases z3 : 3 < m
        · rw [if_pos z3]
          exact ⟨_, rfl, Or.inr ⟨za, Or.inr (Or.inr ⟨by rw [hm]; exact n1, by rw [hm]; exact fun y => by omega, rfl⟩)⟩⟩
        · rw [if_neg z3]
          have ad := cd.2.mp z2
          exact ⟨_, rfl, Or.inr ⟨za, Or.inr (Or.inl ⟨by rw [hm]; exact n1, by rw [hm]; exact ad, by omega, by rw [hm]; exact vF_vl m (by omega) ad⟩)⟩⟩
      · rw [if_neg z2]
        exact ⟨_, rfl, Or.inr ⟨za, Or.inr (Or.inr ⟨by rw [hm]; exact n1, by rw [hm]; exact fun y => z2 (cd.2.mpr y.1), rfl⟩)⟩⟩
