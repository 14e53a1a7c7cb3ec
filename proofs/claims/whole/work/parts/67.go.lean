/-! text: the model's tokens -/
theorem i64_b : ∀ x, x < 256 → (nI x).toInt64 = Int64.ofNat x := by decide +kernel
def cdN (v : Nat → Nat) (s : Nat) : Nat → Nat
  | 0 => 0
  | k + 1 => 27 * cdN v s k + (v (s + k) - 96)
def cW (w : Nat) : Int64 := Int64.ofNat (cdN (fun j => (wd w).getD j 0) 0 (wd w).length)
theorem cW_0 (σ : St) : f_X9_seven σ 115 104 101 108 118 101 115 = cW 0 := by unfold f_X9_seven f_X9_four f_X9_two; decide
theorem cW_1 (σ : St) : f_X9_four σ 105 116 101 109 = cW 1 := by unfold f_X9_four f_X9_two; decide
theorem cW_2 (σ : St) : (27 * (f_X9_four σ 115 116 111 99)) + 11 = cW 2 := by unfold f_X9_four f_X9_two; decide
theorem cW_3 (σ : St) : f_X9_four σ 109 111 118 101 = cW 3 := by unfold f_X9_four f_X9_two; decide
theorem cW_4 (σ : St) : f_X9_four σ 102 114 111 109 = cW 4 := by unfold f_X9_four f_X9_two; decide
theorem cW_5 (σ : St) : f_X9_two σ 116 111 = cW 5 := by unfold f_X9_two; decide
theorem cd_b {v : Nat → Nat} {s : Nat} : ∀ k, (∀ j, j < k → 97 ≤ v (s + j) ∧ v (s + j) ≤ 122) → cdN v s k < 27 ^ k
  | 0, _ => by show 0 < 1; decide
  | k + 1, h => by
    have h1 := cd_b k (fun j hj => h j (by omega))
    have h2 := h k (by omega)
    unfold cdN
    rw [Nat.pow_succ]
    omega
theorem cd_inj {v u : Nat → Nat} {s t : Nat} : ∀ m w, (∀ j, j < m → 97 ≤ v (s + j) ∧ v (s + j) ≤ 122) → (∀ j, j < w → 97 ≤ u (t + j) ∧ u (t + j) ≤ 122) → cdN v s m = cdN u t w → m = w ∧ ∀ j, j < m → v (s + j) = u (t + j)
  | 0, 0, _, _, _ => ⟨rfl, fun j hj => by omega⟩
  | 0, w + 1, h1, h2, e => by
    have := h2 w (by omega)
    unfold cdN at e
    omega
  | m + 1, 0, h1, h2, e => by
    have := h1 m (by omega)
    unfold cdN at e
    omega
  | m + 1, w + 1, h1, h2, e => by
    have a := h1 m (by omega)
    have b := h2 w (by omega)
    have e' : 27 * cdN v s m + (v (s + m) - 96) = 27 * cdN u t w + (u (t + w) - 96) := e
    obtain ⟨q1, q2⟩ := cd_inj m w (fun j hj => h1 j (by omega)) (fun j hj => h2 j (by omega)) (by omega)
    refine ⟨by omega, fun j hj => ?_⟩
    by_cases z : j = m
    · rw [z]
      have : v (s + m) = u (t + w) := by omega
      rw [this, q1]
    · exact q2 j (by omega)
theorem cd_congr {v u : Nat → Nat} {s t : Nat} : ∀ m, (∀ j, j < m → v (s + j) = u (t + j)) → cdN v s m = cdN u t m
  | 0, _ => rfl
  | m + 1, h => by
    unfold cdN
    rw [cd_congr m (fun j hj => h j (by omega)), h m (by omega)]
theorem cd_w {v : Nat → Nat} {s m w : Nat} (hw : w < 6) (hL : AllL v s m) : Int64.ofNat (cdN v s (if m < 8 then m else 8)) = cW w ↔ isW v s m w := by
  obtain ⟨-, l2, l3⟩ := wd_len w hw
  have hb : ∀ j, j < m → 97 ≤ v (s + j) ∧ v (s + j) ≤ 122 := fun j hj => al_b (hL j hj)
  have hc : ∀ j, j < (wd w).length → 97 ≤ (fun j => (wd w).getD j 0) (0 + j) ∧ (fun j => (wd w).getD j 0) (0 + j) ≤ 122 := fun j hj => by
    show 97 ≤ (wd w).getD (0 + j) 0 ∧ (wd w).getD (0 + j) 0 ≤ 122
    rw [Nat.zero_add]
    exact (wd_ch w hw j hj).2
  have hm8 : (if m < 8 then m else 8) ≤ m ∧ (if m < 8 then m else 8) ≤ 8 := by split <;> omega
  have p8 : ∀ k, k ≤ 8 → (27 : Nat) ^ k ≤ 27 ^ 8 := fun k hk => Nat.pow_le_pow_right (by decide) hk
  have b1 := cd_b (v := v) (s := s) (if m < 8 then m else 8) (fun j hj => hb j (by omega))
  have b2 := cd_b (v := fun j => (wd w).getD j 0) (s := 0) (wd w).length hc
  have b1' := p8 _ hm8.2
  have b2' := p8 (wd w).length (by omega)
  have e8 : (27 : Nat) ^ 8 < 2 ^ 63 := by decide
  constructor
  · intro e
    have e1 := congrArg Int64.toNatClampNeg e
    unfold cW at e1
    rw [Int64.toNatClampNeg_ofNat_of_lt (by omega), Int64.toNatClampNeg_ofNat_of_lt (by omega)] at e1
    obtain ⟨q1, q2⟩ := cd_inj _ _ (fun j hj => hb j (by omega)) hc e1
    have hm : m = (wd w).length := by
      by_cases z : m < 8
      · rw [if_pos z] at q1; exact q1
      · rw [if_neg z] at q1; omega
    refine ⟨hm, fun j hj => ?_⟩
    have := q2 j (by rw [q1]; omega)
    rw [this]
    show (wd w).getD (0 + j) 0 = _
    rw [Nat.zero_add]
  · intro h
    have hm := h.1
    rw [if_pos (by omega)]
    unfold cW
    rw [← hm]
    refine congrArg Int64.ofNat (cd_congr m (fun j hj => ?_))
    rw [h.2 j hj]
    show _ = (wd w).getD (0 + j) 0
    rw [Nat.zero_add]
theorem i64_step {a x : Nat} (hx : 97 ≤ x ∧ x ≤ 122) : ((27 * Int64.ofNat a) + (nI x).toInt64) - 96 = Int64.ofNat (27 * a + (x - 96)) := by
  rw [i64_b x (by omega), show (27 : Int64) = Int64.ofNat 27 from rfl, ← Int64.ofNat_mul, ← Int64.ofNat_add, show 27 * a + x = (27 * a + (x - 96)) + 96 by omega, Int64.ofNat_add]
  exact Int64.add_sub_cancel _ _
theorem upL_s {σ : St} {k : Nat} {x : Int64} : (upL σ k x).2.1 k = x := by
  show (if k = k then x else σ.2.1 k) = x
  exact if_pos rfl
/-- the model's scanning leaves the rest as it was -/
def FG (τ τ' : St) : Prop := τ'.2.2 = τ.2.2 ∧ (∀ a, a ≠ 50 → τ'.2.1 a = τ.2.1 a) ∧ (∀ c, c ≠ 50 → τ'.1 c = τ.1 c) ∧ ∀ q, q ≠ 4 → q ≠ 5 → q ≠ 6 → q ≠ 7 → τ'.1 50 q = τ.1 50 q
theorem FG.rf (τ : St) : FG τ τ := ⟨rfl, fun _ _ => rfl, fun _ _ => rfl, fun _ _ _ _ _ => rfl⟩
theorem FG.trans {a b c : St} (h : FG a b) (k : FG b c) : FG a c := ⟨k.1.trans h.1, fun x y => (k.2.1 x y).trans (h.2.1 x y), fun x y => (k.2.2.1 x y).trans (h.2.2.1 x y), fun q q1 q2 q3 q4 => (k.2.2.2 q q1 q2 q3 q4).trans (h.2.2.2 q q1 q2 q3 q4)⟩
theorem FG.up {a b : St} (h : FG a b) {q : Nat} {x : Int32} (hq : q = 4 ∨ q = 5 ∨ q = 6 ∨ q = 7) : FG a (upI b 50 q x) := h.trans ⟨rfl, fun _ _ => rfl, fun c hc => up_k hc, fun r h1 h2 h3 h4 => up_j (by omega)⟩
theorem FG.upL {a b : St} (h : FG a b) {x : Int64} : FG a (upL b 50 x) := h.trans ⟨rfl, fun c hc => if_neg hc, fun _ _ => rfl, fun _ _ _ _ _ => rfl⟩
theorem TpM.fg {τ τ' : St} {v : Nat → Nat} {n : Nat} (h : TpM τ v n) (f : FG τ τ') : TpM τ' v n := by
  obtain ⟨h1, h2, h3⟩ := h
  refine ⟨h1, by rw [f.2.2.2 3 (by decide) (by decide) (by decide) (by decide)]; exact h2, fun j hj => ?_⟩
  rw [f.2.2.1 51 (by decide)]
  exact h3 j hj
theorem m_tapeAt {τ : St} {v : Nat → Nat} {n q : Nat} (hT : TpM τ v n) (hq : q ≤ n) : f_X9_tapeAt τ (nI q) = some (if q < n then nI (v q) else 0) := by
  obtain ⟨h1, h2, h3⟩ := hT
  unfold f_X9_tapeAt
  rw [h2]
  by_cases z : q < n
  · rw [if_pos z, if_neg (nI_ge z (by omega)), rd_at q rfl (by omega) (by decide), Option.bind_some, (h3 q z).2]
  · rw [if_neg z, if_pos (by rw [le_nI (by omega) (by omega)]; omega)]
/-- what the model says of a run of m letters and digits from s on -/
def KM (v : Nat → Nat) (s m : Nat) (km : Int32) (L : Int64) (N : Int32) : Prop :=
  (AllL v s m ∧ km = 2 ∧ L = Int64.ofNat (cdN v s (if m < 8 then m else 8))) ∨ (¬ AllL v s m ∧ AllD v s m ∧ m ≤ 3 ∧ km = 3 ∧ N = nI (vl v s m)) ∨ (¬ AllL v s m ∧ ¬ (AllD v s m ∧ m ≤ 3) ∧ km = 1)
def SameT (v : Nat → Nat) (s k : Nat) : Prop := if isAl (v s) = true then AllL v s k else AllD v s k
theorem m_run {v : Nat → Nat} {n s : Nat} (hs : s < n) (ha : isAn (v s) = true) : ∀ (d k fu : Nat) (τ : St) (x3 : Int32), s + k + d = te v n s → d < fu → TpM τ v n → τ.1 50 5 = nI s → τ.1 50 4 = nI (s + k) → ((x3 = 1 ∧ SameT v s k) ∨ (x3 = 0 ∧ ¬ SameT v s k)) →
    (AllL v s k → τ.2.1 50 = Int64.ofNat (cdN v s (if k < 8 then k else 8))) → (AllD v s k → k ≤ 3 → τ.1 50 7 = nI (vl v s k)) →
    ∃ τ', f_X9_go_b177 fu τ (b2i (isAl (v s))) x3 = some τ' ∧ FG τ τ' ∧ τ'.1 50 5 = nI s ∧ τ'.1 50 4 = nI (te v n s) ∧ KM v s (te v n s - s) (τ'.1 50 6) (τ'.2.1 50) (τ'.1 50 7) := by
  have hte := te_b (v := v) hs
  have hrun : te v n s = rn v (n - s) s := by unfold te; rw [if_pos ha]
  have hin : ∀ j, s ≤ j → j < te v n s → isAn (v j) = true := fun j h1 h2 => rn_in v (n - s) s j h1 (by rw [← hrun]; exact h2)
  have hout : te v n s < n → isAn (v (te v n s)) = false := fun h => by
    have := rn_out v (n - s) s (by rw [← hrun]; omega)
    rw [← hrun] at this
    exact this
  have sameL : isAl (v s) = true → ∀ k, SameT v s k ↔ AllL v s k := fun h k => by unfold SameT; rw [if_pos h]
  have sameD : isAl (v s) = false → ∀ k, SameT v s k ↔ AllD v s k := fun h k => by unfold SameT; rw [if_neg (by rw [h]; decide)]
  intro d
  induction d with
  | zero =>
    intro k fu τ x3 e1 e2 hT h5 h4 hx hL hD
    obtain ⟨fu, rfl⟩ : ∃ m, fu = m + 1 := ⟨fu - 1, by omega⟩
    obtain ⟨hn, t2, t3⟩ := id hT
    have ek : te v n s - s = k := by omega
    have hk1 : 1 ≤ k := by omega
    rw [ek, show te v n s = s + k by omega]
    have hend : f_X9_go_b177 (fu + 1) τ (b2i (isAl (v s))) x3 = (if x3 = 0 then (nm (upI τ 50 6 1) fun σ29 => some σ29) else (if b2i (isAl (v s)) = 0 then (if ((τ.1 50 4) - (τ.1 50 5)) ≤ 3 then (f_X9_go_b338 τ (b2i (isAl (v s)))) else (nm (upI τ 50 6 1) fun σ35 => some σ35)) else (f_X9_go_b338 τ (b2i (isAl (v s)))))) := by
      rw [f_X9_go_b177, h4, m_tapeAt hT (by omega), Option.bind_some]
      have hb : f_X9_isLetter τ (if s + k < n then nI (v (s + k)) else 0) = false ∧ f_X9_isDigit τ (if s + k < n then nI (v (s + k)) else 0) = false := by
        by_cases z : s + k < n
        · have ho := hout (by omega)
          rw [show te v n s = s + k by omega] at ho
          have hz : isAl (v (s + k)) = false ∧ isDg (v (s + k)) = false := by unfold isAn at ho; simpa using ho
          rw [if_pos z, m_let τ (t3 _ z).1, m_dig τ (t3 _ z).1]
          exact hz
        · rw [if_neg z]
          exact ⟨rfl, rfl⟩
      rw [hb.1, if_pos bf0, Option.bind_some, hb.2, if_pos bf0]
    rw [hend]
    have e45 : (τ.1 50 4) - (τ.1 50 5) = nI k := by rw [h4, h5, pk_sub (by omega)]; exact congrArg nI (by omega)
    have g6 : FG τ (upI τ 50 6 1) := (FG.rf τ).up (by omega)
    have bad : ¬ AllL v s k → ¬ (AllD v s k ∧ k ≤ 3) → ∃ τ', (nm (upI τ 50 6 1) fun σ29 => some σ29) = some τ' ∧ FG τ τ' ∧ τ'.1 50 5 = nI s ∧ τ'.1 50 4 = nI (s + k) ∧ KM v s k (τ'.1 50 6) (τ'.2.1 50) (τ'.1 50 7) := fun y1 y2 => by
      refine ⟨upI τ 50 6 1, rfl, g6, by rw [up_j (by decide)]; exact h5, by rw [up_j (by decide)]; exact h4, Or.inr (Or.inr ⟨y1, y2, up_s⟩)⟩
    cases zl : isAl (v s) with
    | false =>
      have nL : ¬ AllL v s k := fun y => by
        have := y 0 (by omega)
        rw [Nat.add_zero, zl] at this
        exact absurd this (by decide)
      rcases hx with ⟨x1, y⟩ | ⟨x1, y⟩
      · have hAD := (sameD zl k).mp y
        rw [if_neg (show ¬ x3 = 0 by rw [x1]; decide), if_pos bf0, e45]
        by_cases z3 : k ≤ 3
        · rw [if_pos (show nI k ≤ 3 from (nI_leI (b := 3) (by omega) (by omega)).mpr z3)]
          unfold f_X9_go_b338
          rw [if_pos bf0, nm_q]
          refine ⟨upI τ 50 6 3, rfl, (FG.rf τ).up (by omega), by rw [up_j (by decide)]; exact h5, by rw [up_j (by decide)]; exact h4, Or.inr (Or.inl ⟨nL, hAD, z3, up_s, ?_⟩)⟩
          rw [up_j (by decide)]
          exact hD hAD z3
        · rw [if_neg (show ¬ nI k ≤ 3 from fun w => z3 ((nI_leI (b := 3) (by omega) (by omega)).mp w))]
          exact bad nL (fun w => z3 w.2)
      · rw [if_pos x1]
        exact bad nL (fun w => y ((sameD zl k).mpr w.1))
    | true =>
      rcases hx with ⟨x1, y⟩ | ⟨x1, y⟩
      · have hAL := (sameL zl k).mp y
        rw [if_neg (show ¬ x3 = 0 by rw [x1]; decide), if_neg bt0]
        unfold f_X9_go_b338
        rw [if_neg bt0, nm_q]
        exact ⟨upI τ 50 6 2, rfl, (FG.rf τ).up (by omega), by rw [up_j (by decide)]; exact h5, by rw [up_j (by decide)]; exact h4, Or.inl ⟨hAL, up_s, hL hAL⟩⟩
      · rw [if_pos x1]
        refine bad (fun w => y ((sameL zl k).mpr w)) (fun w => ?_)
        have := w.1 0 (by omega)
        rw [Nat.add_zero, al_dg zl] at this
        exact absurd this (by decide)
  | succ d ih =>
    intro k fu τ x3 e1 e2 hT h5 h4 hx hL hD
    obtain ⟨fu, rfl⟩ : ∃ m, fu = m + 1 := ⟨fu - 1, by omega⟩
    obtain ⟨hn, t2, t3⟩ := id hT
    have hq : s + k < n := by omega
    obtain ⟨b1, b2⟩ := t3 (s + k) hq
    have han := hin (s + k) (by omega) (by omega)
    have allL1 : AllL v s (k + 1) ↔ AllL v s k ∧ isAl (v (s + k)) = true := ⟨fun h => ⟨fun j hj => h j (by omega), h k (by omega)⟩, fun h j hj => by
      by_cases y : j = k
      · rw [y]; exact h.2
      · exact h.1 j (by omega)⟩
    have allD1 : AllD v s (k + 1) ↔ AllD v s k ∧ isDg (v (s + k)) = true := ⟨fun h => ⟨fun j hj => h j (by omega), h k (by omega)⟩, fun h j hj => by
      by_cases y : j = k
      · rw [y]; exact h.2
      · exact h.1 j (by omega)⟩
    obtain ⟨x3', hx3⟩ : ∃ x, x = (if x3 = 0 then 0 else if b2i (isAl (v (s + k))) = b2i (isAl (v s)) then 1 else (0 : Int32)) := ⟨_, rfl⟩
    have e45 : (τ.1 50 4) - (τ.1 50 5) = nI k := by rw [h4, h5, pk_sub (by omega)]; exact congrArg nI (by omega)
    obtain ⟨τa, hτa⟩ : ∃ z, z = (if k < 8 then upL τ 50 (((27 * (τ.2.1 50)) + (nI (v (s + k))).toInt64) - 96) else τ) := ⟨_, rfl⟩
    have a1 : τa.1 = τ.1 := by rw [hτa]; split <;> rfl
    obtain ⟨τb, hτb⟩ : ∃ z, z = (if k < 3 then upI τa 50 7 (((10 * (τa.1 50 7)) + nI (v (s + k))) - 48) else τa) := ⟨_, rfl⟩
    have bL : τb.2 = τa.2 := by rw [hτb]; split <;> rfl
    have b4 : τb.1 50 4 = nI (s + k) := by
      rw [hτb]
      split
      · rw [up_j (by decide), a1]; exact h4
      · rw [a1]; exact h4
    have fa : FG τ τa := by
      rw [hτa]
      split
      · exact (FG.rf τ).upL
      · exact FG.rf τ
    have fb : FG τ τb := by
      rw [hτb]
      split
      · exact fa.up (by omega)
      · exact fa
    have fc : FG τ (upI τb 50 4 (nI (s + (k + 1)))) := fb.up (by omega)
    have b5 : τb.1 50 5 = nI s := by
      rw [hτb]
      split
      · rw [up_j (by decide), a1]; exact h5
      · rw [a1]; exact h5
    have step : f_X9_go_b177 (fu + 1) τ (b2i (isAl (v s))) x3 = f_X9_go_b177 fu (upI τb 50 4 (nI (s + (k + 1)))) (b2i (isAl (v s))) x3' := by
      have s269 : ∀ y3, f_X9_go_b269 (fun σ x2 x3 => f_X9_go_b177 fu σ x2 x3) τa (b2i (isAl (v s))) y3 (nI (v (s + k))) = f_X9_go_b177 fu (upI τb 50 4 (nI (s + (k + 1)))) (b2i (isAl (v s))) y3 := fun y3 => by
        unfold f_X9_go_b269
        rw [a1, e45, hτb]
        by_cases z : k < 3
        · rw [if_pos z, if_neg (show ¬ (3 : Int32) ≤ nI k from nI_ge (b := 3) z (by omega)), nm_q, nm_q, up_j (b := 4) (by decide), a1, h4, nI_1]
          rfl
        · rw [if_neg z, if_pos (show (3 : Int32) ≤ nI k from (nI_leI (a := 3) (by omega) (by omega)).mpr (by omega)), nm_q, h4, nI_1]
          rfl
      have s234 : ∀ y3, f_X9_go_b234 (fun σ x2 x3 => f_X9_go_b177 fu σ x2 x3) τ (b2i (isAl (v s))) (nI (v (s + k))) y3 = f_X9_go_b177 fu (upI τb 50 4 (nI (s + (k + 1)))) (b2i (isAl (v s))) y3 := fun y3 => by
        rw [← s269 y3]
        unfold f_X9_go_b234
        rw [e45, hτa]
        by_cases z : k < 8
        · rw [if_pos z, if_neg (show ¬ (8 : Int32) ≤ nI k from nI_ge (b := 8) z (by omega)), nm_q]
        · rw [if_neg z, if_pos (show (8 : Int32) ≤ nI k from (nI_leI (a := 8) (by omega) (by omega)).mpr (by omega))]
      have s205 : f_X9_go_b205 (fun σ x2 x3 => f_X9_go_b177 fu σ x2 x3) τ (b2i (isAl (v s))) x3 = f_X9_go_b177 fu (upI τb 50 4 (nI (s + (k + 1)))) (b2i (isAl (v s))) x3' := by
        unfold f_X9_go_b205
        rw [h4, rd_at (s + k) rfl (by omega) (by decide), Option.bind_some, b2, m_let τ b1, s234, s234, hx3]
        by_cases z : x3 = 0
        · rw [if_pos z, if_pos z]
        · rw [if_neg z, if_neg z]
          by_cases y : b2i (isAl (v (s + k))) = b2i (isAl (v s))
          · rw [if_pos y, if_pos y]
          · rw [if_neg y, if_neg y]
      rw [f_X9_go_b177, h4, m_tapeAt hT (by omega), Option.bind_some, if_pos hq, m_let τ b1, Option.bind_some, m_dig τ b1, s205]
      cases z1 : isAl (v (s + k))
      · have z2 : isDg (v (s + k)) = true := by unfold isAn at han; rw [z1] at han; simpa using han
        rw [if_pos bf0, z2, if_neg bt0]
      · rw [if_neg bt0]
    have hx' : (x3' = 1 ∧ SameT v s (k + 1)) ∨ (x3' = 0 ∧ ¬ SameT v s (k + 1)) := by
      rw [hx3]
      cases zl : isAl (v s) with
      | false =>
        rw [sameD zl (k + 1), allD1]
        rcases hx with ⟨x1, y⟩ | ⟨x1, y⟩
        · rw [if_neg (show ¬ x3 = 0 by rw [x1]; decide)]
          have hAD := (sameD zl k).mp y
          cases z1 : isAl (v (s + k))
          · have z2 : isDg (v (s + k)) = true := by unfold isAn at han; rw [z1] at han; simpa using han
            rw [if_pos rfl]
            exact Or.inl ⟨rfl, hAD, z2⟩
          · rw [if_neg (by decide)]
            exact Or.inr ⟨rfl, fun w => by have := w.2; rw [al_dg z1] at this; exact absurd this (by decide)⟩
        · rw [if_pos x1]
          exact Or.inr ⟨rfl, fun w => y ((sameD zl k).mpr w.1)⟩
      | true =>
        rw [sameL zl (k + 1), allL1]
        rcases hx with ⟨x1, y⟩ | ⟨x1, y⟩
        · rw [if_neg (show ¬ x3 = 0 by rw [x1]; decide)]
          have hAL := (sameL zl k).mp y
          cases z1 : isAl (v (s + k))
          · rw [if_neg (by decide)]
            exact Or.inr ⟨rfl, fun w => absurd w.2 (by decide)⟩
          · rw [if_pos rfl]
            exact Or.inl ⟨rfl, hAL, rfl⟩
        · rw [if_pos x1]
          exact Or.inr ⟨rfl, fun w => y ((sameL zl k).mpr w.1)⟩
    obtain ⟨τ', q1, q2, q3, q4, q5⟩ := ih (k + 1) fu (upI τb 50 4 (nI (s + (k + 1)))) x3' (by omega) (by omega) (hT.fg fc) (by rw [up_j (by decide)]; exact b5) up_s hx' (fun hA => by
      obtain ⟨hA1, hA2⟩ := allL1.mp hA
      show τb.2.1 50 = _
      rw [bL, hτa]
      have eN : (if k + 1 < 8 then k + 1 else 8) = if k < 8 then k + 1 else 8 := by split <;> split <;> omega
      rw [eN]
      by_cases z : k < 8
      · rw [if_pos z, if_pos z]
        have hh := hL hA1
        rw [if_pos z] at hh
        rw [upL_s, hh]
        exact i64_step (al_b hA2)
      · rw [if_neg z, if_neg z]
        have hh := hL hA1
        rw [if_neg z] at hh
        exact hh) (fun hA hk3 => by
      obtain ⟨hA1, hA2⟩ := allD1.mp hA
      rw [up_j (by decide), hτb, if_pos (show k < 3 by omega), up_s, a1, hD hA1 (by omega)]
      have h4 := vl_b k hA1
      have h5 : (10 : Nat) ^ k ≤ 10 ^ 3 := Nat.pow_le_pow_right (by decide) (by omega)
      exact dig_add (by omega) (dg_b hA2))
    exact ⟨τ', step.trans q1, fc.trans q2, q3, q4, q5⟩
/-- only blanks from p up to s -/
def Bls (v : Nat → Nat) (p s : Nat) : Prop := p ≤ s ∧ ∀ j, p ≤ j → j < s → isBl (v j) = true
def lim (n : Nat) : Nat := if n ≤ 600 then n else 600
/-- what the model has behind go from p on -/
def TokM (v : Nat → Nat) (n p : Nat) (τ : St) : Prop :=
  (∃ s, Bls v p s ∧ lim n ≤ s ∧ τ.1 50 5 = nI (lim n) ∧ τ.1 50 6 = if n ≤ 600 then 0 else 1) ∨
  (∃ s, Bls v p s ∧ s < lim n ∧ isBl (v s) = false ∧ τ.1 50 5 = nI s ∧ τ.1 50 4 = nI (te v n s) ∧ ((isAn (v s) = false ∧ τ.1 50 6 = if v s = 59 then 4 else 1) ∨ (isAn (v s) = true ∧ KM v s (te v n s - s) (τ.1 50 6) (τ.2.1 50) (τ.1 50 7))))
theorem m_go52 {v : Nat → Nat} {n p s : Nat} {τ : St} (hT : TpM τ v n) (h4 : τ.1 50 4 = nI s) (hb : Bls v p s) (hs : s ≤ n) (hnb : s < n → isBl (v s) = false) : ∃ τ', f_X9_go_b52 τ = some τ' ∧ FG τ τ' ∧ TokM v n p τ' := by
  obtain ⟨hn, t2, t3⟩ := id hT
  have f1 : FG τ (upI τ 50 5 (nI s)) := (FG.rf τ).up (by omega)
  have hT1 := hT.fg f1
  have e4 : (upI τ 50 5 (nI s)).1 50 4 = nI s := by rw [up_j (by decide)]; exact h4
  have e5 : (upI τ 50 5 (nI s)).1 50 5 = nI s := up_s
  have e3 : (upI τ 50 5 (nI s)).1 50 3 = nI n := hT1.2.1
  have s93 : (s < lim n ∨ (s = n ∧ n ≤ 600)) → ∃ τ', f_X9_go_b93 (upI τ 50 5 (nI s)) = some τ' ∧ FG τ τ' ∧ TokM v n p τ' := fun hc => by
    unfold f_X9_go_b93
    rw [e4, e3]
    by_cases z : s < n
    · rw [if_pos (by rw [lt_nI (by omega) (by omega)]; exact z), rd_at s rfl (by omega) (by decide), Option.bind_some, up_k (by decide)]
      obtain ⟨b1, b2⟩ := t3 s z
      have hl : s < lim n := by
        rcases hc with y | y
        · exact y
        · omega
      have one : ∀ x, ∃ τ', f_X9_go_b146 (upI τ 50 5 (nI s)) x = some τ' ∧ FG τ τ' ∧ τ'.1 50 5 = nI s ∧ τ'.1 50 4 = nI (s + 1) ∧ τ'.1 50 6 = x := fun x => by
        unfold f_X9_go_b146
        rw [nm_q, nm_q, up_j (b := 4) (by decide), e4, nI_1]
        refine ⟨_, rfl, (f1.up (by omega)).up (by omega), ?_, up_s, ?_⟩
        · rw [up_j (by decide), up_j (by decide)]; exact e5
        · rw [up_j (by decide), up_s]
      rw [b2, m_let _ b1, m_dig _ b1]
      cases za : isAn (v s) with
      | false =>
        have hz : isAl (v s) = false ∧ isDg (v s) = false := by unfold isAn at za; simpa using za
        have ete : te v n s = s + 1 := by unfold te; rw [if_neg (by rw [za]; decide)]
        rw [hz.1, hz.2, if_pos bf0, if_pos bf0]
        by_cases y : v s = 59
        · rw [if_pos (by rw [m_59 b1]; exact y)]
          obtain ⟨τ', q1, q2, q3, q4, q5⟩ := one 4
          exact ⟨τ', q1, q2, Or.inr ⟨s, hb, hl, hnb z, q3, by rw [ete]; exact q4, Or.inl ⟨za, by rw [if_pos y]; exact q5⟩⟩⟩
        · rw [if_neg (by rw [m_59 b1]; exact y)]
          obtain ⟨τ', q1, q2, q3, q4, q5⟩ := one 1
          exact ⟨τ', q1, q2, Or.inr ⟨s, hb, hl, hnb z, q3, by rw [ete]; exact q4, Or.inl ⟨za, by rw [if_neg y]; exact q5⟩⟩⟩
      | true =>
        have r160 : ∃ τ', f_X9_go_b160 (upI τ 50 5 (nI s)) (nI (v s)) = some τ' ∧ FG τ τ' ∧ TokM v n p τ' := by
          unfold f_X9_go_b160
          rw [m_let _ b1, nm_q, nm_q, nm_q]
          have f2 : FG τ (upI (upL (upI τ 50 5 (nI s)) 50 0) 50 7 0) := (f1.upL).up (by omega)
          have hte := te_b (v := v) z
          obtain ⟨τ', q1, q2, q3, q4, q5⟩ := m_run z za (te v n s - s) 0 10000 (upI (upL (upI τ 50 5 (nI s)) 50 0) 50 7 0) 1 (by omega) (by omega) (hT.fg f2) (by rw [up_j (by decide)]; exact e5) (by rw [up_j (by decide)]; exact e4) (Or.inl ⟨rfl, by unfold SameT; split <;> exact fun j hj => by omega⟩) (fun _ => rfl) (fun _ _ => up_s)
          exact ⟨τ', q1, f2.trans q2, Or.inr ⟨s, hb, hl, hnb z, q3, q4, Or.inr ⟨za, q5⟩⟩⟩
        cases zl : isAl (v s)
        · have z2 : isDg (v s) = true := by unfold isAn at za; rw [zl] at za; simpa using za
          rw [if_pos bf0, z2, if_neg bt0]
          exact r160
        · rw [if_neg bt0]
          exact r160
    · rw [if_neg (by rw [lt_nI (by omega) (by omega)]; exact z), nm_q]
      have hn6 : n ≤ 600 := by
        rcases hc with y | y
        · unfold lim at y; split at y <;> omega
        · exact y.2
      have el : lim n = n := by unfold lim; rw [if_pos hn6]
      refine ⟨_, rfl, f1.up (by omega), Or.inl ⟨s, hb, by omega, ?_, ?_⟩⟩
      · rw [up_j (by decide), e5, el]; exact congrArg nI (by omega)
      · rw [up_s, if_pos hn6]
  unfold f_X9_go_b52
  rw [nm_q, h4, e3]
  by_cases z6 : n ≤ 600
  · rw [if_pos (show nI n ≤ 600 from (nI_leI (b := 600) (by omega) (by omega)).mpr z6)]
    refine s93 ?_
    unfold lim
    rw [if_pos z6]
    omega
  · rw [if_neg (show ¬ nI n ≤ 600 from fun y => z6 ((nI_leI (b := 600) (by omega) (by omega)).mp y)), e5]
    have el : lim n = 600 := by unfold lim; rw [if_neg z6]
    by_cases z7 : s < 600
    · rw [if_pos (show nI s < 600 from (nI_ltI (b := 600) (by omega) (by omega)).mpr z7)]
      exact s93 (Or.inl (by omega))
    · rw [if_neg (show ¬ nI s < 600 from fun y => z7 ((nI_ltI (b := 600) (by omega) (by omega)).mp y)), nm_q, nm_q]
      refine ⟨_, rfl, (f1.up (by omega)).up (by omega), Or.inl ⟨s, hb, by omega, ?_, ?_⟩⟩
      · rw [up_j (by decide), up_s, el]; rfl
      · rw [up_s, if_neg z6]
theorem m_go {v : Nat → Nat} {n p : Nat} {τ : St} (hT : TpM τ v n) (h4 : τ.1 50 4 = nI p) (hp : p ≤ n) : ∃ τ', f_X9_go τ = some τ' ∧ FG τ τ' ∧ TokM v n p τ' := by
  obtain ⟨hn, -⟩ := id hT
  have main : ∀ (d q fu : Nat) (τ : St), q + d = n → d < fu → TpM τ v n → τ.1 50 4 = nI q → Bls v p q → ∃ τ', f_X9_go_b0 fu τ = some τ' ∧ FG τ τ' ∧ TokM v n p τ' := by
    intro d
    induction d with
    | zero =>
      intro q fu τ e1 e2 hT h4 hb
      obtain ⟨fu, rfl⟩ : ∃ m, fu = m + 1 := ⟨fu - 1, by omega⟩
      rw [f_X9_go_b0, hT.2.1, h4, if_pos (by rw [le_nI (by omega) (by omega)]; omega)]
      exact m_go52 hT h4 hb (by omega) (fun h => by omega)
    | succ d ih =>
      intro q fu τ e1 e2 hT h4 hb
      obtain ⟨fu, rfl⟩ : ∃ m, fu = m + 1 := ⟨fu - 1, by omega⟩
      obtain ⟨b1, b2⟩ := hT.2.2 q (by omega)
      have bl := (mb_all (v q) b1).2.2.1
      have next : isBl (v q) = true → ∃ τ', (nm (upI τ 50 4 ((τ.1 50 4) + 1)) fun σ47 => f_X9_go_b0 fu σ47) = some τ' ∧ FG τ τ' ∧ TokM v n p τ' := fun hq => by
        have f1 : FG τ (upI τ 50 4 (nI (q + 1))) := (FG.rf τ).up (by omega)
        rw [nm_q, h4, nI_1]
        obtain ⟨τ', q1, q2, q3⟩ := ih (q + 1) fu (upI τ 50 4 (nI (q + 1))) (by omega) (by omega) (hT.fg f1) up_s ⟨by have := hb.1; omega, fun j h1 h2 => by
          by_cases y : j = q
          · rw [y]; exact hq
          · exact hb.2 j h1 (by omega)⟩
        exact ⟨τ', q1, f1.trans q2, q3⟩
      rw [f_X9_go_b0, hT.2.1]
      rw [if_neg (show ¬ nI n ≤ τ.1 50 4 by rw [h4]; exact nI_ge (by omega) (by omega)), rd_at q h4 (by omega) (by decide), Option.bind_some, b2, Option.bind_some]
      by_cases z1 : nI (v q) = 32
      · rw [if_pos z1]
        rw [if_pos z1] at bl
        exact next bl.symm
      · rw [if_neg z1]
        rw [if_neg z1] at bl
        by_cases z2 : nI (v q) = 10
        · rw [if_pos z2]
          rw [if_pos z2] at bl
          exact next bl.symm
        · rw [if_neg z2]
          rw [if_neg z2] at bl
          exact m_go52 hT h4 hb (by omega) (fun _ => bl.symm)
  unfold f_X9_go
  exact main (n - p) p 10000 τ (by omega) (by omega) hT h4 ⟨Nat.le_refl _, fun j h1 h2 => by omega⟩
