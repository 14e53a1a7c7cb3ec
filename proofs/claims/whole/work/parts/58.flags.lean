/-! post: bits, flags -/
theorem sm64 : ∀ q, q < 40 → (((nI q).toInt64 &&& 63).toBitVec.smod 64).toNat = q := by decide
theorem bit_or {w : Int64} {q j : Nat} (hq : q < 40) (hj : j < 40) : wbit (w ||| ((1 : Int64) <<< ((nI q).toInt64 &&& 63))) j = (wbit w j || decide (j = q)) := by
  unfold wbit
  rw [Int64.toBitVec_or, Int64.toBitVec_shiftLeft, BitVec.getLsbD_or, BitVec.shiftLeft_eq', sm64 q hq, BitVec.getLsbD_shiftLeft]
  show (_ || (decide (j < 64) && !decide (j < q) && (1#64).getLsbD (j - q))) = _
  rw [BitVec.getLsbD_one, decide_eq_true (show j < 64 by omega)]
  congr 1
  by_cases z : j = q
  · simp [z]
  · by_cases y : j < q
    · simp [y, z]
    · simp [y, z]; omega
theorem bit_0 (j : Nat) : wbit 0 j = false := by
  unfold wbit
  show (0#64).getLsbD j = false
  exact BitVec.getLsbD_zero
theorem bit_sh {w : Int64} {q : Nat} (hq : q < 40) : (lg_cmp ((w >>> ((nI q).toInt64 &&& 63)) &&& 1) 1 = 0) = (wbit w q = true) := by
  have e1 : ((w >>> ((nI q).toInt64 &&& 63)) &&& 1) = 1 ↔ wbit w q = true := by
    unfold wbit
    rw [← Int64.toBitVec_inj, Int64.toBitVec_and, Int64.toBitVec_shiftRight, BitVec.sshiftRight_eq', sm64 q hq]
    show (w.toBitVec.sshiftRight q &&& 1#64) = 1#64 ↔ _
    rw [BitVec.and_one_eq_setWidth_ofBool_getLsbD, BitVec.getLsbD_sshiftRight, if_pos (by omega), Nat.add_zero]
    cases w.toBitVec.getLsbD q <;> decide
  apply propext
  rw [← e1]
  unfold lg_cmp
  constructor
  · intro h
    by_cases z1 : ((w >>> ((nI q).toInt64 &&& 63)) &&& 1) > 1
    · rw [if_pos z1] at h; exact absurd h (by decide)
    · rw [if_neg z1] at h
      by_cases z2 : ((w >>> ((nI q).toInt64 &&& 63)) &&& 1) = 1
      · exact z2
      · rw [if_neg z2] at h; exact absurd h (by decide)
  · intro h
    rw [h]
    decide
/-- flags set for the first k counts of which P holds -/
def rowF (R : Nat → Int32) (P : Nat → Bool) (k : Nat) : Nat → Int32 := fun j => if 445 ≤ j ∧ j < 685 ∧ (j - 445) % 6 = 5 ∧ (j - 445) / 6 < k ∧ P ((j - 445) / 6) = true then 1 else R j
section RF
variable {R : Nat → Int32} {P : Nat → Bool} {k : Nat}
theorem rowF_o {j : Nat} (h : j < 445 ∨ 685 ≤ j ∨ (j - 445) % 6 ≠ 5) : rowF R P k j = R j := by
  unfold rowF
  rw [if_neg (by omega)]
theorem rowF_w {c w : Nat} (hw : w < 5) : ct (rowF R P k) c w = ct R c w := rowF_o (by omega)
theorem rowF_5 {c : Nat} (hc : c < 40) : ct (rowF R P k) c 5 = if c < k ∧ P c = true then 1 else ct R c 5 := by
  unfold ct rowF
  rw [show (445 + 6 * c + 5 - 445) / 6 = c by omega]
  by_cases z : c < k ∧ P c = true
  · rw [if_pos z, if_pos ⟨by omega, by omega, by omega, z.1, z.2⟩]
  · rw [if_neg z, if_neg (fun y => z ⟨y.2.2.2.1, y.2.2.2.2⟩)]
theorem rowF_0 : rowF R P 0 = R := by
  funext j
  unfold rowF
  rw [if_neg (by omega)]
theorem rowF_skip (h : P k = false) : rowF R P (k + 1) = rowF R P k := by
  funext j
  unfold rowF
  by_cases z : 445 ≤ j ∧ j < 685 ∧ (j - 445) % 6 = 5 ∧ (j - 445) / 6 < k ∧ P ((j - 445) / 6) = true
  · rw [if_pos z, if_pos ⟨z.1, z.2.1, z.2.2.1, by omega, z.2.2.2.2⟩]
  · rw [if_neg z, if_neg (fun y => z ⟨y.1, y.2.1, y.2.2.1, ?_, y.2.2.2.2⟩)]
    rcases Nat.lt_or_ge ((j - 445) / 6) k with q | q
    · exact q
    · exfalso
      have e : (j - 445) / 6 = k := by omega
      rw [e, h] at y
      exact absurd y.2.2.2.2 (by decide)
theorem rowF_set (hk : k < 40) (h : P k = true) : rowF R P (k + 1) = put (rowF R P k) (445 + 6 * k + 5) 1 := by
  funext j
  unfold put rowF
  by_cases z : j = 445 + 6 * k + 5
  · rw [if_pos z, if_pos]
    have e : (j - 445) / 6 = k := by omega
    exact ⟨by omega, by omega, by omega, by omega, by rw [e]; exact h⟩
  · rw [if_neg z]
    by_cases y : 445 ≤ j ∧ j < 685 ∧ (j - 445) % 6 = 5 ∧ (j - 445) / 6 < k ∧ P ((j - 445) / 6) = true
    · rw [if_pos y, if_pos ⟨y.1, y.2.1, y.2.2.1, by omega, y.2.2.2.2⟩]
    · rw [if_neg y, if_neg (fun q => y ⟨q.1, q.2.1, q.2.2.1, by omega, q.2.2.2.2⟩)]
theorem rowF_N : nC (rowF R P k) = nC R := ag_nC (rowF_o (by omega))
end RF
theorem ClsC.flag {σ : St} {R : Nat → Int32} {k : Nat} {x : Int32} (hn : nC R ≤ 40) (hk : k < 40) (h : ClsC σ R) : ClsC (upI σ 30 k x) (put R (445 + 6 * k + 5) x) := by
  have e3 : put R (445 + 6 * k + 5) x 3 = R 3 := put_n (by omega)
  refine ⟨by rw [up_k (by decide), e3]; exact h.1, fun c hc w hw => ?_⟩
  rw [ag_nC e3] at hc
  by_cases z : w = 5
  · subst z
    by_cases y : c = k
    · rw [y, put_s]; exact up_s
    · rw [put_n (by omega), show (upI σ 30 k x).1 (25 + 5) c = σ.1 30 c from up_j y]
      exact h.2 c hc 5 hw
  · rw [put_n (by omega), up_k (by omega)]
    exact h.2 c hc w hw
def pP (R : Nat → Int32) (s i : Int32) (t : Nat) (q : Nat) : Bool := opB R s i q && decide (tC R q ≤ t)
theorem c_postL {R : Nat → Int32} (hR : RowOk R) (s i : Int32) (t : Nat) (ht : t ≤ 999) : ∀ (d k n : Nat) (σ : St) (w : Int64), k + d = nC R → d < n → ClsC σ (rowF R (pP R s i t) k) →
    ∃ w' σ', f_X3_postUpTo_b6 s i (nI t) n σ w (nI k) = some (w', σ') ∧ σ'.2 = σ.2 ∧ (∀ c, c ≠ 30 → σ'.1 c = σ.1 c) ∧ ClsC σ' (rowF R (pP R s i t) (nC R)) ∧ ∀ j, j < 40 → wbit w' j = (wbit w j || (decide (k ≤ j) && (decide (j < nC R) && pP R s i t j))) := by
  have hn := hR.1.2.2.2.1
  intro d
  induction d with
  | zero =>
    intro k n σ w h1 h2 h3
    obtain ⟨n, rfl⟩ : ∃ m, n = m + 1 := ⟨n - 1, by omega⟩
    obtain rfl : k = nC R := by omega
    refine ⟨w, σ, ?_, rfl, fun _ _ => rfl, h3, fun j hj => ?_⟩
    · rw [f_X3_postUpTo_b6, h3.1, rowF_o (by omega), hn.1, if_pos (Int32.le_refl _)]
    · by_cases z : j < nC R
      · rw [decide_eq_false (show ¬ nC R ≤ j by omega)]; simp
      · rw [decide_eq_false z]; simp
  | succ d ih =>
    intro k n σ w h1 h2 h3
    obtain ⟨n, rfl⟩ : ∃ m, n = m + 1 := ⟨n - 1, by omega⟩
    have hk : k < nC R := by omega
    obtain ⟨tk1, tk2⟩ := tnum hR hk
    have ho : f_X3_isOpenAt σ (nI k) s i = some (opB R s i k) := by
      rw [c_isOpenAt h3 (by rw [rowF_N]; exact hn.2) (c := k) (by rw [rowF_N]; exact hk) rfl]
      unfold opB
      rw [rowF_w (by decide), rowF_w (by decide), rowF_5 (by omega), if_neg (by omega)]
    have ht2 : σ.1 27 k = nI (tC R k) := by
      rw [show σ.1 27 k = ct (rowF R (pP R s i t) k) k 2 from h3.2 k (by rw [rowF_N]; exact hk) 2 (by decide), rowF_w (by decide)]
      exact tk2
    have skip : pP R s i t k = false → f_X3_postUpTo_b6 s i (nI t) (n + 1) σ w (nI k) = f_X3_postUpTo_b6 s i (nI t) n σ w (nI (k + 1)) → ∃ w' σ', f_X3_postUpTo_b6 s i (nI t) (n + 1) σ w (nI k) = some (w', σ') ∧ σ'.2 = σ.2 ∧ (∀ c, c ≠ 30 → σ'.1 c = σ.1 c) ∧ ClsC σ' (rowF R (pP R s i t) (nC R)) ∧ ∀ j, j < 40 → wbit w' j = (wbit w j || (decide (k ≤ j) && (decide (j < nC R) && pP R s i t j))) := fun hp e => by
      obtain ⟨w', σ', q1, q2, q3, q4, q5⟩ := ih (k + 1) n σ w (by omega) (by omega) (by rw [rowF_skip hp]; exact h3)
      refine ⟨w', σ', e.trans q1, q2, q3, q4, fun j hj => ?_⟩
      rw [q5 j hj]
      by_cases z : j = k
      · rw [z, hp, decide_eq_false (show ¬ k + 1 ≤ k by omega)]; simp
      · rw [show decide (k + 1 ≤ j) = decide (k ≤ j) from decide_eq_decide.mpr (by omega)]
    have hun : f_X3_postUpTo_b6 s i (nI t) (n + 1) σ w (nI k) = if b2i (opB R s i k) = 0 then f_X3_postUpTo_b6 s i (nI t) n σ w (nI (k + 1)) else (if nI t < nI (tC R k) then f_X3_postUpTo_b6 s i (nI t) n σ w (nI (k + 1)) else f_X3_postUpTo_b6 s i (nI t) n (upI σ 30 k 1) (w ||| ((1 : Int64) <<< ((nI k).toInt64 &&& 63))) (nI (k + 1))) := by
      rw [f_X3_postUpTo_b6, h3.1, rowF_o (by omega), hn.1, if_neg (nI_ge hk (by omega)), ho, Option.bind_some, rd_at k rfl (by omega) (by decide), ht2, Option.bind_some, wr_at k rfl (by omega) (by decide), Option.bind_some, nm_q, nm_q, nm_q, nI_1, nar_b (Or.inr rfl)]
    cases zo : opB R s i k with
    | false =>
      refine skip (by unfold pP; rw [zo]; rfl) ?_
      rw [hun, zo, if_pos bf0]
    | true =>
      by_cases zt : tC R k ≤ t
      · have hp : pP R s i t k = true := by unfold pP; rw [zo, decide_eq_true zt]; rfl
        obtain ⟨w', σ', q1, q2, q3, q4, q5⟩ := ih (k + 1) n (upI σ 30 k 1) (w ||| ((1 : Int64) <<< ((nI k).toInt64 &&& 63))) (by omega) (by omega) (by rw [rowF_set (by omega) hp]; exact h3.flag (by rw [rowF_N]; exact hn.2) (by omega))
        refine ⟨w', σ', ?_, q2, fun c hc => by rw [q3 c hc, up_k hc], q4, fun j hj => ?_⟩
        · rw [hun, zo, if_neg bt0, if_neg (by rw [lt_nI (by omega) (by omega)]; omega)]
          exact q1
        · rw [q5 j hj, bit_or (by omega) hj]
          by_cases z : j = k
          · rw [z, hp, decide_eq_true (Nat.le_refl k), decide_eq_true hk]; simp
          · rw [show decide (k + 1 ≤ j) = decide (k ≤ j) from decide_eq_decide.mpr (by omega), decide_eq_false z, Bool.or_false]
      · refine skip (by unfold pP; rw [decide_eq_false zt, Bool.and_false]) ?_
        rw [hun, zo, if_neg bt0, if_pos (by rw [lt_nI (by omega) (by omega)]; omega)]
theorem m_openAt' {τ : St} {R : Nat → Int32} (hτ : τ.1 52 = R) {c : Nat} (hc : c < 40) {s i a : Int32} (ha : a = nI c) : f_X9_isOpenAt τ a s i = some (opB R s i c) := by
  have m : ∀ (w : Nat) (b : Int32), w < 6 → b = nI w → f_X9_counted τ a b = some (ct R c w) := fun w b hw hb => by
    rw [m_counted c w ha hb hc hw, hτ]
    rfl
  unfold f_X9_isOpenAt opB
  refine ob (m 0 _ (by decide) rfl) ?_
  by_cases z2 : ct R c 0 = s
  · rw [if_pos z2]
    refine ob (m 1 _ (by decide) rfl) ?_
    by_cases z3 : ct R c 1 = i
    · rw [if_pos z3]
      refine ob (m 5 _ (by decide) rfl) ?_
      by_cases z1 : ct R c 5 = 0
      · rw [if_pos z1]
        simp [z1, z2, z3]
      · rw [if_neg z1]
        simp [z1]
    · rw [if_neg z3]
      simp [z3]
  · rw [if_neg z2]
    simp [z2]
/-- the model's loop: R is the row ahead, Q the row with the adjustment -/
theorem m_postL {R Q : Nat → Int32} (hR : RowOk R) (hQ : ∀ k, k = 3 ∨ (445 ≤ k ∧ k < 685) → Q k = R k) (s i : Int32) {c : Nat} (hc : c < nC R) {x4 : Int32} : ∀ (d k n : Nat) (τ : St), k + d = nC R → d < n → τ.1 52 = rowF Q (pP R s i (tC R c)) k →
    ∃ τ', f_X9_post_b121 s i n τ (nI c) x4 (nI k) = some (x4, τ') ∧ τ'.2 = τ.2 ∧ (∀ q, q ≠ 52 → τ'.1 q = τ.1 q) ∧ τ'.1 52 = rowF Q (pP R s i (tC R c)) (nC R) := by
  have hn := hR.1.2.2.2.1
  obtain ⟨tc1, tc2⟩ := tnum hR hc
  have qc : ∀ q w, q < 40 → w < 6 → ct Q q w = ct R q w := fun q w hq hw => hQ _ (by omega)
  intro d
  induction d with
  | zero =>
    intro k n τ h1 h2 h3
    obtain ⟨n, rfl⟩ : ∃ m, n = m + 1 := ⟨n - 1, by omega⟩
    obtain rfl : k = nC R := by omega
    refine ⟨τ, ?_, rfl, fun _ _ => rfl, h3⟩
    rw [f_X9_post_b121, rd_at (i := 3) 3 rfl (by decide) (by decide), h3, rowF_o (by omega), hQ 3 (by omega), hn.1, Option.bind_some, if_pos (Int32.le_refl _)]
  | succ d ih =>
    intro k n τ h1 h2 h3
    obtain ⟨n, rfl⟩ : ∃ m, n = m + 1 := ⟨n - 1, by omega⟩
    have hk : k < nC R := by omega
    obtain ⟨tk1, tk2⟩ := tnum hR hk
    have ho : f_X9_isOpenAt τ (nI k) s i = some (opB R s i k) := by
      rw [m_openAt' h3 (show k < 40 by omega) rfl]
      unfold opB
      rw [rowF_w (by decide), rowF_w (by decide), rowF_5 (by omega), if_neg (by omega), qc k 0 (by omega) (by decide), qc k 1 (by omega) (by decide), qc k 5 (by omega) (by decide)]
    have ctm : ∀ q, q < nC R → f_X9_counted τ (nI q) 2 = some (nI (tC R q)) := fun q hq => by
      rw [m_counted (a2 := 2) q 2 rfl rfl (by omega) (by decide), h3]
      show some (ct (rowF Q _ k) q 2) = _
      rw [rowF_w (by decide), qc q 2 (by omega) (by decide), (tnum hR hq).2]
    have hun : f_X9_post_b121 s i (n + 1) τ (nI c) x4 (nI k) = if b2i (opB R s i k) = 0 then f_X9_post_b121 s i n τ (nI c) x4 (nI (k + 1)) else (if nI (tC R c) < nI (tC R k) then f_X9_post_b121 s i n τ (nI c) x4 (nI (k + 1)) else f_X9_post_b121 s i n (upI τ 52 (445 + 6 * k + 5) 1) (nI c) x4 (nI (k + 1))) := by
      rw [f_X9_post_b121, rd_at (i := 3) 3 rfl (by decide) (by decide), h3, rowF_o (by omega), hQ 3 (by omega), hn.1, Option.bind_some, if_neg (nI_ge hk (by omega)), ho, Option.bind_some, ctm k hk, Option.bind_some, ctm c hc, Option.bind_some, wr_at (445 + 6 * k + 5) (by show nI 445 + nI 6 * nI k + nI 5 = _; rw [pk_mul, nI_add, nI_add]) (by omega) (by decide), Option.bind_some, nm_q, nm_q, nI_1]
    cases zo : opB R s i k with
    | false =>
      obtain ⟨τ', q1, q2⟩ := ih (k + 1) n τ (by omega) (by omega) (by rw [rowF_skip (by unfold pP; rw [zo]; rfl)]; exact h3)
      refine ⟨τ', ?_, q2⟩
      rw [hun, zo, if_pos bf0]
      exact q1
    | true =>
      by_cases zt : tC R k ≤ tC R c
      · have hp : pP R s i (tC R c) k = true := by unfold pP; rw [zo, decide_eq_true zt]; rfl
        obtain ⟨τ', q1, q2, q3, q4⟩ := ih (k + 1) n (upI τ 52 (445 + 6 * k + 5) 1) (by omega) (by omega) (by rw [rowF_set (by omega) hp, up_put, h3])
        refine ⟨τ', ?_, q2, fun q hq => by rw [q3 q hq, up_k hq], q4⟩
        rw [hun, zo, if_neg bt0, if_neg (by rw [lt_nI (by omega) (by omega)]; omega)]
        exact q1
      · obtain ⟨τ', q1, q2⟩ := ih (k + 1) n τ (by omega) (by omega) (by rw [rowF_skip (by unfold pP; rw [decide_eq_false zt, Bool.and_false])]; exact h3)
        refine ⟨τ', ?_, q2⟩
        rw [hun, zo, if_neg bt0, if_pos (by rw [lt_nI (by omega) (by omega)]; omega)]
        exact q1
