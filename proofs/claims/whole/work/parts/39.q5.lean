/-! transit -/
theorem sum_loopG {α : Type} {f : Nat → Int32 → Int32 → Option α} {fin : Int32 → Option α} {c : Nat → Int32} (N : Nat) (hN : N < 100000)
    (hend : ∀ n x, f (n + 1) x (nI N) = fin x) (hstep : ∀ n k x, k < N → f (n + 1) x (nI k) = f n (x + c k) (nI (k + 1))) :
    ∀ (d k n : Nat) (x : Int32), k + d = N → d < n → f n x (nI k) = fin (x + sumF c d k)
  | 0, k, n, x, h1, h2 => by
    obtain ⟨n, rfl⟩ : ∃ m, n = m + 1 := ⟨n - 1, by omega⟩
    rw [show k = N by omega, hend]
    show fin x = fin (x + 0)
    rw [Int32.add_zero]
  | d + 1, k, n, x, h1, h2 => by
    obtain ⟨n, rfl⟩ : ∃ m, n = m + 1 := ⟨n - 1, by omega⟩
    rw [hstep n k x (by omega), sum_loopG N hN hend hstep d (k + 1) n (x + c k) (by omega) (by omega)]
    show fin (x + c k + sumF c d (k + 1)) = fin (x + (c k + sumF c d (k + 1)))
    rw [Int32.add_assoc]
theorem c_there {σ : St} {g : Nat} {R : Nat → Int32} (hm : nM R ≤ 40) (hL : RowL R) (hn : nS R ≤ 6) (hc : ClsG σ g R) {k : Nat} (hk : k < 2 * nM R) {a : Int32} (ha : a = nI k) : f_X4_isThere σ g a = some (decide (lg R k 0 = 1)) := by
  unfold f_X4_isThere
  refine ob (rd_at k ha (by omega) (by decide)) ?_
  rcases hc.2.2.2.2 k hk with ⟨h0, h1, -⟩ | ⟨h0, h1, -⟩
  · rw [h1, decide_eq_true h0]
    rcases hL k hk with z | ⟨-, ⟨s, hs, z⟩, -⟩
    · rw [h0] at z; exact absurd z (by decide)
    · rw [if_neg (by rw [z]; exact nI_m1 (by omega))]
  · rw [h1, if_pos rfl, decide_eq_false (by rw [h0]; decide)]
theorem c_over {σ : St} {g : Nat} {R : Nat → Int32} (hm : nM R ≤ 40) (hc : ClsG σ g R) {k : Nat} (hk : k < 2 * nM R) {a t : Int32} (ha : a = nI k) (h1 : lg R k 0 = 1) : f_X4_isOver σ g a t = some (ovB R t k) := by
  unfold f_X4_isOver ovB
  refine ob (rd_at k ha (by omega) (by decide)) ?_
  rcases hc.2.2.2.2 k hk with ⟨-, -, -, h0⟩ | ⟨h0, -⟩
  · rw [h0]
    by_cases z : t < lg R k 3 <;> simp [z]
  · rw [h0] at h1; exact absurd h1 (by decide)
theorem c_toCome {σ : St} {g : Nat} {R : Nat → Int32} (hm : nM R ≤ 40) (hc : ClsG σ g R) {k : Nat} (hk : k < 2 * nM R) {a t : Int32} (ha : a = nI k) (h1 : lg R k 0 = 1) : f_X4_isToCome σ g a t = some (tcB R t k) := by
  unfold f_X4_isToCome tcB
  refine ob (rd_at k ha (by omega) (by decide)) ?_
  rcases hc.2.2.2.2 k hk with ⟨-, -, h0, -⟩ | ⟨h0, -⟩
  · rw [h0]
    by_cases z : lg R k 2 ≤ t <;> simp [z]
  · rw [h0] at h1; exact absurd h1 (by decide)
/-- a leg that is to come is not over -/
theorem tc_ov {R : Nat → Int32} (hL : RowL R) {k : Nat} (hk : k < 2 * nM R) (h1 : lg R k 0 = 1) {t : Int32} (h : tcB R t k = true) : ovB R t k = false := by
  rcases hL k hk with z | ⟨-, -, e, l, he, hl, z2, z3⟩
  · rw [h1] at z; exact absurd z (by decide)
  · unfold tcB at h
    unfold ovB
    rw [z2] at h
    rw [z3]
    have h' : t < nI e := by simpa using h
    have h2 : t < nI l := Int32.lt_of_lt_of_le h' (by rw [le_nI (by omega) (by omega)]; exact he)
    simp [h2]
/-- in transit for sure (w = 0), maybe -/
def trB (R : Nat → Int32) (t : Int32) (w m : Nat) : Bool := decide (lg R (2 * m) 0 = 1) && (decide (lg R (2 * m + 1) 0 = 1) && (ovB R t (2 * m) && (!ovB R t (2 * m + 1) && decide (tcB R t (2 * m + 1) = decide (w = 0)))))
def cT (R : Nat → Int32) (i t : Int32) (w m : Nat) : Int32 := if mI R m = i then (if trB R t w m then mS R m else 0) else 0
theorem c_inTr {σ : St} {R : Nat → Int32} (hm : nM R ≤ 40) (hL : RowL R) (hn : nS R ≤ 6) (hc : ClsG σ σ.2.2.1 R) {m w : Nat} (hk : m < nM R) {t f : Int32} (hf : f = b2i (decide (w = 0))) : f_X8_isInTransit σ (nI m) t f = some (trB R t w m) := by
  have l0 : f_X8_legOf σ (nI m) 0 = nI (2 * m) := by
    unfold f_X8_legOf
    show nI 2 * nI m + nI 0 = _
    simp only [pk_mul, nI_add, Nat.add_zero]
  have l1 : f_X8_legOf σ (nI m) 1 = nI (2 * m + 1) := by
    unfold f_X8_legOf
    show nI 2 * nI m + nI 1 = _
    simp only [pk_mul, nI_add]
  unfold f_X8_isInTransit trB
  simp only [nm]
  rw [l0, l1]
  refine ob (c_there hm hL hn hc (k := 2 * m) (by omega) rfl) ?_
  by_cases z1 : lg R (2 * m) 0 = 1
  · rw [decide_eq_true z1, if_neg bt0]
    refine ob (c_there hm hL hn hc (k := 2 * m + 1) (by omega) rfl) ?_
    by_cases z2 : lg R (2 * m + 1) 0 = 1
    · rw [decide_eq_true z2, if_neg bt0]
      refine ob (c_over hm hc (k := 2 * m) (by omega) rfl z1) ?_
      cases z3 : ovB R t (2 * m)
      · rw [if_pos bf0]; rfl
      · rw [if_neg bt0]
        refine ob (c_over hm hc (k := 2 * m + 1) (by omega) rfl z2) ?_
        cases z4 : ovB R t (2 * m + 1)
        · rw [if_pos bf0]
          refine ob (c_toCome hm hc (k := 2 * m + 1) (by omega) rfl z2) ?_
          subst hf
          cases tcB R t (2 * m + 1) <;> cases decide (w = 0) <;> rfl
        · rw [if_neg bt0]; rfl
    · rw [decide_eq_false z2, if_pos bf0]; rfl
  · rw [decide_eq_false z1, if_pos bf0]; rfl
theorem c_transit {σ : St} {R : Nat → Int32} (hN : RowN R) (hL : RowL R) (hc : ClsG σ σ.2.2.1 R) (i t : Int32) (w : Nat) (hw : w < 2) : f_X8_transit_b35 σ i t (nI w) 10000 0 0 = some (sumF (cT R i t w) (nM R) 0) := by
  obtain ⟨⟨-, -, hn⟩, -, ⟨hm1, hm⟩, -⟩ := hN
  refine (sum_loop (f := f_X8_transit_b35 σ i t (nI w)) (fin := some) (c := cT R i t w) (nM R) (by omega) (fun n x => ?_) (fun n k x hk => ?_) (nM R) 0 10000 0 (by omega) (by omega)).trans (by show some ((0 : Int32) + _) = _; rw [Int32.zero_add])
  · rw [f_X8_transit_b35, hc.1.2.2, hm1, if_pos (Int32.le_refl _)]
  · rw [f_X8_transit_b35, hc.1.2.2, hm1, if_neg (nI_ge hk (by omega))]
    obtain ⟨q1, q2⟩ := hc.2.2.2.1 k hk
    refine ob (rd_at k rfl (by omega) (by decide)) ?_
    rw [q1]
    unfold cT
    by_cases z : mI R k = i
    · rw [if_pos z, if_pos z]
      have h74 : ∀ f : Int32, f = b2i (decide (w = 0)) → f_X8_transit_b74 σ i t (nI w) (fun x4 x5 => f_X8_transit_b35 σ i t (nI w) n x4 x5) x (nI k) (nI k) t f = f_X8_transit_b35 σ i t (nI w) n (x + if trB R t w k then mS R k else 0) (nI (k + 1)) := by
        intro f hf
        unfold f_X8_transit_b74
        refine ob (c_inTr hm hL hn hc hk hf) ?_
        cases trB R t w k
        · rw [if_pos bf0]
          simp [nm, nI_1, Int32.add_zero]
        · rw [if_neg bt0]
          refine ob (rd_at k rfl (by omega) (by decide)) ?_
          rw [q2]
          simp [nm, nI_1]
      rcases (show w = 0 ∨ w = 1 by omega) with rfl | rfl
      · rw [if_pos (show nI 0 = 0 from rfl)]
        exact h74 1 rfl
      · rw [if_neg (show ¬ nI 1 = 0 by decide)]
        exact h74 0 rfl
    · rw [if_neg z, if_neg z]
      simp [nm, nI_1, Int32.add_zero]
theorem m_transit {τ : St} (hN : RowN (τ.1 52)) (hL : RowL (τ.1 52)) (i t : Int32) (w : Nat) (hw : w < 2) : f_X9_transit_b37 i t (nI w) 10000 τ 0 0 = some (sumF (cT (τ.1 52) i t w) (nM (τ.1 52)) 0, τ) := by
  obtain ⟨-, -, ⟨hm1, hm⟩, -⟩ := hN
  refine (sum_loopG (f := fun n x k => f_X9_transit_b37 i t (nI w) n τ x k) (fin := fun x => some (x, τ)) (c := cT (τ.1 52) i t w) (nM (τ.1 52)) (by omega) (fun n x => ?_) (fun n k x hk => ?_) (nM (τ.1 52)) 0 10000 0 (by omega) (by omega)).trans (by show some ((0 : Int32) + _, τ) = _; rw [Int32.zero_add])
  · show f_X9_transit_b37 i t (nI w) (n + 1) τ x _ = _
    rw [f_X9_transit_b37]
    refine ob (rd_at 2 rfl (by decide) (by decide)) ?_
    rw [hm1, if_pos (Int32.le_refl _)]
  · show f_X9_transit_b37 i t (nI w) (n + 1) τ x _ = f_X9_transit_b37 i t (nI w) n τ _ _
    rw [f_X9_transit_b37]
    refine ob (rd_at 2 rfl (by decide) (by decide)) ?_
    rw [hm1, if_neg (nI_ge hk (by omega))]
    refine ob (m_moved k 0 rfl rfl (by omega) (by decide)) ?_
    unfold cT
    show (if mI (τ.1 52) k = i then _ else _) = _
    by_cases z : mI (τ.1 52) k = i
    · rw [if_pos z, if_pos z]
      have d0 : nI k = nI (2 * k / 2) := congrArg nI (by omega)
      have r0 : (0 : Int32) = nI (2 * k % 2) := congrArg nI (show 0 = 2 * k % 2 by omega)
      have d1 : nI k = nI ((2 * k + 1) / 2) := congrArg nI (by omega)
      have r1 : (1 : Int32) = nI ((2 * k + 1) % 2) := congrArg nI (show 1 = (2 * k + 1) % 2 by omega)
      have h122 : ∀ x, f_X9_transit_b122 i t (nI w) (fun σ x4 x5 => f_X9_transit_b37 i t (nI w) n σ x4 x5) τ x (nI k) = f_X9_transit_b37 i t (nI w) n τ (x + mS (τ.1 52) k) (nI (k + 1)) := by
        intro x
        unfold f_X9_transit_b122
        refine ob (m_moved k 1 rfl rfl (by omega) (by decide)) ?_
        simp only [nm, nI_1]
        rfl
      unfold trB
      refine ob (m_isThere (k := 2 * k) d0 r0 (by omega)) ?_
      by_cases z1 : lg (τ.1 52) (2 * k) 0 = 1
      · rw [decide_eq_true z1, if_neg bt0]
        refine ob (m_isThere (k := 2 * k + 1) d1 r1 (by omega)) ?_
        by_cases z2 : lg (τ.1 52) (2 * k + 1) 0 = 1
        · rw [decide_eq_true z2, if_neg bt0]
          refine ob (m_isOver (k := 2 * k) d0 r0 (by omega)) ?_
          cases z3 : ovB (τ.1 52) t (2 * k)
          · rw [if_pos bf0]
            simp [nm, nI_1, Int32.add_zero]
          · rw [if_neg bt0]
            rcases (show w = 0 ∨ w = 1 by omega) with rfl | rfl
            · rw [if_pos (show nI 0 = 0 from rfl)]
              refine ob (m_isToCome (k := 2 * k + 1) d1 r1 (by omega)) ?_
              cases z4 : tcB (τ.1 52) t (2 * k + 1)
              · rw [if_pos bf0]
                simp [nm, nI_1, Int32.add_zero]
              · rw [if_neg bt0, h122, tc_ov hL (by omega) z2 z4]
                simp
            · rw [if_neg (show ¬ nI 1 = 0 by decide)]
              refine ob (m_isDoubtful (k := 2 * k + 1) d1 r1 (by omega)) ?_
              unfold dbB
              cases z5 : ovB (τ.1 52) t (2 * k + 1)
              · cases z4 : tcB (τ.1 52) t (2 * k + 1)
                · rw [if_neg (by decide), h122]
                  simp
                · rw [if_pos (by decide)]
                  simp [nm, nI_1, Int32.add_zero]
              · rw [if_pos (by cases tcB (τ.1 52) t (2 * k + 1) <;> decide)]
                simp [nm, nI_1, Int32.add_zero]
        · rw [decide_eq_false z2, if_pos bf0]
          simp [nm, nI_1, Int32.add_zero]
      · rw [decide_eq_false z1, if_pos bf0]
        simp [nm, nI_1, Int32.add_zero]
    · rw [if_neg z, if_neg z]
      simp [nm, nI_1, Int32.add_zero]
theorem s_transit : S_transit Inv := by
  intro σ hI a1 a2 a3
  obtain ⟨⟨hg, -⟩, hR, hC, -⟩ := id hI
  have k1 := r52 (σ := σ) (j := 0) (x := 0)
  have hb : Inv (upI σ 50 0 0) := hI.keep (sm0 σ 0)
  have hN' : RowN ((upI σ 50 0 0).1 52) := by rw [k1]; exact hR.1
  have hL' : RowL ((upI σ 50 0 0).1 52) := by rw [k1]; exact hR.2.2.1
  unfold f_X8_transit f_X9_transit
  simp only [nm]
  rcases item_u hR.1 a1 with ⟨i, hi, rfl, e2, m2⟩ | ⟨e2, m2, -⟩
  · rw [e2 _ _ hC.1.1.2.1, if_neg bt0, m2 _ k1]
    simp only [Option.bind_some]
    rw [if_neg bt0]
    rcases inst_u a2 with ⟨t, ht, rfl, e3, m3⟩ | ⟨e3, m3, -⟩
    · rw [e3, m3, if_neg bt0, if_neg bt0]
      rcases has_n a3 2 (by decide) with ⟨w, hw, rfl, -, e5⟩ | ⟨-, e5, e6⟩
      · rw [show f_X9_isIn _ (nI w) 0 1 = true from e5 _, if_neg bt0, if_neg (nI_pos (by omega)), if_pos (show nI w ≤ 1 by
          rcases (show w = 0 ∨ w = 1 by omega) with rfl | rfl <;> decide), c_transit hR.1 hR.2.2.1 hC.1 _ _ w hw, m_transit hN' hL' _ _ w hw, k1]
        exact ⟨_, _, rfl, rfl, hb⟩
      · rw [show f_X9_isIn _ a3 0 1 = false from e5 _, if_pos bf0]
        by_cases z : a3 < 0
        · rw [if_pos z]
          exact ⟨_, _, rfl, rfl, hb⟩
        · rw [if_neg z, if_neg (show ¬ a3 ≤ 1 from fun h => by
            rcases ix_cases a3 2 (by decide) with h1 | ⟨-, h1⟩ | ⟨j, hj, h1⟩
            · exact z h1
            · have h2 := Int32.le_iff_toInt_le.mp (Int32.le_trans h1 h)
              exact absurd h2 (by decide)
            · exact e6 j hj h1)]
          exact ⟨_, _, rfl, rfl, hb⟩
    · rw [e3, m3, if_pos bf0, if_pos bf0]
      exact ⟨_, _, rfl, rfl, hb⟩
  · rw [e2 _ _ hC.1.1.2.1, if_pos bf0, m2 _ k1]
    simp only [Option.bind_some]
    rw [if_pos bf0]
    exact ⟨_, _, rfl, rfl, hb⟩
