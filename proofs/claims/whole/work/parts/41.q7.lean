/-! explained -/
theorem sm32 : ∀ j, j < 31 → ((nI j).toBitVec.smod 32).toNat = j := by decide
theorem bit_n {x j : Nat} (hx : x < 2 ^ 31) (hj : j < 31) : ((nI x >>> (nI j &&& 31)) &&& 1) = nI (x / 2 ^ j % 2) := by
  have e1 : nI j &&& 31 = nI j := (pk_andN (n := j) (by omega) 5 rfl).trans (congrArg nI (Nat.mod_eq_of_lt (by omega)))
  rw [e1, pk_shrN hx (nI j) j (sm32 j hj)]
  have : x / 2 ^ j < 2 ^ 32 := Nat.lt_of_le_of_lt (Nat.div_le_self _ _) (by omega)
  exact pk_andN this 1 rfl
theorem shl_n {j : Nat} (hj : j ≤ 10) : (1 : Int32) <<< (nI j &&& 31) = nI (2 ^ j) := by
  have e1 : nI j &&& 31 = nI j := (pk_andN (n := j) (by omega) 5 rfl).trans (congrArg nI (Nat.mod_eq_of_lt (by omega)))
  rw [e1]
  have h2 : 2 ^ j ≤ 2 ^ 10 := Nat.pow_le_pow_right (by decide) hj
  refine (pk_shlN (n := 1) (nI j) j (sm32 j (by omega)) (by omega)).trans (congrArg nI (by omega))
def cB (L : Nat → Int32) (x j : Nat) : Int32 := if x / 2 ^ j % 2 = 1 then L j else 0
theorem bit_c {x j : Nat} (hx : x < 2 ^ 31) (hj : j < 31) : (((nI x >>> (nI j &&& 31)) &&& 1) = 1) = (x / 2 ^ j % 2 = 1) := by
  rw [bit_n hx hj]
  exact eq_nI (b := 1) (by omega) (by decide)
theorem c_sureWith {σ : St} {x : Nat} (hx : x < 1024) : f_X2_sureWith σ (nI x) = some (σ.1 48 0 + sumF (cB (σ.1 49) x) 10 0) := by
  unfold f_X2_sureWith
  simp only [nm]
  refine sum_loop (f := f_X2_sureWith_b7 σ (nI x)) (fin := some) (c := cB (σ.1 49) x) 10 (by decide) (fun n y => ?_) (fun n k y hk => ?_) 10 0 10000 _ (by decide) (by decide)
  · rw [f_X2_sureWith_b7, if_pos (show (10 : Int32) ≤ nI 10 by decide)]
  · rw [f_X2_sureWith_b7, if_neg (show ¬ (10 : Int32) ≤ nI k from nI_ge (b := 10) hk (by decide))]
    unfold cB
    have hb := bit_c (x := x) (j := k) (by omega) (by omega)
    by_cases z : x / 2 ^ k % 2 = 1
    · rw [if_pos (by rw [hb]; exact z), if_pos z, rd_at k rfl hk (by decide)]
      simp only [Option.bind_some, nm, nI_1]
    · rw [if_neg (by rw [hb]; exact z), if_neg z]
      simp only [nm, nI_1, Int32.add_zero]
theorem sum_cut {c c' : Nat → Int32} {a : Nat} (h1 : ∀ j, j < a → c j = c' j) (h2 : ∀ j, a ≤ j → c j = 0) : ∀ d, sumF c (a + d) 0 = sumF c' a 0
  | 0 => sumF_congr a 0 (fun j _ hj => h1 j (by omega))
  | d + 1 => by
    rw [show a + (d + 1) = (a + d) + 1 from rfl, sumF_last, sum_cut h1 h2 d, h2 _ (by omega), Int32.add_zero]
theorem bit_hi {x a j : Nat} (hx : x < 2 ^ a) (hj : a ≤ j) : ¬ x / 2 ^ j % 2 = 1 := by
  have : 2 ^ a ≤ 2 ^ j := Nat.pow_le_pow_right (by decide) hj
  rw [Nat.div_eq_of_lt (by omega)]
  decide
/-- the two searches over sets of legs -/
theorem ex_run {σ τ : St} {a1 a2 : Int32} {c len : Nat} {goal sure v : Int32} (hlen : len ≤ 10) (ha : a1 = nI c) (hc : c < 40) (h0 : σ.1 48 0 = sure) (h3 : σ.1 48 3 = nI len) (hv : σ.1 28 c = v) (hg : goal = v - sure) (hL : ∀ j, j < len → σ.1 49 j = τ.1 56 j) :
    ∀ (d x n n' : Nat) (f : Int32), x + d = 2 ^ len → d < n → d < n' → ∃ r, f_X8_explained_b38 a1 a2 n σ f (nI x) = some (r, σ) ∧ f_X9_explained_b157 a1 a2 n' τ (nI len) f goal (nI x) = some (r, τ)
  | 0, x, n, n', f, h1, h2, h4 => by
    obtain ⟨n, rfl⟩ : ∃ m, n = m + 1 := ⟨n - 1, by omega⟩
    obtain ⟨n', rfl⟩ : ∃ m, n' = m + 1 := ⟨n' - 1, by omega⟩
    rw [f_X8_explained_b38, f_X9_explained_b157, h3, shl_n hlen, show x = 2 ^ len by omega, if_pos (Int32.le_refl _), if_pos (Int32.le_refl _)]
    by_cases z : a2 = -1
    · rw [if_pos z, if_pos z]; exact ⟨_, rfl, rfl⟩
    · rw [if_neg z, if_neg z]; exact ⟨_, rfl, rfl⟩
  | d + 1, x, n, n', f, h1, h2, h4 => by
    obtain ⟨n, rfl⟩ : ∃ m, n = m + 1 := ⟨n - 1, by omega⟩
    obtain ⟨n', rfl⟩ : ∃ m, n' = m + 1 := ⟨n' - 1, by omega⟩
    have hp : 2 ^ len ≤ 2 ^ 10 := Nat.pow_le_pow_right (by decide) hlen
    have ih := fun g => ex_run (a2 := a2) hlen ha hc h0 h3 hv hg hL d (x + 1) n n' g (by omega) (by omega) (by omega)
    have hS : sumF (cB (σ.1 49) x) 10 0 = sumF (cB (τ.1 56) x) len 0 := by
      have := sum_cut (c := cB (σ.1 49) x) (c' := cB (τ.1 56) x) (a := len) (fun j hj => by unfold cB; rw [hL j hj]) (fun j hj => by unfold cB; rw [if_neg (bit_hi (by omega) hj)]) (10 - len)
      rw [show len + (10 - len) = 10 by omega] at this
      exact this
    have hm : f_X9_explained_b171 a1 a2 (fun σ x3 x4 x5 x6 => f_X9_explained_b157 a1 a2 n' σ x3 x4 x5 x6) 10000 τ (nI len) f goal (nI x) 0 0 = if sumF (cB (τ.1 56) x) len 0 = goal then (if f = a2 then some (nI x, τ) else f_X9_explained_b157 a1 a2 n' τ (nI len) (f + 1) goal (nI (x + 1))) else f_X9_explained_b157 a1 a2 n' τ (nI len) f goal (nI (x + 1)) := by
      refine (sum_loopG (f := fun m y k => f_X9_explained_b171 a1 a2 (fun σ x3 x4 x5 x6 => f_X9_explained_b157 a1 a2 n' σ x3 x4 x5 x6) m τ (nI len) f goal (nI x) y k) (fin := fun y => if y = goal then (if f = a2 then some (nI x, τ) else f_X9_explained_b157 a1 a2 n' τ (nI len) (f + 1) goal (nI (x + 1))) else f_X9_explained_b157 a1 a2 n' τ (nI len) f goal (nI (x + 1))) (c := cB (τ.1 56) x) len (by omega) (fun m y => ?_) (fun m k y hk => ?_) len 0 10000 0 (by omega) (by omega)).trans ?_
      · show f_X9_explained_b171 _ _ _ (m + 1) _ _ _ _ _ _ _ = _
        rw [f_X9_explained_b171, if_pos (Int32.le_refl _)]
        simp only [nm, nI_1]
      · show f_X9_explained_b171 _ _ _ (m + 1) _ _ _ _ _ _ _ = f_X9_explained_b171 _ _ _ m _ _ _ _ _ _ _
        rw [f_X9_explained_b171, if_neg (nI_ge hk (by omega))]
        unfold cB
        have hb := bit_c (x := x) (j := k) (by omega) (by omega)
        by_cases z : x / 2 ^ k % 2 = 1
        · rw [if_pos (by rw [hb]; exact z), if_pos z, rd_at k rfl (by omega) (by decide)]
          simp only [Option.bind_some, nm, nI_1]
        · rw [if_neg (by rw [hb]; exact z), if_neg z]
          simp only [nm, nI_1, Int32.add_zero]
      · show (if (0 : Int32) + _ = goal then _ else _) = _
        rw [Int32.zero_add]
    have hcond : (sure + sumF (cB (τ.1 56) x) len 0 = v) = (sumF (cB (τ.1 56) x) len 0 = goal) := by
      subst hg
      apply propext
      constructor
      · intro h; rw [← h, Int32.add_comm, Int32.add_sub_cancel]
      · intro h; rw [h, Int32.add_comm, Int32.sub_add_cancel]
    rw [f_X8_explained_b38, f_X9_explained_b157, h3, shl_n hlen, if_neg (nI_ge (by omega) (by omega)), if_neg (nI_ge (by omega) (by omega)), hm, c_sureWith (by omega), h0, hS]
    simp only [Option.bind_some]
    rw [rd_at c ha hc (by decide), hv]
    simp only [Option.bind_some, nm, nI_1]
    by_cases z : sumF (cB (τ.1 56) x) len 0 = goal
    · rw [if_pos (by rw [hcond]; exact z), if_pos z]
      by_cases z2 : f = a2
      · rw [if_pos z2, if_pos z2]; exact ⟨_, rfl, rfl⟩
      · rw [if_neg z2, if_neg z2]; exact ih _
    · rw [if_neg (by rw [hcond]; exact z), if_neg z]; exact ih _
theorem getD_a (l : List Int32) (x : Int32) (j : Nat) (hj : j < l.length) : (l ++ [x]).getD j 0 = l.getD j 0 := by
  rw [List.getD_eq_getElem?_getD, List.getD_eq_getElem?_getD, List.getElem?_append_left hj]
theorem getD_l (l : List Int32) (x : Int32) : (l ++ [x]).getD l.length 0 = x := by
  rw [List.getD_eq_getElem?_getD, List.getElem?_append_right (Nat.le_refl _), Nat.sub_self]
  rfl
/-- the model gathers the doubtful legs -/
theorem ex_gather {σ : St} {R : Nat → Int32} {a1 a2 : Int32} {c : Nat} (hR : RowOk R) (h52 : σ.1 52 = R) (hc : c < nC R) (ha : a1 = nI c) :
    ∀ (d k n : Nat) (τ : St), k + d = 2 * nM R → d < n → Same σ τ → (∀ j, j < (dlst R (ct R c 0) (ct R c 1) (ct R c 2) k).length → τ.1 56 j = (dlst R (ct R c 0) (ct R c 1) (ct R c 2) k).getD j 0) →
      ∃ n' τ', f_X9_explained_b20 a1 a2 n τ (nI (dlst R (ct R c 0) (ct R c 1) (ct R c 2) k).length) (nI k) = f_X9_explained_b20 a1 a2 (n' + 1) τ' (nI (dlC R c).length) (nI (2 * nM R)) ∧ Same σ τ' ∧ ∀ j, j < (dlC R c).length → τ'.1 56 j = (dlC R c).getD j 0
  | 0, k, n, τ, h1, h2, h3, h4 => by
    obtain ⟨n, rfl⟩ : ∃ m, n = m + 1 := ⟨n - 1, by omega⟩
    obtain rfl : k = 2 * nM R := by omega
    exact ⟨n, τ, rfl, h3, h4⟩
  | d + 1, k, n, τ, h1, h2, h3, h4 => by
    obtain ⟨n, rfl⟩ : ∃ m, n = m + 1 := ⟨n - 1, by omega⟩
    have hm := hR.1.2.2.1
    have ih := ex_gather (a2 := a2) hR h52 hc ha d (k + 1) n
    have hτ : τ.1 52 = R := (h3.2.1 52 (by unfold rel; omega)).trans h52
    have hk8 : k < 80 := by omega
    have hl := dlst_len R (ct R c 0) (ct R c 1) (ct R c 2) k
    rw [f_X9_explained_b20, rd_at (i := 2) 2 rfl (by decide) (by decide), hτ, hm.1]
    simp only [Option.bind_some]
    rw [show (2 : Int32) * nI (nM R) = nI (2 * nM R) from pk_mul 2 _, if_neg (nI_ge (by omega) (by omega)), m_ct hR hτ hc ha (b := 0) 0 (by decide) rfl, m_ct hR hτ hc ha (b := 1) 1 (by decide) rfl, m_ct hR hτ hc ha (b := 2) 2 (by decide) rfl]
    simp only [Option.bind_some]
    rw [m_isAt (kdiv (by omega)) (krem (by omega)) hk8, m_isDoubtful (kdiv (by omega)) (krem (by omega)) hk8, hτ]
    simp only [Option.bind_some, nm, nI_1]
    have skip : (atB R (ct R c 0) (ct R c 1) k && dbB R (ct R c 2) k) = false → dlst R (ct R c 0) (ct R c 1) (ct R c 2) (k + 1) = dlst R (ct R c 0) (ct R c 1) (ct R c 2) k := fun z => by
      simp only [dlst, z, if_false, List.append_nil, Bool.false_eq_true]
    cases z1 : atB R (ct R c 0) (ct R c 1) k
    · rw [if_pos bf0]
      have e := skip (by rw [z1]; rfl)
      rw [e] at ih
      exact ih τ (by omega) (by omega) h3 h4
    · rw [if_neg bt0]
      cases z2 : dbB R (ct R c 2) k
      · rw [if_pos bf0]
        have e := skip (by rw [z1, z2]; rfl)
        rw [e] at ih
        exact ih τ (by omega) (by omega) h3 h4
      · rw [if_neg bt0]
        have e : dlst R (ct R c 0) (ct R c 1) (ct R c 2) (k + 1) = dlst R (ct R c 0) (ct R c 1) (ct R c 2) k ++ [sg R k] := by
          simp only [dlst, z1, z2, Bool.and_self, if_true]
        rw [e] at ih
        simp only [List.length_append, List.length_cons, List.length_nil, Nat.zero_add] at ih
        have hw : ∀ y, y = sg R k → wr τ 56 80 (nI (dlst R (ct R c 0) (ct R c 1) (ct R c 2) k).length) y = some (upI τ 56 (dlst R (ct R c 0) (ct R c 1) (ct R c 2) k).length (sg R k)) := fun y hy => by
          rw [hy]; exact wr_at _ rfl (by omega) (by decide)
        have ih2 := ih (upI τ 56 (dlst R (ct R c 0) (ct R c 1) (ct R c 2) k).length (sg R k)) (by omega) (by omega) (h3.up (by unfold rel; omega) ⟨by simp, by simp, by simp, by simp, by simp⟩) (fun j hj => by
          by_cases zj : j = (dlst R (ct R c 0) (ct R c 1) (ct R c 2) k).length
          · subst zj
            rw [up_s, getD_l]
          · rw [up_j zj, getD_a _ _ _ (by omega)]
            exact h4 j (by omega))
        by_cases z3 : k % 2 = 0
        · rw [if_pos (show nI k - nI k / 2 * 2 = 0 by rw [krem (by omega), z3]; rfl), m_moved (a2 := 1) (k / 2) 1 (kdiv (by omega)) rfl (by omega) (by decide), hτ]
          simp only [Option.bind_some]
          rw [hw _ (by unfold sg; rw [if_pos z3]; rfl)]
          exact ih2
        · rw [if_neg (show ¬ nI k - nI k / 2 * 2 = 0 by rw [krem (by omega)]; exact nI_ne0 (by omega) (by omega)), m_moved (a2 := 1) (k / 2) 1 (kdiv (by omega)) rfl (by omega) (by decide), hτ]
          simp only [Option.bind_some]
          rw [hw _ (by unfold sg; rw [if_neg z3]; rfl)]
          exact ih2
theorem s_explained : S_explained Inv := by
  intro σ hI a1 a2
  obtain ⟨⟨hg, -⟩, hR, hC, -⟩ := id hI
  unfold f_X8_explained
  rcases count_u hR.1 a1 with ⟨c, hc, rfl, e1, m1⟩ | ⟨e1, m1, -⟩
  · obtain ⟨σ', p0, p1, p2, p3, p4, p5, p6⟩ := c_turnTo hg hR hC hc rfl
    have h7 := (cnum hR hc).2.2.2.2.2.2
    have hm := hR.1.2.2.1
    have k1 : σ'.1 52 = σ.1 52 := p1.1 52 (by decide) (by decide)
    have k2 : (upI σ' 50 0 0).1 52 = σ.1 52 := r52.trans k1
    have hI' := hI.keep p1.same
    rw [e1 _ hC.2.2.1, if_neg bt0, p0]
    simp only [Option.bind_some]
    rw [p5]
    have hl : (dlC (σ.1 52) c).length ≤ 80 := Nat.le_trans (dlst_len _ _ _ _ _) (by omega)
    obtain ⟨n', τ, q1, q2, q3⟩ := ex_gather (a2 := a2) hR k2 hc rfl (2 * nM (σ.1 52)) 0 10000 (upI σ' 50 0 0) (by omega) (by omega) (Same.rf _) (fun j hj => absurd hj (by simp [dlst]))
    have hτ : τ.1 52 = σ.1 52 := (q2.2.1 52 (by unfold rel; omega)).trans k2
    have hI2 : Inv τ := (hI'.keep (sm0 σ' 0)).keep q2
    have hmod : f_X9_explained σ' (nI c) a2 = if nI (dlC (σ.1 52) c).length ≤ 10 then f_X9_explained_b157 (nI c) a2 10000 τ (nI (dlC (σ.1 52) c).length) 0 (ct (σ.1 52) c 3 - sureC (σ.1 52) c) 0 else some (-2, τ) := by
      unfold f_X9_explained
      simp only [nm]
      refine ob (m1 _ k2) ?_
      rw [if_neg bt0]
      refine Eq.trans q1 ?_
      rw [f_X9_explained_b20, rd_at (i := 2) 2 rfl (by decide) (by decide), hτ, hm.1]
      simp only [Option.bind_some]
      rw [show (2 : Int32) * nI (nM (σ.1 52)) = nI (2 * nM (σ.1 52)) from pk_mul 2 _, if_pos (Int32.le_refl _), m_ct hR hτ hc rfl (b := 3) 3 (by decide) rfl, m_sureOf hR hτ hc rfl]
      rfl
    by_cases z : nI (dlC (σ.1 52) c).length ≤ 10
    · rw [if_pos z]
      have hz : (dlC (σ.1 52) c).length ≤ 10 := by
        have := (le_nI (a := (dlC (σ.1 52) c).length) (b := 10) (by omega) (by decide)).mp z
        exact this
      have hp : 2 ^ (dlC (σ.1 52) c).length ≤ 2 ^ 10 := Nat.pow_le_pow_right (by decide) hz
      obtain ⟨r, w1, w2⟩ := ex_run (σ := σ') (τ := τ) (a1 := nI c) (a2 := a2) (goal := ct (σ.1 52) c 3 - sureC (σ.1 52) c) hz rfl h7 p2 p5 (show σ'.1 28 c = ct (σ.1 52) c 3 by rw [p1.1 28 (by decide) (by decide)]; exact hC.2.2.2 c hc 3 (by decide)) rfl (fun j hj => (p6 j hj (by omega)).trans (q3 j hj).symm) (2 ^ (dlC (σ.1 52) c).length) 0 10000 10000 0 (by omega) (by omega) (by omega)
      refine ⟨r, σ', τ, w1, ?_, hI2⟩
      rw [hmod, if_pos z]
      exact w2
    · rw [if_neg z]
      refine ⟨_, _, τ, rfl, ?_, hI2⟩
      rw [hmod, if_neg z]
  · rw [e1 _ hC.2.2.1, if_pos bf0]
    refine ⟨_, _, upI σ 50 0 0, rfl, ?_, hI.keep (sm0 σ 0)⟩
    unfold f_X9_explained
    simp only [nm]
    refine ob (m1 _ r52) ?_
    rw [if_pos bf0]
