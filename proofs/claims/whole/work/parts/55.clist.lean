/-! the list of counts: copy, insert, remove -/
theorem nar_b {x : Int32} (h : x = 0 ∨ x = 1) : vp_nar .boolean x = x := by
  rcases h with rfl | rfl <;> decide
def cpS (σ : St) (a b : Nat) : St := upI (upI (upI (upI (upI (upI σ 25 b (σ.1 25 a)) 26 b (σ.1 26 a)) 27 b (σ.1 27 a)) 28 b (σ.1 28 a)) 29 b (σ.1 29 a)) 30 b (σ.1 30 a)
theorem c_copy {σ : St} {a b : Nat} {x y : Int32} (hx : x = nI a) (hy : y = nI b) (ha : a < 40) (hb : b < 40) (hf : σ.1 30 a = 0 ∨ σ.1 30 a = 1) : f_X3_copy σ x y = some (cpS σ a b) := by
  unfold f_X3_copy cpS
  refine ob (rd_at a hx ha (by decide)) (ob (wr_at b hy hb (by decide)) (ob (rd_at a hx ha (by decide)) (ob (wr_at b hy hb (by decide)) (ob (rd_at a hx ha (by decide)) (ob (wr_at b hy hb (by decide)) (ob (rd_at a hx ha (by decide)) (ob (wr_at b hy hb (by decide)) (ob (rd_at a hx ha (by decide)) (ob (wr_at b hy hb (by decide)) (ob (rd_at a hx ha (by decide)) (ob (wr_at b hy hb (by decide)) ?_)))))))))))
  simp only [up_k (a := 26) (k := 25) (by decide), up_k (a := 27) (k := 26) (by decide), up_k (a := 27) (k := 25) (by decide), up_k (a := 28) (k := 27) (by decide), up_k (a := 28) (k := 26) (by decide), up_k (a := 28) (k := 25) (by decide), up_k (a := 29) (k := 28) (by decide), up_k (a := 29) (k := 27) (by decide), up_k (a := 29) (k := 26) (by decide), up_k (a := 29) (k := 25) (by decide), up_k (a := 30) (k := 29) (by decide), up_k (a := 30) (k := 28) (by decide), up_k (a := 30) (k := 27) (by decide), up_k (a := 30) (k := 26) (by decide), up_k (a := 30) (k := 25) (by decide), nar_b hf]
theorem cp_c {σ : St} {a b c : Nat} (h : c < 25 ∨ 31 ≤ c) : (cpS σ a b).1 c = σ.1 c := by
  unfold cpS
  rw [up_k (by omega), up_k (by omega), up_k (by omega), up_k (by omega), up_k (by omega), up_k (by omega)]
theorem cp_w {σ : St} {a b w : Nat} (h : w < 6) : (cpS σ a b).1 (25 + w) = put (σ.1 (25 + w)) b (σ.1 (25 + w) a) := by
  unfold cpS
  rcases (show w = 0 ∨ w = 1 ∨ w = 2 ∨ w = 3 ∨ w = 4 ∨ w = 5 by omega) with rfl | rfl | rfl | rfl | rfl | rfl
  · rw [up_k (by decide), up_k (by decide), up_k (by decide), up_k (by decide), up_k (by decide), up_put]
  · rw [up_k (by decide), up_k (by decide), up_k (by decide), up_k (by decide), up_put, up_k (by decide)]
  · rw [up_k (by decide), up_k (by decide), up_k (by decide), up_put, up_k (by decide), up_k (by decide)]
  · rw [up_k (by decide), up_k (by decide), up_put, up_k (by decide), up_k (by decide), up_k (by decide)]
  · rw [up_k (by decide), up_put, up_k (by decide), up_k (by decide), up_k (by decide), up_k (by decide)]
  · rw [up_put, up_k (by decide), up_k (by decide), up_k (by decide), up_k (by decide), up_k (by decide)]
def stC (σ : St) (c : Nat) (xs : Nat → Int32) : St := upI (upI (upI (upI (upI (upI σ 25 c (xs 0)) 26 c (xs 1)) 27 c (xs 2)) 28 c (xs 3)) 29 c (xs 4)) 30 c 0
theorem st_c {σ : St} {a c : Nat} {xs : Nat → Int32} (h : c < 25 ∨ 31 ≤ c) : (stC σ a xs).1 c = σ.1 c := by
  unfold stC
  rw [up_k (by omega), up_k (by omega), up_k (by omega), up_k (by omega), up_k (by omega), up_k (by omega)]
theorem st_w {σ : St} {c w : Nat} {xs : Nat → Int32} (h5 : xs 5 = 0) (h : w < 6) : (stC σ c xs).1 (25 + w) = put (σ.1 (25 + w)) c (xs w) := by
  unfold stC
  rcases (show w = 0 ∨ w = 1 ∨ w = 2 ∨ w = 3 ∨ w = 4 ∨ w = 5 by omega) with rfl | rfl | rfl | rfl | rfl | rfl
  · rw [up_k (by decide), up_k (by decide), up_k (by decide), up_k (by decide), up_k (by decide), up_put]
  · rw [up_k (by decide), up_k (by decide), up_k (by decide), up_k (by decide), up_put, up_k (by decide)]
  · rw [up_k (by decide), up_k (by decide), up_k (by decide), up_put, up_k (by decide), up_k (by decide)]
  · rw [up_k (by decide), up_k (by decide), up_put, up_k (by decide), up_k (by decide), up_k (by decide)]
  · rw [up_k (by decide), up_put, up_k (by decide), up_k (by decide), up_k (by decide), up_k (by decide)]
  · rw [up_put, up_k (by decide), up_k (by decide), up_k (by decide), up_k (by decide), up_k (by decide), h5]
theorem c_insL {xs : Nat → Int32} {c m : Nat} (h5 : xs 5 = 0) (hc : c < 40) (hm : m < 40) : ∀ (d n : Nat) (σ : St), d < n → c + d < 40 → σ.1 24 0 = nI m → (∀ q, q < c + d → σ.1 30 q = 0 ∨ σ.1 30 q = 1) →
    ∃ σ', f_X3_insert_b28 (nI c) (xs 0) (xs 1) (xs 2) (xs 3) (xs 4) n σ (nI (c + d)) = some σ' ∧ σ'.2 = σ.2 ∧ (∀ q, q < 24 ∨ 31 ≤ q → σ'.1 q = σ.1 q) ∧ σ'.1 24 0 = nI (m + 1) ∧ ∀ w, w < 6 → ∀ q, σ'.1 (25 + w) q = if q < c ∨ c + d < q then σ.1 (25 + w) q else if q = c then xs w else σ.1 (25 + w) (q - 1)
  | 0, n, σ, h1, h2, h3, h4 => by
    obtain ⟨n, rfl⟩ : ∃ m, n = m + 1 := ⟨n - 1, by omega⟩
    refine ⟨upI (stC σ c xs) 24 0 (nI (m + 1)), ?_, rfl, fun q hq => by rw [up_k (by omega), st_c (by omega)], up_s, fun w hw q => ?_⟩
    · rw [f_X3_insert_b28, if_pos (show nI (c + 0) ≤ nI c from Int32.le_refl _)]
      refine ob (wr_at c rfl hc (by decide)) (ob (wr_at c rfl hc (by decide)) (ob (wr_at c rfl hc (by decide)) (ob (wr_at c rfl hc (by decide)) (ob (wr_at c rfl hc (by decide)) (ob (wr_at c rfl hc (by decide)) ?_)))))
      rw [nm_q, nar_b (Or.inl rfl)]
      show some (upI (stC σ c xs) 24 0 ((stC σ c xs).1 24 0 + 1)) = _
      rw [st_c (by omega), h3, nI_1]
    · rw [up_k (by omega), st_w h5 hw]
      by_cases z : q = c
      · rw [z, put_s, if_neg (by omega), if_pos rfl]
      · rw [put_n z, if_pos (by omega)]
  | d + 1, n, σ, h1, h2, h3, h4 => by
    obtain ⟨n, rfl⟩ : ∃ m, n = m + 1 := ⟨n - 1, by omega⟩
    obtain ⟨σ', t1, t2, t3, t4, t5⟩ := c_insL h5 hc hm d n (cpS σ (c + d) (c + d + 1)) (by omega) (by omega) (by rw [cp_c (by omega)]; exact h3) (fun q hq => by rw [cp_w (w := 5) (by decide), put_n (by omega)]; exact h4 q (by omega))
    refine ⟨σ', ?_, t2, fun q hq => by rw [t3 q hq, cp_c (by omega)], t4, fun w hw q => ?_⟩
    · rw [f_X3_insert_b28, if_neg (show ¬ nI (c + (d + 1)) ≤ nI c by rw [le_nI (by omega) (by omega)]; omega)]
      have e1 : nI (c + (d + 1)) - 1 = nI (c + d) := by rw [show c + (d + 1) = (c + d) + 1 by omega, ← nI_1]; exact Int32.add_sub_cancel _ _
      refine ob (c_copy e1 rfl (by omega) (by omega) (h4 _ (by omega))) ?_
      rw [nm_q, show nI (c + (d + 1)) + -1 = nI (c + d) by rw [← Int32.sub_eq_add_neg]; exact e1]
      exact t1
    · rw [t5 w hw q, cp_w hw]
      by_cases z1 : q < c ∨ c + (d + 1) < q
      · rw [if_pos z1, if_pos (by omega), put_n (by omega)]
      rw [if_neg z1]
      by_cases z2 : q = c + d + 1
      · rw [if_pos (by omega), if_neg (by omega), z2, put_s]
        exact congrArg _ (by omega)
      rw [if_neg (by omega)]
      by_cases z3 : q = c
      · rw [if_pos z3, if_pos z3]
      · rw [if_neg z3, if_neg z3, put_n (by omega)]
theorem c_insert {σ : St} {xs : Nat → Int32} {c n : Nat} (h5 : xs 5 = 0) (hn : n < 40) (hc : c ≤ n) (h : σ.1 24 0 = nI n) (hf : ∀ q, q < n → σ.1 30 q = 0 ∨ σ.1 30 q = 1) :
    ∃ σ', f_X3_insert σ (nI c) (xs 0) (xs 1) (xs 2) (xs 3) (xs 4) = some σ' ∧ σ'.2 = σ.2 ∧ (∀ q, q < 24 ∨ 31 ≤ q → σ'.1 q = σ.1 q) ∧ σ'.1 24 0 = nI (n + 1) ∧ ∀ w, w < 6 → ∀ q, q ≤ n → σ'.1 (25 + w) q = if q < c then σ.1 (25 + w) q else if q = c then xs w else σ.1 (25 + w) (q - 1) := by
  obtain ⟨σ', t1, t2, t3, t4, t5⟩ := c_insL h5 (show c < 40 by omega) hn (n - c) 10000 σ (by omega) (by omega) h (fun q hq => hf q (by omega))
  refine ⟨σ', ?_, t2, t3, t4, fun w hw q hq => ?_⟩
  · unfold f_X3_insert
    rw [h, if_neg (show ¬ (40 : Int32) ≤ nI n from nI_ge (b := 40) hn (by omega)), if_neg (nI_pos (by omega)), if_pos (show nI c ≤ nI n by rw [le_nI (by omega) (by omega)]; exact hc), nm_q]
    rw [show c + (n - c) = n by omega] at t1
    exact t1
  · rw [t5 w hw q]
    by_cases z : q < c
    · rw [if_pos (by omega), if_pos z]
    · rw [if_neg (by omega), if_neg z]
theorem c_remL {m : Nat} {a : Int32} (hm : m ≤ 40) : ∀ (d k n : Nat) (σ : St), k + d + 1 = m → d < n → σ.1 24 0 = nI m → (∀ q, q < m → σ.1 30 q = 0 ∨ σ.1 30 q = 1) →
    ∃ σ', f_X3_remove_b11 a n σ (nI k) = some σ' ∧ σ'.2 = σ.2 ∧ (∀ q, q < 24 ∨ 31 ≤ q → σ'.1 q = σ.1 q) ∧ σ'.1 24 0 = nI (m - 1) ∧ ∀ w, w < 6 → ∀ q, q + 1 < m → σ'.1 (25 + w) q = if q < k then σ.1 (25 + w) q else σ.1 (25 + w) (q + 1)
  | 0, k, n, σ, h1, h2, h3, h4 => by
    obtain ⟨n, rfl⟩ : ∃ m, n = m + 1 := ⟨n - 1, by omega⟩
    have e1 : nI m - 1 = nI (m - 1) := by
      obtain ⟨p, rfl⟩ : ∃ p, m = p + 1 := ⟨m - 1, by omega⟩
      rw [← nI_1]; exact Int32.add_sub_cancel _ _
    refine ⟨upI σ 24 0 (nI (m - 1)), ?_, rfl, fun q hq => up_k (by omega), up_s, fun w hw q hq => ?_⟩
    · rw [f_X3_remove_b11, h3, e1, if_pos (show nI (m - 1) ≤ nI k by rw [le_nI (by omega) (by omega)]; omega), nm_q]
    · rw [up_k (by omega), if_pos (by omega)]
  | d + 1, k, n, σ, h1, h2, h3, h4 => by
    obtain ⟨n, rfl⟩ : ∃ m, n = m + 1 := ⟨n - 1, by omega⟩
    have e1 : nI m - 1 = nI (m - 1) := by
      obtain ⟨p, rfl⟩ : ∃ p, m = p + 1 := ⟨m - 1, by omega⟩
      rw [← nI_1]; exact Int32.add_sub_cancel _ _
    obtain ⟨σ', t1, t2, t3, t4, t5⟩ := c_remL hm (a := a) d (k + 1) n (cpS σ (k + 1) k) (by omega) (by omega) (by rw [cp_c (by omega)]; exact h3) (fun q hq => by
      rw [cp_w (w := 5) (by decide)]
      by_cases z : q = k
      · rw [z, put_s]; exact h4 _ (by omega)
      · rw [put_n z]; exact h4 q hq)
    refine ⟨σ', ?_, t2, fun q hq => by rw [t3 q hq, cp_c (by omega)], t4, fun w hw q hq => ?_⟩
    · rw [f_X3_remove_b11, h3, e1, if_neg (show ¬ nI (m - 1) ≤ nI k by rw [le_nI (by omega) (by omega)]; omega), nI_1]
      refine ob (c_copy rfl rfl (by omega) (by omega) (h4 _ (by omega))) ?_
      rw [nm_q]
      exact t1
    · rw [t5 w hw q hq, cp_w hw]
      by_cases z1 : q < k
      · rw [if_pos (by omega), if_pos z1, put_n (by omega)]
      rw [if_neg z1]
      by_cases z2 : q = k
      · rw [if_pos (by omega), z2, put_s]
      · rw [if_neg (by omega), put_n (by omega)]
theorem c_remove {σ : St} {c n : Nat} (hn : n ≤ 40) (hc : c < n) (h : σ.1 24 0 = nI n) (hf : ∀ q, q < n → σ.1 30 q = 0 ∨ σ.1 30 q = 1) :
    ∃ σ', f_X3_remove σ (nI c) = some σ' ∧ σ'.2 = σ.2 ∧ (∀ q, q < 24 ∨ 31 ≤ q → σ'.1 q = σ.1 q) ∧ σ'.1 24 0 = nI (n - 1) ∧ ∀ w, w < 6 → ∀ q, q + 1 < n → σ'.1 (25 + w) q = if q < c then σ.1 (25 + w) q else σ.1 (25 + w) (q + 1) := by
  obtain ⟨σ', t1, t2⟩ := c_remL hn (a := nI c) (n - 1 - c) c 10000 σ (by omega) (by omega) h hf
  refine ⟨σ', ?_, t2⟩
  unfold f_X3_remove f_X3_has
  rw [h, if_neg (nI_pos (by omega)), if_neg (nI_ge hc (by omega)), if_neg bt0]
  exact t1
/-! counts: the checks -/
def atC (R : Nat → Int32) (s i : Int32) (c : Nat) : Prop := ct R c 0 = s ∧ ct R c 1 = i
theorem c_isAtC {σ : St} {R : Nat → Int32} (hC : ClsC σ R) {c : Nat} (hc : c < nC R) (hn : nC R ≤ 40) (s i : Int32) : (atC R s i c ∧ f_X3_isAt σ (nI c) s i = some true) ∨ (¬ atC R s i c ∧ f_X3_isAt σ (nI c) s i = some false) := by
  unfold f_X3_isAt
  rw [rd_at c rfl (by omega) (by decide), rd_at c rfl (by omega) (by decide), show σ.1 25 c = ct R c 0 from hC.2 c hc 0 (by decide), show σ.1 26 c = ct R c 1 from hC.2 c hc 1 (by decide)]
  simp only [Option.bind_some]
  by_cases z1 : ct R c 0 = s
  · rw [if_pos z1]
    by_cases z2 : ct R c 1 = i
    · rw [if_pos z2]; exact Or.inl ⟨⟨z1, z2⟩, rfl⟩
    · rw [if_neg z2]; exact Or.inr ⟨fun h => z2 h.2, rfl⟩
  · rw [if_neg z1]; exact Or.inr ⟨fun h => z1 h.1, rfl⟩
theorem c_countedAt {σ : St} {R : Nat → Int32} (hC : ClsC σ R) (hN : RowN R) (s i t : Int32) : ∃ b, f_X3_isCountedAt σ s i t = some b ∧ (b = true ↔ ∃ c, c < nC R ∧ atC R s i c ∧ ct R c 2 = t) := by
  have hn := hN.2.2.2.1
  have main : ∀ (d k n : Nat), k + d = nC R → d < n → ∃ b, f_X3_isCountedAt_b3 σ s i t n (nI k) = some b ∧ (b = true ↔ ∃ c, k ≤ c ∧ c < nC R ∧ atC R s i c ∧ ct R c 2 = t) := by
    intro d
    induction d with
    | zero =>
      intro k n h1 h2
      obtain ⟨n, rfl⟩ : ∃ m, n = m + 1 := ⟨n - 1, by omega⟩
      refine ⟨false, ?_, ⟨fun h => absurd h (by decide), fun ⟨c, h3, h4, _⟩ => by omega⟩⟩
      rw [f_X3_isCountedAt_b3, hC.1, hn.1, if_pos (show nI (nC R) ≤ nI k by rw [le_nI (by omega) (by omega)]; omega)]
    | succ d ih =>
      intro k n h1 h2
      obtain ⟨n, rfl⟩ : ∃ m, n = m + 1 := ⟨n - 1, by omega⟩
      obtain ⟨b, b1, b2⟩ := ih (k + 1) n (by omega) (by omega)
      have next : ¬ (atC R s i k ∧ ct R k 2 = t) → f_X3_isCountedAt_b3 σ s i t (n + 1) (nI k) = f_X3_isCountedAt_b3 σ s i t n (nI (k + 1)) → ∃ b, f_X3_isCountedAt_b3 σ s i t (n + 1) (nI k) = some b ∧ (b = true ↔ ∃ c, k ≤ c ∧ c < nC R ∧ atC R s i c ∧ ct R c 2 = t) := fun z e => by
        refine ⟨b, e.trans b1, b2.trans ⟨fun ⟨c, q1, q2⟩ => ⟨c, by omega, q2⟩, fun ⟨c, q1, q2, q3⟩ => ?_⟩⟩
        by_cases y : c = k
        · subst y; exact absurd q3 z
        · exact ⟨c, by omega, q2, q3⟩
      rcases c_isAtC hC (show k < nC R by omega) hn.2 s i with ⟨z, e⟩ | ⟨z, e⟩
      · by_cases z2 : ct R k 2 = t
        · refine ⟨true, ?_, ⟨fun _ => ⟨k, Nat.le_refl _, by omega, z, z2⟩, fun _ => rfl⟩⟩
          rw [f_X3_isCountedAt_b3, hC.1, hn.1, if_neg (nI_ge (show k < nC R by omega) (by omega)), e]
          simp only [Option.bind_some]
          rw [if_neg bt0, rd_at k rfl (by omega) (by decide), show σ.1 27 k = ct R k 2 from hC.2 k (by omega) 2 (by decide)]
          simp only [Option.bind_some]
          rw [if_pos z2]
        · refine next (fun y => z2 y.2) ?_
          rw [f_X3_isCountedAt_b3, hC.1, hn.1, if_neg (nI_ge (show k < nC R by omega) (by omega)), e]
          simp only [Option.bind_some]
          rw [if_neg bt0, rd_at k rfl (by omega) (by decide), show σ.1 27 k = ct R k 2 from hC.2 k (by omega) 2 (by decide)]
          simp only [Option.bind_some]
          rw [if_neg z2, nm_q, nI_1]
      · refine next (fun y => z y.1) ?_
        rw [f_X3_isCountedAt_b3, hC.1, hn.1, if_neg (nI_ge (show k < nC R by omega) (by omega)), e]
        simp only [Option.bind_some]
        rw [if_pos bf0, nm_q, nI_1]
  obtain ⟨b, b1, b2⟩ := main (nC R) 0 10000 (by omega) (by omega)
  exact ⟨b, b1, b2.trans ⟨fun ⟨c, _, q⟩ => ⟨c, q⟩, fun ⟨c, q⟩ => ⟨c, Nat.zero_le _, q⟩⟩⟩
def pbC (R : Nat → Int32) (s i t : Int32) (c : Nat) : Prop := atC R s i c ∧ ¬ ct R c 5 = 0 ∧ ¬ ct R c 2 ≤ t
theorem c_postedBehind {σ : St} {R : Nat → Int32} (hC : ClsC σ R) (hN : RowN R) (s i t : Int32) : ∃ b, f_X3_isPostedBehind σ s i t = some b ∧ (b = true ↔ ∃ c, c < nC R ∧ pbC R s i t c) := by
  have hn := hN.2.2.2.1
  have main : ∀ (d k n : Nat), k + d = nC R → d < n → ∃ b, f_X3_isPostedBehind_b3 σ s i t n (nI k) = some b ∧ (b = true ↔ ∃ c, k ≤ c ∧ c < nC R ∧ pbC R s i t c) := by
    intro d
    induction d with
    | zero =>
      intro k n h1 h2
      obtain ⟨n, rfl⟩ : ∃ m, n = m + 1 := ⟨n - 1, by omega⟩
      refine ⟨false, ?_, ⟨fun h => absurd h (by decide), fun ⟨c, h3, h4, _⟩ => by omega⟩⟩
      rw [f_X3_isPostedBehind_b3, hC.1, hn.1, if_pos (show nI (nC R) ≤ nI k by rw [le_nI (by omega) (by omega)]; omega)]
    | succ d ih =>
      intro k n h1 h2
      obtain ⟨n, rfl⟩ : ∃ m, n = m + 1 := ⟨n - 1, by omega⟩
      obtain ⟨b, b1, b2⟩ := ih (k + 1) n (by omega) (by omega)
      have next : ¬ pbC R s i t k → f_X3_isPostedBehind_b3 σ s i t (n + 1) (nI k) = f_X3_isPostedBehind_b3 σ s i t n (nI (k + 1)) → ∃ b, f_X3_isPostedBehind_b3 σ s i t (n + 1) (nI k) = some b ∧ (b = true ↔ ∃ c, k ≤ c ∧ c < nC R ∧ pbC R s i t c) := fun z e => by
        refine ⟨b, e.trans b1, b2.trans ⟨fun ⟨c, q1, q2⟩ => ⟨c, by omega, q2⟩, fun ⟨c, q1, q2, q3⟩ => ?_⟩⟩
        by_cases y : c = k
        · subst y; exact absurd q3 z
        · exact ⟨c, by omega, q2, q3⟩
      rcases c_isAtC hC (show k < nC R by omega) hn.2 s i with ⟨z, e⟩ | ⟨z, e⟩
      · by_cases z2 : ct R k 5 = 0
        · refine next (fun y => y.2.1 z2) ?_
          rw [f_X3_isPostedBehind_b3, hC.1, hn.1, if_neg (nI_ge (show k < nC R by omega) (by omega)), e]
          simp only [Option.bind_some]
          rw [if_neg bt0, rd_at k rfl (by omega) (by decide), show σ.1 30 k = ct R k 5 from hC.2 k (by omega) 5 (by decide)]
          simp only [Option.bind_some]
          rw [if_pos z2, nm_q, nI_1]
        · by_cases z3 : ct R k 2 ≤ t
          · refine next (fun y => y.2.2 z3) ?_
            rw [f_X3_isPostedBehind_b3, hC.1, hn.1, if_neg (nI_ge (show k < nC R by omega) (by omega)), e]
            simp only [Option.bind_some]
            rw [if_neg bt0, rd_at k rfl (by omega) (by decide), rd_at k rfl (by omega) (by decide), show σ.1 30 k = ct R k 5 from hC.2 k (by omega) 5 (by decide), show σ.1 27 k = ct R k 2 from hC.2 k (by omega) 2 (by decide)]
            simp only [Option.bind_some]
            rw [if_neg z2, if_pos z3, nm_q, nI_1]
          · refine ⟨true, ?_, ⟨fun _ => ⟨k, Nat.le_refl _, by omega, z, z2, z3⟩, fun _ => rfl⟩⟩
            rw [f_X3_isPostedBehind_b3, hC.1, hn.1, if_neg (nI_ge (show k < nC R by omega) (by omega)), e]
            simp only [Option.bind_some]
            rw [if_neg bt0, rd_at k rfl (by omega) (by decide), rd_at k rfl (by omega) (by decide), show σ.1 30 k = ct R k 5 from hC.2 k (by omega) 5 (by decide), show σ.1 27 k = ct R k 2 from hC.2 k (by omega) 2 (by decide)]
            simp only [Option.bind_some]
            rw [if_neg z2, if_neg z3]
      · refine next (fun y => z y.1) ?_
        rw [f_X3_isPostedBehind_b3, hC.1, hn.1, if_neg (nI_ge (show k < nC R by omega) (by omega)), e]
        simp only [Option.bind_some]
        rw [if_pos bf0, nm_q, nI_1]
  obtain ⟨b, b1, b2⟩ := main (nC R) 0 10000 (by omega) (by omega)
  exact ⟨b, b1, b2.trans ⟨fun ⟨c, _, q⟩ => ⟨c, q⟩, fun ⟨c, q⟩ => ⟨c, Nat.zero_le _, q⟩⟩⟩
