/-! feed -/
theorem sh_c : ∀ q, q < 4 → ((nI (24 - 8 * q) &&& 31).toBitVec.smod 32).toNat = 24 - 8 * q := by decide
theorem sh_m : ∀ q, q < 4 → (((nI (24 - 8 * q)).toUInt32 &&& Int32.toUInt32 31).toBitVec % 32).toNat = 24 - 8 * q := by decide
theorem low8 (a : Int32) {q : Nat} (hq : q < 4) : (a >>> (nI (24 - 8 * q) &&& 31)).toInt8 = ((a.toUInt32 >>> ((nI (24 - 8 * q)).toUInt32 &&& Int32.toUInt32 31)).toInt32).toInt8 := by
  apply Int8.toBitVec_inj.mp
  rw [Int32.toBitVec_toInt8, Int32.toBitVec_toInt8, Int32.toBitVec_shiftRight, BitVec.sshiftRight_eq', sh_c q hq]
  show _ = BitVec.signExtend 8 ((a.toUInt32 >>> ((nI (24 - 8 * q)).toUInt32 &&& Int32.toUInt32 31)).toBitVec)
  rw [UInt32.toBitVec_shiftRight, BitVec.ushiftRight_eq', sh_m q hq]
  show BitVec.signExtend 8 (a.toBitVec.sshiftRight (24 - 8 * q)) = BitVec.signExtend 8 (a.toBitVec >>> (24 - 8 * q))
  rw [BitVec.signExtend_eq_setWidth_of_le _ (by decide), BitVec.signExtend_eq_setWidth_of_le _ (by decide)]
  apply BitVec.eq_of_getLsbD_eq
  intro i hi
  rw [BitVec.getLsbD_setWidth, BitVec.getLsbD_setWidth, BitVec.getLsbD_sshiftRight, BitVec.getLsbD_ushiftRight, if_pos (by omega), decide_eq_false (show ¬ 32 ≤ i by omega)]
  rfl
theorem b255 : ∀ i, i < 8 → (255#32).getLsbD i = true := by decide
theorem and8 (x : Int32) : (x &&& 255).toInt8 = x.toInt8 := by
  apply Int8.toBitVec_inj.mp
  rw [Int32.toBitVec_toInt8, Int32.toBitVec_toInt8, Int32.toBitVec_and]
  show BitVec.signExtend 8 (x.toBitVec &&& 255#32) = _
  rw [BitVec.signExtend_eq_setWidth_of_le _ (by decide), BitVec.signExtend_eq_setWidth_of_le _ (by decide)]
  apply BitVec.eq_of_getLsbD_eq
  intro i hi
  rw [BitVec.getLsbD_setWidth, BitVec.getLsbD_setWidth, BitVec.getLsbD_and, b255 i hi, Bool.and_true]
def bC (a : Int32) (q : Nat) : Int32 := vp_nar .byte ((a >>> (nI (24 - 8 * q) &&& 31)).toInt8.toInt32)
def bM (a : Int32) (q : Nat) : Int32 := ((a.toUInt32 >>> ((nI (24 - 8 * q)).toUInt32 &&& Int32.toUInt32 31)).toInt32) &&& 255
def Rel (x y : Int32) : Prop := ∃ v, v < 256 ∧ x = nI v ∧ y = (nI v).toInt8.toInt32
theorem rel_b (a : Int32) {q : Nat} (hq : q < 4) : Rel (bM a q) (bC a q) := by
  have e : bM a q = nI (((a.toUInt32 >>> ((nI (24 - 8 * q)).toUInt32 &&& Int32.toUInt32 31)).toInt32).toBitVec.toNat % 2 ^ 8) := pk_and _ 8 (by decide)
  refine ⟨_, Nat.mod_lt _ (by decide), e, ?_⟩
  unfold bC
  rw [pk_vb, low8 a hq, ← e]
  unfold bM
  rw [and8]
/-- m numbers were laid behind the first n -/
def Ext (k l s : Nat) (σ τ : St) (n m : Nat) (f : Nat → Int32) : Prop := τ.2 = σ.2 ∧ (∀ c, c ≠ k → c ≠ l → τ.1 c = σ.1 c) ∧ (∀ q, q ≠ s → τ.1 l q = σ.1 l q) ∧ τ.1 l s = nI (n + m) ∧ (∀ j, j < n → τ.1 k j = σ.1 k j) ∧ ∀ q, q < m → τ.1 k (n + q) = f q
def cat (m : Nat) (f g : Nat → Int32) : Nat → Int32 := fun q => if q < m then f q else g (q - m)
theorem Ext.trans {k l s : Nat} {σ τ ρ : St} {n m m' : Nat} {f g : Nat → Int32} (h1 : Ext k l s σ τ n m f) (h2 : Ext k l s τ ρ (n + m) m' g) : Ext k l s σ ρ n (m + m') (cat m f g) := by
  obtain ⟨a1, a2, a3, a4, a5, a6⟩ := h1
  obtain ⟨b1, b2, b3, b4, b5, b6⟩ := h2
  refine ⟨b1.trans a1, fun c x y => (b2 c x y).trans (a2 c x y), fun q x => (b3 q x).trans (a3 q x), by rw [b4]; exact congrArg nI (by omega), fun j hj => (b5 j (by omega)).trans (a5 j hj), fun q hq => ?_⟩
  unfold cat
  by_cases z : q < m
  · rw [if_pos z, b5 _ (by omega), a6 q z]
  · rw [if_neg z, show n + q = n + m + (q - m) by omega, b6 _ (by omega)]
theorem rel_cat {m m' : Nat} {f g f' g' : Nat → Int32} (h1 : ∀ q, q < m → Rel (f q) (f' q)) (h2 : ∀ q, q < m' → Rel (g q) (g' q)) : ∀ q, q < m + m' → Rel (cat m f g q) (cat m f' g' q) := fun q hq => by
  unfold cat
  by_cases z : q < m
  · rw [if_pos z, if_pos z]; exact h1 q z
  · rw [if_neg z, if_neg z]; exact h2 _ (by omega)
def w1 (σ : St) (k l s n : Nat) (x : Int32) : St := upI (upI σ k n x) l s (nI (n + 1))
theorem ext1 {σ : St} {k l s n : Nat} {x : Int32} {f : Nat → Int32} (hk : k ≠ l) (hf : f 0 = x) : Ext k l s σ (w1 σ k l s n x) n 1 f := by
  unfold w1
  refine ⟨rfl, fun c h1 h2 => by rw [up_k h2, up_k h1], fun q hq => by rw [up_j hq, up_k (Ne.symm hk)], up_s, fun j hj => by rw [up_k hk, up_j (by omega)], fun q hq => ?_⟩
  rw [show q = 0 by omega, up_k hk, hf]
  exact up_s
theorem ext4 {σ : St} {k l s n : Nat} {f : Nat → Int32} (hk : k ≠ l) : Ext k l s σ (w1 (w1 (w1 (w1 σ k l s n (f 0)) k l s (n + 1) (f 1)) k l s (n + 2) (f 2)) k l s (n + 3) (f 3)) n 4 f := by
  have h := (((ext1 (σ := σ) (s := s) (n := n) (f := fun _ => f 0) hk rfl).trans (ext1 (s := s) (n := n + 1) (f := fun _ => f 1) hk rfl)).trans (ext1 (s := s) (n := n + 2) (f := fun _ => f 2) hk rfl)).trans (ext1 (s := s) (n := n + 3) (f := fun _ => f 3) hk rfl)
  obtain ⟨a1, a2, a3, a4, a5, a6⟩ := h
  refine ⟨a1, a2, a3, a4, a5, fun q hq => ?_⟩
  rw [a6 q hq]
  unfold cat
  rcases (show q = 0 ∨ q = 1 ∨ q = 2 ∨ q = 3 by omega) with rfl | rfl | rfl | rfl <;> rfl
theorem w1_l {σ : St} {k l s n : Nat} {x : Int32} : (w1 σ k l s n x).1 l s = nI (n + 1) := up_s
theorem app_step {a : Int32} {σ : St} {n q fu : Nat} (h : σ.1 2 0 = nI n) (hn : n < 640) (hq : q < 4) {x : Int32} (hx : x = nI (24 - 8 * q)) : f_X6_append_b3 a (fu + 1) σ x = f_X6_append_b3 a fu (w1 σ 3 2 0 n (bC a q)) (x + -8) := by
  rw [f_X6_append_b3, if_neg (show ¬ x < 0 by rw [hx]; exact nI_pos (by omega)), h, if_neg (show ¬ (640 : Int32) ≤ nI n from nI_ge (b := 640) hn (by omega)), wr_at n rfl (by omega) (by decide), Option.bind_some, nm_q, nm_q, up_k (by decide), h, nI_1, hx]
  rfl
theorem c_app {σ : St} {n : Nat} (h : σ.1 2 0 = nI n) (hn : n + 4 ≤ 640) (a : Int32) : ∃ σ', f_X6_append σ a = some σ' ∧ Ext 3 2 0 σ σ' n 4 (bC a) := by
  refine ⟨_, ?_, ext4 (by decide)⟩
  unfold f_X6_append
  rw [show (10000 : Nat) = 9995 + 1 + 1 + 1 + 1 + 1 from rfl, app_step (q := 0) (x := 24) h (by omega) (by decide) rfl, app_step (q := 1) w1_l (by omega) (by decide) (by decide), app_step (q := 2) w1_l (by omega) (by decide) (by decide), app_step (q := 3) w1_l (by omega) (by decide) (by decide), f_X6_append_b3, if_pos (show (24 : Int32) + -8 + -8 + -8 + -8 < 0 by decide)]
theorem lay_step {a : Int32} {σ : St} {n q fu : Nat} (h : σ.1 50 2 = nI n) (hn : n < 640) (hq : q < 4) {x : Int32} (hx : x = nI (24 - 8 * q)) : f_X9_lays_b3 a (fu + 1) σ x = f_X9_lays_b3 a fu (w1 σ 51 50 2 n (bM a q)) (x + -8) := by
  rw [f_X9_lays_b3, if_neg (show ¬ x < 0 by rw [hx]; exact nI_pos (by omega)), h, wr_at n rfl (by omega) (by decide), Option.bind_some, nm_q, nm_q, up_k (by decide), h, nI_1, hx]
  rfl
theorem m_lay {σ : St} {n : Nat} (h : σ.1 50 2 = nI n) (hn : n + 4 ≤ 640) (a : Int32) : ∃ σ', f_X9_lays σ a = some σ' ∧ Ext 51 50 2 σ σ' n 4 (bM a) := by
  refine ⟨_, ?_, ext4 (by decide)⟩
  unfold f_X9_lays
  rw [show (10000 : Nat) = 9995 + 1 + 1 + 1 + 1 + 1 from rfl, lay_step (q := 0) (x := 24) h (by omega) (by decide) rfl, lay_step (q := 1) w1_l (by omega) (by decide) (by decide), lay_step (q := 2) w1_l (by omega) (by decide) (by decide), lay_step (q := 3) w1_l (by omega) (by decide) (by decide), f_X9_lays_b3, if_pos (show (24 : Int32) + -8 + -8 + -8 + -8 < 0 by decide)]
theorem s_feed : S_feed Inv := by
  intro σ hI a1 a2 a3 a4 a5
  obtain ⟨n, hn, t1, t2, t3⟩ := hI.2.2.2.1
  have hb : Inv (upI σ 50 0 0) := hI.keep (sm0 σ 0)
  unfold f_X8_feed f_X6_hasRoom
  rw [t1]
  by_cases z : 620 < n
  · rw [if_pos (show (620 : Int32) < nI n from (nI_ltI (a := 620) (by omega) (by omega)).mpr z), if_pos bf0]
    refine ⟨_, _, upI σ 50 0 0, rfl, ?_, hb⟩
    unfold f_X9_feed
    rw [nm_q, up_j (by decide), t2, if_neg (show ¬ nI n + 20 ≤ 640 by
      rw [show nI n + 20 = nI (n + 20) from nI_add n 20]
      exact fun y => by
        have := (nI_leI (b := 640) (by omega) (by omega)).mp y
        omega)]
  · rw [if_neg (show ¬ (620 : Int32) < nI n from fun y => z ((nI_ltI (a := 620) (by omega) (by omega)).mp y)), if_neg bt0]
    obtain ⟨s1, p1, x1⟩ := c_app t1 (by omega) a1
    obtain ⟨s2, p2, x2⟩ := c_app x1.2.2.2.1 (by omega) a2
    obtain ⟨s3, p3, x3⟩ := c_app x2.2.2.2.1 (by omega) a3
    obtain ⟨s4, p4, x4⟩ := c_app x3.2.2.2.1 (by omega) a4
    obtain ⟨s5, p5, x5⟩ := c_app x4.2.2.2.1 (by omega) a5
    have X := (((x1.trans x2).trans x3).trans x4).trans x5
    have h50 : s5.1 50 = σ.1 50 := X.2.1 50 (by decide) (by decide)
    obtain ⟨r1, q1, y1⟩ := m_lay (σ := upI s5 50 0 0) (n := n) (by rw [up_j (by decide), h50]; exact t2) (by omega) a1
    obtain ⟨r2, q2, y2⟩ := m_lay y1.2.2.2.1 (by omega) a2
    obtain ⟨r3, q3, y3⟩ := m_lay y2.2.2.2.1 (by omega) a3
    obtain ⟨r4, q4, y4⟩ := m_lay y3.2.2.2.1 (by omega) a4
    obtain ⟨r5, q5, y5⟩ := m_lay y4.2.2.2.1 (by omega) a5
    have Y := (((y1.trans y2).trans y3).trans y4).trans y5
    have rel := rel_cat (rel_cat (rel_cat (rel_cat (m := 4) (m' := 4) (fun q hq => rel_b a1 hq) (fun q hq => rel_b a2 hq)) (fun q hq => rel_b (q := q) a3 hq) (m' := 4)) (fun q hq => rel_b (q := q) a4 hq) (m' := 4)) (fun q hq => rel_b (q := q) a5 hq) (m' := 4)
    refine ⟨nI (n + (4 + 4 + 4 + 4 + 4)), s5, r5, ob p1 (ob p2 (ob p3 (ob p4 (ob p5 ?_)))), ?_, ?_⟩
    · rw [X.2.2.2.1]
    · unfold f_X9_feed
      rw [nm_q, up_j (b := 2) (by decide), h50, t2, if_pos (show nI n + 20 ≤ 640 by
        rw [show nI n + 20 = nI (n + 20) from nI_add n 20]
        exact (nI_leI (b := 640) (by omega) (by omega)).mpr (by omega))]
      refine ob q1 (ob q2 (ob q3 (ob q4 (ob q5 ?_))))
      rw [Y.2.2.2.1]
    · have oc : ∀ c, c ≠ 2 → c ≠ 3 → c ≠ 50 → c ≠ 51 → r5.1 c = σ.1 c := fun c e1 e2 e3 e4 => by
        rw [Y.2.1 c e4 e3, up_k e3, X.2.1 c e2 e1]
      refine hI.tp (Y.1.trans X.1) (fun c hc => oc c (by omega) (by omega) (by omega) (by omega)) (by rw [oc 1 (by decide) (by decide) (by decide) (by decide)]) ?_ ?_ ⟨n + (4 + 4 + 4 + 4 + 4), by omega, ?_, Y.2.2.2.1, fun j hj => ?_⟩
      · rw [Y.2.2.1 8 (by decide), up_j (by decide), h50]
      · rw [Y.2.2.1 14 (by decide), up_j (by decide), h50]
      · rw [Y.2.1 2 (by decide) (by decide), up_k (by decide)]; exact X.2.2.2.1
      · have e3 : r5.1 3 = s5.1 3 := by rw [Y.2.1 3 (by decide) (by decide), up_k (by decide)]
        rw [e3]
        by_cases w : j < n
        · rw [Y.2.2.2.2.1 j w, X.2.2.2.2.1 j w, up_k (by decide), X.2.1 51 (by decide) (by decide)]
          exact t3 j w
        · obtain ⟨q, rfl⟩ : ∃ q, j = n + q := ⟨j - n, by omega⟩
          rw [Y.2.2.2.2.2 q (by omega), X.2.2.2.2.2 q (by omega)]
          exact rel q (by omega)
