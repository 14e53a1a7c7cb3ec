/-! moves -/
theorem nm_q {α β : Type} (a : α) (f : α → β) : nm a f = f a := rfl
theorem isG.ne {g c d : Nat} (hg : isG g) (h : 24 ≤ c ∨ c < 6) (hd : d < 9) : c ≠ g + d := by
  rcases hg with rfl | rfl <;> omega
theorem in_u (a : Int32) (lo hi : Nat) (hl : lo ≤ 100000) (h : hi ≤ 100000) : (∃ v, lo ≤ v ∧ v ≤ hi ∧ a = nI v ∧ ¬ a < nI lo ∧ a ≤ nI hi ∧ ∀ σ, f_X9_isIn σ a (nI lo) (nI hi) = true) ∨ ((a < nI lo ∨ (¬ a < nI lo ∧ ¬ a ≤ nI hi)) ∧ ∀ σ, f_X9_isIn σ a (nI lo) (nI hi) = false) := by
  have i1 := Int32.lt_iff_toInt_lt (x := a) (y := nI lo)
  have i2 := Int32.lt_iff_toInt_lt (x := nI hi) (y := a)
  have i3 := Int32.le_iff_toInt_le (x := a) (y := nI hi)
  rw [nI_toInt (by omega)] at i1 i2 i3
  by_cases z1 : a < nI lo
  · exact Or.inr ⟨Or.inl z1, fun σ => by unfold f_X9_isIn; rw [if_pos z1]⟩
  by_cases z2 : nI hi < a
  · exact Or.inr ⟨Or.inr ⟨z1, fun z => by have := i3.mp z; have := i2.mp z2; omega⟩, fun σ => by unfold f_X9_isIn; rw [if_neg z1, if_pos z2]⟩
  · have y1 : ¬ a.toInt < lo := fun z => z1 (i1.mpr z)
    have y2 : ¬ (hi : Int) < a.toInt := fun z => z2 (i2.mpr z)
    refine Or.inl ?_
    rcases ix_cases a (hi + 1) (by omega) with q | ⟨-, q⟩ | ⟨j, hj, q⟩
    · have := Int32.lt_iff_toInt_lt.mp q
      rw [show (0 : Int32).toInt = 0 from rfl] at this
      omega
    · have := Int32.le_iff_toInt_le.mp q
      rw [nI_toInt (by omega)] at this
      omega
    · refine ⟨j, ?_, by omega, q, z1, i3.mpr (by omega), fun σ => by unfold f_X9_isIn; rw [if_neg z1, if_neg z2]⟩
      rw [q, nI_toInt (by omega)] at y1
      omega
def sL (σ : St) (g k : Nat) (x y z : Int32) : St := upI (upI (upI σ (g + 6) k x) (g + 7) k y) (g + 8) k z
theorem c_setLeg {σ : St} {g k : Nat} {a x y z : Int32} (ha : a = nI k) (hk : k < 80) : f_X4_setLeg σ g a x y z = some (sL σ g k x y z) := by
  subst ha
  unfold f_X4_setLeg sL
  rw [if_neg (nI_pos (by omega)), if_neg (show ¬ (80 : Int32) ≤ nI k from nI_ge (b := 80) hk (by omega))]
  exact ob (wr_at k rfl hk (by decide)) (ob (wr_at k rfl hk (by decide)) (ob (wr_at k rfl hk (by decide)) rfl))
theorem c_removeLeg {σ : St} {g k : Nat} {a : Int32} (ha : a = nI k) (hk : k < 80) : f_X4_removeLeg σ g a = some (sL σ g k (-1) (-1) (-1)) := by
  unfold f_X4_removeLeg
  exact ob (c_setLeg ha hk) rfl
theorem leg_at {σ : St} {m d : Nat} {a b : Int32} (ha : a = nI m) (hb : b = nI d) : f_X8_legOf σ a b = nI (2 * m + d) := by
  subst ha; subst hb
  unfold f_X8_legOf
  show nI 2 * nI m + nI d = _
  rw [pk_mul, nI_add]
theorem sL_c {σ : St} {g k c : Nat} {x y z : Int32} (h : c ≠ g + 6 ∧ c ≠ g + 7 ∧ c ≠ g + 8) : (sL σ g k x y z).1 c = σ.1 c := by
  unfold sL
  rw [up_k h.2.2, up_k h.2.1, up_k h.1]
theorem sL_6 {σ : St} {g k : Nat} {x y z : Int32} : (sL σ g k x y z).1 (g + 6) = put (σ.1 (g + 6)) k x := by
  unfold sL
  rw [up_k (by omega), up_k (by omega), up_put]
theorem sL_7 {σ : St} {g k : Nat} {x y z : Int32} : (sL σ g k x y z).1 (g + 7) = put (σ.1 (g + 7)) k y := by
  unfold sL
  rw [up_k (by omega), up_put, up_k (by omega)]
theorem sL_8 {σ : St} {g k : Nat} {x y z : Int32} : (sL σ g k x y z).1 (g + 8) = put (σ.1 (g + 8)) k z := by
  unfold sL
  rw [up_put, up_k (by omega), up_k (by omega)]
def cM (σ : St) (g m : Nat) (a1 a2 : Int32) : St := upI (sL (sL (upI (upI σ (g + 4) m a1) (g + 5) m a2) g (2 * m) (-1) (-1) (-1)) g (2 * m + 1) (-1) (-1) (-1)) g 2 (nI (m + 1))
theorem c_addMove {σ : St} {g m : Nat} (h : σ.1 g 2 = nI m) (hm : m < 40) (a1 a2 : Int32) : f_X4_addMove σ g a1 a2 = some (nI m, cM σ g m a1 a2) := by
  unfold f_X4_addMove cM
  rw [h, if_pos (show nI m < 40 from (nI_ltI (b := 40) (by omega) (by omega)).mpr hm)]
  simp only [nm]
  refine ob (wr_at m rfl hm (by decide)) (ob (wr_at m rfl hm (by decide)) (ob (c_removeLeg (k := 2 * m) (leg_at (d := 0) rfl rfl) (by omega)) (ob (c_removeLeg (k := 2 * m + 1) (leg_at (d := 1) rfl rfl) (by omega)) ?_)))
  rw [sL_c (by omega), sL_c (by omega), up_k (by omega), up_k (by omega), h, nI_1]
theorem cM_c {σ : St} {g m c : Nat} {a1 a2 : Int32} (h : ∀ d, d < 9 → c ≠ g + d) : (cM σ g m a1 a2).1 c = σ.1 c := by
  have h0 : c ≠ g := h 0 (by decide)
  have h4 := h 4 (by decide)
  have h5 := h 5 (by decide)
  have h6 := h 6 (by decide)
  have h7 := h 7 (by decide)
  have h8 := h 8 (by decide)
  unfold cM
  rw [up_k h0, sL_c ⟨h6, h7, h8⟩, sL_c ⟨h6, h7, h8⟩, up_k h5, up_k h4]
theorem cM_g {σ : St} {g m : Nat} {a1 a2 : Int32} : (cM σ g m a1 a2).1 g = put (σ.1 g) 2 (nI (m + 1)) := by
  unfold cM
  rw [up_put, sL_c (by omega), sL_c (by omega), up_k (by omega), up_k (by omega)]
theorem cM_d {σ : St} {g m d : Nat} {a1 a2 : Int32} (h : d = 1 ∨ d = 2 ∨ d = 3) : (cM σ g m a1 a2).1 (g + d) = σ.1 (g + d) := by
  unfold cM
  rw [up_k (by omega), sL_c (by omega), sL_c (by omega), up_k (by omega), up_k (by omega)]
theorem cM_4 {σ : St} {g m : Nat} {a1 a2 : Int32} : (cM σ g m a1 a2).1 (g + 4) = put (σ.1 (g + 4)) m a1 := by
  unfold cM
  rw [up_k (by omega), sL_c (by omega), sL_c (by omega), up_k (by omega), up_put]
theorem cM_5 {σ : St} {g m : Nat} {a1 a2 : Int32} : (cM σ g m a1 a2).1 (g + 5) = put (σ.1 (g + 5)) m a2 := by
  unfold cM
  rw [up_k (by omega), sL_c (by omega), sL_c (by omega), up_put, up_k (by omega)]
theorem cM_6 {σ : St} {g m : Nat} {a1 a2 : Int32} : (cM σ g m a1 a2).1 (g + 6) = put (put (σ.1 (g + 6)) (2 * m) (-1)) (2 * m + 1) (-1) := by
  unfold cM
  rw [up_k (by omega), sL_6, sL_6, up_k (by omega), up_k (by omega)]
theorem cM_7 {σ : St} {g m : Nat} {a1 a2 : Int32} : (cM σ g m a1 a2).1 (g + 7) = put (put (σ.1 (g + 7)) (2 * m) (-1)) (2 * m + 1) (-1) := by
  unfold cM
  rw [up_k (by omega), sL_7, sL_7, up_k (by omega), up_k (by omega)]
theorem cM_8 {σ : St} {g m : Nat} {a1 a2 : Int32} : (cM σ g m a1 a2).1 (g + 8) = put (put (σ.1 (g + 8)) (2 * m) (-1)) (2 * m + 1) (-1) := by
  unfold cM
  rw [up_k (by omega), sL_8, sL_8, up_k (by omega), up_k (by omega)]
/-- the row with one move more -/
def rowMv (R : Nat → Int32) (m : Nat) (a1 a2 : Int32) : Nat → Int32 := fun k => if k = 2 then nI (m + 1) else if k = 45 + 10 * m then a1 else if k = 46 + 10 * m then a2 else if 45 + 10 * m ≤ k ∧ k < 55 + 10 * m then 0 else R k
theorem rowMv_o {R : Nat → Int32} {m k : Nat} {a1 a2 : Int32} (h : k ≠ 2 ∧ (k < 45 + 10 * m ∨ 55 + 10 * m ≤ k)) : rowMv R m a1 a2 k = R k := by
  unfold rowMv
  rw [if_neg h.1, if_neg (by omega), if_neg (by omega), if_neg (by omega)]
theorem rowMv_2 {R : Nat → Int32} {m : Nat} {a1 a2 : Int32} : rowMv R m a1 a2 2 = nI (m + 1) := if_pos rfl
theorem rowMv_m {R : Nat → Int32} {m : Nat} {a1 a2 : Int32} : mI (rowMv R m a1 a2) m = a1 ∧ mS (rowMv R m a1 a2) m = a2 := by
  unfold mI mS rowMv
  constructor
  · rw [if_neg (by omega), if_pos rfl]
  · rw [if_neg (by omega), if_neg (by omega), if_pos (by omega)]
theorem rowMv_l {R : Nat → Int32} {m k : Nat} {a1 a2 : Int32} (h : k / 2 = m) : lg (rowMv R m a1 a2) k 0 = 0 := by
  unfold lg rowMv
  rw [if_neg (by omega), if_neg (by omega), if_neg (by omega), if_pos (by omega)]
theorem rowMv_lo {R : Nat → Int32} {m k w : Nat} {a1 a2 : Int32} (h : k < 2 * m) (hw : w < 4) : lg (rowMv R m a1 a2) k w = lg R k w := rowMv_o (by omega)
theorem rowMv_n {R : Nat → Int32} {m : Nat} {a1 a2 : Int32} (hm : m < 40) : nM (rowMv R m a1 a2) = m + 1 := by
  unfold nM
  rw [rowMv_2, nI_clamp (by omega)]
theorem m_mv {a1 a2 : Int32} {m : Nat} (hm : m < 40) : ∀ (d q n : Nat) (σ : St), q + d = 10 → d < n → σ.1 52 2 = nI m → ∃ τ, f_X9_moves_b59 a1 a2 n σ (nI (45 + 10 * m)) (nI q) = some (nI m, τ) ∧ τ.2 = σ.2 ∧ (∀ c, c ≠ 52 → τ.1 c = σ.1 c) ∧ ∀ k, τ.1 52 k = if k = 2 then nI (m + 1) else if k = 45 + 10 * m then a1 else if k = 46 + 10 * m then a2 else if 45 + 10 * m + q ≤ k ∧ k < 55 + 10 * m then 0 else σ.1 52 k
  | 0, q, n, σ, h1, h2, h3 => by
    obtain ⟨n, rfl⟩ : ∃ m, n = m + 1 := ⟨n - 1, by omega⟩
    refine ⟨upI (upI (upI σ 52 (45 + 10 * m) a1) 52 (46 + 10 * m) a2) 52 2 (nI (m + 1)), ?_, rfl, fun c hc => by rw [up_k hc, up_k hc, up_k hc], fun k => ?_⟩
    · rw [f_X9_moves_b59, if_pos (show (10 : Int32) ≤ nI q from (nI_leI (a := 10) (by omega) (by omega)).mpr (by omega))]
      refine ob (wr_at (45 + 10 * m) (by show nI _ + nI 0 = _; rw [nI_add]; rfl) (by omega) (by decide)) (ob (wr_at (46 + 10 * m) (by rw [nI_1]; exact congrArg nI (by omega)) (by omega) (by decide)) (ob (rd_at 2 rfl (by decide) (by decide)) (ob (wr_at 2 rfl (by decide) (by decide)) (ob (rd_at 2 rfl (by decide) (by decide)) ?_))))
      rw [up_s, up_j (b := 2) (by omega), up_j (b := 2) (by omega), h3, nI_1]
      have : nI (m + 1) - 1 = nI m := by rw [← nI_1]; exact Int32.add_sub_cancel _ _
      rw [this]
    · rw [up_put, up_put, up_put]
      unfold put
      repeat' split
      all_goals first | rfl | omega
  | d + 1, q, n, σ, h1, h2, h3 => by
    obtain ⟨n, rfl⟩ : ∃ m, n = m + 1 := ⟨n - 1, by omega⟩
    obtain ⟨τ, t1, t2, t3, t4⟩ := m_mv hm d (q + 1) n (upI σ 52 (45 + 10 * m + q) 0) (by omega) (by omega) (by rw [up_j (by omega)]; exact h3)
    refine ⟨τ, ?_, t2, fun c hc => by rw [t3 c hc, up_k hc], fun k => ?_⟩
    · rw [f_X9_moves_b59, if_neg (show ¬ (10 : Int32) ≤ nI q from nI_ge (b := 10) (by omega) (by omega))]
      refine ob (wr_at (45 + 10 * m + q) (by rw [nI_add]) (by omega) (by decide)) ?_
      simp only [nm]
      rw [nI_1]
      exact t1
    · rw [t4 k, up_put]
      unfold put
      repeat' split
      all_goals first | rfl | omega
theorem ok_mv {R : Nat → Int32} (h : RowOk R) {m i v : Nat} (hm : R 2 = nI m) (hm4 : m < 40) (hi : i < nT R) (h1 : 1 ≤ v) (h2 : v ≤ 99) : RowOk (rowMv R m (nI i) (nI v)) := by
  have hn : nM R = m := by unfold nM; rw [hm, nI_clamp (by omega)]
  have e0 : rowMv R m (nI i) (nI v) 0 = R 0 := rowMv_o (by omega)
  have e1 : rowMv R m (nI i) (nI v) 1 = R 1 := rowMv_o (by omega)
  refine h.goods e0 e1 ⟨by rw [rowMv_n hm4, rowMv_2], by rw [rowMv_n hm4]; omega⟩ (fun q hq => ?_) (fun k hk => ?_) (h.2.2.2.1.ag h.1 e0 e1 (fun k hk => rowMv_o (by omega))) (fun k hk => rowMv_o (by omega)) (fun k hk => rowMv_o (by omega))
  · rw [rowMv_n hm4] at hq
    rw [ag_nT e1]
    by_cases z : q = m
    · rw [z, rowMv_m.1, rowMv_m.2]
      exact ⟨⟨i, hi, rfl⟩, v, h1, h2, rfl⟩
    · have a1 : mI (rowMv R m (nI i) (nI v)) q = mI R q := rowMv_o (by omega)
      have a2 : mS (rowMv R m (nI i) (nI v)) q = mS R q := rowMv_o (by omega)
      rw [a1, a2]
      exact h.2.1 q (by omega)
  · rw [rowMv_n hm4] at hk
    rw [ag_nS e0]
    by_cases z : k < 2 * m
    · rw [rowMv_lo z (by decide), rowMv_lo z (by decide), rowMv_lo z (by decide), rowMv_lo z (by decide)]
      exact h.2.2.1 k (by omega)
    · exact Or.inl (rowMv_l (by omega))
theorem cls_mv {σ : St} {g m : Nat} {R : Nat → Int32} {a1 a2 : Int32} (hN : RowN R) (hm : R 2 = nI m) (hm4 : m < 40) (h : ClsG σ g R) : ClsG (cM σ g m a1 a2) g (rowMv R m a1 a2) := by
  have hn : nM R = m := by unfold nM; rw [hm, nI_clamp (by omega)]
  have b0 := hN.1.2.2
  have b1 := hN.2.1.2
  have e0 : rowMv R m a1 a2 0 = R 0 := rowMv_o (by omega)
  have e1 : rowMv R m a1 a2 1 = R 1 := rowMv_o (by omega)
  obtain ⟨⟨g0, g1, g2⟩, g3, g4, g5, g6⟩ := h
  unfold ClsG
  rw [ag_nS e0, ag_nT e1, rowMv_n hm4, cM_g, cM_d (by omega), cM_d (by omega), cM_d (by omega), cM_4, cM_5, cM_6, cM_7, cM_8]
  refine ⟨⟨?_, ?_, ?_⟩, fun i hi => ?_, fun s i hs hi => ?_, fun q hq => ?_, fun k hk => ?_⟩
  · rw [put_n (by decide), e0]; exact g0
  · rw [put_n (by decide), e1]; exact g1
  · rw [put_s, rowMv_2]
  · rw [rowMv_o (by omega), rowMv_o (by omega)]; exact g3 i hi
  · rw [rowMv_o (by omega)]; exact g4 s i hs hi
  · by_cases z : q = m
    · rw [z, rowMv_m.1, rowMv_m.2, put_s, put_s]; exact ⟨rfl, rfl⟩
    · have c1 : mI (rowMv R m a1 a2) q = mI R q := rowMv_o (by omega)
      have c2 : mS (rowMv R m a1 a2) q = mS R q := rowMv_o (by omega)
      rw [c1, c2, put_n z, put_n z]
      exact g5 q (by omega)
  · by_cases z : k < 2 * m
    · rw [rowMv_lo z (by decide), rowMv_lo z (by decide), rowMv_lo z (by decide), rowMv_lo z (by decide), put_n (by omega), put_n (by omega), put_n (by omega), put_n (by omega), put_n (by omega), put_n (by omega)]
      exact g6 k (by omega)
    · refine Or.inr ⟨rowMv_l (by omega), ?_⟩
      by_cases y : k = 2 * m + 1
      · rw [y, put_s, put_s, put_s]; exact ⟨rfl, rfl, rfl⟩
      · rw [put_n y, put_n y, put_n y, show k = 2 * m by omega, put_s, put_s, put_s]; exact ⟨rfl, rfl, rfl⟩
theorem eq_mv {R : Nat → Int32} {m : Nat} {a1 a2 : Int32} (a : Nat → Int32) (w : Int64) (ha : a 0 = 0) (hN : RowN R) (hm : R 2 = nI m) (hm4 : m < 40) : RowEq (uRow a w (rowMv R m a1 a2)) R := by
  have hn : nM R = m := by unfold nM; rw [hm, nI_clamp (by omega)]
  have b0 := hN.1.2.2
  have b1 := hN.2.1.2
  have e : ∀ k, k < 45 + 10 * m ∨ 55 + 10 * m ≤ k → uRow a w (rowMv R m a1 a2) k = R k := fun k hk => by
    unfold uRow
    rw [if_pos ha]
    show (if k = 2 then rowMv R m a1 a2 2 - 1 else rowMv R m a1 a2 k) = R k
    by_cases z : k = 2
    · rw [if_pos z, rowMv_2, z, hm, ← nI_1]; exact Int32.add_sub_cancel _ _
    · rw [if_neg z, rowMv_o ⟨z, hk⟩]
  have b3 := hN.2.2.2.1.2
  have b4 := hN.2.2.2.2.2
  unfold RowEq
  rw [ag_nS (e 0 (by omega)), ag_nT (e 1 (by omega)), ag_nM (e 2 (by omega)), ag_nC (e 3 (by omega)), ag_nA (e 4 (by omega)), hn]
  have el : ∀ k w', k < 2 * m → w' < 4 → lg (uRow a w (rowMv R m a1 a2)) k w' = lg R k w' := fun k w' hk hw => e _ (by omega)
  refine ⟨fun j hj => e j (by omega), fun i hi => ⟨e _ (by omega), e _ (by omega)⟩, fun s i hs hi => e _ (by omega), fun q hq => ⟨e _ (by omega), e _ (by omega)⟩, fun k hk => ⟨el k 0 hk (by decide), fun _ => ⟨el k 1 hk (by decide), el k 2 hk (by decide), el k 3 hk (by decide)⟩⟩, fun c hc q hq => e _ (by omega), fun k hk q hq => e _ (by omega)⟩
theorem s_moves : S_moves Inv := by
  intro σ hI a1 a2
  obtain ⟨⟨hg, -⟩, hR, hC, -, -, js, nx, j1, j2, j3, j4, j5, -⟩ := id hI
  have k1 := r52 (σ := σ) (j := 0) (x := 0)
  have hb : Inv (upI σ 50 0 0) := hI.keep (sm0 σ 0)
  unfold f_X8_moves
  rcases item_u hR.1 a1 with ⟨i, hi, rfl, e1, m1⟩ | ⟨e1, m1, -⟩
  · rw [e1 _ _ hC.1.1.2.1, if_neg bt0]
    rcases in_u a2 1 99 (by decide) (by decide) with ⟨v, v1, v2, rfl, q1, q2, q3⟩ | ⟨q, q3⟩
    · have hM := hR.1.2.2.1
      rw [if_neg (show ¬ nI v < 1 from q1), if_pos (show nI v ≤ 99 from q2), hC.1.1.2.2, hM.1]
      by_cases z : nM (σ.1 52) = 40
      · rw [if_neg (show ¬ nI (nM (σ.1 52)) < 40 by rw [z]; decide)]
        refine ⟨_, _, upI σ 50 0 0, rfl, ?_, hb⟩
        unfold f_X9_moves
        rw [nm_q, m1 _ k1]
        simp only [Option.bind_some]
        rw [if_neg bt0, show f_X9_isIn (upI σ 50 0 0) (nI v) 1 99 = true from q3 _, if_neg bt0, rd_at (i := 2) 2 rfl (by decide) (by decide), k1, hM.1, z]
        simp only [Option.bind_some]
        rw [if_pos (show nI 40 = 40 from rfl)]
      · have hm4 : nM (σ.1 52) < 40 := by omega
        rw [if_pos (show nI (nM (σ.1 52)) < 40 from (nI_ltI (b := 40) (by omega) (by omega)).mpr hm4)]
        have cc : ∀ c, 24 ≤ c ∨ c < 6 → (cM σ σ.2.2.1 (nM (σ.1 52)) (nI i) (nI v)).1 c = σ.1 c := fun c hc => cM_c (fun d hd => hg.ne hc hd)
        have hcs : CStep σ (begS (cM σ σ.2.2.1 (nM (σ.1 52)) (nI i) (nI v)) js nx 0 (nI (nM (σ.1 52)))) js nx := beg_step j2 rfl (fun c hc => cc c (by omega))
        obtain ⟨τ1, t1, t2, t3⟩ := m_snap1 j1 (sm0 (begS (cM σ σ.2.2.1 (nM (σ.1 52)) (nI i) (nI v)) js nx 0 (nI (nM (σ.1 52)))) 0) (by rw [hcs.2.1 50 (by omega)]; exact j4)
        have t3' : τ1.1 52 = σ.1 52 := t3.trans (hcs.2.1 52 (by omega))
        obtain ⟨τ, l1, l2, l3, l4⟩ := m_mv (a1 := nI i) (a2 := nI v) hm4 10 0 10000 τ1 (by omega) (by omega) (by rw [t3']; exact hM.1)
        have hQ : τ.1 52 = rowMv (σ.1 52) (nM (σ.1 52)) (nI i) (nI v) := by
          funext k
          rw [l4 k, t3']
          rfl
        have k2 : (upI (begS (cM σ σ.2.2.1 (nM (σ.1 52)) (nI i) (nI v)) js nx 0 (nI (nM (σ.1 52)))) 50 0 0).1 52 = σ.1 52 := r52.trans (hcs.2.1 52 (by omega))
        refine ⟨nI (nM (σ.1 52)), _, τ, ob (c_addMove (by rw [hC.1.1.2.2, hM.1]) hm4 _ _) (ob (c_begin j1 j2 (by rw [cc 36 (by omega)]; exact j3) (by rw [cc 36 (by omega)]; exact j5) _ _) rfl), ?_, ?_⟩
        · unfold f_X9_moves
          rw [nm_q, m1 _ k2]
          simp only [Option.bind_some]
          rw [if_neg bt0, show f_X9_isIn _ (nI v) 1 99 = true from q3 _, if_neg bt0, rd_at (i := 2) 2 rfl (by decide) (by decide), k2, hM.1]
          simp only [Option.bind_some]
          rw [if_neg (show ¬ nI (nM (σ.1 52)) = 40 from fun y => z (nI_inj (b := 40) (by omega) (by omega) y))]
          refine ob t1 (ob (rd_at 2 rfl (by decide) (by decide)) ?_)
          rw [nm_q, t3', hM.1, show (45 : Int32) + 10 * nI (nM (σ.1 52)) = nI (45 + 10 * nM (σ.1 52)) by show nI 45 + nI 10 * nI _ = _; rw [pk_mul, nI_add]]
          exact l1
        · refine hI.mut j1 j2 j3 j5 hcs (t2.row l2 l3) ?_ ?_ ?_ ?_
          · rw [hQ]; exact ok_mv hR hM.1 hm4 hi v1 v2
          · rw [hQ]
            have cb : ∀ c, 6 ≤ c ∧ c < 36 → (begS (cM σ σ.2.2.1 (nM (σ.1 52)) (nI i) (nI v)) js nx 0 (nI (nM (σ.1 52)))).1 c = (cM σ σ.2.2.1 (nM (σ.1 52)) (nI i) (nI v)).1 c := fun c hc => beg_c (by omega) (by omega)
            refine ⟨?_, ?_, ?_⟩
            · refine (cls_mv (a1 := nI i) (a2 := nI v) hR.1 hM.1 hm4 hC.1).ag (ok_mv hR hM.1 hm4 hi v1 v2).1 (fun c hc => cb c (by rcases hg with y | y <;> rw [y] at hc <;> omega)) (fun _ _ => rfl)
            · exact hC.2.1.ag hR.1 (fun c hc => by rw [cb c (by omega), cc c (by omega)]) (fun k hk => rowMv_o (by omega))
            · exact hC.2.2.ag hR.1 (fun c hc => by rw [cb c (by omega), cc c (by omega)]) (fun k hk => rowMv_o (by omega))
          · rw [hQ]
            exact Or.inl ⟨beg_0 j2, by rw [rowMv_n hm4]; omega⟩
          · rw [hQ]
            exact eq_mv _ _ (beg_0 j2) hR.1 hM.1 hm4
    · refine ⟨-1, σ, upI σ 50 0 0, ?_, ?_, hb⟩
      · rcases q with q | ⟨q, q'⟩
        · rw [if_pos (show a2 < 1 from q)]
        · rw [if_neg (show ¬ a2 < 1 from q), if_neg (show ¬ a2 ≤ 99 from q')]
      · unfold f_X9_moves
        rw [nm_q, m1 _ k1]
        simp only [Option.bind_some]
        rw [if_neg bt0, show f_X9_isIn (upI σ 50 0 0) a2 1 99 = false from q3 _, if_pos bf0]
  · rw [e1 _ _ hC.1.1.2.1, if_pos bf0]
    refine ⟨_, _, upI σ 50 0 0, rfl, ?_, hb⟩
    unfold f_X9_moves
    rw [nm_q, m1 _ k1]
    simp only [Option.bind_some]
    rw [if_pos bf0]
