/-! rows that agree; an act and a snap are pushed -/
def agC (R Q : Nat → Int32) : Prop := ∀ k, k = 3 ∨ (445 ≤ k ∧ k < 685) → Q k = R k
def agA (R Q : Nat → Int32) : Prop := ∀ k, k = 4 ∨ (685 ≤ k ∧ k < 845) → Q k = R k
def agG (R Q : Nat → Int32) : Prop := ∀ k, k < 3 ∨ (5 ≤ k ∧ k < 445) → Q k = R k
section AG
variable {R Q : Nat → Int32}
theorem ag_nS (h : Q 0 = R 0) : nS Q = nS R := by unfold nS; rw [h]
theorem ag_nT (h : Q 1 = R 1) : nT Q = nT R := by unfold nT; rw [h]
theorem ag_nM (h : Q 2 = R 2) : nM Q = nM R := by unfold nM; rw [h]
theorem ag_nC (h : Q 3 = R 3) : nC Q = nC R := by unfold nC; rw [h]
theorem ag_nA (h : Q 4 = R 4) : nA Q = nA R := by unfold nA; rw [h]
theorem ag_ct (h : agC R Q) {c w : Nat} (hc : c < 40) (hw : w < 6) : ct Q c w = ct R c w := h _ (Or.inr (by omega))
theorem ag_lg (h : agG R Q) {k w : Nat} (hk : k < 80) (hw : w < 4) : lg Q k w = lg R k w := h _ (Or.inr (by omega))
theorem RowN.ag (hN : RowN R) (g : agG R Q) (c : agC R Q) (a : agA R Q) : RowN Q := by
  have e0 := g 0 (by omega)
  have e1 := g 1 (by omega)
  have e2 := g 2 (by omega)
  have e3 := c 3 (by omega)
  have e4 := a 4 (by omega)
  unfold RowN
  rw [ag_nS e0, ag_nT e1, ag_nM e2, ag_nC e3, ag_nA e4, e0, e1, e2, e3, e4]
  exact hN
theorem RowM.ag (hN : RowN R) (h : RowM R) (g : agG R Q) : RowM Q := by
  have hn := hN.2.2.1.2
  intro m hm
  rw [ag_nM (g 2 (by omega))] at hm
  have e1 : mI Q m = mI R m := g _ (Or.inr (by omega))
  have e2 : mS Q m = mS R m := g _ (Or.inr (by omega))
  rw [e1, e2, ag_nT (g 1 (by omega))]
  exact h m hm
theorem RowL.ag (hN : RowN R) (h : RowL R) (g : agG R Q) : RowL Q := by
  have hn := hN.2.2.1.2
  intro k hk
  rw [ag_nM (g 2 (by omega))] at hk
  rw [ag_lg (k := k) (w := 0) g (by omega) (by decide), ag_lg (k := k) (w := 1) g (by omega) (by decide), ag_lg (k := k) (w := 2) g (by omega) (by decide), ag_lg (k := k) (w := 3) g (by omega) (by decide), ag_nS (g 0 (by omega))]
  exact h k hk
theorem RowS.ag (hN : RowN R) (h : RowS R) (e0 : Q 0 = R 0) (e1 : Q 1 = R 1) (g : ∀ k, 15 ≤ k ∧ k < 45 → Q k = R k) : RowS Q := by
  have h1 := hN.1.2.2
  have h2 := hN.2.1.2
  intro s i hs hi
  rw [ag_nS e0] at hs
  rw [ag_nT e1] at hi
  rw [g (15 + 5 * s + i) (by omega)]
  exact h s i hs hi
theorem RowC.ag (hN : RowN R) (h : RowC R) (e0 : Q 0 = R 0) (e1 : Q 1 = R 1) (g : agC R Q) : RowC Q := by
  have hn := hN.2.2.2.1.2
  intro c hc
  rw [ag_nC (g 3 (by omega))] at hc
  rw [ag_ct (c := c) (w := 0) g (by omega) (by decide), ag_ct (c := c) (w := 1) g (by omega) (by decide), ag_ct (c := c) (w := 2) g (by omega) (by decide), ag_ct (c := c) (w := 3) g (by omega) (by decide), ag_ct (c := c) (w := 4) g (by omega) (by decide), ag_ct (c := c) (w := 5) g (by omega) (by decide), ag_nS e0, ag_nT e1]
  exact h c hc
theorem RowD.ag (hN : RowN R) (h : RowD R) (g : agC R Q) : RowD Q := by
  have hn := hN.2.2.2.1.2
  intro c d hc hd
  rw [ag_nC (g 3 (by omega))] at hc hd
  rw [ag_ct (c := c) (w := 0) g (by omega) (by decide), ag_ct (c := c) (w := 1) g (by omega) (by decide), ag_ct (c := c) (w := 2) g (by omega) (by decide), ag_ct (c := d) (w := 0) g (by omega) (by decide), ag_ct (c := d) (w := 1) g (by omega) (by decide), ag_ct (c := d) (w := 2) g (by omega) (by decide)]
  exact h c d hc hd
theorem RowA.ag (hN : RowN R) (h : RowA R) (g : agC R Q) (a : agA R Q) : RowA Q := by
  have hn := hN.2.2.2.1.2
  have hm := hN.2.2.2.2.2
  intro k hk
  rw [ag_nA (a 4 (by omega))] at hk
  rw [a (685 + 4 * k) (by omega), a (686 + 4 * k) (by omega), a (687 + 4 * k) (by omega), ag_nC (g 3 (by omega))]
  obtain ⟨⟨c, hc, q1, q2, q3, q4⟩, q5⟩ := h k hk
  refine ⟨⟨c, hc, ?_, ?_, ?_, ?_⟩, fun d hd => ?_⟩
  · rw [ag_ct (c := c) (w := 5) g (by omega) (by decide)]; exact q1
  · rw [ag_ct (c := c) (w := 0) g (by omega) (by decide)]; exact q2
  · rw [ag_ct (c := c) (w := 1) g (by omega) (by decide)]; exact q3
  · rw [ag_ct (c := c) (w := 2) g (by omega) (by decide)]; exact q4
  · rw [ag_ct (c := d) (w := 5) g (by omega) (by decide), ag_ct (c := d) (w := 0) g (by omega) (by decide), ag_ct (c := d) (w := 1) g (by omega) (by decide), ag_ct (c := d) (w := 2) g (by omega) (by decide)]
    exact q5 d hd
theorem ag_aZ (hN : RowN R) (a : agA R Q) (s i t : Int32) : aZ Q s i t = aZ R s i t := by
  have hm := hN.2.2.2.2.2
  unfold aZ
  rw [ag_nA (a 4 (by omega))]
  refine zF_congr _ (fun k hk => ?_)
  unfold cAz adB
  rw [a (685 + 4 * k) (by omega), a (686 + 4 * k) (by omega), a (687 + 4 * k) (by omega), a (688 + 4 * k) (by omega)]
theorem RowB.ag (hN : RowN R) (h : RowB R) (a : agA R Q) : RowB Q := by
  intro s i t
  rw [ag_aZ hN a]
  exact h s i t
theorem pcN_congr : ∀ n, (∀ c, c < n → ct Q c 5 = ct R c 5) → pcN Q n = pcN R n
  | 0, _ => rfl
  | n + 1, h => by
    unfold pcN
    rw [pcN_congr n (fun c hc => h c (by omega)), h n (by omega)]
theorem RowP.ag (hN : RowN R) (h : RowP R) (g : agC R Q) (a : agA R Q) : RowP Q := by
  have hn := hN.2.2.2.1.2
  unfold RowP
  rw [ag_nA (a 4 (by omega)), ag_nC (g 3 (by omega)), pcN_congr (R := R) _ (fun c hc => ag_ct g (by omega) (by decide))]
  exact h
theorem RowOk.ag (h : RowOk R) (g : agG R Q) (c : agC R Q) (a : agA R Q) : RowOk Q := by
  obtain ⟨h1, h2, h3, h4, h5, h6, h7, h8, h9⟩ := h
  exact ⟨h1.ag g c a, h2.ag h1 g, h3.ag h1 g, h4.ag h1 (g 0 (by omega)) (g 1 (by omega)) (fun k hk => g k (by omega)), h5.ag h1 (g 0 (by omega)) (g 1 (by omega)) c, h6.ag h1 c, h7.ag h1 c a, h8.ag h1 a, h9.ag h1 c a⟩
theorem RowOk.cg (h : RowOk R) (e : ∀ k, k < 845 → Q k = R k) : RowOk Q := h.ag (fun k hk => e k (by omega)) (fun k hk => e k (by omega)) (fun k hk => e k (by omega))
/-- the goods have changed -/
theorem RowOk.goods (h : RowOk R) (e0 : Q 0 = R 0) (e1 : Q 1 = R 1) (hM : Q 2 = nI (nM Q) ∧ nM Q ≤ 40) (h2 : RowM Q) (h3 : RowL Q) (h4 : RowS Q) (c : agC R Q) (a : agA R Q) : RowOk Q := by
  obtain ⟨h1, -, -, -, h5, h6, h7, h8, h9⟩ := h
  have e3 := c 3 (by omega)
  have e4 := a 4 (by omega)
  have hN : RowN Q := by
    unfold RowN
    rw [ag_nS e0, ag_nT e1, ag_nC e3, ag_nA e4, e0, e1, e3, e4]
    exact ⟨h1.1, h1.2.1, hM, h1.2.2.2.1, h1.2.2.2.2⟩
  exact ⟨hN, h2, h3, h4, h5.ag h1 e0 e1 c, h6.ag h1 c, h7.ag h1 c a, h8.ag h1 a, h9.ag h1 c a⟩
/-- the counts and the adjustments have changed -/
theorem RowOk.cnts (h : RowOk R) (g : agG R Q) (hC : Q 3 = nI (nC Q) ∧ nC Q ≤ 40) (hA : Q 4 = nI (nA Q) ∧ nA Q ≤ 40) (h5 : RowC Q) (h6 : RowD Q) (h7 : RowA Q) (h8 : RowB Q) (h9 : RowP Q) : RowOk Q := by
  obtain ⟨h1, h2, h3, h4, -⟩ := h
  have e0 := g 0 (by omega)
  have e1 := g 1 (by omega)
  have e2 := g 2 (by omega)
  have hN : RowN Q := by
    unfold RowN
    rw [ag_nS e0, ag_nT e1, ag_nM e2, e0, e1, e2]
    exact ⟨h1.1, h1.2.1, h1.2.2.1, hC, hA⟩
  exact ⟨hN, h2.ag h1 g, h3.ag h1 g, h4.ag h1 e0 e1 (fun k hk => g k (by omega)), h5, h6, h7, h8, h9⟩
end AG
/-! one place of a cell is written -/
def put (R : Nat → Int32) (j : Nat) (x : Int32) : Nat → Int32 := fun b => if b = j then x else R b
theorem put_s {R : Nat → Int32} {j : Nat} {x : Int32} : put R j x j = x := if_pos rfl
theorem put_n {R : Nat → Int32} {j b : Nat} {x : Int32} (h : b ≠ j) : put R j x b = R b := if_neg h
theorem up_put {σ : St} {k j : Nat} {x : Int32} : (upI σ k j x).1 k = put (σ.1 k) j x := by
  funext b
  unfold put
  by_cases h : b = j
  · rw [if_pos h, h, up_s]
  · rw [if_neg h, up_j h]
/-! what is pushed -/
def jsN (js : Nat) : Nat := if js = 10 then 10 else js + 1
def nxN (nx : Nat) : Nat := if nx = 9 then 0 else nx + 1
def begS (σ : St) (js nx : Nat) (a b : Int32) : St := upI (upI (upI (upI σ (38 + nx) 0 a) (38 + nx) 1 b) 36 1 (nI (nxN nx))) 36 0 (nI (jsN js))
theorem c_begin {σ : St} {js nx : Nat} (hj : js ≤ 10) (hn : nx < 10) (h0 : σ.1 36 0 = nI js) (h1 : σ.1 36 1 = nI nx) (a b : Int32) : f_X5_begin σ a b = some (38 + nx, begS σ js nx a b) := by
  unfold f_X5_begin
  rw [h1]
  refine ob (rdN_at nx rfl hn (by decide)) ?_
  simp only [nm, show 37 + 1 + nx = 38 + nx by omega]
  have e1 : (upI (upI σ (38 + nx) 0 a) (38 + nx) 1 b).1 36 1 = nI nx := by rw [up_k (by omega), up_k (by omega), h1]
  have e0 : ∀ s, (upI (upI (upI σ (38 + nx) 0 a) (38 + nx) 1 b) 36 1 s).1 36 0 = nI js := fun s => by rw [up_j (by decide), up_k (by omega), up_k (by omega), h0]
  have ej : (if (10 : Int32) < nI js + 1 then (10 : Int32) else nI js + 1) = nI (jsN js) := by
    rw [nI_1, show (10 : Int32) = nI 10 from rfl]
    unfold jsN
    by_cases z : js = 10
    · rw [if_pos z, if_pos (by rw [lt_nI (by omega) (by omega)]; omega)]
    · rw [if_neg z, if_neg (by rw [lt_nI (by omega) (by omega)]; omega)]
  rw [e1]
  unfold begS nxN
  by_cases z : nx = 9
  · rw [if_pos z, if_pos (by rw [z]; decide)]
    unfold f_X5_begin_b40
    simp only [nm]
    rw [e0, ej]
    rfl
  · rw [if_neg z, if_neg (by rw [show (9 : Int32) = nI 9 from rfl, le_nI (by omega) (by omega)]; omega), nI_1]
    unfold f_X5_begin_b40
    simp only [nm]
    rw [e0, ej]
/-- the model keeps its row -/
theorem m_copy52 {f : Nat → St → Int32 → Option St} {js : Nat} (hjs : js < 10) (hf : ∀ n σ k, f (n + 1) σ k = if 845 ≤ k then (nm (upI σ 50 14 ((σ.1 50 14) + 1)) fun σ3 => some σ3) else ((rd σ 52 845 k).bind fun v4 => (wr σ 54 8450 ((845 * (σ.1 50 14)) + k) v4).bind fun σ5 => nm (k + 1) fun v6 => f n σ5 v6)) :
    ∀ (d k n : Nat) (σ : St), k + d = 845 → d < n → σ.1 50 14 = nI js → ∃ τ, f n σ (nI k) = some τ ∧ τ.2 = σ.2 ∧ (∀ c, c ≠ 54 → c ≠ 50 → τ.1 c = σ.1 c) ∧ (∀ q, q ≠ 14 → τ.1 50 q = σ.1 50 q) ∧ τ.1 50 14 = nI (js + 1) ∧ (∀ q, ¬ (845 * js + k ≤ q ∧ q < 845 * js + 845) → τ.1 54 q = σ.1 54 q) ∧ ∀ q, k ≤ q → q < 845 → τ.1 54 (845 * js + q) = σ.1 52 q
  | 0, k, n, σ, h1, h2, h3 => by
    obtain ⟨n, rfl⟩ : ∃ m, n = m + 1 := ⟨n - 1, by omega⟩
    refine ⟨upI σ 50 14 (nI (js + 1)), ?_, rfl, fun c _ hc => up_k hc, fun q hq => up_j hq, up_s, fun q _ => by rw [up_k (by decide)], fun q h4 h5 => by omega⟩
    rw [hf, if_pos (by rw [show (845 : Int32) = nI 845 from rfl, le_nI (by omega) (by omega)]; omega)]
    simp only [nm]
    rw [h3, nI_1]
  | d + 1, k, n, σ, h1, h2, h3 => by
    obtain ⟨n, rfl⟩ : ∃ m, n = m + 1 := ⟨n - 1, by omega⟩
    obtain ⟨τ, t1, t2, t3, t4, t5, t6, t7⟩ := m_copy52 hjs hf d (k + 1) n (upI σ 54 (845 * js + k) (σ.1 52 k)) (by omega) (by omega) (by rw [up_k (by decide), h3])
    refine ⟨τ, ?_, t2, fun c h4 h5 => by rw [t3 c h4 h5, up_k h4], fun q hq => by rw [t4 q hq, up_k (by decide)], t5, fun q hq => ?_, fun q h4 h5 => ?_⟩
    · rw [hf, if_neg (show ¬ (845 : Int32) ≤ nI k from nI_ge (b := 845) (by omega) (by omega))]
      refine ob (rd_at k rfl (by omega) (by decide)) (ob (wr_at (845 * js + k) ?_ (by omega) (by decide)) ?_)
      · rw [h3]
        show nI 845 * nI js + nI k = _
        rw [pk_mul, nI_add]
      · simp only [nm]
        rw [nI_1]
        exact t1
    · rw [t6 q (by omega), up_j (by omega)]
    · by_cases z : q = k
      · rw [z, t6 _ (by omega), up_s]
      · rw [t7 q (by omega) h5, up_k (by decide)]
theorem m_shift {f : Nat → St → Int32 → Option St} {fin : St → Option St} (hf : ∀ n σ k, f (n + 1) σ k = if 7605 ≤ k then fin σ else ((rd σ 54 8450 (k + 845)).bind fun v9 => (wr σ 54 8450 k v9).bind fun σ10 => nm (k + 1) fun v11 => f n σ10 v11)) :
    ∀ (d k n : Nat) (σ : St), k + d = 7605 → d < n → ∃ τ, f n σ (nI k) = fin τ ∧ τ.2 = σ.2 ∧ (∀ c, c ≠ 54 → τ.1 c = σ.1 c) ∧ (∀ q, q < k → τ.1 54 q = σ.1 54 q) ∧ ∀ q, k ≤ q → q < 7605 → τ.1 54 q = σ.1 54 (q + 845)
  | 0, k, n, σ, h1, h2 => by
    obtain ⟨n, rfl⟩ : ∃ m, n = m + 1 := ⟨n - 1, by omega⟩
    refine ⟨σ, ?_, rfl, fun _ _ => rfl, fun _ _ => rfl, fun q h4 h5 => by omega⟩
    rw [hf, if_pos (by rw [show (7605 : Int32) = nI 7605 from rfl, le_nI (by omega) (by omega)]; omega)]
  | d + 1, k, n, σ, h1, h2 => by
    obtain ⟨n, rfl⟩ : ∃ m, n = m + 1 := ⟨n - 1, by omega⟩
    obtain ⟨τ, t1, t2, t3, t4, t5⟩ := m_shift hf d (k + 1) n (upI σ 54 k (σ.1 54 (k + 845))) (by omega) (by omega)
    refine ⟨τ, ?_, t2, fun c hc => by rw [t3 c hc, up_k hc], fun q hq => by rw [t4 q (by omega), up_j (by omega)], fun q h4 h5 => ?_⟩
    · rw [hf, if_neg (show ¬ (7605 : Int32) ≤ nI k from nI_ge (b := 7605) (by omega) (by omega))]
      refine ob (rd_at (k + 845) ?_ (by omega) (by decide)) (ob (wr_at k rfl (by omega) (by decide)) ?_)
      · show nI k + nI 845 = _
        rw [nI_add]
      · simp only [nm]
        rw [nI_1]
        exact t1
    · by_cases z : q = k
      · rw [z, t4 k (by omega), up_s]
      · rw [t5 q (by omega) h5, up_j (by omega)]
theorem m_snap {σ : St} {js : Nat} (hj : js ≤ 10) (h : σ.1 50 14 = nI js) : ∃ τ, f_X9_snap σ = some τ ∧ τ.2 = σ.2 ∧ (∀ c, c ≠ 54 → c ≠ 50 → τ.1 c = σ.1 c) ∧ (∀ q, q ≠ 14 → τ.1 50 q = σ.1 50 q) ∧ τ.1 50 14 = nI (jsN js) ∧ ∀ j, j < jsN js → ∀ k, k < 845 → τ.1 54 (845 * (jsN js - 1 - j) + k) = stR σ js j k := by
  unfold f_X9_snap
  rw [h]
  by_cases z : js = 10
  · subst z
    rw [if_pos (show nI 10 = 10 from rfl)]
    obtain ⟨σa, a1, a2, a3, a4, a5⟩ := m_shift (f := f_X9_snap_b11) (fin := fun σ => nm (upI σ 50 14 ((σ.1 50 14) - 1)) fun σ8 => f_X9_snap_b52 10000 σ8 0) (fun n σ k => by rw [f_X9_snap_b11]) 7605 0 10000 σ (by omega) (by omega)
    have e9 : σa.1 50 14 - 1 = nI 9 := by rw [a3 50 (by decide), h]; decide
    obtain ⟨τ, t1, t2, t3, t4, t5, t6, t7⟩ := m_copy52 (f := f_X9_snap_b52) (js := 9) (by decide) (fun n σ k => by rw [f_X9_snap_b52]) 845 0 10000 (upI σa 50 14 (nI 9)) (by omega) (by omega) up_s
    refine ⟨τ, ?_, by rw [t2]; exact a2, fun c h4 h5 => by rw [t3 c h4 h5, up_k h5, a3 c h4], fun q hq => by rw [t4 q hq, up_j hq, a3 50 (by decide)], t5, fun j hj' k hk => ?_⟩
    · have hn : ∀ (a : St) (f : St → Option St), nm a f = f a := fun _ _ => rfl
      refine a1.trans ?_
      show (nm (upI σa 50 14 (σa.1 50 14 - 1)) fun σ8 => f_X9_snap_b52 10000 σ8 0) = some τ
      rw [hn, e9]
      exact t1
    · unfold jsN at hj' ⊢
      rw [if_pos rfl] at hj' ⊢
      cases j with
      | zero =>
        show τ.1 54 (845 * (10 - 1 - 0) + k) = σ.1 52 k
        rw [t7 k (by omega) hk, up_k (by decide), a3 52 (by decide)]
      | succ j =>
        show τ.1 54 (845 * (10 - 1 - (j + 1)) + k) = σ.1 54 (845 * (10 - 1 - j) + k)
        rw [t6 _ (by omega), up_k (by decide), a5 _ (by omega) (by omega)]
        exact congrArg _ (by omega)
  · rw [if_neg (show ¬ nI js = 10 by rw [show (10 : Int32) = nI 10 from rfl, eq_nI (by omega) (by omega)]; exact z)]
    obtain ⟨τ, t1, t2, t3, t4, t5, t6, t7⟩ := m_copy52 (f := f_X9_snap_b52) (js := js) (by omega) (fun n σ k => by rw [f_X9_snap_b52]) 845 0 10000 σ (by omega) (by omega) h
    refine ⟨τ, t1, t2, t3, t4, ?_, fun j hj' k hk => ?_⟩
    · rw [t5]; unfold jsN; rw [if_neg z]
    · unfold jsN at hj' ⊢
      rw [if_neg z] at hj' ⊢
      cases j with
      | zero =>
        show τ.1 54 (845 * (js + 1 - 1 - 0) + k) = σ.1 52 k
        rw [show js + 1 - 1 - 0 = js by omega, t7 k (by omega) hk]
      | succ j =>
        show τ.1 54 (845 * (js + 1 - 1 - (j + 1)) + k) = σ.1 54 (845 * (js - 1 - j) + k)
        rw [t6 _ (by omega)]
        exact congrArg _ (by omega)
theorem RowEq.cg {A Q A' Q' : Nat → Int32} (hN : RowN Q) (h : RowEq A Q) (ha : ∀ k, k < 845 → A' k = A k) (hq : ∀ k, k < 845 → Q' k = Q k) : RowEq A' Q' := by
  obtain ⟨e1, e2, e3, e4, e5, e6, e7⟩ := h
  obtain ⟨⟨-, -, b0⟩, ⟨-, b1⟩, ⟨-, b2⟩, ⟨-, b3⟩, ⟨-, b4⟩⟩ := hN
  rw [← ag_nS (e1 0 (by decide))] at b0
  rw [← ag_nT (e1 1 (by decide))] at b1
  rw [← ag_nM (e1 2 (by decide))] at b2
  rw [← ag_nC (e1 3 (by decide))] at b3
  rw [← ag_nA (e1 4 (by decide))] at b4
  have gg : ∀ {k w : Nat}, k < 80 → w < 4 → lg A' k w = lg A k w := fun hk hw => ag_lg (R := A) (fun k hk => ha k (by omega)) hk hw
  have gq : ∀ {k w : Nat}, k < 80 → w < 4 → lg Q' k w = lg Q k w := fun hk hw => ag_lg (R := Q) (fun k hk => hq k (by omega)) hk hw
  unfold RowEq
  rw [ag_nS (ha 0 (by omega)), ag_nT (ha 1 (by omega)), ag_nM (ha 2 (by omega)), ag_nC (ha 3 (by omega)), ag_nA (ha 4 (by omega))]
  refine ⟨fun j hj => ?_, fun i hi => ?_, fun s i hs hi => ?_, fun m hm => ?_, fun k hk => ?_, fun c hc w hw => ?_, fun k hk w hw => ?_⟩
  · rw [ha j (by omega), hq j (by omega)]; exact e1 j hj
  · rw [ha _ (by omega), hq _ (by omega), ha _ (by omega), hq _ (by omega)]; exact e2 i hi
  · rw [ha _ (by omega), hq _ (by omega)]; exact e3 s i hs hi
  · unfold mI mS
    rw [ha _ (by omega), hq _ (by omega), ha _ (by omega), hq _ (by omega)]; exact e4 m hm
  · rw [gg (k := k) (w := 0) (by omega) (by decide), gg (k := k) (w := 1) (by omega) (by decide), gg (k := k) (w := 2) (by omega) (by decide), gg (k := k) (w := 3) (by omega) (by decide), gq (k := k) (w := 0) (by omega) (by decide), gq (k := k) (w := 1) (by omega) (by decide), gq (k := k) (w := 2) (by omega) (by decide), gq (k := k) (w := 3) (by omega) (by decide)]
    exact e5 k hk
  · unfold ct
    rw [ha _ (by omega), hq _ (by omega)]; exact e6 c hc w hw
  · rw [ha _ (by omega), hq _ (by omega)]; exact e7 k hk w hw
theorem uRow_cg {a : Nat → Int32} {w : Int64} {R R' : Nat → Int32} (h : ∀ k, k < 845 → R' k = R k) : ∀ k, k < 845 → uRow a w R' k = uRow a w R k := by
  intro k hk
  unfold uRow
  split
  · show (if k = 2 then R' 2 - 1 else R' k) = if k = 2 then R 2 - 1 else R k
    rw [h 2 (by omega), h k hk]
  · split
    · show (if k = _ then (0 : Int32) else R' k) = if k = _ then 0 else R k
      rw [h k hk]
    · split
      · show (if k = _ then _ else if k = _ then _ else R' k) = if k = _ then _ else if k = _ then _ else R k
        rw [h k hk]
      · split
        · show (if k = 3 then R' 3 - 1 else R' k) = if k = 3 then R 3 - 1 else R k
          rw [h 3 (by omega), h k hk]
        · split
          · show (if k = 4 then R' 4 - 1 else if _ then 0 else R' k) = if k = 4 then R 4 - 1 else if _ then 0 else R k
            rw [h 4 (by omega), h k hk]
          · show (if k = 3 then R' 3 + 1 else if _ then (if _ then R' k else if _ then _ else R' (k - 6)) else R' k) = if k = 3 then R 3 + 1 else if _ then (if _ then R k else if _ then _ else R (k - 6)) else R k
            rw [h 3 (by omega), h k hk, h (k - 6) (by omega)]
theorem UOk.cg {a : Nat → Int32} {w : Int64} {R R' : Nat → Int32} (hN : RowN R) (hu : UOk a w R) (h : ∀ k, k < 845 → R' k = R k) : UOk a w R' := by
  have b2 := hN.2.2.1.2
  have gg : ∀ {k w : Nat}, k < 80 → w < 4 → lg R' k w = lg R k w := fun hk hw => ag_lg (R := R) (fun k hk => h k (by omega)) hk hw
  unfold UOk at hu ⊢
  rw [ag_nM (h 2 (by omega)), ag_nC (h 3 (by omega)), ag_nA (h 4 (by omega))]
  rcases hu with q | ⟨q, k, q1, q2, q3⟩ | ⟨q, k, q1, q2, q3⟩ | q | q | q
  · exact Or.inl q
  · exact Or.inr (Or.inl ⟨q, k, q1, q2, by rw [gg (by omega) (by decide)]; exact q3⟩)
  · exact Or.inr (Or.inr (Or.inl ⟨q, k, q1, q2, by rw [gg (by omega) (by decide)]; exact q3⟩))
  · exact Or.inr (Or.inr (Or.inr (Or.inl q)))
  · exact Or.inr (Or.inr (Or.inr (Or.inr (Or.inl q))))
  · exact Or.inr (Or.inr (Or.inr (Or.inr (Or.inr q))))
/-- AN ACT IS PUSHED -/
theorem Inv.push {σ τ : St} {js nx : Nat} (h : Inv σ) (hj : js ≤ 10) (hn : nx < 10) (h0 : σ.1 36 0 = nI js) (h1 : σ.1 36 1 = nI nx)
    (k1 : τ.2.2 = σ.2.2) (k2 : τ.1 3 = σ.1 3 ∧ τ.1 51 = σ.1 51) (k3 : τ.1 2 0 = σ.1 2 0) (k4 : τ.1 1 6 = σ.1 1 6) (k5 : τ.1 50 2 = σ.1 50 2) (k6 : τ.1 50 8 = σ.1 50 8)
    (a0 : τ.1 36 0 = nI (jsN js)) (a1 : τ.1 36 1 = nI (nxN nx)) (a2 : ∀ a, 38 ≤ a → a < 48 → a ≠ 38 + nx → τ.1 a = σ.1 a ∧ τ.2.1 a = σ.2.1 a)
    (b0 : τ.1 50 14 = nI (jsN js)) (b1 : ∀ j, j < jsN js → ∀ k, k < 845 → τ.1 54 (845 * (jsN js - 1 - j) + k) = stR σ js j k)
    (hR : RowOk (τ.1 52)) (hC : Cls τ σ.2.2.1 (τ.1 52))
    (hu : UOk (τ.1 (38 + nx)) (τ.2.1 (38 + nx)) (τ.1 52)) (he : RowEq (uRow (τ.1 (38 + nx)) (τ.2.1 (38 + nx)) (τ.1 52)) (σ.1 52)) : Inv τ := by
  obtain ⟨g1, g2, g3, g4, g5, js', nx', i1, i2, i3, i4, i5, i6⟩ := h
  obtain rfl : js = js' := nI_inj (by omega) (by omega) (h0.symm.trans i3)
  obtain rfl : nx = nx' := nI_inj (by omega) (by omega) (h1.symm.trans i5)
  have hok : ∀ j, j ≤ js → RowOk (stR σ js j) := fun j hj => by
    cases j with
    | zero => exact g2
    | succ j => exact (i6 j (by omega)).1
  have hst : ∀ j, j < jsN js → ∀ k, k < 845 → stR τ (jsN js) (j + 1) k = stR σ js j k := b1
  refine ⟨by rw [k1]; exact g1, hR, by rw [k1]; exact hC, ?_, by rw [k4, k6]; exact g5, ?_⟩
  · unfold Tp at g4 ⊢
    rw [k3, k5, k2.1, k2.2]
    exact g4
  · refine ⟨jsN js, nxN nx, ?_, ?_, a0, b0, a1, fun j hj' => ?_⟩
    · unfold jsN; split <;> omega
    · unfold nxN; split <;> omega
    · cases j with
      | zero =>
        have ea : actN (nxN nx) 0 = 38 + nx := by unfold actN nxN; split <;> omega
        rw [ea]
        have e := hst 0 hj'
        exact ⟨(hok 0 (by omega)).cg e, hu, he.cg g2.1 (fun _ _ => rfl) e⟩
      | succ j =>
        have hjj : j < js ∧ j < 9 := by unfold jsN at hj'; split at hj' <;> omega
        have ea : actN (nxN nx) (j + 1) = actN nx j := by unfold actN nxN; split <;> omega
        have eb : 38 ≤ actN nx j ∧ actN nx j < 48 ∧ actN nx j ≠ 38 + nx := by unfold actN; omega
        obtain ⟨c1, c2⟩ := a2 _ eb.1 eb.2.1 eb.2.2
        obtain ⟨d1, d2, d3⟩ := i6 j hjj.1
        rw [ea, c1, c2]
        have e := hst j (by omega)
        have e' := hst (j + 1) hj'
        exact ⟨d1.cg e', d2.cg (hok j (by omega)).1 e, d3.cg d1.1 (uRow_cg e) e'⟩
