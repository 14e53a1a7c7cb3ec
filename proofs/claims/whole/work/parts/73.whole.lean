/-! text: the whole -/
def SY (g a b m : Nat) (σ τ : St) : Prop := Dat g a b m σ τ ∧ σ.1 1 5 = τ.1 50 17 ∧ σ.1 1 6 = 0 ∧ τ.1 50 8 = 0
def Ph (v : Nat → Nat) (n : Nat) (P : Nat → Nat) (T g : Nat) (σ τ : St) (C M : Option (Bool × St)) (D : St → St → Prop) : Prop :=
  (∃ σ' τ' i', C = some (true, σ') ∧ M = some (true, τ') ∧ Cur v n P T σ' τ' i' ∧ FCl g σ σ' ∧ FMd τ τ' ∧ D σ' τ') ∨ (∃ σ' τ', C = some (false, σ') ∧ M = some (false, τ') ∧ Bad g σ σ' τ τ')
section WH
variable {v : Nat → Nat} {n : Nat} {P : Nat → Nat} {T i : Nat} {σ τ : St} {g : Nat}
theorem Ph.pre {σ0 τ0 : St} {C M : Option (Bool × St)} {D : St → St → Prop} (h : Ph v n P T g σ τ C M D) (h1 : FCl g σ0 σ) (h2 : FMd τ0 τ) : Ph v n P T g σ0 τ0 C M D := by
  rcases h with ⟨σ', τ', i', a1, a2, a3, a4, a5, a6⟩ | ⟨σ', τ', a1, a2, a3⟩
  · exact Or.inl ⟨σ', τ', i', a1, a2, a3, h1.trans a4, h2.trans a5, a6⟩
  · exact Or.inr ⟨σ', τ', a1, a2, a3.pre h1 h2⟩
/-- a line, and what comes behind it -/
theorem ln_ph {C M : Option (Bool × St)} {D D' : St → St → Prop} {KC' KM' : St → Option (Bool × St)} (h : Ln v n P T g σ τ C M D) (s1 : σ.1 1 5 = τ.1 50 17) (s2 : σ.1 1 6 = 0) (s3 : τ.1 50 8 = 0)
    (k : ∀ (σ' τ' : St) (i' : Nat), Cur v n P T σ' (upI τ' 50 17 (τ'.1 50 17 + 1)) i' → D σ' τ' → FCl g σ σ' → σ'.1 1 5 = (upI τ' 50 17 (τ'.1 50 17 + 1)).1 50 17 → σ'.1 1 6 = 0 → (upI τ' 50 17 (τ'.1 50 17 + 1)).1 50 8 = 0 → Ph v n P T g σ' (upI τ' 50 17 (τ'.1 50 17 + 1)) (KC' σ') (KM' (upI τ' 50 17 (τ'.1 50 17 + 1))) D') :
    Ph v n P T g σ τ (C.bind fun q => if (b2i q.1) = 0 then (some (false, q.2)) else KC' q.2) (M.bind fun q => if (b2i q.1) = 0 then (some (false, q.2)) else (nm (upI q.2 50 17 ((q.2.1 50 17) + 1)) fun s => KM' s)) D' := by
  rcases h with ⟨σ', τ', i', a1, a2, a3, a4, a5, a6, ⟨a7, a8⟩, a9, a10⟩ | ⟨σ', τ', a1, a2, a3⟩
  · rw [a1, a2, Option.bind_some, Option.bind_some, if_neg bt0, if_neg bt0, nm_q]
    refine (k σ' τ' i' (a3.keep rfl rfl rfl (fun _ _ => rfl) (up_k (by decide)) (fun q hq => up_j (by omega)) rfl) a6 a4 ?_ (a9.trans s2) ?_).pre a4 (a5.up50 (by decide))
    · rw [up_s, a7, a8, s1]
    · rw [up_j (by decide)]; exact a10.trans s3
  · rw [a1, a2, Option.bind_some, Option.bind_some, if_pos bf0, if_pos bf0]
    exact Or.inr ⟨σ', τ', rfl, rfl, a3⟩
theorem Dat.up17 {a b m : Nat} {x : Int32} (h : Dat g a b m σ τ) : Dat g a b m σ (upI τ 50 17 x) := h.keep (fun _ _ _ => rfl) (up_k (by decide)) (up_j (by decide))
theorem km2 (h : Cur v n P T σ τ i) {w : Nat} (hw : w < 6) (hk : σ.1 1 2 = wk w) : τ.1 50 6 = 2 := by
  obtain ⟨-, -, -, -, -, -, c4, -⟩ := h
  have w3 := wk_2 w hw
  rcases c4 with ⟨x, y1, y2, y3, -⟩ | ⟨y1, y2⟩ | ⟨y1, y2⟩ | ⟨y1, y2, y3⟩ | ⟨y1, y2⟩
  · exfalso
    rw [y2] at hk
    have : nI x < 0 := by rw [hk]; exact w3.2.1
    exact nI_pos (by omega) this
  · exact absurd (hk.symm.trans y1) w3.2.2.2
  · exact absurd (hk.symm.trans y1) w3.2.2.1
  · exact y2
  · exact absurd (hk.symm.trans y1) w3.1
theorem p_items (hg : 6 ≤ g) {a : Nat} : ∀ (d b fc fm : Nat) (σ τ : St) (i : Nat), b + d = 5 → d < fc → d < fm → Cur v n P T σ τ i → SY g a b 0 σ τ → (∀ j, j < 30 → σ.1 (g + 3) j = -1) → Ph v n P T g σ τ (f_X7_readItems_b2 g fc σ (nI b)) (f_X9_readAll_b0 0 fm τ) (fun σ' τ' => (∃ b', SY g a b' 0 σ' τ') ∧ ∀ j, j < 30 → σ'.1 (g + 3) j = -1) := by
  intro d
  induction d with
  | zero =>
    intro b fc fm σ τ i e1 e2 e3 h hs hu
    obtain ⟨fc, rfl⟩ : ∃ m, fc = m + 1 := ⟨fc - 1, by omega⟩
    obtain ⟨fm, rfl⟩ : ∃ m, fm = m + 1 := ⟨fm - 1, by omega⟩
    obtain rfl : b = 5 := by omega
    rw [f_X7_readItems_b2, f_X9_readAll_b0, if_neg (show ¬ (5 : Int32) < nI 5 by decide)]
    unfold f_X9_isSort
    rw [if_pos (show (0 : Int32) = 0 from rfl), cW_1]
    rcases p_isW h (w := 1) (by decide) with ⟨k1, k2⟩ | ⟨k1, k2⟩
    · rw [if_pos (show σ.1 1 2 = -6 from k1), hs.1.1.2.1.1, if_neg (show ¬ nI 5 < 5 by decide), k2, if_neg bt0, if_pos (show (0 : Int32) = 0 from rfl)]
      obtain ⟨σ', τ', b1, b2, b3⟩ := fail_b h g 3 (Or.inr (by rw [km2 h (w := 1) (by decide) k1]; decide))
      unfold f_X9_readItem
      rw [rd_at (i := 1) 1 rfl (by decide) (by decide), hs.1.1.2.1.2.1, Option.bind_some, if_pos (show nI 5 = 5 from rfl), b1, b2]
      exact Or.inr ⟨σ', τ', rfl, rfl, b3⟩
    · rw [if_neg (show ¬ σ.1 1 2 = -6 from k1), k2, if_pos bf0]
      exact Or.inl ⟨σ, τ, i, rfl, rfl, h, FCl.rf g σ, FMd.rf τ, ⟨5, hs⟩, hu⟩
  | succ d ih =>
    intro b fc fm σ τ i e1 e2 e3 h hs hu
    obtain ⟨fc, rfl⟩ : ∃ m, fc = m + 1 := ⟨fc - 1, by omega⟩
    obtain ⟨fm, rfl⟩ : ∃ m, fm = m + 1 := ⟨fm - 1, by omega⟩
    rw [f_X7_readItems_b2, f_X9_readAll_b0, if_neg (show ¬ (5 : Int32) < nI b from fun y => by have := (nI_ltI (a := 5) (by omega) (by omega)).mp y; omega)]
    unfold f_X9_isSort
    rw [if_pos (show (0 : Int32) = 0 from rfl), cW_1]
    rcases p_isW h (w := 1) (by decide) with ⟨k1, k2⟩ | ⟨k1, k2⟩
    · rw [if_pos (show σ.1 1 2 = -6 from k1), hs.1.1.2.1.1, if_pos (show nI b < 5 from (nI_ltI (b := 5) (by omega) (by omega)).mpr (by omega)), k2, if_neg bt0, if_pos (show (0 : Int32) = 0 from rfl)]
      refine ln_ph (p_item hg h (by omega) hs.1 k1) hs.2.1 hs.2.2.1 hs.2.2.2 (KC' := fun q => nm (nI b + 1) fun v6 => f_X7_readItems_b2 g fc q v6) (KM' := fun q => f_X9_readAll_b0 0 fm q) (fun σ' τ' i' c1 c2 _ c3 c4 c5 => ?_)
      rw [nm_q, nI_1]
      exact ih (b + 1) fc fm _ _ i' (by omega) (by omega) (by omega) c1 ⟨c2.1.up17, c3, c4, c5⟩ (fun j hj => by rw [c2.2]; exact hu j hj)
    · rw [if_neg (show ¬ σ.1 1 2 = -6 from k1), k2, if_pos bf0]
      exact Or.inl ⟨σ, τ, i, rfl, rfl, h, FCl.rf g σ, FMd.rf τ, ⟨b, hs⟩, hu⟩
/-- how many places are told -/
def cN (f : Nat → Int32) : Nat → Nat
  | 0 => 0
  | k + 1 => cN f k + (if f k = -1 then 0 else 1)
theorem cN_le {f : Nat → Int32} : ∀ k, cN f k ≤ k
  | 0 => Nat.le_refl _
  | k + 1 => by
    have := cN_le (f := f) k
    unfold cN
    split <;> omega
theorem cN_put {f : Nat → Int32} {j : Nat} {x : Int32} (h1 : f j = -1) (h2 : ¬ x = -1) : ∀ k, cN (put f j x) k = cN f k + (if j < k then 1 else 0)
  | 0 => by rw [if_neg (by omega)]; rfl
  | k + 1 => by
    unfold cN
    rw [cN_put h1 h2 k]
    by_cases z : k = j
    · rw [z, put_s, if_neg h2, h1, if_pos rfl, if_neg (by omega), if_pos (by omega)]
    · rw [put_n z]
      by_cases y : j < k
      · rw [if_pos y, if_pos (show j < k + 1 by omega)]; omega
      · rw [if_neg y, if_neg (show ¬ j < k + 1 by omega)]
        simp only [Nat.add_zero]
theorem cN_0 {f : Nat → Int32} : ∀ k, (∀ j, j < k → f j = -1) → cN f k = 0
  | 0, _ => rfl
  | k + 1, h => by
    unfold cN
    rw [cN_0 k (fun j hj => h j (by omega)), h k (by omega), if_pos rfl]
theorem p_stocks (hg : 6 ≤ g) {a b : Nat} : ∀ (d c fc fm : Nat) (σ τ : St) (i : Nat), c + d = 30 → c = cN (σ.1 (g + 3)) 30 → d < fc → d < fm → Cur v n P T σ τ i → SY g a b 0 σ τ → Ph v n P T g σ τ (f_X7_readStocks_b2 g fc σ (nI c)) (f_X9_readAll_b0 1 fm τ) (fun σ' τ' => SY g a b 0 σ' τ') := by
  intro d
  induction d with
  | zero =>
    intro c fc fm σ τ i e1 ec e2 e3 h hs
    obtain ⟨fc, rfl⟩ : ∃ m, fc = m + 1 := ⟨fc - 1, by omega⟩
    obtain ⟨fm, rfl⟩ : ∃ m, fm = m + 1 := ⟨fm - 1, by omega⟩
    obtain rfl : c = 30 := by omega
    rw [f_X7_readStocks_b2, f_X9_readAll_b0, if_neg (show ¬ (30 : Int32) < nI 30 by decide)]
    unfold f_X9_isSort
    rw [if_neg (show ¬ (1 : Int32) = 0 by decide), if_pos (show (1 : Int32) = 1 from rfl), cW_2]
    rcases p_isW h (w := 2) (by decide) with ⟨k1, k2⟩ | ⟨k1, k2⟩
    · rw [if_pos (show σ.1 1 2 = -7 from k1), k2, if_neg bt0, if_neg (show ¬ (1 : Int32) = 0 by decide), if_pos (show (1 : Int32) = 1 from rfl)]
      refine ln_ph (p_stock hg h hs.1 k1) hs.2.1 hs.2.2.1 hs.2.2.2 (KC' := fun q => nm (nI 30 + 1) fun v5 => f_X7_readStocks_b2 g fc q v5) (KM' := fun q => f_X9_readAll_b0 1 fm q) (fun σ' τ' i' c1 c2 _ c3 c4 c5 => ?_)
      obtain ⟨-, j, z, j1, j2, j3, j4⟩ := c2
      have h1 := cN_put (f := σ.1 (g + 3)) (j := j) (x := nI z) j2 (nI_m1 (by omega)) 30
      rw [if_pos j1] at h1
      have h2 := cN_le (f := put (σ.1 (g + 3)) j (nI z)) 30
      omega
    · rw [if_neg (show ¬ σ.1 1 2 = -7 from k1), k2, if_pos bf0]
      exact Or.inl ⟨σ, τ, i, rfl, rfl, h, FCl.rf g σ, FMd.rf τ, hs⟩
  | succ d ih =>
    intro c fc fm σ τ i e1 ec e2 e3 h hs
    obtain ⟨fc, rfl⟩ : ∃ m, fc = m + 1 := ⟨fc - 1, by omega⟩
    obtain ⟨fm, rfl⟩ : ∃ m, fm = m + 1 := ⟨fm - 1, by omega⟩
    rw [f_X7_readStocks_b2, f_X9_readAll_b0, if_neg (show ¬ (30 : Int32) < nI c from fun y => by have := (nI_ltI (a := 30) (by omega) (by omega)).mp y; omega)]
    unfold f_X9_isSort
    rw [if_neg (show ¬ (1 : Int32) = 0 by decide), if_pos (show (1 : Int32) = 1 from rfl), cW_2]
    rcases p_isW h (w := 2) (by decide) with ⟨k1, k2⟩ | ⟨k1, k2⟩
    · rw [if_pos (show σ.1 1 2 = -7 from k1), k2, if_neg bt0, if_neg (show ¬ (1 : Int32) = 0 by decide), if_pos (show (1 : Int32) = 1 from rfl)]
      refine ln_ph (p_stock hg h hs.1 k1) hs.2.1 hs.2.2.1 hs.2.2.2 (KC' := fun q => nm (nI c + 1) fun v5 => f_X7_readStocks_b2 g fc q v5) (KM' := fun q => f_X9_readAll_b0 1 fm q) (fun σ' τ' i' c1 c2 _ c3 c4 c5 => ?_)
      obtain ⟨c2, j, z, j1, j2, j3, j4⟩ := c2
      rw [nm_q, nI_1]
      refine ih (c + 1) fc fm _ _ i' (by omega) ?_ (by omega) (by omega) c1 ⟨c2.up17, c3, c4, c5⟩
      rw [j3, cN_put j2 (nI_m1 (by omega)) 30, if_pos j1, ← ec]
    · rw [if_neg (show ¬ σ.1 1 2 = -7 from k1), k2, if_pos bf0]
      exact Or.inl ⟨σ, τ, i, rfl, rfl, h, FCl.rf g σ, FMd.rf τ, hs⟩
theorem p_moves (hg : 6 ≤ g) {a b : Nat} : ∀ (d m fc fm : Nat) (σ τ : St) (i : Nat), m + d = 16 → d < fc → d < fm → Cur v n P T σ τ i → SY g a b m σ τ → Ph v n P T g σ τ (f_X7_readMoves_b2 g fc σ (nI m)) (f_X9_readAll_b0 2 fm τ) (fun σ' τ' => ∃ m', SY g a b m' σ' τ') := by
  intro d
  induction d with
  | zero =>
    intro m fc fm σ τ i e1 e2 e3 h hs
    obtain ⟨fc, rfl⟩ : ∃ m, fc = m + 1 := ⟨fc - 1, by omega⟩
    obtain ⟨fm, rfl⟩ : ∃ m, fm = m + 1 := ⟨fm - 1, by omega⟩
    obtain rfl : m = 16 := by omega
    rw [f_X7_readMoves_b2, f_X9_readAll_b0, if_neg (show ¬ (16 : Int32) < nI 16 by decide)]
    unfold f_X9_isSort
    rw [if_neg (show ¬ (2 : Int32) = 0 by decide), if_neg (show ¬ (2 : Int32) = 1 by decide), cW_3]
    rcases p_isW h (w := 3) (by decide) with ⟨k1, k2⟩ | ⟨k1, k2⟩
    · rw [if_pos (show σ.1 1 2 = -8 from k1), hs.1.1.2.2.1, if_neg (show ¬ nI 16 < 16 by decide), k2, if_neg bt0, if_neg (show ¬ (2 : Int32) = 0 by decide), if_neg (show ¬ (2 : Int32) = 1 by decide)]
      obtain ⟨σ', τ', b1, b2, b3⟩ := fail_b h g 3 (Or.inr (by rw [km2 h (w := 3) (by decide) k1]; decide))
      unfold f_X9_readMove
      rw [rd_at (i := 2) 2 rfl (by decide) (by decide), hs.1.1.2.2.2.1, Option.bind_some, if_pos (show nI 16 = 16 from rfl), b1, b2]
      exact Or.inr ⟨σ', τ', rfl, rfl, b3⟩
    · rw [if_neg (show ¬ σ.1 1 2 = -8 from k1), k2, if_pos bf0]
      exact Or.inl ⟨σ, τ, i, rfl, rfl, h, FCl.rf g σ, FMd.rf τ, 16, hs⟩
  | succ d ih =>
    intro m fc fm σ τ i e1 e2 e3 h hs
    obtain ⟨fc, rfl⟩ : ∃ m, fc = m + 1 := ⟨fc - 1, by omega⟩
    obtain ⟨fm, rfl⟩ : ∃ m, fm = m + 1 := ⟨fm - 1, by omega⟩
    rw [f_X7_readMoves_b2, f_X9_readAll_b0, if_neg (show ¬ (16 : Int32) < nI m from fun y => by have := (nI_ltI (a := 16) (by omega) (by omega)).mp y; omega)]
    unfold f_X9_isSort
    rw [if_neg (show ¬ (2 : Int32) = 0 by decide), if_neg (show ¬ (2 : Int32) = 1 by decide), cW_3]
    rcases p_isW h (w := 3) (by decide) with ⟨k1, k2⟩ | ⟨k1, k2⟩
    · rw [if_pos (show σ.1 1 2 = -8 from k1), hs.1.1.2.2.1, if_pos (show nI m < 16 from (nI_ltI (b := 16) (by omega) (by omega)).mpr (by omega)), k2, if_neg bt0, if_neg (show ¬ (2 : Int32) = 0 by decide), if_neg (show ¬ (2 : Int32) = 1 by decide)]
      refine ln_ph (p_move hg h (by omega) hs.1 k1) hs.2.1 hs.2.2.1 hs.2.2.2 (KC' := fun q => nm (nI m + 1) fun v6 => f_X7_readMoves_b2 g fc q v6) (KM' := fun q => f_X9_readAll_b0 2 fm q) (fun σ' τ' i' c1 c2 _ c3 c4 c5 => ?_)
      rw [nm_q, nI_1]
      exact ih (m + 1) fc fm _ _ i' (by omega) (by omega) (by omega) c1 ⟨c2.up17, c3, c4, c5⟩
    · rw [if_neg (show ¬ σ.1 1 2 = -8 from k1), k2, if_pos bf0]
      exact Or.inl ⟨σ, τ, i, rfl, rfl, h, FCl.rf g σ, FMd.rf τ, m, hs⟩
/-- one phase behind another -/
theorem Ph.bind {C M : Option (Bool × St)} {D D' : St → St → Prop} {KC' KM' : St → Option (Bool × St)} (h : Ph v n P T g σ τ C M D) (k : ∀ (σ' τ' : St) (i' : Nat), Cur v n P T σ' τ' i' → D σ' τ' → Ph v n P T g σ' τ' (KC' σ') (KM' τ') D') :
    Ph v n P T g σ τ (C.bind fun q => if (b2i q.1) = 0 then (some (false, q.2)) else KC' q.2) (M.bind fun q => if (b2i q.1) = 0 then (some (false, q.2)) else KM' q.2) D' := by
  rcases h with ⟨σ', τ', i', a1, a2, a3, a4, a5, a6⟩ | ⟨σ', τ', a1, a2, a3⟩
  · rw [a1, a2, Option.bind_some, Option.bind_some, if_neg bt0, if_neg bt0]
    exact (k σ' τ' i' a3 a6).pre a4 a5
  · rw [a1, a2, Option.bind_some, Option.bind_some, if_pos bf0, if_pos bf0]
    exact Or.inr ⟨σ', τ', rfl, rfl, a3⟩
theorem p_fin {a b m : Nat} (h : Cur v n P T σ τ i) (hs : SY g a b m σ τ) : Ph v n P T g σ τ ((f_X7_readEnd σ).bind fun q15 => if (b2i q15.1) = 0 then (some (false, q15.2)) else (some (true, q15.2))) (if (τ.1 50 6) = 0 then (some (true, τ)) else ((f_X9_bad τ 1).bind fun q11 => if (b2i q11.1) = 0 then (some (false, q11.2)) else (some (true, q11.2)))) (fun σ' τ' => ∃ a b m, SY g a b m σ' τ') := by
  obtain ⟨hE, hM, -, -, -, -, c4, -⟩ := id h
  have hn := hM.1
  have e0 := hE.1
  have key : (σ.1 1 2 = -2 ∧ n ≤ 600 ∧ τ.1 50 6 = 0) ∨ (¬ (σ.1 1 2 = -2 ∧ n ≤ 600) ∧ ¬ τ.1 50 6 = 0) := by
    rcases c4 with ⟨x, y1, y2, y3, -⟩ | ⟨y1, y2⟩ | ⟨y1, y2⟩ | ⟨y1, y2, -⟩ | ⟨y1, y2⟩
    · refine Or.inr ⟨fun y => ?_, by rw [y3]; decide⟩
      have y := y.1
      rw [y2] at y
      have : nI x < 0 := by rw [y]; decide
      exact nI_pos (by omega) this
    · exact Or.inr ⟨fun y => by rw [y1] at y; exact absurd y.1 (by decide), by rw [y2]; decide⟩
    · exact Or.inr ⟨fun y => by rw [y1] at y; exact absurd y.1 (by decide), by rw [y2]; decide⟩
    · refine Or.inr ⟨fun y => ?_, by rw [y2]; decide⟩
      rcases y1 with z | ⟨w, hw, z⟩
      · rw [z] at y; exact absurd y.1 (by decide)
      · rw [z] at y; exact (wk_2 w hw).1 y.1
    · by_cases z : n ≤ 600
      · rw [if_pos z] at y2; exact Or.inl ⟨y1, z, y2⟩
      · rw [if_neg z] at y2; exact Or.inr ⟨fun y => z y.2, by rw [y2]; decide⟩
  unfold f_X7_readEnd
  rcases key with ⟨k1, k2, k3⟩ | ⟨k1, k2⟩
  · rw [if_pos k1, e0, if_pos (show nI n ≤ 600 from (nI_leI (b := 600) (by omega) (by omega)).mpr k2), Option.bind_some, if_neg bt0, if_pos k3]
    exact Or.inl ⟨σ, τ, i, rfl, rfl, h, FCl.rf g σ, FMd.rf τ, a, b, m, hs⟩
  · obtain ⟨σ', τ', b1, b2, b3⟩ := fail_b h g 1 (Or.inl rfl)
    have e22 : f_X7_readEnd_b22 σ = some (false, σ') := by
      unfold f_X7_readEnd_b22
      rw [b1, Option.bind_some, if_pos bf0]
    rw [if_neg k2, b2, Option.bind_some, if_pos bf0, e22]
    refine Or.inr ⟨σ', τ', ?_, rfl, b3⟩
    by_cases z1 : σ.1 1 2 = -2
    · rw [if_pos z1]
      by_cases z2 : n ≤ 600
      · exact absurd ⟨z1, z2⟩ k1
      · rw [e0, if_neg (show ¬ nI n ≤ 600 from fun y => z2 ((nI_leI (b := 600) (by omega) (by omega)).mp y)), Option.bind_some, if_pos bf0]
    · rw [if_neg z1, Option.bind_some, if_pos bf0]
/-- from the first token on -/
theorem p_whole (hg : 6 ≤ g) (h : Cur v n P T σ τ i) (c0 : σ.1 g 1 = 0 ∧ σ.1 g 2 = 0) (c1 : ∀ j, j < 30 → σ.1 (g + 3) j = -1) (m0 : ∀ j, j < 845 → τ.1 53 j = 0) (m1 : τ.1 50 16 = 0) (s1 : σ.1 1 5 = τ.1 50 17) (s2 : σ.1 1 6 = 0) (s3 : τ.1 50 8 = 0) :
    Ph v n P T g σ τ ((f_X7_readShelves σ g).bind fun q7 => if (b2i q7.1) = 0 then (some (false, q7.2)) else ((f_X7_readItems q7.2 g).bind fun q9 => if (b2i q9.1) = 0 then (some (false, q9.2)) else ((f_X7_readStocks q9.2 g).bind fun q11 => if (b2i q11.1) = 0 then (some (false, q11.2)) else ((f_X7_readMoves q11.2 g).bind fun q13 => if (b2i q13.1) = 0 then (some (false, q13.2)) else ((f_X7_readEnd q13.2).bind fun q15 => if (b2i q15.1) = 0 then (some (false, q15.2)) else (some (true, q15.2))))))) (f_X9_readWhole τ) (fun σ' τ' => ∃ a b m, SY g a b m σ' τ') := by
  unfold f_X9_readWhole
  refine ln_ph (p_shelves hg h c0 c1 m0 m1) s1 s2 s3 (KC' := fun q => (f_X7_readItems q g).bind fun q9 => if (b2i q9.1) = 0 then (some (false, q9.2)) else ((f_X7_readStocks q9.2 g).bind fun q11 => if (b2i q11.1) = 0 then (some (false, q11.2)) else ((f_X7_readMoves q11.2 g).bind fun q13 => if (b2i q13.1) = 0 then (some (false, q13.2)) else ((f_X7_readEnd q13.2).bind fun q15 => if (b2i q15.1) = 0 then (some (false, q15.2)) else (some (true, q15.2))))))
    (KM' := fun s => (f_X9_readAll s 0).bind fun q4 => if (b2i q4.1) = 0 then (some (false, q4.2)) else ((f_X9_readAll q4.2 1).bind fun q6 => if (b2i q6.1) = 0 then (some (false, q6.2)) else ((f_X9_readAll q6.2 2).bind fun q8 => if (b2i q8.1) = 0 then (some (false, q8.2)) else (if (q8.2.1 50 6) = 0 then (some (true, q8.2)) else ((f_X9_bad q8.2 1).bind fun q11 => if (b2i q11.1) = 0 then (some (false, q11.2)) else (some (true, q11.2))))))) (fun σ' τ' i' d1 d2 dF d3 d4 d5 => ?_)
  obtain ⟨⟨a, d2⟩, du⟩ := d2
  refine (p_items hg (a := a) 5 0 10000 10000 σ' _ i' (by omega) (by omega) (by omega) d1 ⟨d2.up17, d3, d4, d5⟩ du).bind (KC' := fun q => (f_X7_readStocks q g).bind fun q11 => if (b2i q11.1) = 0 then (some (false, q11.2)) else ((f_X7_readMoves q11.2 g).bind fun q13 => if (b2i q13.1) = 0 then (some (false, q13.2)) else ((f_X7_readEnd q13.2).bind fun q15 => if (b2i q15.1) = 0 then (some (false, q15.2)) else (some (true, q15.2)))))
    (KM' := fun s => (f_X9_readAll s 1).bind fun q6 => if (b2i q6.1) = 0 then (some (false, q6.2)) else ((f_X9_readAll q6.2 2).bind fun q8 => if (b2i q8.1) = 0 then (some (false, q8.2)) else (if (q8.2.1 50 6) = 0 then (some (true, q8.2)) else ((f_X9_bad q8.2 1).bind fun q11 => if (b2i q11.1) = 0 then (some (false, q11.2)) else (some (true, q11.2)))))) (fun σ2 τ2 i2 f1 f2 => ?_)
  obtain ⟨⟨b, f2⟩, fu⟩ := f2
  refine (p_stocks hg (a := a) (b := b) 30 0 10000 10000 σ2 τ2 i2 (by omega) (cN_0 30 fu).symm (by omega) (by omega) f1 f2).bind (KC' := fun q => (f_X7_readMoves q g).bind fun q13 => if (b2i q13.1) = 0 then (some (false, q13.2)) else ((f_X7_readEnd q13.2).bind fun q15 => if (b2i q15.1) = 0 then (some (false, q15.2)) else (some (true, q15.2))))
    (KM' := fun s => (f_X9_readAll s 2).bind fun q8 => if (b2i q8.1) = 0 then (some (false, q8.2)) else (if (q8.2.1 50 6) = 0 then (some (true, q8.2)) else ((f_X9_bad q8.2 1).bind fun q11 => if (b2i q11.1) = 0 then (some (false, q11.2)) else (some (true, q11.2))))) (fun σ3 τ3 i3 h1 h2 => ?_)
  refine (p_moves hg (a := a) (b := b) 16 0 10000 10000 σ3 τ3 i3 (by omega) (by omega) (by omega) h1 h2).bind (KC' := fun q => (f_X7_readEnd q).bind fun q15 => if (b2i q15.1) = 0 then (some (false, q15.2)) else (some (true, q15.2)))
    (KM' := fun s => if (s.1 50 6) = 0 then (some (true, s)) else ((f_X9_bad s 1).bind fun q11 => if (b2i q11.1) = 0 then (some (false, q11.2)) else (some (true, q11.2)))) (fun σ4 τ4 i4 r1 r2 => ?_)
  obtain ⟨m, r2⟩ := r2
  exact p_fin r1 r2
end WH
