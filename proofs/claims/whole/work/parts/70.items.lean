/-! text: shelves, items -/
def wb (x : Int32) (j : Nat) : Prop := ((x >>> (nI j &&& 31)) &&& 1) = 1
/-- what both readers have told so far: a shelves, b items, m moves -/
def Dat (g a b m : Nat) (σ τ : St) : Prop :=
  ((σ.1 g 0 = nI a ∧ τ.1 53 0 = nI a ∧ 1 ≤ a ∧ a ≤ 6) ∧ (σ.1 g 1 = nI b ∧ τ.1 53 1 = nI b ∧ b ≤ 5) ∧ (σ.1 g 2 = nI m ∧ τ.1 53 2 = nI m ∧ m ≤ 16)) ∧
  (∀ i, i < b → σ.1 (g + 1) i = τ.1 53 (5 + 2 * i) ∧ σ.1 (g + 2) i = τ.1 53 (5 + 2 * i + 1)) ∧
  (∀ j, j < 30 → (σ.1 (g + 3) j = -1 ∧ τ.1 53 (15 + j) = 0 ∧ ¬ wb (τ.1 50 16) j) ∨ (∃ x, x ≤ 999 ∧ σ.1 (g + 3) j = nI x ∧ τ.1 53 (15 + j) = nI x ∧ wb (τ.1 50 16) j)) ∧
  (∀ q, q < m → (∃ i, i < b ∧ σ.1 (g + 4) q = nI i ∧ mI (τ.1 53) q = nI i) ∧ ∃ x, 1 ≤ x ∧ x ≤ 99 ∧ σ.1 (g + 5) q = nI x ∧ mS (τ.1 53) q = nI x) ∧
  (∀ k, k < 2 * m → (lg (τ.1 53) k 0 = 0 ∧ σ.1 (g + 6) k = -1 ∧ σ.1 (g + 7) k = -1 ∧ σ.1 (g + 8) k = -1) ∨ (lg (τ.1 53) k 0 = 1 ∧ ∃ s e l, s < a ∧ e ≤ l ∧ l ≤ 999 ∧ σ.1 (g + 6) k = nI s ∧ σ.1 (g + 7) k = nI e ∧ σ.1 (g + 8) k = nI l ∧ lg (τ.1 53) k 1 = nI s ∧ lg (τ.1 53) k 2 = nI e ∧ lg (τ.1 53) k 3 = nI l)) ∧
  (∀ j, 45 + 10 * m ≤ j → j < 445 → τ.1 53 j = 0) ∧ (τ.1 53 3 = 0 ∧ τ.1 53 4 = 0)
theorem Dat.keep {g a b m : Nat} {σ τ σ' τ' : St} (h : Dat g a b m σ τ) (h1 : ∀ c, g ≤ c → c < g + 9 → σ'.1 c = σ.1 c) (h2 : τ'.1 53 = τ.1 53) (h3 : τ'.1 50 16 = τ.1 50 16) : Dat g a b m σ' τ' := by
  unfold Dat at h ⊢
  rw [h1 g (by omega) (by omega), h1 (g + 1) (by omega) (by omega), h1 (g + 2) (by omega) (by omega), h1 (g + 3) (by omega) (by omega), h1 (g + 4) (by omega) (by omega), h1 (g + 5) (by omega) (by omega), h1 (g + 6) (by omega) (by omega), h1 (g + 7) (by omega) (by omega), h1 (g + 8) (by omega) (by omega), h2, h3]
  exact h
/-- the places of cell 50 that scanning leaves alone -/
theorem FG.q {τ τ' : St} (h : FG τ τ') {q : Nat} (hq : 8 ≤ q) : τ'.1 50 q = τ.1 50 q := h.2.2.2 q (by omega) (by omega) (by omega) (by omega)
theorem FG.r {τ τ' : St} (h : FG τ τ') : τ'.1 53 = τ.1 53 := h.2.2.1 53 (by decide)
theorem FA.g {σ σ' : St} (h : FA σ σ') {c : Nat} (hc : 6 ≤ c) : σ'.1 c = σ.1 c := h.2.1 c (by omega)
theorem FA.q {σ σ' : St} (h : FA σ σ') {q : Nat} (hq : 5 ≤ q) : σ'.1 1 q = σ.1 1 q := h.2.2 q (by omega) (by omega) (by omega) (by omega)
theorem Dat.step {g a b m : Nat} {σ τ σ' τ' : St} (hg : 6 ≤ g) (h : Dat g a b m σ τ) (h1 : FA σ σ') (h2 : FG τ τ') : Dat g a b m σ' τ' := h.keep (fun c hc _ => h1.g (by omega)) h2.r (h2.q (by decide))
theorem FCl.upg {g : Nat} {σ σ' : St} (h : FCl g σ σ') {c j : Nat} {x : Int32} (hc : g ≤ c ∧ c < g + 9) : FCl g σ (upI σ' c j x) := h.trans ⟨rfl, fun q _ h2 => up_k (fun y => h2 (y ▸ hc))⟩
theorem FCl.up1 {g : Nat} {σ σ' : St} (h : FCl g σ σ') (j : Nat) (x : Int32) : FCl g σ (upI σ' 1 j x) := h.trans ⟨rfl, fun q h1 _ => up_k h1⟩
section RD
variable {v : Nat → Nat} {n : Nat} {P : Nat → Nat} {T i : Nat} {σ τ : St} {g : Nat}
/-- how a line ends, for both -/
def Ln (v : Nat → Nat) (n : Nat) (P : Nat → Nat) (T g : Nat) (σ τ : St) (C M : Option (Bool × St)) (D : St → St → Prop) : Prop :=
  (∃ σ' τ' i', C = some (true, σ') ∧ M = some (true, τ') ∧ Cur v n P T σ' τ' i' ∧ FCl g σ σ' ∧ FMd τ τ' ∧ D σ' τ' ∧ (σ'.1 1 5 = σ.1 1 5 + 1 ∧ τ'.1 50 17 = τ.1 50 17) ∧ (σ'.1 1 6 = σ.1 1 6 ∧ τ'.1 50 8 = τ.1 50 8)) ∨ (∃ σ' τ', C = some (false, σ') ∧ M = some (false, τ') ∧ Bad g σ σ' τ τ')
theorem up_cur (h : Cur v n P T σ τ i) {c j : Nat} {x : Int32} (hc : 6 ≤ c) : Cur v n P T (upI σ c j x) τ i := h.keep (up_k (by omega)) (up_k (by omega)) (up_k (by omega)) (fun q _ => by rw [up_k (by omega)]) rfl (fun _ _ => rfl) rfl
theorem up_curM (h : Cur v n P T σ τ i) {j : Nat} {x : Int32} : Cur v n P T σ (upI τ 53 j x) i := h.keep rfl rfl rfl (fun _ _ => rfl) (up_k (by decide)) (fun q _ => by rw [up_k (by decide)]) rfl
theorem p_shelves (hg : 6 ≤ g) (h : Cur v n P T σ τ i) (c0 : σ.1 g 1 = 0 ∧ σ.1 g 2 = 0) (c1 : ∀ j, j < 30 → σ.1 (g + 3) j = -1) (m0 : ∀ j, j < 845 → τ.1 53 j = 0) (m1 : τ.1 50 16 = 0) : Ln v n P T g σ τ (f_X7_readShelves σ g) (f_X9_readShelves τ) (fun σ' τ' => (∃ a, Dat g a 0 0 σ' τ') ∧ ∀ j, j < 30 → σ'.1 (g + 3) j = -1) := by
  unfold f_X7_readShelves f_X9_readShelves
  rw [cW_0]
  rcases p_isW h (w := 0) (by decide) with ⟨k1, k2⟩ | ⟨k1, k2⟩
  · obtain ⟨σ1, τ1, a1, a2, a3, a4, a5⟩ := p_word h (w := 0) (by decide) (a := -5) rfl k1
    rw [a1, Option.bind_some, if_neg bt0, k2, if_neg bt0, a2, Option.bind_some]
    rcases p_told a3 1 6 g (j := 0) (by decide) (a := 0) rfl with ⟨σ2, τ2, x, b1, b2, b3, b4, b5, b6, b7, b8, b9⟩ | ⟨σ2, τ2, b1, b2, b3⟩
    · rw [b1, Option.bind_some, if_neg bt0, nm_q, b5, b2, Option.bind_some, if_neg bt0]
      have hx : 1 ≤ x ∧ x ≤ 6 := by
        have y1 : ¬ nI x < nI 1 := b7
        have y2 : nI x ≤ nI 6 := b8
        rw [lt_nI (by omega) (by omega)] at y1
        rw [le_nI (by omega) (by omega)] at y2
        omega
      rcases p_end (up_cur b3 (c := g) (j := 0) (x := nI x) hg) g with ⟨σ3, τ3, d1, d2, d3, d4, d5⟩ | ⟨σ3, τ3, d1, d2, d3⟩
      · rw [d1, Option.bind_some, d2, Option.bind_some, if_neg bt0]
        have q3 : τ3.1 53 = put (τ.1 53) 0 (nI x) := by rw [d5.r, b9.r, up_put, a5.r]
        have g3 : ∀ c, 6 ≤ c → σ3.1 c = (upI σ g 0 (nI x)).1 c := fun c hc => by
          rw [d4.g hc, up_k (by omega)]
          by_cases y : c = g
          · rw [y, up_put, up_put, b4.g hg, a4.g hg]
          · rw [up_k y, up_k y, b4.g hc, a4.g hc]
        have u3 : ∀ j, j < 30 → σ3.1 (g + 3) j = -1 := fun j hj => by rw [g3 (g + 3) (by omega), up_k (by omega)]; exact c1 j hj
        refine Or.inl ⟨σ3, τ3, _, rfl, rfl, d3, ?_, ?_, ⟨⟨x, ⟨⟨?_, ?_, hx⟩, ⟨?_, ?_, by decide⟩, ?_, ?_, by decide⟩, fun j hj => by omega, fun j hj => Or.inl ⟨u3 j hj, ?_, ?_⟩, fun q hq => by omega, fun k hk => by omega, fun j h1 h2 => ?_, ?_, ?_⟩, u3⟩, ⟨?_, ?_⟩, ⟨?_, ?_⟩⟩
        · exact FCl.trans (FCl.up1 (FCl.upg (c := g) (j := 0) (x := nI x) ((a4.cl g).trans (b4.cl g)) (by omega)) _ _) (d4.cl g)
        · exact a5.md.trans ((((FMd.rf τ1).up53).trans b9.md).trans d5.md)
        · rw [g3 g hg, up_s]
        · rw [q3, put_s]
        · rw [g3 g hg, up_j (by decide), c0.1]; rfl
        · rw [q3, put_n (by decide), m0 1 (by decide)]; rfl
        · rw [g3 g hg, up_j (by decide), c0.2]; rfl
        · rw [q3, put_n (by decide), m0 2 (by decide)]; rfl
        · rw [q3, put_n (by omega)]; exact m0 _ (by omega)
        · rw [d5.q (by decide), b9.q (by decide), up_k (by decide), a5.q (by decide), m1]
          have : ∀ j, j < 30 → ¬ wb 0 j := by unfold wb; decide
          exact this j hj
        · rw [q3, put_n (by omega)]; exact m0 _ (by omega)
        · rw [q3, put_n (by decide)]; exact m0 _ (by decide)
        · rw [q3, put_n (by decide)]; exact m0 _ (by decide)
        · rw [d4.q (by decide), up_s, up_k (by omega), b4.q (by decide), a4.q (by decide)]
        · rw [d5.q (by decide), b9.q (by decide), up_k (by decide), a5.q (by decide)]
        · rw [d4.q (by decide), up_j (by decide), up_k (by omega), b4.q (by decide), a4.q (by decide)]
        · rw [d5.q (by decide), b9.q (by decide), up_k (by decide), a5.q (by decide)]
      · rw [d1, Option.bind_some, d2, Option.bind_some, if_pos bf0]
        exact Or.inr ⟨σ3, τ3, rfl, rfl, d3.pre (((a4.cl g).trans (b4.cl g)).upg (by omega)) (a5.md.trans (((FMd.rf τ1).up53).trans b9.md))⟩
    · rw [b1, Option.bind_some, if_pos bf0, b2, Option.bind_some, if_pos bf0]
      exact Or.inr ⟨σ2, τ2, rfl, rfl, b3.pre (a4.cl g) a5.md⟩
  · obtain ⟨σ', τ', b1, b2, b3⟩ := fail_b h g 1 (Or.inl rfl)
    unfold f_X7_take
    rw [if_neg (show ¬ σ.1 1 2 = -5 from k1), b1, k2, if_pos bf0, b2]
    exact Or.inr ⟨σ', τ', rfl, rfl, b3⟩
theorem p_item (hg : 6 ≤ g) (h : Cur v n P T σ τ i) {a b : Nat} (hb : b < 5) (hd : Dat g a b 0 σ τ) (hk : σ.1 1 2 = -6) : Ln v n P T g σ τ (f_X7_readItem σ g) (f_X9_readItem τ) (fun σ' τ' => Dat g a (b + 1) 0 σ' τ' ∧ σ'.1 (g + 3) = σ.1 (g + 3)) := by
  obtain ⟨⟨e0, e1, e2⟩, e3, e4, e5, e6, e7, e8⟩ := id hd
  unfold f_X7_readItem f_X9_readItem
  obtain ⟨σ1, τ1, a1, a2, a3, a4, a5⟩ := p_word h (w := 1) (by decide) (a := -6) rfl hk
  rw [a1, Option.bind_some, if_neg bt0, rd_at (i := 1) 1 rfl (by decide) (by decide), e1.2.1, Option.bind_some, if_neg (show ¬ nI b = 5 from fun y => by have := nI_inj (b := 5) (by omega) (by omega) y; omega), a2, Option.bind_some, rd_at (i := 1) 1 rfl (by decide) (by decide), a5.r, e1.2.1, Option.bind_some, nm_q, show (5 : Int32) + 2 * nI b = nI (5 + 2 * b) by show nI 5 + nI 2 * nI b = _; rw [pk_mul, nI_add]]
  rcases p_told a3 0 99 g (j := 5 + 2 * b) (by omega) rfl with ⟨σ2, τ2, x, b1, b2, b3, b4, b5, -, -, -, b9⟩ | ⟨σ2, τ2, b1, b2, b3⟩
  · rw [b1, Option.bind_some, if_neg bt0, b2, Option.bind_some, if_neg bt0, nm_q]
    rcases p_told b3 0 99 g (j := 5 + 2 * b + 1) (by omega) (a := nI (5 + 2 * b) + 1) (nI_1 ..) with ⟨σ3, τ3, y, d1, d2, d3, d4, d5, -, -, -, d9⟩ | ⟨σ3, τ3, d1, d2, d3⟩
    · rw [d1, Option.bind_some, if_neg bt0, d2, Option.bind_some, if_neg bt0]
      have g1 : ∀ c, 6 ≤ c → σ3.1 c = σ.1 c := fun c hc => by rw [d4.g hc, b4.g hc, a4.g hc]
      have q3 : τ3.1 53 = put (put (τ.1 53) (5 + 2 * b) (nI x)) (5 + 2 * b + 1) (nI y) := by rw [d9.r, up_put, b9.r, up_put, a5.r]
      have hadd : f_X4_addItem σ3 g (σ2.1 1 4) (σ3.1 1 4) = some (upI (upI (upI σ3 (g + 1) b (nI x)) (g + 2) b (nI y)) g 1 (nI (b + 1))) := by
        unfold f_X4_addItem
        rw [b5, d5, g1 g hg, e1.1, if_neg (show ¬ (5 : Int32) ≤ nI b from nI_ge (b := 5) hb (by omega)), wr_at b rfl hb (by decide), Option.bind_some, up_k (by omega), g1 g hg, e1.1, wr_at b rfl hb (by decide), Option.bind_some, nm_q, up_k (by omega), up_k (by omega), g1 g hg, e1.1, nI_1]
      rw [hadd, Option.bind_some, rd_at (i := 1) 1 rfl (by decide) (by decide), q3, put_n (by omega), put_n (by omega), e1.2.1, Option.bind_some, wr_at (i := 1) 1 rfl (by decide) (by decide), Option.bind_some, nI_1]
      have hc4 : Cur v n P T (upI (upI (upI σ3 (g + 1) b (nI x)) (g + 2) b (nI y)) g 1 (nI (b + 1))) (upI τ3 53 1 (nI (b + 1))) (i + 1 + 1 + 1) := up_curM (up_cur (up_cur (up_cur d3 (by omega)) (by omega)) hg)
      have fc : FCl g σ (upI (upI (upI σ3 (g + 1) b (nI x)) (g + 2) b (nI y)) g 1 (nI (b + 1))) := (((((a4.cl g).trans (b4.cl g)).trans (d4.cl g)).upg (by omega)).upg (by omega)).upg (by omega)
      have fm : FMd τ (upI τ3 53 1 (nI (b + 1))) := (a5.md.trans ((((FMd.rf τ1).up53).trans b9.md).trans (((FMd.rf τ2).up53).trans d9.md))).up53
      rcases p_end hc4 g with ⟨σ4, τ4, r1, r2, r3, r4, r5⟩ | ⟨σ4, τ4, r1, r2, r3⟩
      · rw [r1, r2]
        have g4 : ∀ c, 6 ≤ c → σ4.1 c = (upI (upI (upI σ3 (g + 1) b (nI x)) (g + 2) b (nI y)) g 1 (nI (b + 1))).1 c := fun c hc => by rw [r4.g hc, up_k (by omega)]
        have q4 : τ4.1 53 = put (put (put (τ.1 53) (5 + 2 * b) (nI x)) (5 + 2 * b + 1) (nI y)) 1 (nI (b + 1)) := by rw [r5.r, up_put, q3]
        have qo : ∀ j, j ≠ 1 → j ≠ 5 + 2 * b → j ≠ 5 + 2 * b + 1 → τ4.1 53 j = τ.1 53 j := fun j z1 z2 z3 => by rw [q4, put_n z1, put_n z3, put_n z2]
        have k16 : τ4.1 50 16 = τ.1 50 16 := by rw [r5.q (by decide), up_k (by decide), d9.q (by decide), up_k (by decide), b9.q (by decide), up_k (by decide), a5.q (by decide)]
        have go : ∀ d, 3 ≤ d → d < 9 → σ4.1 (g + d) = σ.1 (g + d) := fun d z1 z2 => by rw [g4 _ (by omega), up_k (by omega), up_k (by omega), up_k (by omega), g1 _ (by omega)]
        refine Or.inl ⟨σ4, τ4, _, rfl, rfl, r3, (fc.up1 _ _).trans (r4.cl g), fm.trans r5.md, ⟨⟨⟨⟨?_, ?_, e0.2.2⟩, ⟨?_, ?_, by omega⟩, ?_, ?_, by decide⟩, fun j hj => ?_, fun j hj => ?_, fun q hq => by omega, fun k hk => by omega, fun j z1 z2 => ?_, ?_, ?_⟩, go 3 (by decide) (by decide)⟩, ⟨?_, ?_⟩, ⟨?_, ?_⟩⟩
        · rw [g4 g hg, up_j (by decide), up_k (by omega), up_k (by omega), g1 g hg]; exact e0.1
        · rw [qo 0 (by decide) (by omega) (by omega)]; exact e0.2.1
        · rw [g4 g hg, up_s]
        · rw [q4, put_s]
        · rw [g4 g hg, up_j (by decide), up_k (by omega), up_k (by omega), g1 g hg]; exact e2.1
        · rw [qo 2 (by decide) (by omega) (by omega)]; exact e2.2.1
        · rw [g4 (g + 1) (by omega), g4 (g + 2) (by omega), up_k (a := g + 1) (by omega), up_k (a := g + 1) (by omega), up_put, up_k (a := g + 2) (by omega), up_put, up_k (a := g + 2) (by omega), g1 (g + 1) (by omega), g1 (g + 2) (by omega)]
          by_cases z : j = b
          · rw [z, put_s, put_s, q4, put_n (by omega), put_n (by omega), put_s, put_n (by omega), put_s]
            exact ⟨rfl, rfl⟩
          · rw [put_n z, put_n z, qo _ (by omega) (by omega) (by omega), qo _ (by omega) (by omega) (by omega)]
            exact e3 j (by omega)
        · rw [go 3 (by decide) (by decide), qo _ (by omega) (by omega) (by omega), k16]
          exact e4 j hj
        · rw [qo _ (by omega) (by omega) (by omega)]
          exact e7 j z1 z2
        · rw [qo _ (by omega) (by omega) (by omega)]; exact e8.1
        · rw [qo _ (by omega) (by omega) (by omega)]; exact e8.2
        · rw [r4.q (by decide), up_s, up_k (by omega), up_k (by omega), up_k (by omega), d4.q (by decide), b4.q (by decide), a4.q (by decide)]
        · rw [r5.q (by decide), up_k (by decide), d9.q (by decide), up_k (by decide), b9.q (by decide), up_k (by decide), a5.q (by decide)]
        · rw [r4.q (by decide), up_j (by decide), up_k (by omega), up_k (by omega), up_k (by omega), d4.q (by decide), b4.q (by decide), a4.q (by decide)]
        · rw [r5.q (by decide), up_k (by decide), d9.q (by decide), up_k (by decide), b9.q (by decide), up_k (by decide), a5.q (by decide)]
      · rw [r1, r2]
        exact Or.inr ⟨σ4, τ4, rfl, rfl, r3.pre fc fm⟩
    · rw [d1, Option.bind_some, if_pos bf0, d2, Option.bind_some, if_pos bf0]
      exact Or.inr ⟨σ3, τ3, rfl, rfl, d3.pre ((a4.cl g).trans (b4.cl g)) (a5.md.trans (((FMd.rf τ1).up53).trans b9.md))⟩
  · rw [b1, Option.bind_some, if_pos bf0, b2, Option.bind_some, if_pos bf0]
    exact Or.inr ⟨σ2, τ2, rfl, rfl, b3.pre (a4.cl g) a5.md⟩
end RD
