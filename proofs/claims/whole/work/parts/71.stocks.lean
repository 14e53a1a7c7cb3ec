/-! text: stocks -/
theorem sm31 : ∀ j, j < 31 → ((nI j &&& 31).toBitVec.smod 32).toNat = j := by decide
theorem wb_iff {x : Int32} {j : Nat} (hj : j < 31) : wb x j ↔ x.toBitVec.getLsbD j = true := by
  unfold wb
  rw [← Int32.toBitVec_inj, Int32.toBitVec_and, Int32.toBitVec_shiftRight, BitVec.sshiftRight_eq', sm31 j hj]
  show (x.toBitVec.sshiftRight j &&& 1#32) = 1#32 ↔ _
  rw [BitVec.and_one_eq_setWidth_ofBool_getLsbD, BitVec.getLsbD_sshiftRight, if_pos (by omega), Nat.add_zero]
  cases x.toBitVec.getLsbD j <;> decide
theorem wb_or {x : Int32} {j k : Nat} (hj : j < 31) (hk : k < 31) : wb (x ||| (1 <<< (nI j &&& 31))) k ↔ wb x k ∨ k = j := by
  rw [wb_iff hk, wb_iff hk, Int32.toBitVec_or, Int32.toBitVec_shiftLeft, BitVec.getLsbD_or, BitVec.shiftLeft_eq', sm31 j hj, BitVec.getLsbD_shiftLeft]
  show (_ || (decide (k < 32) && !decide (k < j) && (1#32).getLsbD (k - j))) = true ↔ _
  rw [BitVec.getLsbD_one, decide_eq_true (show k < 32 by omega)]
  by_cases z : k = j
  · simp [z]
  · by_cases y : k < j
    · simp [y, z]
    · simp [y, z]; omega
section RS
variable {v : Nat → Nat} {n : Nat} {P : Nat → Nat} {T i : Nat} {σ τ : St} {g : Nat}
theorem p_stock (hg : 6 ≤ g) (h : Cur v n P T σ τ i) {a b : Nat} (hd : Dat g a b 0 σ τ) (hk : σ.1 1 2 = -7) : Ln v n P T g σ τ (f_X7_readStock σ g) (f_X9_readStock τ) (fun σ' τ' => Dat g a b 0 σ' τ' ∧ ∃ j z, j < 30 ∧ σ.1 (g + 3) j = -1 ∧ σ'.1 (g + 3) = put (σ.1 (g + 3)) j (nI z) ∧ z ≤ 999) := by
  obtain ⟨⟨e0, e1, e2⟩, e3, e4, e5, e6, e7, e8⟩ := id hd
  unfold f_X7_readStock f_X9_readStock
  obtain ⟨σ1, τ1, a1, a2, a3, a4, a5⟩ := p_word h (w := 2) (by decide) (a := -7) rfl hk
  have es : nI a - 1 = nI (a - 1) := pk_sub (b := 1) e0.2.2.1
  rw [a1, Option.bind_some, if_neg bt0, a2, Option.bind_some, rd_at (i := 0) 0 rfl (by decide) (by decide), a5.r, e0.2.1, Option.bind_some, a4.g hg, e0.1, es]
  rcases p_takes a3 0 (nI (a - 1)) g with ⟨σ2, τ2, x, b1, b2, b3, b4, b5, b6, -, b8, b9⟩ | ⟨σ2, τ2, b1, b2, b3⟩
  · have hx : x < a := by
      rw [le_nI (by omega) (by omega)] at b8
      omega
    rw [b1, Option.bind_some, if_neg bt0, nm_q, b5, b2, Option.bind_some, if_neg bt0, nm_q, show τ2.1 50 15 = nI x by rw [b9.q (by decide), up_s]]
    have g2 : ∀ c, 6 ≤ c → σ2.1 c = σ.1 c := fun c hc => by rw [b4.g hc, a4.g hc]
    have q2 : τ2.1 53 = τ.1 53 := by rw [b9.r, up_k (by decide), a5.r]
    have k2 : ∀ q, 8 ≤ q → q ≠ 15 → τ2.1 50 q = τ.1 50 q := fun q z1 z2 => by rw [b9.q z1, up_j z2, a5.q z1]
    have fc2 : FCl g σ σ2 := (a4.cl g).trans (b4.cl g)
    have fm2 : FMd τ τ2 := a5.md.trans (((FMd.rf τ1).up50 (by decide)).trans b9.md)
    have hsh : f_X4_hasShelf σ2 g (nI x) = true := by
      unfold f_X4_hasShelf
      rw [g2 g hg, e0.1, if_neg (nI_pos (by omega)), if_neg (nI_ge hx (by omega))]
    obtain ⟨-, -, -, -, -, c3', c4, -⟩ := id b3
    rcases c4.num with ⟨y, y1, y2, y3, y4⟩ | ⟨y1, y2⟩
    · rw [if_pos y3, rd_at (i := 1) 1 rfl (by decide) (by decide), q2, e1.2.1, Option.bind_some, y4, y2, g2 g hg, e1.1]
      have hb2 : ∃ σ' τ', ((f_X7_fail σ2 2).bind fun q15 => some (q15.1, q15.2)) = some (false, σ') ∧ ((f_X9_bad τ2 2).bind fun q9 => some (q9.1, q9.2)) = some (false, τ') ∧ Bad g σ2 σ' τ2 τ' := by
        obtain ⟨σ', τ', w1, w2, w3⟩ := fail_b b3 g 2 (Or.inr (by rw [y3]; decide))
        exact ⟨σ', τ', ob w1 rfl, ob w2 rfl, w3⟩
      by_cases zy : y < b
      · rw [if_neg (show ¬ nI b ≤ nI y from nI_ge zy (by omega))]
        have hit : f_X4_hasItem σ2 g (nI y) = true := by
          unfold f_X4_hasItem
          rw [g2 g hg, e1.1, if_neg (nI_pos (by omega)), if_neg (nI_ge zy (by omega))]
        have hcp : f_X4_hasCouple σ2 g (nI x) (nI y) = true := by
          unfold f_X4_hasCouple
          rw [hsh, hit, if_neg bt0, if_neg bt0]
        have hj : 5 * x + y < 30 := by omega
        have ej : (5 : Int32) * nI x + nI y = nI (5 * x + y) := by
          show nI 5 * nI x + nI y = _
          rw [pk_mul, nI_add]
        have epl : ∀ ρ : St, f_X4_placeOf ρ (nI x) (nI y) = nI (5 * x + y) := fun ρ => by
          unfold f_X4_placeOf
          show nI x * nI 5 + nI y = _
          rw [pk_mul, nI_add]
          exact congrArg nI (by omega)
        rw [ej, k2 16 (by decide) (by decide)]
        rcases e4 (5 * x + y) hj with ⟨w1, w2, w3⟩ | ⟨z, w0, w1, w2, w3⟩
        · have hnt : f_X4_isStockTold σ2 g (nI x) (nI y) = some false := by
            unfold f_X4_isStockTold
            rw [hcp, if_neg bt0, epl, rd_at (5 * x + y) rfl (by omega) (by decide), Option.bind_some, g2 (g + 3) (by omega), w1, if_pos rfl]
          rw [hnt, Option.bind_some, if_pos bf0, if_neg (show ¬ ((τ.1 50 16 >>> (nI (5 * x + y) &&& 31)) &&& 1) = 1 from w3), nm_q, nm_q]
          have hcur : Cur v n P T (upI σ2 1 4 (nI y)) (upI τ2 50 16 (τ.1 50 16 ||| 1 <<< (nI (5 * x + y) &&& 31))) (i + 1 + 1) := b3.keep (up_k (by decide)) (up_k (by decide)) (up_k (by decide)) (fun q hq => up_j (by omega)) (up_k (by decide)) (fun q hq => up_j (by omega)) rfl
          have hne : ¬ (upI σ2 1 4 (nI y)).1 1 2 = -2 := by
            rw [up_j (by decide), y2]
            intro w
            have : nI y < 0 := by rw [w]; decide
            exact nI_pos (by omega) this
          obtain ⟨σ3, τ3, d1, d2, d3, d4, d6, d5⟩ := adv_go hcur hne
          have htn : f_X7_takeNumber σ2 0 (nI b - 1) = some (true, σ3) := by
            unfold f_X7_takeNumber
            rw [y2, if_pos (show (0 : Int32) ≤ nI y from Int32.not_lt.mp (nI_pos (by omega))), if_neg (show ¬ nI y < 0 from nI_pos (by omega)), show nI b - 1 = nI (b - 1) from pk_sub (b := 1) (by omega), if_pos (show nI y ≤ nI (b - 1) by rw [le_nI (by omega) (by omega)]; omega), nm_q, d1]
            rfl
          rw [htn, Option.bind_some, if_neg bt0, nm_q, d6, up_s, d2, Option.bind_some]
          rw [show (15 : Int32) + nI (5 * x + y) = nI (15 + (5 * x + y)) by show nI 15 + nI _ = _; rw [nI_add]]
          have g3 : ∀ c, 6 ≤ c → σ3.1 c = σ.1 c := fun c hc => by rw [d4.g hc, up_k (by omega), g2 c hc]
          have fc3 : FCl g σ σ3 := (fc2.up1 _ _).trans (d4.cl g)
          have fm3 : FMd τ τ3 := (fm2.up50 (by decide)).trans d5.md
          rcases p_told d3 0 999 g (j := 15 + (5 * x + y)) (by omega) rfl with ⟨σ4, τ4, z, r1, r2, r3, r4, r5, r6, -, -, r9⟩ | ⟨σ4, τ4, r1, r2, r3⟩
          · rw [r1, Option.bind_some, if_neg bt0, r2, Option.bind_some, if_neg bt0]
            have g4 : ∀ c, 6 ≤ c → σ4.1 c = σ.1 c := fun c hc => by rw [r4.g hc, g3 c hc]
            have htell : f_X4_tellStock σ4 g (nI x) (nI y) (σ4.1 1 4) = some (upI σ4 (g + 3) (5 * x + y) (nI z)) := by
              unfold f_X4_tellStock f_X4_hasCouple f_X4_hasShelf f_X4_hasItem
              rw [g4 g hg, e0.1, e1.1, if_neg (show ¬ nI x < 0 from nI_pos (by omega)), if_neg (nI_ge hx (by omega)), if_neg bt0, if_neg (show ¬ nI y < 0 from nI_pos (by omega)), if_neg (nI_ge zy (by omega)), if_neg bt0, if_neg bt0, epl, wr_at (5 * x + y) rfl (by omega) (by decide), Option.bind_some, r5]
            rw [htell, Option.bind_some]
            have fc4 : FCl g σ (upI σ4 (g + 3) (5 * x + y) (nI z)) := (fc3.trans (r4.cl g)).upg (by omega)
            have fm4 : FMd τ τ4 := fm3.trans (((FMd.rf τ3).up53).trans r9.md)
            rcases p_end (up_cur r3 (c := g + 3) (j := 5 * x + y) (x := nI z) (by omega)) g with ⟨σ5, τ5, s1, s2, s3, s4, s5⟩ | ⟨σ5, τ5, s1, s2, s3⟩
            · rw [s1, s2, Option.bind_some, Option.bind_some, if_neg bt0]
              have g5 : ∀ c, 6 ≤ c → c ≠ g + 3 → σ5.1 c = σ.1 c := fun c hc z1 => by rw [s4.g hc, up_k (by omega), up_k z1, g4 c hc]
              have g53 : σ5.1 (g + 3) = put (σ.1 (g + 3)) (5 * x + y) (nI z) := by rw [s4.g (by omega), up_k (by omega), up_put, g4 _ (by omega)]
              have q5 : τ5.1 53 = put (τ.1 53) (15 + (5 * x + y)) (nI z) := by rw [s5.r, r9.r, up_put, d5.r, up_k (by decide), q2]
              have qo : ∀ j, j ≠ 15 + (5 * x + y) → τ5.1 53 j = τ.1 53 j := fun j z1 => by rw [q5, put_n z1]
              have k16 : τ5.1 50 16 = τ.1 50 16 ||| 1 <<< (nI (5 * x + y) &&& 31) := by rw [s5.q (by decide), r9.q (by decide), up_k (by decide), d5.q (by decide), up_s]
              have kq : ∀ q, q = 8 ∨ q = 17 → τ5.1 50 q = τ.1 50 q := fun q hq => by rw [s5.q (by omega), r9.q (by omega), up_k (by decide), d5.q (by omega), up_j (by omega), k2 q (by omega) (by omega)]
              refine Or.inl ⟨σ5, τ5, _, rfl, rfl, s3, (fc4.up1 _ _).trans (s4.cl g), fm4.trans s5.md, ⟨⟨⟨⟨?_, ?_, e0.2.2⟩, ⟨?_, ?_, e1.2.2⟩, ?_, ?_, by decide⟩, fun j hj' => ?_, fun j hj' => ?_, fun q hq => by omega, fun k hk => by omega, fun j z1 z2 => ?_, ?_, ?_⟩, 5 * x + y, z, hj, w1, g53, r6⟩, ⟨?_, ?_⟩, ⟨?_, ?_⟩⟩
              · rw [g5 g hg (by omega)]; exact e0.1
              · rw [qo 0 (by omega)]; exact e0.2.1
              · rw [g5 g hg (by omega)]; exact e1.1
              · rw [qo 1 (by omega)]; exact e1.2.1
              · rw [g5 g hg (by omega)]; exact e2.1
              · rw [qo 2 (by omega)]; exact e2.2.1
              · rw [g5 (g + 1) (by omega) (by omega), g5 (g + 2) (by omega) (by omega), qo _ (by omega), qo _ (by omega)]
                exact e3 j hj'
              · rw [g53, k16]
                by_cases w : j = 5 * x + y
                · refine Or.inr ⟨z, r6, by rw [w, put_s], by rw [q5, w, put_s], ?_⟩
                  rw [wb_or (by omega) (by omega)]
                  exact Or.inr w
                · rw [put_n w, qo _ (by omega)]
                  rcases e4 j hj' with ⟨u1, u2, u3⟩ | ⟨u, u0, u1, u2, u3⟩
                  · refine Or.inl ⟨u1, u2, ?_⟩
                    rw [wb_or (by omega) (by omega)]
                    intro q
                    rcases q with q | q
                    · exact u3 q
                    · exact w q
                  · refine Or.inr ⟨u, u0, u1, u2, ?_⟩
                    rw [wb_or (by omega) (by omega)]
                    exact Or.inl u3
              · rw [qo _ (by omega)]; exact e7 j z1 z2
              · rw [qo _ (by omega)]; exact e8.1
              · rw [qo _ (by omega)]; exact e8.2
              · rw [s4.q (by decide), up_s, up_k (by omega), r4.q (by decide), d4.q (by decide), up_j (by decide), b4.q (by decide), a4.q (by decide)]
              · exact kq 17 (by omega)
              · rw [s4.q (by decide), up_j (by decide), up_k (by omega), r4.q (by decide), d4.q (by decide), up_j (by decide), b4.q (by decide), a4.q (by decide)]
              · exact kq 8 (by omega)
            · rw [s1, s2, Option.bind_some, Option.bind_some, if_pos bf0]
              exact Or.inr ⟨σ5, τ5, rfl, rfl, s3.pre fc4 fm4⟩
          · rw [r1, Option.bind_some, if_pos bf0, r2, Option.bind_some, if_pos bf0]
            exact Or.inr ⟨σ4, τ4, rfl, rfl, r3.pre fc3 fm3⟩
        · have hnt : f_X4_isStockTold σ2 g (nI x) (nI y) = some true := by
            unfold f_X4_isStockTold
            rw [hcp, if_neg bt0, epl, rd_at (5 * x + y) rfl (by omega) (by decide), Option.bind_some, g2 (g + 3) (by omega), w1, if_neg (nI_m1 (by omega))]
          obtain ⟨σ', τ', u1, u2, u3⟩ := hb2
          rw [hnt, Option.bind_some, if_neg bt0, if_pos (show ((τ.1 50 16 >>> (nI (5 * x + y) &&& 31)) &&& 1) = 1 from w3), u1, u2]
          exact Or.inr ⟨σ', τ', rfl, rfl, u3.pre fc2 fm2⟩
      · rw [if_pos (show nI b ≤ nI y by rw [le_nI (by omega) (by omega)]; omega)]
        have hit : f_X4_hasItem σ2 g (nI y) = false := by
          unfold f_X4_hasItem
          rw [g2 g hg, e1.1, if_neg (nI_pos (by omega)), if_pos (by rw [le_nI (by omega) (by omega)]; omega)]
        have hnt : f_X4_isStockTold σ2 g (nI x) (nI y) = some false := by
          unfold f_X4_isStockTold f_X4_hasCouple
          rw [hsh, hit, if_neg bt0, if_pos bf0, if_pos bf0]
        obtain ⟨σ', τ', u1, u2, u3⟩ := hb2
        have htn : f_X7_takeNumber σ2 0 (nI b - 1) = some (false, σ') := by
          have hlt : ¬ nI y ≤ nI b - 1 := by
            rw [Int32.le_iff_toInt_le, nI_toInt (by omega), show (nI b - 1).toInt = (b : Int) - 1 from pk_sub_toInt (a := b) (b := 1) (by omega) (by decide)]
            omega
          unfold f_X7_takeNumber
          rw [y2, if_pos (show (0 : Int32) ≤ nI y from Int32.not_lt.mp (nI_pos (by omega))), if_neg (show ¬ nI y < 0 from nI_pos (by omega)), if_neg hlt]
          exact u1
        rw [hnt, Option.bind_some, if_pos bf0, htn, Option.bind_some, if_pos bf0, u2]
        exact Or.inr ⟨σ', τ', rfl, rfl, u3.pre fc2 fm2⟩
    · rw [if_neg y2]
      obtain ⟨σ', τ', u1, u2, u3⟩ := fail_b b3 g 1 (Or.inl rfl)
      have hit : f_X4_hasItem σ2 g (σ2.1 1 2) = false := by
        unfold f_X4_hasItem
        rw [if_pos y1]
      have hnt : f_X4_isStockTold σ2 g (nI x) (σ2.1 1 2) = some false := by
        unfold f_X4_isStockTold f_X4_hasCouple
        rw [hsh, hit, if_neg bt0, if_pos bf0, if_pos bf0]
      have htn : ∀ hi, f_X7_takeNumber σ2 0 hi = some (false, σ') := fun hi => by
        unfold f_X7_takeNumber
        rw [if_neg (Int32.not_le.mpr y1), u1]
        rfl
      rw [hnt, Option.bind_some, if_pos bf0, htn, Option.bind_some, if_pos bf0, u2]
      exact Or.inr ⟨σ', τ', rfl, rfl, u3.pre fc2 fm2⟩
  · rw [b1, Option.bind_some, if_pos bf0, b2, Option.bind_some, if_pos bf0]
    exact Or.inr ⟨σ2, τ2, rfl, rfl, b3.pre (a4.cl g) a5.md⟩
end RS
