theorem po_row {τ : St} {R : Nat → Int32} {k : Nat} {s i t d : Int32} (h : τ.1 52 = R) : (upI (upI (upI (upI (upI τ 52 (685 + 4 * k) s) 52 (686 + 4 * k) i) 52 (687 + 4 * k) t) 52 (688 + 4 * k) d) 52 4 (nI (k + 1))).1 52 = rowAd R k s i t d := by
  funext j
  rw [up_put, up_put, up_put, up_put, up_put, h]
  unfold put rowAd
  by_cases z4 : j = 4
  · rw [if_pos z4, if_pos z4]
  rw [if_neg z4, if_neg z4]
  by_cases z0 : j = 685 + 4 * k
  · rw [if_neg (by omega), if_neg (by omega), if_neg (by omega), if_pos z0, if_pos z0]
  rw [if_neg (c := j = 685 + 4 * k) z0, if_neg (c := j = 685 + 4 * k) z0]
  by_cases z1 : j = 686 + 4 * k
  · rw [if_neg (by omega), if_neg (by omega), if_pos z1, if_pos z1]
  rw [if_neg (c := j = 686 + 4 * k) z1, if_neg (c := j = 686 + 4 * k) z1]
  by_cases z2 : j = 687 + 4 * k
  · rw [if_neg (by omega), if_pos z2, if_pos z2]
  rw [if_neg (c := j = 687 + 4 * k) z2, if_neg (c := j = 687 + 4 * k) z2]
theorem m_post {τ τs : St} {R : Nat → Int32} (hR : RowOk R) {c : Nat} (hc : c < nC R) (h0 : ct R c 5 = 0) (h1 : f_X9_snap τ = some τs) (h2 : τs.1 52 = R) : ∃ τ', f_X9_post_b31 (ct R c 0) (ct R c 1) τ (nI c) = some (difC R c, τ') ∧ τ'.2 = τs.2 ∧ (∀ q, q ≠ 52 → τ'.1 q = τs.1 q) ∧ τ'.1 52 = rowPo R c := by
  have hA := hR.1.2.2.2.2
  have hn := hR.1.2.2.2.1
  obtain ⟨-, n4⟩ := po_n hR hc h0
  have hrow := po_row (k := nA R) (s := ct R c 0) (i := ct R c 1) (t := ct R c 2) (d := difC R c) h2
  obtain ⟨τ', l1, l2, l3, l4⟩ := m_postL (Q := rowAd R (nA R) (ct R c 0) (ct R c 1) (ct R c 2) (difC R c)) (x4 := difC R c) hR (fun k hk => rowAd_o (by omega)) (ct R c 0) (ct R c 1) hc (nC R) 0 10000 (upI (upI (upI (upI (upI τs 52 (685 + 4 * nA R) (ct R c 0)) 52 (686 + 4 * nA R) (ct R c 1)) 52 (687 + 4 * nA R) (ct R c 2)) 52 (688 + 4 * nA R) (difC R c)) 52 4 (nI (nA R + 1))) (by omega) (by omega) (by rw [rowF_0]; exact hrow)
  refine ⟨τ', ?_, l2, fun q hq => by rw [l3 q hq, up_k hq, up_k hq, up_k hq, up_k hq, up_k hq], l4⟩
  have ea : ∀ (q : Nat) (b : Int32), b = nI q → (685 : Int32) + 4 * nI (nA R) + b = nI (685 + 4 * nA R + q) := fun q b hb => by
    subst hb
    show nI 685 + nI 4 * nI _ + nI q = _
    rw [pk_mul, nI_add, nI_add]
  unfold f_X9_post_b31
  rw [if_pos (show (0 : Int32) ≤ nI c from Int32.not_lt.mp (nI_pos (by omega)))]
  refine ob h1 (ob (m_dif hR h2 hc rfl) (ob (rd_at 4 rfl (by decide) (by decide)) ?_))
  rw [nm_q, h2, hA.1]
  refine ob (wr_at (685 + 4 * nA R) (by show nI 685 + nI 4 * nI _ = _; rw [pk_mul, nI_add]) (by omega) (by decide)) ?_
  refine ob (wr_at (686 + 4 * nA R) ((ea 1 1 rfl).trans (congrArg nI (by omega))) (by omega) (by decide)) ?_
  refine ob (m_counted c 2 rfl rfl (by omega) (by decide)) ?_
  rw [up_j (b := 445 + 6 * c + 2) (by omega), up_j (b := 445 + 6 * c + 2) (by omega), h2]
  refine ob (wr_at (687 + 4 * nA R) ((ea 2 2 rfl).trans (congrArg nI (by omega))) (by omega) (by decide)) ?_
  refine ob (wr_at (688 + 4 * nA R) ((ea 3 3 rfl).trans (congrArg nI (by omega))) (by omega) (by decide)) ?_
  refine ob (rd_at 4 rfl (by decide) (by decide)) ?_
  rw [up_j (b := 4) (by omega), up_j (b := 4) (by omega), up_j (b := 4) (by omega), up_j (b := 4) (by omega), h2, hA.1, nI_1]
  refine ob (wr_at 4 rfl (by decide) (by decide)) ?_
  exact l1
theorem s_post : S_post Inv := by
  intro σ hI a1 a2
  obtain ⟨⟨hg, -⟩, hR, hC, -, -, js, nx, j1, j2, j3, j4, j5, -⟩ := id hI
  have k1 := r52 (σ := σ) (j := 0) (x := 0)
  have hb : Inv (upI σ 50 0 0) := hI.keep (sm0 σ 0)
  have hn := hR.1.2.2.2.1
  have hA := hR.1.2.2.2.2
  have n1 : ¬ (0 : Int32) ≤ -1 := by decide
  unfold f_X8_post
  rcases shelf_u hR.1 a1 with ⟨s, hs, rfl, e1, m1⟩ | ⟨e1, m1, -⟩
  · rcases item_u hR.1 a2 with ⟨i, hi, rfl, e2, m2⟩ | ⟨e2, m2, -⟩
    · rw [show f_X4_hasCouple σ σ.2.2.1 (nI s) (nI i) = true by unfold f_X4_hasCouple; rw [e1 _ _ hC.1.1.1, e2 _ _ hC.1.1.2.1, if_neg bt0, if_neg bt0], if_neg bt0]
      obtain ⟨r, σ', -, c1, c2, -, -, c5⟩ := ch2 hg hR hC k1 (nI s) (nI i)
      rw [c1, Option.bind_some]
      have mc : ∀ σ1 : St, (upI σ1 50 0 0).1 52 = σ.1 52 → ∃ τ0, Same (upI σ1 50 0 0) τ0 ∧ f_X9_post σ1 (nI s) (nI i) = f_X9_post_b31 (nI s) (nI i) τ0 r := fun σ1 h => by
        obtain ⟨r', σ'', τ0, d1, -, d3, d4, -⟩ := ch2 hg hR hC h (nI s) (nI i)
        obtain rfl : r' = r := pair_1 d1 c1
        refine ⟨τ0, d4, ?_⟩
        unfold f_X9_post
        rw [nm_q, m1 _ h, Option.bind_some, if_neg bt0, m2 _ h, Option.bind_some, if_neg bt0, d3, Option.bind_some]
      have hI' := hI.keep c2.same
      have no : ¬ (0 : Int32) ≤ r → ∃ (r_1 : Int32) (σ1 σ2 : St), f_X8_post_b22 (nI s) (nI i) σ' r = some (r_1, σ1) ∧ f_X9_post σ1 (nI s) (nI i) = some (r_1, σ2) ∧ Inv σ2 := fun hr => by
        obtain ⟨τ0, t1, t2⟩ := mc σ' (r52.trans (c2.1 52 (by decide) (by decide)))
        refine ⟨-100000000, σ', τ0, ?_, ?_, (hI'.keep (sm0 σ' 0)).keep t1⟩
        · unfold f_X8_post_b22
          rw [if_neg hr]
        · rw [t2]
          unfold f_X9_post_b31
          rw [if_neg hr]
      rcases c5 with z | z | ⟨c, hc, rfl, ho⟩
      · exact no (by rw [z]; decide)
      · exact no (by rw [z]; decide)
      · obtain ⟨q0, q1, h0⟩ := opB_iff.mp ho
        obtain ⟨tc1, tc2⟩ := tnum hR hc
        obtain ⟨-, n4⟩ := po_n hR hc h0
        obtain ⟨g', C'⟩ := Cls.off hg c2 hC
        obtain ⟨σ'', p0, p1, -⟩ := c_dif g' hR C' hc rfl
        have off := c2.trans p1
        obtain ⟨g'', C''⟩ := Cls.off hg off hC
        have o0 : ∀ q, q ≠ 48 → q ≠ 49 → σ''.1 q = σ.1 q := off.1
        obtain ⟨σb, hσb⟩ : ∃ z, z = begS (apS σ'' (nA (σ.1 52)) (nI s) (nI i) (ct (σ.1 52) c 2) (difC (σ.1 52) c)) js nx 4 (nI c) := ⟨_, rfl⟩
        have ob1 : ∀ q, q < 31 ∨ (48 ≤ q) → σb.1 q = σ''.1 q := fun q hq => by rw [hσb, beg_c (by omega) (by omega), ap_c (by omega)]
        have hcb : CStep σ σb js nx := by
          rw [hσb]
          refine beg_step j2 ?_ (fun q hq => ?_)
          · exact off.2
          · rw [ap_c (by omega), o0 q (by omega) (by omega)]
        obtain ⟨w', σp, l1, l2, l3, l4, l5⟩ := c_postL hR (nI s) (nI i) (tC (σ.1 52) c) tc1 (nC (σ.1 52)) 0 10000 σb 0 (by omega) (by omega) (by rw [rowF_0]; exact C''.2.2.ag hR.1 (fun q hq => ob1 q (by omega)) (fun _ _ => rfl))
        have hcs : CStep σ (upL σp (38 + nx) w') js nx := (hcb.off l2 (fun q hq => l3 q (by omega))).upL
        have k2 : (upI (upL σp (38 + nx) w') 50 0 0).1 52 = σ.1 52 := r52.trans (hcs.2.1 52 (by omega))
        obtain ⟨τ0, t1, t2⟩ := mc _ k2
        obtain ⟨τs, u1, u2, u3⟩ := m_snap1 j1 ((sm0 (upL σp (38 + nx) w') 0).trans t1) (by rw [hcs.2.1 50 (by omega)]; exact j4)
        have u3' : τs.1 52 = σ.1 52 := u3.trans (hcs.2.1 52 (by omega))
        obtain ⟨τ, v1, v2, v3, v4⟩ := m_post hR hc h0 u1 u3'
        rw [q0, q1] at v1
        refine ⟨difC (σ.1 52) c, upL σp (38 + nx) w', τ, ?_, ?_, ?_⟩
        · unfold f_X8_post_b22
          rw [if_pos (show (0 : Int32) ≤ nI c from Int32.not_lt.mp (nI_pos (by omega)))]
          refine ob (rd_at c rfl (by omega) (by decide)) ?_
          rw [show σ'.1 27 c = ct (σ.1 52) c 2 from C'.2.2.2 c hc 2 (by decide)]
          refine ob p0 ?_
          refine ob (c_append (k := nA (σ.1 52)) (by rw [o0 31 (by decide) (by decide), hC.2.1.1]; exact hA.1) n4 _ _ _ _) ?_
          refine ob (c_begin j1 j2 (by rw [ap_c (by omega), o0 36 (by decide) (by decide)]; exact j3) (by rw [ap_c (by omega), o0 36 (by decide) (by decide)]; exact j5) _ _) ?_
          refine ob (a := (w', σp)) ?_ ?_
          · unfold f_X3_postUpTo
            rw [tc2, show (begS (apS σ'' (nA (σ.1 52)) (nI s) (nI i) (nI (tC (σ.1 52) c)) (difC (σ.1 52) c)) js nx 4 (nI c)) = σb by rw [hσb, tc2]]
            exact l1
          · rw [nm_q]
        · rw [t2]
          exact v1
        · refine hI.mut j1 j2 j3 j5 hcs (u2.row v2 v3) ?_ ?_ ?_ ?_
          · rw [v4]; exact ok_po hR hc h0
          · rw [v4]
            refine ⟨?_, ?_, ?_⟩
            · refine hC.1.ag hR.1 (fun q hq => ?_) rowPo_g
              have : 6 ≤ q ∧ q < 24 := by rcases hg with y | y <;> rw [y] at hq <;> omega
              show σp.1 q = _
              rw [l3 q (by omega), ob1 q (by omega), o0 q (by omega) (by omega)]
            · have ha : ∀ q, 31 ≤ q ∧ q < 36 → (upL σp (38 + nx) w').1 q = (apS σ'' (nA (σ.1 52)) (nI s) (nI i) (ct (σ.1 52) c 2) (difC (σ.1 52) c)).1 q := fun q hq => by
                show σp.1 q = _
                rw [l3 q (by omega), hσb, beg_c (by omega) (by omega)]
              unfold ClsA
              rw [ha 31 (by omega), ha 32 (by omega), ha 33 (by omega), ha 34 (by omega), ha 35 (by omega), rowPo_4, rowPo_N hR hc h0]
              unfold apS
              refine ⟨up_s, fun k hk => ?_⟩
              rw [up_k (by decide), up_k (by decide), up_k (by decide), up_k (by decide), up_put]
              rw [up_k (a := 33) (k := 31) (by decide), up_k (a := 33) (k := 35) (by decide), up_k (a := 33) (k := 34) (by decide), up_put, up_k (a := 33) (k := 32) (by decide)]
              rw [up_k (a := 34) (k := 31) (by decide), up_k (a := 34) (k := 35) (by decide), up_put, up_k (a := 34) (k := 33) (by decide), up_k (a := 34) (k := 32) (by decide)]
              rw [up_k (a := 35) (k := 31) (by decide), up_put, up_k (a := 35) (k := 34) (by decide), up_k (a := 35) (k := 33) (by decide), up_k (a := 35) (k := 32) (by decide)]
              by_cases y : k = nA (σ.1 52)
              · rw [y, put_s, put_s, put_s, put_s, rowPo_a.1, rowPo_a.2.1, rowPo_a.2.2.1, rowPo_a.2.2.2]
                exact ⟨q0.symm, q1.symm, rfl, rfl⟩
              · rw [put_n y, put_n y, put_n y, put_n y, rowPo_o (j := 685 + 4 * k) (by omega), rowPo_o (j := 686 + 4 * k) (by omega), rowPo_o (j := 687 + 4 * k) (by omega), rowPo_o (j := 688 + 4 * k) (by omega)]
                exact C''.2.1.2 k (by omega)
            · have hq : rowPo (σ.1 52) c = rowF (rowAd (σ.1 52) (nA (σ.1 52)) (nI s) (nI i) (ct (σ.1 52) c 2) (difC (σ.1 52) c)) (pP (σ.1 52) (nI s) (nI i) (tC (σ.1 52) c)) (nC (σ.1 52)) := by
                unfold rowPo
                rw [q0, q1]
              have hN' : nC (rowF (σ.1 52) (pP (σ.1 52) (nI s) (nI i) (tC (σ.1 52) c)) (nC (σ.1 52))) = nC (σ.1 52) := rowF_N
              rw [hq]
              have ea : ∀ k, k = 3 ∨ (445 ≤ k ∧ k < 685) → rowF (rowAd (σ.1 52) (nA (σ.1 52)) (nI s) (nI i) (ct (σ.1 52) c 2) (difC (σ.1 52) c)) (pP (σ.1 52) (nI s) (nI i) (tC (σ.1 52) c)) (nC (σ.1 52)) k = rowF (σ.1 52) (pP (σ.1 52) (nI s) (nI i) (tC (σ.1 52) c)) (nC (σ.1 52)) k := fun k hk => by
                unfold rowF
                rw [rowAd_o (by omega)]
              refine ⟨?_, fun q hq w hw => ?_⟩
              · rw [ea 3 (by omega)]; exact l4.1
              · rw [ag_nC (ea 3 (by omega)), hN'] at hq
                rw [ea _ (by omega)]
                exact l4.2 q (by rw [hN']; exact hq) w hw
          · rw [v4]
            refine Or.inr (Or.inr (Or.inr (Or.inr (Or.inl ⟨?_, by rw [rowPo_N hR hc h0]; omega⟩))))
            show σp.1 (38 + nx) 0 = 4
            rw [l3 _ (by omega), hσb, beg_0 j2]
          · rw [v4]
            refine eq_po _ _ ?_ hR hc h0 (fun j hj => ?_)
            · show σp.1 (38 + nx) 0 = 4
              rw [l3 _ (by omega), hσb, beg_0 j2]
            · show wbit (if 38 + nx = 38 + nx then w' else σp.2.1 (38 + nx)) j = _
              rw [if_pos rfl, l5 j hj, bit_0, q0, q1, decide_eq_true (Nat.zero_le j)]
              rfl
    · rw [show f_X4_hasCouple σ σ.2.2.1 (nI s) a2 = false by unfold f_X4_hasCouple; rw [e1 _ _ hC.1.1.1, e2 _ _ hC.1.1.2.1, if_neg bt0, if_pos bf0], if_pos bf0]
      unfold f_X8_post_b22
      rw [if_neg n1]
      refine ⟨_, _, upI σ 50 0 0, rfl, ?_, hb⟩
      unfold f_X9_post
      rw [nm_q, m1 _ k1, Option.bind_some, if_neg bt0, m2 _ k1, Option.bind_some, if_pos bf0]
      unfold f_X9_post_b31
      rw [if_neg n1]
  · rw [show f_X4_hasCouple σ σ.2.2.1 a1 a2 = false by unfold f_X4_hasCouple; rw [e1 _ _ hC.1.1.1, if_pos bf0], if_pos bf0]
    unfold f_X8_post_b22
    rw [if_neg n1]
    refine ⟨_, _, upI σ 50 0 0, rfl, ?_, hb⟩
    unfold f_X9_post
    rw [nm_q, m1 _ k1, Option.bind_some, if_pos bf0]
    unfold f_X9_post_b31
    rw [if_neg n1]
