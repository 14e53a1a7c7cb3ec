/-! narrow -/
theorem CStep.up {σ σ1 : St} {js nx c q : Nat} {x : Int32} (h : CStep σ σ1 js nx) (hn : nx < 10) (hc : c = 38 + nx ∨ (6 ≤ c ∧ c < 36) ∨ (48 ≤ c ∧ c < 50)) : CStep σ (upI σ1 c q x) js nx := by
  obtain ⟨h1, h2, h3, h4, h5⟩ := h
  refine ⟨h1, fun d hd => ?_, ?_, ?_, fun a a1 a2 a3 => ⟨?_, (h5 a a1 a2 a3).2⟩⟩
  · rw [up_k (by omega)]; exact h2 d hd
  · rw [up_k (by omega)]; exact h3
  · rw [up_k (by omega)]; exact h4
  · rw [up_k (by omega)]; exact (h5 a a1 a2 a3).1
def sP (σ : St) (g k : Nat) (y z : Int32) : St := upI (upI σ (g + 7) k y) (g + 8) k z
theorem c_setSpan {σ : St} {g k : Nat} {a y z : Int32} (ha : a = nI k) (hk : k < 80) : f_X4_setSpan σ g a y z = some (sP σ g k y z) := by
  subst ha
  unfold f_X4_setSpan sP
  rw [if_neg (nI_pos (by omega)), if_neg (show ¬ (80 : Int32) ≤ nI k from nI_ge (b := 80) hk (by omega))]
  exact ob (wr_at k rfl hk (by decide)) (ob (wr_at k rfl hk (by decide)) rfl)
theorem i32_ns (x y a b : Int32) : (x - y) - (a - b) = ((x - y) - a) + b := by
  simp only [Int32.sub_eq_add_neg, Int32.neg_add, Int32.neg_neg]
  ac_rfl
theorem s_narrow : S_narrow Inv := by
  intro σ hI a1 a2 a3 a4
  obtain ⟨⟨hg, -⟩, hR, hC, -, -, js, nx, j1, j2, j3, j4, j5, -⟩ := id hI
  have k1 := r52 (σ := σ) (j := 0) (x := 0)
  have hb : Inv (upI σ 50 0 0) := hI.keep (sm0 σ 0)
  have hM := hR.1.2.2.1
  unfold f_X8_narrow
  rcases move_u hR.1 a1 with ⟨m, hm, rfl, e1, m1⟩ | ⟨e1, m1, -⟩
  · rw [e1 _ _ hC.1.1.2.2, if_neg bt0]
    rcases leg_u a2 with ⟨d, hd, rfl, e2, m2⟩ | ⟨e2, m2⟩
    · rw [e2, if_neg bt0]
      have hk : 2 * m + d < 2 * nM (σ.1 52) := by omega
      have mt : ∀ τ : St, τ.1 52 = σ.1 52 → f_X9_isThere τ (nI m) (nI d) = some (decide (lg (σ.1 52) (2 * m + d) 0 = 1)) := fun τ h => by
        rw [m_isThere (k := 2 * m + d) (congrArg nI (by omega)) (congrArg nI (by omega)) (by omega), h]
      have ml : ∀ (τ : St) (w : Nat) (a : Int32), τ.1 52 = σ.1 52 → w < 4 → a = nI w → f_X9_leg τ (nI m) (nI d) a = some (lg (σ.1 52) (2 * m + d) w) := fun τ w a h hw ha => by
        rw [m_legk (k := 2 * m + d) (w := w) (congrArg nI (by omega)) (congrArg nI (by omega)) ha (by omega) hw, h]
      rw [c_there hM.2 hR.2.2.1 hR.1.1.2.2 hC.1 hk (leg_at rfl rfl)]
      simp only [Option.bind_some]
      by_cases zt : lg (σ.1 52) (2 * m + d) 0 = 1
      · rw [decide_eq_true zt, if_neg bt0, nm_q, leg_at rfl rfl]
        obtain ⟨c1, c2, c3, c4⟩ : lg (σ.1 52) (2 * m + d) 0 = 1 ∧ σ.1 (σ.2.2.1 + 6) (2 * m + d) = lg (σ.1 52) (2 * m + d) 1 ∧ σ.1 (σ.2.2.1 + 7) (2 * m + d) = lg (σ.1 52) (2 * m + d) 2 ∧ σ.1 (σ.2.2.1 + 8) (2 * m + d) = lg (σ.1 52) (2 * m + d) 3 := by
          rcases hC.1.2.2.2.2 _ hk with y | ⟨y, -⟩
          · exact y
          · rw [zt] at y; exact absurd y (by decide)
        obtain ⟨⟨s, hs, f1⟩, e0, l0, q1, q2, f2, f3⟩ : (∃ a, a < nS (σ.1 52) ∧ lg (σ.1 52) (2 * m + d) 1 = nI a) ∧ ∃ e l, e ≤ l ∧ l ≤ 999 ∧ lg (σ.1 52) (2 * m + d) 2 = nI e ∧ lg (σ.1 52) (2 * m + d) 3 = nI l := by
          rcases hR.2.2.1 _ hk with y | ⟨-, y⟩
          · rw [zt] at y; exact absurd y (by decide)
          · exact y
        rw [rd_at (2 * m + d) rfl (by omega) (by decide), rd_at (2 * m + d) rfl (by omega) (by decide), c3, c4, f2, f3]
        simp only [Option.bind_some]
        have bad : ∀ r : Option (Int32 × St), f_X9_narrow σ (nI m) (nI d) a3 a4 = r ↔ (if b2i (f_X9_isSpan (upI σ 50 0 0) a3 a4) = 0 then some (-1, upI σ 50 0 0) else if a3 < nI e0 then some (-1, upI σ 50 0 0) else if a4 ≤ nI l0 then ((f_X9_snap (upI σ 50 0 0)).bind fun q14 => nm (((45 + (10 * nI m)) + 2) + (4 * nI d)) fun v15 => (rd q14 52 845 (v15 + 3)).bind fun v16 => (rd q14 52 845 (v15 + 2)).bind fun v17 => nm (((v16 - v17) - a4) + a3) fun v18 => (wr q14 52 845 (v15 + 2) a3).bind fun σ19 => (wr σ19 52 845 (v15 + 3) a4).bind fun σ20 => some (v18, σ20)) else some (-1, upI σ 50 0 0)) = r := fun r => by
          unfold f_X9_narrow
          rw [nm_q, m1 _ k1]
          simp only [Option.bind_some]
          rw [if_neg bt0, m2, if_neg bt0, mt _ k1, decide_eq_true zt]
          simp only [Option.bind_some]
          rw [if_neg bt0, ml _ 2 2 k1 (by decide) rfl, ml _ 3 3 k1 (by decide) rfl, f2, f3]
          simp only [Option.bind_some]
        rcases span_u a3 a4 with ⟨e, l, hel, hl, rfl, rfl, -, m4⟩ | ⟨-, m4, n4⟩
        · by_cases y1 : nI e < nI e0
          · rw [if_pos y1]
            exact ⟨_, _, upI σ 50 0 0, rfl, (bad _).mpr (by rw [m4, if_neg bt0, if_pos y1]), hb⟩
          rw [if_neg y1]
          by_cases y2 : nI l0 < nI l
          · rw [if_pos y2]
            exact ⟨_, _, upI σ 50 0 0, rfl, (bad _).mpr (by rw [m4, if_neg bt0, if_neg y1, if_neg (Int32.not_le.mpr y2)]), hb⟩
          rw [if_neg y2, if_pos (show nI e ≤ nI l by rw [le_nI (by omega) (by omega)]; exact hel)]
          have hB : lgB (2 * m + d) + 4 ≤ 845 := by unfold lgB; omega
          obtain ⟨σ1, hσ1⟩ : ∃ z, z = sP (upI (upI (begS σ js nx 2 (nI (2 * m + d))) (38 + nx) 2 (nI e0)) (38 + nx) 3 (nI l0)) σ.2.2.1 (2 * m + d) (nI e) (nI l) := ⟨_, rfl⟩
          have cg : ∀ q, q < 9 → 6 ≤ σ.2.2.1 + q ∧ σ.2.2.1 + q < 36 := fun q hq => by rcases hg with y | y <;> rw [y] <;> omega
          have cg7 := cg 7 (by decide)
          have cg8 := cg 8 (by decide)
          have hcs : CStep σ σ1 js nx := by
            rw [hσ1]
            unfold sP
            exact ((((beg_step j2 rfl (fun c hc => rfl)).up j2 (Or.inl rfl)).up j2 (Or.inl rfl)).up j2 (Or.inr (Or.inl (by omega)))).up j2 (Or.inr (Or.inl (by omega)))
          have oc : ∀ c, c ≠ 36 → c ≠ 38 + nx → c ≠ σ.2.2.1 + 7 → c ≠ σ.2.2.1 + 8 → σ1.1 c = σ.1 c := fun c z1 z2 z3 z4 => by
            rw [hσ1]
            unfold sP
            rw [up_k z4, up_k z3, up_k z2, up_k z2, beg_c z1 z2]
          have p7 : σ1.1 (σ.2.2.1 + 7) = put (σ.1 (σ.2.2.1 + 7)) (2 * m + d) (nI e) := by
            rw [hσ1]
            unfold sP
            rw [up_k (by omega), up_put, up_k (by omega), up_k (by omega), beg_c (by omega) (by omega)]
          have p8 : σ1.1 (σ.2.2.1 + 8) = put (σ.1 (σ.2.2.1 + 8)) (2 * m + d) (nI l) := by
            rw [hσ1]
            unfold sP
            rw [up_put, up_k (by omega), up_k (by omega), up_k (by omega), beg_c (by omega) (by omega)]
          have pa : σ1.1 (38 + nx) 0 = 2 ∧ σ1.1 (38 + nx) 1 = nI (2 * m + d) ∧ σ1.1 (38 + nx) 2 = nI e0 ∧ σ1.1 (38 + nx) 3 = nI l0 := by
            rw [hσ1]
            unfold sP
            rw [up_k (by omega), up_k (by omega)]
            refine ⟨?_, ?_, ?_, ?_⟩
            · rw [up_j (by decide), up_j (by decide), beg_0 j2]
            · rw [up_j (by decide), up_j (by decide), beg_1 j2]
            · rw [up_j (by decide), up_s]
            · rw [up_s]
          have k2 : (upI σ1 50 0 0).1 52 = σ.1 52 := r52.trans (hcs.2.1 52 (by omega))
          obtain ⟨τ1, t1, t2, t3⟩ := m_snap1 j1 (sm0 σ1 0) (by rw [hcs.2.1 50 (by omega)]; exact j4)
          have t3' : τ1.1 52 = σ.1 52 := t3.trans (hcs.2.1 52 (by omega))
          have hQ : (upI (upI τ1 52 (lgB (2 * m + d) + 2) (nI e)) 52 (lgB (2 * m + d) + 3) (nI l)).1 52 = rowLg (σ.1 52) (2 * m + d) 1 (lg (σ.1 52) (2 * m + d) 1) (nI e) (nI l) := by
            funext j
            rw [up_put, up_put, t3']
            unfold rowLg
            by_cases z3 : j = lgB (2 * m + d) + 3
            · rw [z3, put_s, if_neg (by omega), if_neg (by omega), if_neg (by omega), if_pos rfl]
            rw [put_n z3, if_neg (c := j = lgB (2 * m + d) + 3) z3]
            by_cases z2 : j = lgB (2 * m + d) + 2
            · rw [z2, put_s, if_neg (by omega), if_neg (by omega), if_pos rfl]
            rw [put_n z2, if_neg (c := j = lgB (2 * m + d) + 2) z2]
            by_cases z0 : j = lgB (2 * m + d)
            · rw [if_pos z0, ← zt, z0]; rfl
            rw [if_neg z0]
            by_cases z1 : j = lgB (2 * m + d) + 1
            · rw [if_pos z1, z1]; rfl
            rw [if_neg z1]
          refine ⟨(nI l0 - nI e0) - (nI l - nI e), σ1, upI (upI τ1 52 (lgB (2 * m + d) + 2) (nI e)) 52 (lgB (2 * m + d) + 3) (nI l), ?_, ?_, ?_⟩
          · refine ob (c_begin j1 j2 j3 j5 _ _) ?_
            rw [nm_q, nm_q]
            refine ob (c_setSpan rfl (by omega)) ?_
            rw [hσ1]
            rfl
          · unfold f_X9_narrow
            rw [nm_q, m1 _ k2]
            simp only [Option.bind_some]
            rw [if_neg bt0, m2, if_neg bt0, mt _ k2, decide_eq_true zt]
            simp only [Option.bind_some]
            rw [if_neg bt0, ml _ 2 2 k2 (by decide) rfl, ml _ 3 3 k2 (by decide) rfl, f2, f3]
            simp only [Option.bind_some]
            rw [m4, if_neg bt0, if_neg y1, if_pos (Int32.not_lt.mp y2)]
            refine ob t1 ?_
            rw [nm_q]
            refine ob (rd_at (lgB (2 * m + d) + 3) (at_lg rfl rfl rfl hd) (by omega) (by decide)) (ob (rd_at (lgB (2 * m + d) + 2) (at_lg rfl rfl rfl hd) (by omega) (by decide)) ?_)
            rw [nm_q]
            refine ob (wr_at (lgB (2 * m + d) + 2) (at_lg rfl rfl rfl hd) (by omega) (by decide)) (ob (wr_at (lgB (2 * m + d) + 3) (at_lg rfl rfl rfl hd) (by omega) (by decide)) ?_)
            rw [t3', show σ.1 52 (lgB (2 * m + d) + 3) = nI l0 from f3, show σ.1 52 (lgB (2 * m + d) + 2) = nI e0 from f2, i32_ns]
          · refine hI.mut j1 j2 j3 j5 hcs (t2.row rfl (fun c hc => by rw [up_k hc, up_k hc])) ?_ ?_ ?_ ?_
            · rw [hQ, f1]; exact ok_lg hR hk hs hel hl
            · rw [hQ]
              have cg6 := cg 6 (by decide)
              have cg0 := cg 0 (by decide)
              refine ⟨?_, ?_, ?_⟩
              · refine cls_lg hR.1 (by omega) hC.1 (fun c hc => oc c (by omega) (by omega) (by omega) (by omega)) ?_ ?_ ?_ (fun q hq => ⟨?_, ?_, ?_⟩)
                · rw [oc _ (by omega) (by omega) (by omega) (by omega)]; exact c2
                · rw [p7, put_s]
                · rw [p8, put_s]
                · rw [oc _ (by omega) (by omega) (by omega) (by omega)]
                · rw [p7, put_n hq]
                · rw [p8, put_n hq]
              · exact hC.2.1.ag hR.1 (fun c hc => oc c (by omega) (by omega) (hg.ne (by omega) (by decide)) (hg.ne (by omega) (by decide))) (fun k hk => rowLg_lo (by omega) (by omega))
              · exact hC.2.2.ag hR.1 (fun c hc => oc c (by omega) (by omega) (hg.ne (by omega) (by decide)) (hg.ne (by omega) (by decide))) (fun k hk => rowLg_lo (by omega) (by omega))
            · rw [hQ]
              exact Or.inr (Or.inr (Or.inl ⟨pa.1, 2 * m + d, by rw [ag_nM (rowLg_lo (by omega) (by omega))]; exact hk, pa.2.1, rowLg_0⟩))
            · rw [hQ]
              exact eq_nr _ _ pa.1 pa.2.1 (pa.2.2.1.trans f2.symm) (pa.2.2.2.trans f3.symm) (by omega) zt
        · refine ⟨-1, σ, upI σ 50 0 0, ?_, (bad _).mpr (by rw [m4, if_pos bf0]), hb⟩
          by_cases y1 : a3 < nI e0
          · rw [if_pos y1]
          rw [if_neg y1]
          by_cases y2 : nI l0 < a4
          · rw [if_pos y2]
          rw [if_neg y2]
          by_cases y3 : a3 ≤ a4
          · exfalso
            have z1 := Int32.not_lt.mp y1
            have z2 := Int32.not_lt.mp y2
            have z0 : nI 0 ≤ nI e0 := by rw [le_nI (by omega) (by omega)]; omega
            have z9 : nI l0 ≤ nI 999 := by rw [le_nI (by omega) (by omega)]; omega
            rcases in_u a3 0 999 (by decide) (by decide) with ⟨e, -, he, ee, -, -, -⟩ | ⟨w | ⟨-, w⟩, -⟩
            · rcases in_u a4 0 999 (by decide) (by decide) with ⟨l, -, hl, el, -, -, -⟩ | ⟨w | ⟨-, w⟩, -⟩
              · refine n4 e l ?_ hl ⟨ee, el⟩
                rw [ee, el, le_nI (by omega) (by omega)] at y3
                exact y3
              · exact Int32.not_le.mpr w (Int32.le_trans z0 (Int32.le_trans z1 y3))
              · exact w (Int32.le_trans z2 z9)
            · exact Int32.not_le.mpr w (Int32.le_trans z0 z1)
            · exact w (Int32.le_trans y3 (Int32.le_trans z2 z9))
          · rw [if_neg y3]
      · rw [decide_eq_false zt, if_pos bf0]
        refine ⟨_, _, upI σ 50 0 0, rfl, ?_, hb⟩
        unfold f_X9_narrow
        rw [nm_q, m1 _ k1]
        simp only [Option.bind_some]
        rw [if_neg bt0, m2, if_neg bt0, mt _ k1, decide_eq_false zt]
        simp only [Option.bind_some]
        rw [if_pos bf0]
    · rw [e2, if_pos bf0]
      refine ⟨_, _, upI σ 50 0 0, rfl, ?_, hb⟩
      unfold f_X9_narrow
      rw [nm_q, m1 _ k1]
      simp only [Option.bind_some]
      rw [if_neg bt0, m2, if_pos bf0]
  · rw [e1 _ _ hC.1.1.2.2, if_pos bf0]
    refine ⟨_, _, upI σ 50 0 0, rfl, ?_, hb⟩
    unfold f_X9_narrow
    rw [nm_q, m1 _ k1]
    simp only [Option.bind_some]
    rw [if_pos bf0]
