def f_X4_isOver (σ : St) (g0 : Nat) (a1 : Int32) (a2 : Int32) : Option Bool :=
  (rd σ (g0 + 8) 80 a1).bind fun v1 => if a2 < v1 then (some false) else (some true)
set_option maxRecDepth 100000 in
set_option maxHeartbeats 4000000 in
theorem ok_X4_isOver (X : Xc) (l : Launch) (σ : St) (g0 : Nat) (a1 : Int32) (a2 : Int32) (hg0 : isG g0) (r : Bool) (h : f_X4_isOver σ g0 a1 a2 = some r) : Ok X l yX4_isOver cX4_isOver 3 (some .boolean) 0 0 [.ref (X.2.1 g0), .int a1, .int a2] σ (some (.int (b2i r))) σ := by
  refine Ok.of (by decide) (Nat.le_of_ble_eq_true rfl) ?_
  intro p e s m args below meth c C hr hlk hw ls hl
  have C : Cx p s m args c X cX4_isOver 3 "RunningCount$Goods" := C
  have hl : lv_has ls 3 [(0, .ref (X.2.1 g0)), (1, .int a1), (2, .int a2)] := hl
  rw [f_X4_isOver] at h
  refine lv_aload_n C.1 C.2.1 dX4_isOver_0 rfl (lv_at hl 0 rfl) ?_
  refine r_get (v := .ref (X.2.1 (g0 + 8))) C hw (lg_0 hg0) vc_4 kX4 10 rfl (by decide) gw_237 rfl dX4_isOver_1 ?_
  refine lv_iload_n C.1 C.2.1 dX4_isOver_4 rfl (lv_at hl 1 rfl) ?_
  obtain ⟨v1, ev1, h⟩ := bnd h
  refine r_ald C hw (lg_8 hg0) ev1 dX4_isOver_5 ?_
  refine lv_iload_n C.1 C.2.1 dX4_isOver_6 rfl (lv_at hl 2 rfl) ?_
  refine lv_icmp_gt (tgt := 14) C.1 C.2.1 dX4_isOver_7 (by decide) (fun c2 => ?_) (fun c2 => ?_)
  · have h := ite_t c2 h
    refine lv_iconst (v := 0) C.1 C.2.1 dX4_isOver_14 (by decide) ?_
    exact r_zret C hr hlk hw rfl (Option.some.inj h) rfl dX4_isOver_15
  · have h := ite_f c2 h
    refine lv_iconst (v := 1) C.1 C.2.1 dX4_isOver_10 (by decide) ?_
    refine lv_goto (tgt := 15) C.1 C.2.1 dX4_isOver_11 (by decide) ?_
    exact r_zret C hr hlk hw rfl (Option.some.inj h) rfl dX4_isOver_15
def f_X4_isToCome (σ : St) (g0 : Nat) (a1 : Int32) (a2 : Int32) : Option Bool :=
  (rd σ (g0 + 7) 80 a1).bind fun v1 => if v1 ≤ a2 then (some false) else (some true)
set_option maxRecDepth 100000 in
set_option maxHeartbeats 4000000 in
theorem ok_X4_isToCome (X : Xc) (l : Launch) (σ : St) (g0 : Nat) (a1 : Int32) (a2 : Int32) (hg0 : isG g0) (r : Bool) (h : f_X4_isToCome σ g0 a1 a2 = some r) : Ok X l yX4_isToCome cX4_isToCome 3 (some .boolean) 0 0 [.ref (X.2.1 g0), .int a1, .int a2] σ (some (.int (b2i r))) σ := by
  refine Ok.of (by decide) (Nat.le_of_ble_eq_true rfl) ?_
  intro p e s m args below meth c C hr hlk hw ls hl
  have C : Cx p s m args c X cX4_isToCome 3 "RunningCount$Goods" := C
  have hl : lv_has ls 3 [(0, .ref (X.2.1 g0)), (1, .int a1), (2, .int a2)] := hl
  rw [f_X4_isToCome] at h
  refine lv_aload_n C.1 C.2.1 dX4_isToCome_0 rfl (lv_at hl 0 rfl) ?_
  refine r_get (v := .ref (X.2.1 (g0 + 7))) C hw (lg_0 hg0) vc_4 kX4 9 rfl (by decide) gw_235 rfl dX4_isToCome_1 ?_
  refine lv_iload_n C.1 C.2.1 dX4_isToCome_4 rfl (lv_at hl 1 rfl) ?_
  obtain ⟨v1, ev1, h⟩ := bnd h
  refine r_ald C hw (lg_7 hg0) ev1 dX4_isToCome_5 ?_
  refine lv_iload_n C.1 C.2.1 dX4_isToCome_6 rfl (lv_at hl 2 rfl) ?_
  refine lv_icmp_le (tgt := 14) C.1 C.2.1 dX4_isToCome_7 (by decide) (fun c2 => ?_) (fun c2 => ?_)
  · have h := ite_t c2 h
    refine lv_iconst (v := 0) C.1 C.2.1 dX4_isToCome_14 (by decide) ?_
    exact r_zret C hr hlk hw rfl (Option.some.inj h) rfl dX4_isToCome_15
  · have h := ite_f c2 h
    refine lv_iconst (v := 1) C.1 C.2.1 dX4_isToCome_10 (by decide) ?_
    refine lv_goto (tgt := 15) C.1 C.2.1 dX4_isToCome_11 (by decide) ?_
    exact r_zret C hr hlk hw rfl (Option.some.inj h) rfl dX4_isToCome_15
def f_X2_addDoubt_b19 (a1 : Int32) (σ : St) : Option St :=
  nm (upI σ 48 3 ((σ.1 48 3) + 1)) fun σ2 => if 0 ≤ a1 then (nm (upI σ2 48 2 ((σ2.1 48 2) + a1)) fun σ4 => some σ4) else (nm (upI σ2 48 1 ((σ2.1 48 1) + a1)) fun σ5 => some σ5)
def f_X2_addDoubt (σ : St) (a1 : Int32) : Option St :=
  if 10 ≤ (σ.1 48 3) then (f_X2_addDoubt_b19 a1 σ) else ((wr σ 49 10 (σ.1 48 3) a1).bind fun σ6 => f_X2_addDoubt_b19 a1 σ6)
set_option maxRecDepth 100000 in
set_option maxHeartbeats 4000000 in
theorem ok_X2_addDoubt (X : Xc) (l : Launch) (σ : St) (a1 : Int32) (σ' : St) (h : f_X2_addDoubt σ a1 = some σ') : Ok X l yX2_addDoubt cX2_addDoubt 2 none 0 0 [.ref (X.2.1 48), .int a1] σ none σ' := by
  refine Ok.of (by decide) (Nat.le_of_ble_eq_true rfl) ?_
  intro p e s m args below meth c C hr hlk hw ls hl
  have C : Cx p s m args c X cX2_addDoubt 2 "RunningCount$Book" := C
  have hl : lv_has ls 2 [(0, .ref (X.2.1 48)), (1, .int a1)] := hl
  have b19 : ∀ (σ : St), f_X2_addDoubt_b19 a1 σ = some σ' → ∀ (H : Heap) (locs : List Loc), At X σ s.heap H locs → ∀ ls : Array Slot, lv_has ls 2 [(0, .ref (X.2.1 48)), (1, .int a1)] → W p l e (rmX 0 0) s m args below meth c H locs 0 0 (Zq X below s args none σ') (F0 m 19 ls []) := by
    intro σ h H locs hw ls hl
    rw [f_X2_addDoubt_b19] at h
    refine lv_aload_n C.1 C.2.1 dX2_addDoubt_19 rfl (lv_at hl 0 rfl) ?_
    refine lv_dup C.1 C.2.1 dX2_addDoubt_20 rfl ?_
    refine r_get (v := .int (σ.1 48 3)) C hw l_48 vc_2 kX2 3 rfl (by decide) gw_394 rfl dX2_addDoubt_21 ?_
    refine lv_iconst (v := 1) C.1 C.2.1 dX2_addDoubt_24 (by decide) ?_
    refine lv_iadd C.1 C.2.1 dX2_addDoubt_25 ?_
    obtain ⟨σ2, eσ2, h⟩ := nm_d h
    refine r_put C hw l_48 vc_2 kX2 tyX2 tyX2_ok nmX2 3 (by decide) (by decide) gw_394 rfl rfl rfl (put_i l_48 rfl eσ2) dX2_addDoubt_26 (fun H locs hw => ?_)
    refine lv_iload_n C.1 C.2.1 dX2_addDoubt_29 rfl (lv_at hl 1 rfl) ?_
    refine lv_if_ge (tgt := 46) C.1 C.2.1 dX2_addDoubt_30 (by decide) (fun c3 => ?_) (fun c3 => ?_)
    · have h := ite_t c3 h
      refine lv_aload_n C.1 C.2.1 dX2_addDoubt_46 rfl (lv_at hl 0 rfl) ?_
      refine lv_dup C.1 C.2.1 dX2_addDoubt_47 rfl ?_
      refine r_get (v := .int (σ2.1 48 2)) C hw l_48 vc_2 kX2 2 rfl (by decide) gw_392 rfl dX2_addDoubt_48 ?_
      refine lv_iload_n C.1 C.2.1 dX2_addDoubt_51 rfl (lv_at hl 1 rfl) ?_
      refine lv_iadd C.1 C.2.1 dX2_addDoubt_52 ?_
      obtain ⟨σ4, eσ4, h⟩ := nm_d h
      refine r_put C hw l_48 vc_2 kX2 tyX2 tyX2_ok nmX2 2 (by decide) (by decide) gw_392 rfl rfl rfl (put_i l_48 rfl eσ4) dX2_addDoubt_53 (fun H locs hw => ?_)
      exact r_vret C hr hlk hw (Option.some.inj h) dX2_addDoubt_56
    · have h := ite_f c3 h
      refine lv_aload_n C.1 C.2.1 dX2_addDoubt_33 rfl (lv_at hl 0 rfl) ?_
      refine lv_dup C.1 C.2.1 dX2_addDoubt_34 rfl ?_
      refine r_get (v := .int (σ2.1 48 1)) C hw l_48 vc_2 kX2 1 rfl (by decide) gw_390 rfl dX2_addDoubt_35 ?_
      refine lv_iload_n C.1 C.2.1 dX2_addDoubt_38 rfl (lv_at hl 1 rfl) ?_
      refine lv_iadd C.1 C.2.1 dX2_addDoubt_39 ?_
      obtain ⟨σ5, eσ5, h⟩ := nm_d h
      refine r_put C hw l_48 vc_2 kX2 tyX2 tyX2_ok nmX2 1 (by decide) (by decide) gw_390 rfl rfl rfl (put_i l_48 rfl eσ5) dX2_addDoubt_40 (fun H locs hw => ?_)
      refine lv_goto (tgt := 56) C.1 C.2.1 dX2_addDoubt_43 (by decide) ?_
      exact r_vret C hr hlk hw (Option.some.inj h) dX2_addDoubt_56
  rw [f_X2_addDoubt] at h
  refine lv_aload_n C.1 C.2.1 dX2_addDoubt_0 rfl (lv_at hl 0 rfl) ?_
  refine r_get (v := .int (σ.1 48 3)) C hw l_48 vc_2 kX2 3 rfl (by decide) gw_394 rfl dX2_addDoubt_1 ?_
  refine lv_bipush (v := 10) C.1 C.2.1 dX2_addDoubt_4 (by decide) ?_
  refine lv_icmp_ge (tgt := 19) C.1 C.2.1 dX2_addDoubt_6 (by decide) (fun c1 => ?_) (fun c1 => ?_)
  · have h := ite_t c1 h
    exact b19 σ h _ _ hw ls (lv_sub hl [0, 1] rfl)
  · have h := ite_f c1 h
    refine lv_aload_n C.1 C.2.1 dX2_addDoubt_9 rfl (lv_at hl 0 rfl) ?_
    refine r_get (v := .ref (X.2.1 49)) C hw l_48 vc_2 kX2 4 rfl (by decide) gw_396 rfl dX2_addDoubt_10 ?_
    refine lv_aload_n C.1 C.2.1 dX2_addDoubt_13 rfl (lv_at hl 0 rfl) ?_
    refine r_get (v := .int (σ.1 48 3)) C hw l_48 vc_2 kX2 3 rfl (by decide) gw_394 rfl dX2_addDoubt_14 ?_
    refine lv_iload_n C.1 C.2.1 dX2_addDoubt_17 rfl (lv_at hl 1 rfl) ?_
    obtain ⟨σ6, eσ6, h⟩ := bnd h
    refine r_ast C hw l_49 eσ6 dX2_addDoubt_18 (fun H locs hw => ?_)
    exact b19 σ6 h _ _ hw ls (lv_sub hl [0, 1] rfl)
def f_X2_readLeg (σ : St) (g1 : Nat) (a2 : Int32) (a3 : Int32) (a4 : Int32) (a5 : Int32) : Option St :=
  (rd σ (g1 + 6) 80 a2).bind fun v1 => if v1 = a3 then ((f_X4_isOver σ g1 a2 a4).bind fun q3 => if (b2i q3) = 0 then ((f_X4_isToCome σ g1 a2 a4).bind fun q5 => if (b2i q5) = 0 then ((f_X2_addDoubt σ a5).bind fun q7 => some q7) else (some σ)) else (nm (upI σ 48 0 ((σ.1 48 0) + a5)) fun σ8 => some σ8)) else (some σ)
set_option maxRecDepth 100000 in
set_option maxHeartbeats 4000000 in
theorem ok_X2_readLeg (X : Xc) (l : Launch) (σ : St) (g1 : Nat) (a2 : Int32) (a3 : Int32) (a4 : Int32) (a5 : Int32) (hg1 : isG g1) (σ' : St) (h : f_X2_readLeg σ g1 a2 a3 a4 a5 = some σ') : Ok X l yX2_readLeg cX2_readLeg 6 none 1 22 [.ref (X.2.1 48), .ref (X.2.1 g1), .int a2, .int a3, .int a4, .int a5] σ none σ' := by
  refine Ok.of (by decide) (Nat.le_of_ble_eq_true rfl) ?_
  intro p e s m args below meth c C hr hlk hw ls hl
  have C : Cx p s m args c X cX2_readLeg 6 "RunningCount$Book" := C
  have hl : lv_has ls 6 [(0, .ref (X.2.1 48)), (1, .ref (X.2.1 g1)), (2, .int a2), (3, .int a3), (4, .int a4), (5, .int a5)] := hl
  rw [f_X2_readLeg] at h
  refine lv_aload_n C.1 C.2.1 dX2_readLeg_0 rfl (lv_at hl 1 rfl) ?_
  refine r_getN (v := .ref (X.2.1 (g1 + 6))) C hw (lg_0 hg1) vc_4 kX4 8 rfl (by decide) nw_233 rfl dX2_readLeg_1 ?_
  refine lv_iload_n C.1 C.2.1 dX2_readLeg_4 rfl (lv_at hl 2 rfl) ?_
  obtain ⟨v1, ev1, h⟩ := bnd h
  refine r_ald C hw (lg_6 hg1) ev1 dX2_readLeg_5 ?_
  refine lv_iload_n C.1 C.2.1 dX2_readLeg_6 rfl (lv_at hl 3 rfl) ?_
  refine lv_icmp_eq (tgt := 11) C.1 C.2.1 dX2_readLeg_7 (by decide) (fun c2 => ?_) (fun c2 => ?_)
  · have h := ite_t c2 h
    refine lv_aload_n C.1 C.2.1 dX2_readLeg_11 rfl (lv_at hl 1 rfl) ?_
    refine lv_iload_n C.1 C.2.1 dX2_readLeg_12 rfl (lv_at hl 2 rfl) ?_
    refine lv_iload C.1 C.2.1 dX2_readLeg_13 (lv_at hl 4 rfl) ?_
    obtain ⟨q3, eq3, h⟩ := bnd h
    refine r_callVN (As := [.int a2, .int a4]) C hw (ok_X4_isOver X l σ g1 a2 a4 hg1 _ eq3) (lg_0 hg1) vc_4 gw_702 nw_699 gw_701 gw_39 gw_117 hl.1 pd_X4_isOver ⟨Nat.le_of_ble_eq_true rfl, Nat.le_of_ble_eq_true rfl⟩ ⟨Nat.le_refl 0, Nat.le_refl 0⟩ (rest := []) (Nat.le_of_ble_eq_true rfl) dX2_readLeg_15 rfl (fun H locs hw => ?_)
    refine lv_if_eq (tgt := 35) C.1 C.2.1 dX2_readLeg_18 (by decide) (fun c4 => ?_) (fun c4 => ?_)
    · have h := ite_t c4 h
      refine lv_aload_n C.1 C.2.1 dX2_readLeg_35 rfl (lv_at hl 1 rfl) ?_
      refine lv_iload_n C.1 C.2.1 dX2_readLeg_36 rfl (lv_at hl 2 rfl) ?_
      refine lv_iload C.1 C.2.1 dX2_readLeg_37 (lv_at hl 4 rfl) ?_
      obtain ⟨q5, eq5, h⟩ := bnd h
      refine r_callVN (As := [.int a2, .int a4]) C hw (ok_X4_isToCome X l σ g1 a2 a4 hg1 _ eq5) (lg_0 hg1) vc_4 gw_706 nw_703 gw_705 gw_40 gw_117 hl.1 pd_X4_isToCome ⟨Nat.le_of_ble_eq_true rfl, Nat.le_of_ble_eq_true rfl⟩ ⟨Nat.le_refl 0, Nat.le_refl 0⟩ (rest := []) (Nat.le_of_ble_eq_true rfl) dX2_readLeg_39 rfl (fun H locs hw => ?_)
      refine lv_if_ne (tgt := 51) C.1 C.2.1 dX2_readLeg_42 (by decide) (fun c6 => ?_) (fun c6 => ?_)
      · have h := ite_f c6 h
        exact r_vret C hr hlk hw (Option.some.inj h) dX2_readLeg_51
      · have h := ite_t c6 h
        refine lv_aload_n C.1 C.2.1 dX2_readLeg_45 rfl (lv_at hl 0 rfl) ?_
        refine lv_iload C.1 C.2.1 dX2_readLeg_46 (lv_at hl 5 rfl) ?_
        obtain ⟨q7, eq7, h⟩ := bnd h
        refine r_callV (As := [.int a5]) C hw (ok_X2_addDoubt X l σ a5 _ eq7) l_48 vc_2 gw_710 gw_707 gw_709 gw_41 gw_122 hl.1 pd_X2_addDoubt ⟨Nat.le_of_ble_eq_true rfl, Nat.le_of_ble_eq_true rfl⟩ ⟨Nat.le_refl 0, Nat.le_refl 0⟩ (rest := []) (Nat.le_of_ble_eq_true rfl) dX2_readLeg_48 rfl (fun H locs hw => ?_)
        exact r_vret C hr hlk hw (Option.some.inj h) dX2_readLeg_51
    · have h := ite_f c4 h
      refine lv_aload_n C.1 C.2.1 dX2_readLeg_21 rfl (lv_at hl 0 rfl) ?_
      refine lv_dup C.1 C.2.1 dX2_readLeg_22 rfl ?_
      refine r_get (v := .int (σ.1 48 0)) C hw l_48 vc_2 kX2 0 rfl (by decide) gw_388 rfl dX2_readLeg_23 ?_
      refine lv_iload C.1 C.2.1 dX2_readLeg_26 (lv_at hl 5 rfl) ?_
      refine lv_iadd C.1 C.2.1 dX2_readLeg_28 ?_
      obtain ⟨σ8, eσ8, h⟩ := nm_d h
      refine r_put C hw l_48 vc_2 kX2 tyX2 tyX2_ok nmX2 0 (by decide) (by decide) gw_388 rfl rfl rfl (put_i l_48 rfl eσ8) dX2_readLeg_29 (fun H locs hw => ?_)
      refine lv_goto (tgt := 51) C.1 C.2.1 dX2_readLeg_32 (by decide) ?_
      exact r_vret C hr hlk hw (Option.some.inj h) dX2_readLeg_51
  · have h := ite_f c2 h
    exact r_vret C hr hlk hw (Option.some.inj h) dX2_readLeg_10
def f_X2_readAt_b39 (g1 : Nat) (a3 : Int32) (a4 : Int32) (a5 : Int32) : Nat → St → Int32 → Option St
  | 0, _, _ => none
  | n + 1, σ, x6 => if (σ.1 g1 2) ≤ x6 then (nm (upI σ 48 1 ((σ.1 48 1) + (σ.1 48 0))) fun σ8 => nm (upI σ8 48 2 ((σ8.1 48 2) + (σ8.1 48 0))) fun σ9 => some σ9) else ((rd σ (g1 + 4) 40 x6).bind fun v10 => if v10 = a4 then ((rd σ (g1 + 5) 40 x6).bind fun v13 => (f_X2_readLeg σ g1 (f_X8_legOf σ x6 0) a3 a5 (-v13)).bind fun q15 => (f_X2_readLeg q15 g1 (f_X8_legOf q15 x6 1) a3 a5 v13).bind fun q17 => nm (x6 + 1) fun v18 => f_X2_readAt_b39 g1 a3 a4 a5 n q17 v18) else (nm (x6 + 1) fun v12 => f_X2_readAt_b39 g1 a3 a4 a5 n σ v12))
def f_X2_readAt (σ : St) (g1 : Nat) (a3 : Int32) (a4 : Int32) (a5 : Int32) : Option St :=
  (f_X4_stockOf σ g1 a3 a4).bind fun q1 => (f_X1_sumUpTo σ a3 a4 a5).bind fun q2 => nm (upI σ 48 0 (q1 + q2)) fun σ3 => nm (upI σ3 48 1 0) fun σ4 => nm (upI σ4 48 2 0) fun σ5 => nm (upI σ5 48 3 0) fun σ6 => f_X2_readAt_b39 g1 a3 a4 a5 10000 σ6 0
set_option maxRecDepth 100000 in
set_option maxHeartbeats 4000000 in
theorem ok_X2_readAt (X : Xc) (l : Launch) (σ : St) (g1 : Nat) (a3 : Int32) (a4 : Int32) (a5 : Int32) (hg1 : isG g1) (σ' : St) (h : f_X2_readAt σ g1 a3 a4 a5 = some σ') : Ok X l yX2_readAt cX2_readAt 8 none 2 48 [.ref (X.2.1 48), .ref (X.2.1 g1), .ref (X.2.1 31), .int a3, .int a4, .int a5] σ none σ' := by
  refine Ok.of (by decide) (Nat.le_of_ble_eq_true rfl) ?_
  intro p e s m args below meth c C hr hlk hw ls hl
  have C : Cx p s m args c X cX2_readAt 8 "RunningCount$Book" := C
  have hl : lv_has ls 8 [(0, .ref (X.2.1 48)), (1, .ref (X.2.1 g1)), (2, .ref (X.2.1 31)), (3, .int a3), (4, .int a4), (5, .int a5)] := hl
  have b39 : ∀ (n : Nat), ∀ (σ : St) (x6 : Int32), f_X2_readAt_b39 g1 a3 a4 a5 n σ x6 = some σ' → ∀ (H : Heap) (locs : List Loc), At X σ s.heap H locs → ∀ ls : Array Slot, lv_has ls 8 [(0, .ref (X.2.1 48)), (1, .ref (X.2.1 g1)), (3, .int a3), (4, .int a4), (5, .int a5), (6, .int x6)] → W p l e (rmX 2 48) s m args below meth c H locs 0 0 (Zq X below s args none σ') (F0 m 39 ls []) := by
    intro n
    induction n with
    | zero =>
      intro σ x6 h
      exact no_some h
    | succ n ih =>
      intro σ x6 h H locs hw ls hl
      rw [f_X2_readAt_b39] at h
      refine lv_iload C.1 C.2.1 dX2_readAt_39 (lv_at hl 5 rfl) ?_
      refine lv_aload_n C.1 C.2.1 dX2_readAt_41 rfl (lv_at hl 1 rfl) ?_
      refine r_getN (v := .int (σ.1 g1 2)) C hw (lg_0 hg1) vc_4 kX4 2 rfl (by decide) nw_218 rfl dX2_readAt_42 ?_
      refine lv_icmp_ge (tgt := 108) C.1 C.2.1 dX2_readAt_45 (by decide) (fun c7 => ?_) (fun c7 => ?_)
      · have h := ite_t c7 h
        refine lv_aload_n C.1 C.2.1 dX2_readAt_108 rfl (lv_at hl 0 rfl) ?_
        refine lv_dup C.1 C.2.1 dX2_readAt_109 rfl ?_
        refine r_get (v := .int (σ.1 48 1)) C hw l_48 vc_2 kX2 1 rfl (by decide) gw_390 rfl dX2_readAt_110 ?_
        refine lv_aload_n C.1 C.2.1 dX2_readAt_113 rfl (lv_at hl 0 rfl) ?_
        refine r_get (v := .int (σ.1 48 0)) C hw l_48 vc_2 kX2 0 rfl (by decide) gw_388 rfl dX2_readAt_114 ?_
        refine lv_iadd C.1 C.2.1 dX2_readAt_117 ?_
        obtain ⟨σ8, eσ8, h⟩ := nm_d h
        refine r_put C hw l_48 vc_2 kX2 tyX2 tyX2_ok nmX2 1 (by decide) (by decide) gw_390 rfl rfl rfl (put_i l_48 rfl eσ8) dX2_readAt_118 (fun H locs hw => ?_)
        refine lv_aload_n C.1 C.2.1 dX2_readAt_121 rfl (lv_at hl 0 rfl) ?_
        refine lv_dup C.1 C.2.1 dX2_readAt_122 rfl ?_
        refine r_get (v := .int (σ8.1 48 2)) C hw l_48 vc_2 kX2 2 rfl (by decide) gw_392 rfl dX2_readAt_123 ?_
        refine lv_aload_n C.1 C.2.1 dX2_readAt_126 rfl (lv_at hl 0 rfl) ?_
        refine r_get (v := .int (σ8.1 48 0)) C hw l_48 vc_2 kX2 0 rfl (by decide) gw_388 rfl dX2_readAt_127 ?_
        refine lv_iadd C.1 C.2.1 dX2_readAt_130 ?_
        obtain ⟨σ9, eσ9, h⟩ := nm_d h
        refine r_put C hw l_48 vc_2 kX2 tyX2 tyX2_ok nmX2 2 (by decide) (by decide) gw_392 rfl rfl rfl (put_i l_48 rfl eσ9) dX2_readAt_131 (fun H locs hw => ?_)
        exact r_vret C hr hlk hw (Option.some.inj h) dX2_readAt_134
      · have h := ite_f c7 h
        refine lv_aload_n C.1 C.2.1 dX2_readAt_48 rfl (lv_at hl 1 rfl) ?_
        refine r_getN (v := .ref (X.2.1 (g1 + 4))) C hw (lg_0 hg1) vc_4 kX4 6 rfl (by decide) nw_227 rfl dX2_readAt_49 ?_
        refine lv_iload C.1 C.2.1 dX2_readAt_52 (lv_at hl 5 rfl) ?_
        obtain ⟨v10, ev10, h⟩ := bnd h
        refine r_ald C hw (lg_4 hg1) ev10 dX2_readAt_54 ?_
        refine lv_iload C.1 C.2.1 dX2_readAt_55 (lv_at hl 3 rfl) ?_
        refine lv_icmp_ne (tgt := 102) C.1 C.2.1 dX2_readAt_57 (by decide) (fun c11 => ?_) (fun c11 => ?_)
        · have h := ite_f c11 h
          obtain ⟨v12, ev12, h⟩ := nm_d h
          refine lv_iinc (v := v12) (lv' := [(6, .int v12), (0, .ref (X.2.1 48)), (1, .ref (X.2.1 g1)), (3, .int a3), (4, .int a4), (5, .int a5)]) C.1 C.2.1 dX2_readAt_102 hl (k := 5) rfl (by rw [ev12]; rfl) (by decide) rfl (fun ls hl => ?_)
          refine lv_goto (tgt := 39) C.1 C.2.1 dX2_readAt_105 (by decide) ?_
          exact ih σ v12 h _ _ hw ls (lv_sub hl [1, 2, 3, 4, 5, 0] rfl)
        · have h := ite_t c11 h
          refine lv_aload_n C.1 C.2.1 dX2_readAt_60 rfl (lv_at hl 1 rfl) ?_
          refine r_getN (v := .ref (X.2.1 (g1 + 5))) C hw (lg_0 hg1) vc_4 kX4 7 rfl (by decide) nw_230 rfl dX2_readAt_61 ?_
          refine lv_iload C.1 C.2.1 dX2_readAt_64 (lv_at hl 5 rfl) ?_
          obtain ⟨v13, ev13, h⟩ := bnd h
          refine r_ald C hw (lg_5 hg1) ev13 dX2_readAt_66 ?_
          refine lv_istore (lv' := [(7, .int v13), (0, .ref (X.2.1 48)), (1, .ref (X.2.1 g1)), (3, .int a3), (4, .int a4), (5, .int a5), (6, .int x6)]) C.1 C.2.1 dX2_readAt_67 hl (by decide) rfl (fun ls hl => ?_)
          refine lv_aload_n C.1 C.2.1 dX2_readAt_69 rfl (lv_at hl 1 rfl) ?_
          refine lv_aload_n C.1 C.2.1 dX2_readAt_70 rfl (lv_at hl 2 rfl) ?_
          refine lv_iload C.1 C.2.1 dX2_readAt_71 (lv_at hl 6 rfl) ?_
          refine lv_iconst (v := 0) C.1 C.2.1 dX2_readAt_73 (by decide) ?_
          refine r_callSN (As := [.int x6, .int 0]) C hw (ok_X8_legOf X l σ x6 0 _ rfl) gw_632 nw_694 gw_631 gw_114 hl.1 pd_X8_legOf ⟨Nat.le_of_ble_eq_true rfl, Nat.le_of_ble_eq_true rfl⟩ ⟨Nat.le_refl 0, Nat.le_refl 0⟩ (rest := [.ref (X.2.1 g1), .ref (X.2.1 48)]) (Nat.le_of_ble_eq_true rfl) dX2_readAt_74 rfl (fun H locs hw => ?_)
          refine lv_iload_n C.1 C.2.1 dX2_readAt_77 rfl (lv_at hl 3 rfl) ?_
          refine lv_iload C.1 C.2.1 dX2_readAt_78 (lv_at hl 5 rfl) ?_
          refine lv_iload C.1 C.2.1 dX2_readAt_80 (lv_at hl 0 rfl) ?_
          refine lv_ineg C.1 C.2.1 dX2_readAt_82 ?_
          obtain ⟨q15, eq15, h⟩ := bnd h
          refine r_callV (As := [.ref (X.2.1 g1), .int (f_X8_legOf σ x6 0), .int a3, .int a5, .int (-v13)]) C hw (ok_X2_readLeg X l σ g1 (f_X8_legOf σ x6 0) a3 a5 (-v13) hg1 _ eq15) l_48 vc_2 gw_698 gw_695 gw_697 gw_38 gw_122 hl.1 pd_X2_readLeg ⟨Nat.le_of_ble_eq_true rfl, Nat.le_of_ble_eq_true rfl⟩ ⟨Nat.le_refl 0, Nat.le_refl 0⟩ (rest := []) (Nat.le_of_ble_eq_true rfl) dX2_readAt_83 rfl (fun H locs hw => ?_)
          refine lv_aload_n C.1 C.2.1 dX2_readAt_86 rfl (lv_at hl 1 rfl) ?_
          refine lv_aload_n C.1 C.2.1 dX2_readAt_87 rfl (lv_at hl 2 rfl) ?_
          refine lv_iload C.1 C.2.1 dX2_readAt_88 (lv_at hl 6 rfl) ?_
          refine lv_iconst (v := 1) C.1 C.2.1 dX2_readAt_90 (by decide) ?_
          refine r_callSN (As := [.int x6, .int 1]) C hw (ok_X8_legOf X l q15 x6 1 _ rfl) gw_632 nw_694 gw_631 gw_114 hl.1 pd_X8_legOf ⟨Nat.le_of_ble_eq_true rfl, Nat.le_of_ble_eq_true rfl⟩ ⟨Nat.le_refl 0, Nat.le_refl 0⟩ (rest := [.ref (X.2.1 g1), .ref (X.2.1 48)]) (Nat.le_of_ble_eq_true rfl) dX2_readAt_91 rfl (fun H locs hw => ?_)
          refine lv_iload_n C.1 C.2.1 dX2_readAt_94 rfl (lv_at hl 3 rfl) ?_
          refine lv_iload C.1 C.2.1 dX2_readAt_95 (lv_at hl 5 rfl) ?_
          refine lv_iload C.1 C.2.1 dX2_readAt_97 (lv_at hl 0 rfl) ?_
          obtain ⟨q17, eq17, h⟩ := bnd h
          refine r_callV (As := [.ref (X.2.1 g1), .int (f_X8_legOf q15 x6 1), .int a3, .int a5, .int v13]) C hw (ok_X2_readLeg X l q15 g1 (f_X8_legOf q15 x6 1) a3 a5 v13 hg1 _ eq17) l_48 vc_2 gw_698 gw_695 gw_697 gw_38 gw_122 hl.1 pd_X2_readLeg ⟨Nat.le_of_ble_eq_true rfl, Nat.le_of_ble_eq_true rfl⟩ ⟨Nat.le_refl 0, Nat.le_refl 0⟩ (rest := []) (Nat.le_of_ble_eq_true rfl) dX2_readAt_99 rfl (fun H locs hw => ?_)
          obtain ⟨v18, ev18, h⟩ := nm_d h
          refine lv_iinc (v := v18) (lv' := [(6, .int v18), (7, .int v13), (0, .ref (X.2.1 48)), (1, .ref (X.2.1 g1)), (3, .int a3), (4, .int a4), (5, .int a5)]) C.1 C.2.1 dX2_readAt_102 hl (k := 6) rfl (by rw [ev18]; rfl) (by decide) rfl (fun ls hl => ?_)
          refine lv_goto (tgt := 39) C.1 C.2.1 dX2_readAt_105 (by decide) ?_
          exact ih q17 v18 h _ _ hw ls (lv_sub hl [2, 3, 4, 5, 6, 0] rfl)
  rw [f_X2_readAt] at h
  refine lv_aload_n C.1 C.2.1 dX2_readAt_0 rfl (lv_at hl 0 rfl) ?_
  refine lv_aload_n C.1 C.2.1 dX2_readAt_1 rfl (lv_at hl 1 rfl) ?_
  refine lv_iload_n C.1 C.2.1 dX2_readAt_2 rfl (lv_at hl 3 rfl) ?_
  refine lv_iload C.1 C.2.1 dX2_readAt_3 (lv_at hl 4 rfl) ?_
  obtain ⟨q1, eq1, h⟩ := bnd h
  refine r_callVN (As := [.int a3, .int a4]) C hw (ok_X4_stockOf X l σ g1 a3 a4 hg1 _ eq1) (lg_0 hg1) vc_4 gw_684 nw_681 gw_683 gw_35 gw_117 hl.1 pd_X4_stockOf ⟨Nat.le_of_ble_eq_true rfl, Nat.le_of_ble_eq_true rfl⟩ ⟨Nat.le_refl 0, Nat.le_refl 0⟩ (rest := [.ref (X.2.1 48)]) (Nat.le_of_ble_eq_true rfl) dX2_readAt_5 rfl (fun H locs hw => ?_)
  refine lv_aload_n C.1 C.2.1 dX2_readAt_8 rfl (lv_at hl 2 rfl) ?_
  refine lv_iload_n C.1 C.2.1 dX2_readAt_9 rfl (lv_at hl 3 rfl) ?_
  refine lv_iload C.1 C.2.1 dX2_readAt_10 (lv_at hl 4 rfl) ?_
  refine lv_iload C.1 C.2.1 dX2_readAt_12 (lv_at hl 5 rfl) ?_
  obtain ⟨q2, eq2, h⟩ := bnd h
  refine r_callVN (As := [.int a3, .int a4, .int a5]) C hw (ok_X1_sumUpTo X l σ a3 a4 a5 _ eq2) l_31 vc_1 gw_689 nw_686 gw_688 gw_36 gw_119 hl.1 pd_X1_sumUpTo ⟨Nat.le_of_ble_eq_true rfl, Nat.le_of_ble_eq_true rfl⟩ ⟨Nat.le_refl 0, Nat.le_refl 0⟩ (rest := [.int q1, .ref (X.2.1 48)]) (Nat.le_of_ble_eq_true rfl) dX2_readAt_14 rfl (fun H locs hw => ?_)
  refine lv_iadd C.1 C.2.1 dX2_readAt_17 ?_
  obtain ⟨σ3, eσ3, h⟩ := nm_d h
  refine r_put C hw l_48 vc_2 kX2 tyX2 tyX2_ok nmX2 0 (by decide) (by decide) gw_388 rfl rfl rfl (put_i l_48 rfl eσ3) dX2_readAt_18 (fun H locs hw => ?_)
  refine lv_aload_n C.1 C.2.1 dX2_readAt_21 rfl (lv_at hl 0 rfl) ?_
  refine lv_iconst (v := 0) C.1 C.2.1 dX2_readAt_22 (by decide) ?_
  obtain ⟨σ4, eσ4, h⟩ := nm_d h
  refine r_put C hw l_48 vc_2 kX2 tyX2 tyX2_ok nmX2 1 (by decide) (by decide) gw_390 rfl rfl rfl (put_i l_48 rfl eσ4) dX2_readAt_23 (fun H locs hw => ?_)
  refine lv_aload_n C.1 C.2.1 dX2_readAt_26 rfl (lv_at hl 0 rfl) ?_
  refine lv_iconst (v := 0) C.1 C.2.1 dX2_readAt_27 (by decide) ?_
  obtain ⟨σ5, eσ5, h⟩ := nm_d h
  refine r_put C hw l_48 vc_2 kX2 tyX2 tyX2_ok nmX2 2 (by decide) (by decide) gw_392 rfl rfl rfl (put_i l_48 rfl eσ5) dX2_readAt_28 (fun H locs hw => ?_)
  refine lv_aload_n C.1 C.2.1 dX2_readAt_31 rfl (lv_at hl 0 rfl) ?_
  refine lv_iconst (v := 0) C.1 C.2.1 dX2_readAt_32 (by decide) ?_
  obtain ⟨σ6, eσ6, h⟩ := nm_d h
  refine r_put C hw l_48 vc_2 kX2 tyX2 tyX2_ok nmX2 3 (by decide) (by decide) gw_394 rfl rfl rfl (put_i l_48 rfl eσ6) dX2_readAt_33 (fun H locs hw => ?_)
  refine lv_iconst (v := 0) C.1 C.2.1 dX2_readAt_36 (by decide) ?_
  refine lv_istore (lv' := [(6, .int 0), (0, .ref (X.2.1 48)), (1, .ref (X.2.1 g1)), (2, .ref (X.2.1 31)), (3, .int a3), (4, .int a4), (5, .int a5)]) C.1 C.2.1 dX2_readAt_37 hl (by decide) rfl (fun ls hl => ?_)
  exact b39 10000 σ6 0 h _ _ hw ls (lv_sub hl [1, 2, 4, 5, 6, 0] rfl)
def f_X8_book (σ : St) (a1 : Int32) (a2 : Int32) (a3 : Int32) (a4 : Int32) : Option (Int32 × St) :=
  if (b2i (f_X4_hasCouple σ (σ.2.2.1) a1 a2)) = 0 then (some ((-100000000), σ)) else (if (b2i (f_X8_isInstant σ a3)) = 0 then (some ((-100000000), σ)) else ((f_X2_readAt σ (σ.2.2.1) a1 a2 a3).bind fun q7 => if a4 = 0 then (some (q7.1 48 0, q7)) else (if a4 = 1 then (some (q7.1 48 1, q7)) else (if a4 = 2 then (some (q7.1 48 2, q7)) else (if a4 = 3 then (some (q7.1 48 3, q7)) else (some ((-100000000), q7)))))))
set_option maxRecDepth 100000 in
set_option maxHeartbeats 4000000 in
theorem ok_X8_book (X : Xc) (l : Launch) (σ : St) (a1 : Int32) (a2 : Int32) (a3 : Int32) (a4 : Int32) (r : Int32) (σ' : St) (h : f_X8_book σ a1 a2 a3 a4 = some (r, σ')) : Ok X l yX8_book cX8_book 5 (some .int) 3 75 [.ref (X.2.1 0), .int a1, .int a2, .int a3, .int a4] σ (some (.int r)) σ' := by
  refine Ok.of (by decide) (Nat.le_of_ble_eq_true rfl) ?_
  intro p e s m args below meth c C hr hlk hw ls hl
  have C : Cx p s m args c X cX8_book 5 "RunningCount" := C
  have hl : lv_has ls 5 [(0, .ref (X.2.1 0)), (1, .int a1), (2, .int a2), (3, .int a3), (4, .int a4)] := hl
  rw [f_X8_book] at h
  refine lv_aload_n C.1 C.2.1 dX8_book_0 rfl (lv_at hl 0 rfl) ?_
  have hz1 := hw.2.2.1
  refine r_get (v := .ref (X.2.1 (σ.2.2.1))) C hw l_0 vc_8 kX8 1 rfl (by decide) gw_409 rfl dX8_book_1 ?_
  refine lv_iload_n C.1 C.2.1 dX8_book_4 rfl (lv_at hl 1 rfl) ?_
  refine lv_iload_n C.1 C.2.1 dX8_book_5 rfl (lv_at hl 2 rfl) ?_
  refine r_callVN (As := [.int a1, .int a2]) C hw (ok_X4_hasCouple X l σ (σ.2.2.1) a1 a2 hz1 _ rfl) (lg_0 hz1) vc_4 gw_602 nw_672 gw_601 gw_22 gw_117 hl.1 pd_X4_hasCouple ⟨Nat.le_of_ble_eq_true rfl, Nat.le_of_ble_eq_true rfl⟩ ⟨Nat.le_refl 0, Nat.le_refl 0⟩ (rest := []) (Nat.le_of_ble_eq_true rfl) dX8_book_6 rfl (fun H locs hw => ?_)
  refine lv_if_eq (tgt := 19) C.1 C.2.1 dX8_book_9 (by decide) (fun c3 => ?_) (fun c3 => ?_)
  · have h := ite_t c3 h
    refine lv_ldc (v := (-100000000)) C.1 C.2.1 C.2.2.2.1 (C.2.2.2.2.1 _ gw_676) dX8_book_19 ?_
    exact r_iret C hr hlk hw (Prod.mk.inj (Option.some.inj h)).1 (Prod.mk.inj (Option.some.inj h)).2 dX8_book_21
  · have h := ite_f c3 h
    refine lv_iload_n C.1 C.2.1 dX8_book_12 rfl (lv_at hl 3 rfl) ?_
    refine r_callS (As := [.int a3]) C hw (ok_X8_isInstant X l σ a3 _ rfl) gw_675 gw_673 gw_674 gw_114 hl.1 pd_X8_isInstant ⟨Nat.le_of_ble_eq_true rfl, Nat.le_of_ble_eq_true rfl⟩ ⟨Nat.le_refl 0, Nat.le_refl 0⟩ (rest := []) (Nat.le_of_ble_eq_true rfl) dX8_book_13 rfl (fun H locs hw => ?_)
    refine lv_if_ne (tgt := 22) C.1 C.2.1 dX8_book_16 (by decide) (fun c5 => ?_) (fun c5 => ?_)
    · have h := ite_f c5 h
      refine lv_aload_n C.1 C.2.1 dX8_book_22 rfl (lv_at hl 0 rfl) ?_
      refine r_get (v := .ref (X.2.1 48)) C hw l_0 vc_8 kX8 6 rfl (by decide) gw_414 rfl dX8_book_23 ?_
      refine lv_aload_n C.1 C.2.1 dX8_book_26 rfl (lv_at hl 0 rfl) ?_
      have hz6 := hw.2.2.1
      refine r_get (v := .ref (X.2.1 (σ.2.2.1))) C hw l_0 vc_8 kX8 1 rfl (by decide) gw_409 rfl dX8_book_27 ?_
      refine lv_aload_n C.1 C.2.1 dX8_book_30 rfl (lv_at hl 0 rfl) ?_
      refine r_get (v := .ref (X.2.1 31)) C hw l_0 vc_8 kX8 4 rfl (by decide) gw_412 rfl dX8_book_31 ?_
      refine lv_iload_n C.1 C.2.1 dX8_book_34 rfl (lv_at hl 1 rfl) ?_
      refine lv_iload_n C.1 C.2.1 dX8_book_35 rfl (lv_at hl 2 rfl) ?_
      refine lv_iload_n C.1 C.2.1 dX8_book_36 rfl (lv_at hl 3 rfl) ?_
      obtain ⟨q7, eq7, h⟩ := bnd h
      refine r_callVN (As := [.ref (X.2.1 (σ.2.2.1)), .ref (X.2.1 31), .int a1, .int a2, .int a3]) C hw (ok_X2_readAt X l σ (σ.2.2.1) a1 a2 a3 hz6 _ eq7) l_48 vc_2 gw_680 nw_677 gw_679 gw_34 gw_122 hl.1 pd_X2_readAt ⟨Nat.le_of_ble_eq_true rfl, Nat.le_of_ble_eq_true rfl⟩ ⟨Nat.le_refl 0, Nat.le_refl 0⟩ (rest := []) (Nat.le_of_ble_eq_true rfl) dX8_book_37 rfl (fun H locs hw => ?_)
      refine lv_iload C.1 C.2.1 dX8_book_40 (lv_at hl 4 rfl) ?_
      by_cases c8 : a4 = 0
      · have h := ite_t c8 h
        refine lv_tableIn (tgt := 72) C.1 C.2.1 dX8_book_42 (by rw [c8]; decide) (by rw [c8]; decide) (by rw [c8]; rfl) (by decide) ?_
        refine lv_aload_n C.1 C.2.1 dX8_book_72 rfl (lv_at hl 0 rfl) ?_
        refine r_get (v := .ref (X.2.1 48)) C hw l_0 vc_8 kX8 6 rfl (by decide) gw_414 rfl dX8_book_73 ?_
        refine r_getN (v := .int (q7.1 48 0)) C hw l_48 vc_2 kX2 0 rfl (by decide) nw_389 rfl dX8_book_76 ?_
        exact r_iret C hr hlk hw (Prod.mk.inj (Option.some.inj h)).1 (Prod.mk.inj (Option.some.inj h)).2 dX8_book_79
      · have h := ite_f c8 h
        by_cases c9 : a4 = 1
        · have h := ite_t c9 h
          refine lv_tableIn (tgt := 80) C.1 C.2.1 dX8_book_42 (by rw [c9]; decide) (by rw [c9]; decide) (by rw [c9]; rfl) (by decide) ?_
          refine lv_aload_n C.1 C.2.1 dX8_book_80 rfl (lv_at hl 0 rfl) ?_
          refine r_get (v := .ref (X.2.1 48)) C hw l_0 vc_8 kX8 6 rfl (by decide) gw_414 rfl dX8_book_81 ?_
          refine r_getN (v := .int (q7.1 48 1)) C hw l_48 vc_2 kX2 1 rfl (by decide) nw_391 rfl dX8_book_84 ?_
          exact r_iret C hr hlk hw (Prod.mk.inj (Option.some.inj h)).1 (Prod.mk.inj (Option.some.inj h)).2 dX8_book_87
        · have h := ite_f c9 h
          by_cases c10 : a4 = 2
          · have h := ite_t c10 h
            refine lv_tableIn (tgt := 88) C.1 C.2.1 dX8_book_42 (by rw [c10]; decide) (by rw [c10]; decide) (by rw [c10]; rfl) (by decide) ?_
            refine lv_aload_n C.1 C.2.1 dX8_book_88 rfl (lv_at hl 0 rfl) ?_
            refine r_get (v := .ref (X.2.1 48)) C hw l_0 vc_8 kX8 6 rfl (by decide) gw_414 rfl dX8_book_89 ?_
            refine r_getN (v := .int (q7.1 48 2)) C hw l_48 vc_2 kX2 2 rfl (by decide) nw_393 rfl dX8_book_92 ?_
            exact r_iret C hr hlk hw (Prod.mk.inj (Option.some.inj h)).1 (Prod.mk.inj (Option.some.inj h)).2 dX8_book_95
          · have h := ite_f c10 h
            by_cases c11 : a4 = 3
            · have h := ite_t c11 h
              refine lv_tableIn (tgt := 96) C.1 C.2.1 dX8_book_42 (by rw [c11]; decide) (by rw [c11]; decide) (by rw [c11]; rfl) (by decide) ?_
              refine lv_aload_n C.1 C.2.1 dX8_book_96 rfl (lv_at hl 0 rfl) ?_
              refine r_get (v := .ref (X.2.1 48)) C hw l_0 vc_8 kX8 6 rfl (by decide) gw_414 rfl dX8_book_97 ?_
              refine r_getN (v := .int (q7.1 48 3)) C hw l_48 vc_2 kX2 3 rfl (by decide) nw_395 rfl dX8_book_100 ?_
              exact r_iret C hr hlk hw (Prod.mk.inj (Option.some.inj h)).1 (Prod.mk.inj (Option.some.inj h)).2 dX8_book_103
            · have h := ite_f c11 h
              refine sw_out (ts := 104) C.1 C.2.1 dX8_book_42 [0, 1, 2, 3] (by decide) (by decide) (List.forall_mem_cons.mpr ⟨c8, (List.forall_mem_cons.mpr ⟨c9, (List.forall_mem_cons.mpr ⟨c10, (List.forall_mem_cons.mpr ⟨c11, fun _ h => absurd h List.not_mem_nil⟩)⟩)⟩)⟩) (by decide) ?_
              refine lv_ldc (v := (-100000000)) C.1 C.2.1 C.2.2.2.1 (C.2.2.2.2.1 _ gw_676) dX8_book_104 ?_
              exact r_iret C hr hlk hw (Prod.mk.inj (Option.some.inj h)).1 (Prod.mk.inj (Option.some.inj h)).2 dX8_book_106
    · have h := ite_t c5 h
      refine lv_ldc (v := (-100000000)) C.1 C.2.1 C.2.2.2.1 (C.2.2.2.2.1 _ gw_676) dX8_book_19 ?_
      exact r_iret C hr hlk hw (Prod.mk.inj (Option.some.inj h)).1 (Prod.mk.inj (Option.some.inj h)).2 dX8_book_21
def f_X4_isThere (σ : St) (g0 : Nat) (a1 : Int32) : Option Bool :=
  (rd σ (g0 + 6) 80 a1).bind fun v1 => if v1 = (-1) then (some false) else (some true)
set_option maxRecDepth 100000 in
set_option maxHeartbeats 4000000 in
theorem ok_X4_isThere (X : Xc) (l : Launch) (σ : St) (g0 : Nat) (a1 : Int32) (hg0 : isG g0) (r : Bool) (h : f_X4_isThere σ g0 a1 = some r) : Ok X l yX4_isThere cX4_isThere 2 (some .boolean) 0 0 [.ref (X.2.1 g0), .int a1] σ (some (.int (b2i r))) σ := by
  refine Ok.of (by decide) (Nat.le_of_ble_eq_true rfl) ?_
  intro p e s m args below meth c C hr hlk hw ls hl
  have C : Cx p s m args c X cX4_isThere 2 "RunningCount$Goods" := C
  have hl : lv_has ls 2 [(0, .ref (X.2.1 g0)), (1, .int a1)] := hl
  rw [f_X4_isThere] at h
  refine lv_aload_n C.1 C.2.1 dX4_isThere_0 rfl (lv_at hl 0 rfl) ?_
  refine r_get (v := .ref (X.2.1 (g0 + 6))) C hw (lg_0 hg0) vc_4 kX4 8 rfl (by decide) gw_232 rfl dX4_isThere_1 ?_
  refine lv_iload_n C.1 C.2.1 dX4_isThere_4 rfl (lv_at hl 1 rfl) ?_
  obtain ⟨v1, ev1, h⟩ := bnd h
  refine r_ald C hw (lg_6 hg0) ev1 dX4_isThere_5 ?_
  refine lv_iconst (v := (-1)) C.1 C.2.1 dX4_isThere_6 (by decide) ?_
  refine lv_icmp_eq (tgt := 14) C.1 C.2.1 dX4_isThere_7 (by decide) (fun c2 => ?_) (fun c2 => ?_)
  · have h := ite_t c2 h
    refine lv_iconst (v := 0) C.1 C.2.1 dX4_isThere_14 (by decide) ?_
    exact r_zret C hr hlk hw rfl (Option.some.inj h) rfl dX4_isThere_15
  · have h := ite_f c2 h
    refine lv_iconst (v := 1) C.1 C.2.1 dX4_isThere_10 (by decide) ?_
    refine lv_goto (tgt := 15) C.1 C.2.1 dX4_isThere_11 (by decide) ?_
    exact r_zret C hr hlk hw rfl (Option.some.inj h) rfl dX4_isThere_15
def f_X8_isInTransit (σ : St) (a1 : Int32) (a2 : Int32) (a3 : Int32) : Option Bool :=
  nm ((f_X8_legOf σ a1 0)) fun v2 => nm ((f_X8_legOf σ a1 1)) fun v4 => (f_X4_isThere σ (σ.2.2.1) v2).bind fun q6 => if (b2i q6) = 0 then (some false) else ((f_X4_isThere σ (σ.2.2.1) v4).bind fun q9 => if (b2i q9) = 0 then (some false) else ((f_X4_isOver σ (σ.2.2.1) v2 a2).bind fun q12 => if (b2i q12) = 0 then (some false) else ((f_X4_isOver σ (σ.2.2.1) v4 a2).bind fun q15 => if (b2i q15) = 0 then ((f_X4_isToCome σ (σ.2.2.1) v4 a2).bind fun q18 => if (b2i q18) = a3 then (some true) else (some false)) else (some false))))
set_option maxRecDepth 100000 in
set_option maxHeartbeats 4000000 in
theorem ok_X8_isInTransit (X : Xc) (l : Launch) (σ : St) (a1 : Int32) (a2 : Int32) (a3 : Int32) (r : Bool) (h : f_X8_isInTransit σ a1 a2 a3 = some r) : Ok X l yX8_isInTransit cX8_isInTransit 6 (some .boolean) 1 22 [.ref (X.2.1 0), .int a1, .int a2, .int a3] σ (some (.int (b2i r))) σ := by
  refine Ok.of (by decide) (Nat.le_of_ble_eq_true rfl) ?_
  intro p e s m args below meth c C hr hlk hw ls hl
  have C : Cx p s m args c X cX8_isInTransit 6 "RunningCount" := C
  have hl : lv_has ls 6 [(0, .ref (X.2.1 0)), (1, .int a1), (2, .int a2), (3, .int a3)] := hl
  rw [f_X8_isInTransit] at h
  refine lv_iload_n C.1 C.2.1 dX8_isInTransit_0 rfl (lv_at hl 1 rfl) ?_
  refine lv_iconst (v := 0) C.1 C.2.1 dX8_isInTransit_1 (by decide) ?_
  refine r_callS (As := [.int a1, .int 0]) C hw (ok_X8_legOf X l σ a1 0 _ rfl) gw_632 gw_719 gw_631 gw_114 hl.1 pd_X8_legOf ⟨Nat.le_of_ble_eq_true rfl, Nat.le_of_ble_eq_true rfl⟩ ⟨Nat.le_refl 0, Nat.le_refl 0⟩ (rest := []) (Nat.le_of_ble_eq_true rfl) dX8_isInTransit_2 rfl (fun H locs hw => ?_)
  obtain ⟨v2, ev2, h⟩ := nm_d h
  refine lv_nm ev2 ?_
  refine lv_istore (lv' := [(4, .int v2), (0, .ref (X.2.1 0)), (1, .int a1), (2, .int a2), (3, .int a3)]) C.1 C.2.1 dX8_isInTransit_5 hl (by decide) rfl (fun ls hl => ?_)
  refine lv_iload_n C.1 C.2.1 dX8_isInTransit_7 rfl (lv_at hl 2 rfl) ?_
  refine lv_iconst (v := 1) C.1 C.2.1 dX8_isInTransit_8 (by decide) ?_
  refine r_callS (As := [.int a1, .int 1]) C hw (ok_X8_legOf X l σ a1 1 _ rfl) gw_632 gw_719 gw_631 gw_114 hl.1 pd_X8_legOf ⟨Nat.le_of_ble_eq_true rfl, Nat.le_of_ble_eq_true rfl⟩ ⟨Nat.le_refl 0, Nat.le_refl 0⟩ (rest := []) (Nat.le_of_ble_eq_true rfl) dX8_isInTransit_9 rfl (fun H locs hw => ?_)
  obtain ⟨v4, ev4, h⟩ := nm_d h
  refine lv_nm ev4 ?_
  refine lv_istore (lv' := [(5, .int v4), (4, .int v2), (0, .ref (X.2.1 0)), (1, .int a1), (2, .int a2), (3, .int a3)]) C.1 C.2.1 dX8_isInTransit_12 hl (by decide) rfl (fun ls hl => ?_)
  refine lv_aload_n C.1 C.2.1 dX8_isInTransit_14 rfl (lv_at hl 2 rfl) ?_
  have hz5 := hw.2.2.1
  refine r_get (v := .ref (X.2.1 (σ.2.2.1))) C hw l_0 vc_8 kX8 1 rfl (by decide) gw_409 rfl dX8_isInTransit_15 ?_
  refine lv_iload C.1 C.2.1 dX8_isInTransit_18 (lv_at hl 1 rfl) ?_
  obtain ⟨q6, eq6, h⟩ := bnd h
  refine r_callVN (As := [.int v2]) C hw (ok_X4_isThere X l σ (σ.2.2.1) v2 hz5 _ eq6) (lg_0 hz5) vc_4 gw_723 nw_720 gw_722 gw_43 gw_117 hl.1 pd_X4_isThere ⟨Nat.le_of_ble_eq_true rfl, Nat.le_of_ble_eq_true rfl⟩ ⟨Nat.le_refl 0, Nat.le_refl 0⟩ (rest := []) (Nat.le_of_ble_eq_true rfl) dX8_isInTransit_20 rfl (fun H locs hw => ?_)
  refine lv_if_eq (tgt := 82) C.1 C.2.1 dX8_isInTransit_23 (by decide) (fun c7 => ?_) (fun c7 => ?_)
  · have h := ite_t c7 h
    refine lv_iconst (v := 0) C.1 C.2.1 dX8_isInTransit_82 (by decide) ?_
    exact r_zret C hr hlk hw rfl (Option.some.inj h) rfl dX8_isInTransit_83
  · have h := ite_f c7 h
    refine lv_aload_n C.1 C.2.1 dX8_isInTransit_26 rfl (lv_at hl 2 rfl) ?_
    have hz8 := hw.2.2.1
    refine r_get (v := .ref (X.2.1 (σ.2.2.1))) C hw l_0 vc_8 kX8 1 rfl (by decide) gw_409 rfl dX8_isInTransit_27 ?_
    refine lv_iload C.1 C.2.1 dX8_isInTransit_30 (lv_at hl 0 rfl) ?_
    obtain ⟨q9, eq9, h⟩ := bnd h
    refine r_callVN (As := [.int v4]) C hw (ok_X4_isThere X l σ (σ.2.2.1) v4 hz8 _ eq9) (lg_0 hz8) vc_4 gw_723 nw_720 gw_722 gw_43 gw_117 hl.1 pd_X4_isThere ⟨Nat.le_of_ble_eq_true rfl, Nat.le_of_ble_eq_true rfl⟩ ⟨Nat.le_refl 0, Nat.le_refl 0⟩ (rest := []) (Nat.le_of_ble_eq_true rfl) dX8_isInTransit_32 rfl (fun H locs hw => ?_)
    refine lv_if_eq (tgt := 82) C.1 C.2.1 dX8_isInTransit_35 (by decide) (fun c10 => ?_) (fun c10 => ?_)
    · have h := ite_t c10 h
      refine lv_iconst (v := 0) C.1 C.2.1 dX8_isInTransit_82 (by decide) ?_
      exact r_zret C hr hlk hw rfl (Option.some.inj h) rfl dX8_isInTransit_83
    · have h := ite_f c10 h
      refine lv_aload_n C.1 C.2.1 dX8_isInTransit_38 rfl (lv_at hl 2 rfl) ?_
      have hz11 := hw.2.2.1
      refine r_get (v := .ref (X.2.1 (σ.2.2.1))) C hw l_0 vc_8 kX8 1 rfl (by decide) gw_409 rfl dX8_isInTransit_39 ?_
      refine lv_iload C.1 C.2.1 dX8_isInTransit_42 (lv_at hl 1 rfl) ?_
      refine lv_iload_n C.1 C.2.1 dX8_isInTransit_44 rfl (lv_at hl 4 rfl) ?_
      obtain ⟨q12, eq12, h⟩ := bnd h
      refine r_callVN (As := [.int v2, .int a2]) C hw (ok_X4_isOver X l σ (σ.2.2.1) v2 a2 hz11 _ eq12) (lg_0 hz11) vc_4 gw_702 nw_724 gw_701 gw_39 gw_117 hl.1 pd_X4_isOver ⟨Nat.le_of_ble_eq_true rfl, Nat.le_of_ble_eq_true rfl⟩ ⟨Nat.le_refl 0, Nat.le_refl 0⟩ (rest := []) (Nat.le_of_ble_eq_true rfl) dX8_isInTransit_45 rfl (fun H locs hw => ?_)
      refine lv_if_eq (tgt := 82) C.1 C.2.1 dX8_isInTransit_48 (by decide) (fun c13 => ?_) (fun c13 => ?_)
      · have h := ite_t c13 h
        refine lv_iconst (v := 0) C.1 C.2.1 dX8_isInTransit_82 (by decide) ?_
        exact r_zret C hr hlk hw rfl (Option.some.inj h) rfl dX8_isInTransit_83
      · have h := ite_f c13 h
        refine lv_aload_n C.1 C.2.1 dX8_isInTransit_51 rfl (lv_at hl 2 rfl) ?_
        have hz14 := hw.2.2.1
        refine r_get (v := .ref (X.2.1 (σ.2.2.1))) C hw l_0 vc_8 kX8 1 rfl (by decide) gw_409 rfl dX8_isInTransit_52 ?_
        refine lv_iload C.1 C.2.1 dX8_isInTransit_55 (lv_at hl 0 rfl) ?_
        refine lv_iload_n C.1 C.2.1 dX8_isInTransit_57 rfl (lv_at hl 4 rfl) ?_
        obtain ⟨q15, eq15, h⟩ := bnd h
        refine r_callVN (As := [.int v4, .int a2]) C hw (ok_X4_isOver X l σ (σ.2.2.1) v4 a2 hz14 _ eq15) (lg_0 hz14) vc_4 gw_702 nw_724 gw_701 gw_39 gw_117 hl.1 pd_X4_isOver ⟨Nat.le_of_ble_eq_true rfl, Nat.le_of_ble_eq_true rfl⟩ ⟨Nat.le_refl 0, Nat.le_refl 0⟩ (rest := []) (Nat.le_of_ble_eq_true rfl) dX8_isInTransit_58 rfl (fun H locs hw => ?_)
        refine lv_if_ne (tgt := 82) C.1 C.2.1 dX8_isInTransit_61 (by decide) (fun c16 => ?_) (fun c16 => ?_)
        · have h := ite_f c16 h
          refine lv_iconst (v := 0) C.1 C.2.1 dX8_isInTransit_82 (by decide) ?_
          exact r_zret C hr hlk hw rfl (Option.some.inj h) rfl dX8_isInTransit_83
        · have h := ite_t c16 h
          refine lv_aload_n C.1 C.2.1 dX8_isInTransit_64 rfl (lv_at hl 2 rfl) ?_
          have hz17 := hw.2.2.1
          refine r_get (v := .ref (X.2.1 (σ.2.2.1))) C hw l_0 vc_8 kX8 1 rfl (by decide) gw_409 rfl dX8_isInTransit_65 ?_
          refine lv_iload C.1 C.2.1 dX8_isInTransit_68 (lv_at hl 0 rfl) ?_
          refine lv_iload_n C.1 C.2.1 dX8_isInTransit_70 rfl (lv_at hl 4 rfl) ?_
          obtain ⟨q18, eq18, h⟩ := bnd h
          refine r_callVN (As := [.int v4, .int a2]) C hw (ok_X4_isToCome X l σ (σ.2.2.1) v4 a2 hz17 _ eq18) (lg_0 hz17) vc_4 gw_706 nw_725 gw_705 gw_40 gw_117 hl.1 pd_X4_isToCome ⟨Nat.le_of_ble_eq_true rfl, Nat.le_of_ble_eq_true rfl⟩ ⟨Nat.le_refl 0, Nat.le_refl 0⟩ (rest := []) (Nat.le_of_ble_eq_true rfl) dX8_isInTransit_71 rfl (fun H locs hw => ?_)
          refine lv_iload_n C.1 C.2.1 dX8_isInTransit_74 rfl (lv_at hl 5 rfl) ?_
          refine lv_icmp_ne (tgt := 82) C.1 C.2.1 dX8_isInTransit_75 (by decide) (fun c19 => ?_) (fun c19 => ?_)
          · have h := ite_f c19 h
            refine lv_iconst (v := 0) C.1 C.2.1 dX8_isInTransit_82 (by decide) ?_
            exact r_zret C hr hlk hw rfl (Option.some.inj h) rfl dX8_isInTransit_83
          · have h := ite_t c19 h
            refine lv_iconst (v := 1) C.1 C.2.1 dX8_isInTransit_78 (by decide) ?_
            refine lv_goto (tgt := 83) C.1 C.2.1 dX8_isInTransit_79 (by decide) ?_
            exact r_zret C hr hlk hw rfl (Option.some.inj h) rfl dX8_isInTransit_83
def f_X8_transit_b74 (σ : St) (a1 : Int32) (a2 : Int32) (a3 : Int32) (k35 : Int32 → Int32 → Option Int32) (x4 : Int32) (x5 : Int32) (s1 : Int32) (s2 : Int32) (s3 : Int32) : Option Int32 :=
  (f_X8_isInTransit σ s1 s2 s3).bind fun q15 => if (b2i q15) = 0 then (nm (x5 + 1) fun v17 => k35 x4 v17) else ((rd σ ((σ.2.2.1) + 5) 40 x5).bind fun v19 => nm (x4 + v19) fun v20 => nm (x5 + 1) fun v21 => k35 v20 v21)
def f_X8_transit_b35 (σ : St) (a1 : Int32) (a2 : Int32) (a3 : Int32) : Nat → Int32 → Int32 → Option Int32
  | 0, _, _ => none
  | n + 1, x4, x5 => if (σ.1 (σ.2.2.1) 2) ≤ x5 then (some x4) else ((rd σ ((σ.2.2.1) + 4) 40 x5).bind fun v11 => if v11 = a1 then (if a3 = 0 then (f_X8_transit_b74 σ a1 a2 a3 (fun x4 x5 => f_X8_transit_b35 σ a1 a2 a3 n x4 x5) x4 x5 x5 a2 1) else (f_X8_transit_b74 σ a1 a2 a3 (fun x4 x5 => f_X8_transit_b35 σ a1 a2 a3 n x4 x5) x4 x5 x5 a2 0)) else (nm (x5 + 1) fun v13 => f_X8_transit_b35 σ a1 a2 a3 n x4 v13))
def f_X8_transit (σ : St) (a1 : Int32) (a2 : Int32) (a3 : Int32) : Option Int32 :=
  if (b2i (f_X4_hasItem σ (σ.2.2.1) a1)) = 0 then (some (-1)) else (if (b2i (f_X8_isInstant σ a2)) = 0 then (some (-1)) else (if a3 < 0 then (some (-1)) else (if a3 ≤ 1 then (f_X8_transit_b35 σ a1 a2 a3 10000 0 0) else (some (-1)))))
set_option maxRecDepth 100000 in
set_option maxHeartbeats 4000000 in
theorem ok_X8_transit (X : Xc) (l : Launch) (σ : St) (a1 : Int32) (a2 : Int32) (a3 : Int32) (r : Int32) (h : f_X8_transit σ a1 a2 a3 = some r) : Ok X l yX8_transit cX8_transit 6 (some .int) 2 47 [.ref (X.2.1 0), .int a1, .int a2, .int a3] σ (some (.int r)) σ := by
  refine Ok.of (by decide) (Nat.le_of_ble_eq_true rfl) ?_
  intro p e s m args below meth c C hr hlk hw ls hl
  have C : Cx p s m args c X cX8_transit 6 "RunningCount" := C
  have hl : lv_has ls 6 [(0, .ref (X.2.1 0)), (1, .int a1), (2, .int a2), (3, .int a3)] := hl
  have b74 : ∀ (k35 : Int32 → Int32 → Option Int32) (hk35 : ∀ (x4 : Int32) (x5 : Int32), k35 x4 x5 = some r → ∀ (H : Heap) (locs : List Loc), At X σ s.heap H locs → ∀ ls : Array Slot, lv_has ls 6 [(0, .ref (X.2.1 0)), (1, .int a1), (2, .int a2), (3, .int a3), (4, .int x4), (5, .int x5)] → W p l e (rmX 2 47) s m args below meth c H locs 0 0 (Zq X below s args (some (.int r)) σ) (F0 m 35 ls [])), ∀ (x4 : Int32) (x5 : Int32) (s1 : Int32) (s2 : Int32) (s3 : Int32), f_X8_transit_b74 σ a1 a2 a3 k35 x4 x5 s1 s2 s3 = some r → ∀ (H : Heap) (locs : List Loc), At X σ s.heap H locs → ∀ ls : Array Slot, lv_has ls 6 [(0, .ref (X.2.1 0)), (1, .int a1), (2, .int a2), (3, .int a3), (4, .int x4), (5, .int x5)] → W p l e (rmX 2 47) s m args below meth c H locs 0 0 (Zq X below s args (some (.int r)) σ) (F0 m 74 ls [.int s3, .int s2, .int s1, .ref (X.2.1 0)]) := by
    intro k35 hk35
    intro x4 x5 s1 s2 s3 h H locs hw ls hl
    rw [f_X8_transit_b74] at h
    obtain ⟨q15, eq15, h⟩ := bnd h
    refine r_callV (As := [.int s1, .int s2, .int s3]) C hw (ok_X8_isInTransit X l σ s1 s2 s3 _ eq15) l_0 vc_8 gw_718 gw_715 gw_717 gw_42 gw_114 hl.1 pd_X8_isInTransit ⟨Nat.le_of_ble_eq_true rfl, Nat.le_of_ble_eq_true rfl⟩ ⟨Nat.le_refl 0, Nat.le_refl 0⟩ (rest := []) (Nat.le_of_ble_eq_true rfl) dX8_transit_74 rfl (fun H locs hw => ?_)
    refine lv_if_eq (tgt := 95) C.1 C.2.1 dX8_transit_77 (by decide) (fun c16 => ?_) (fun c16 => ?_)
    · have h := ite_t c16 h
      obtain ⟨v17, ev17, h⟩ := nm_d h
      refine lv_iinc (v := v17) (lv' := [(5, .int v17), (0, .ref (X.2.1 0)), (1, .int a1), (2, .int a2), (3, .int a3), (4, .int x4)]) C.1 C.2.1 dX8_transit_95 hl (k := 5) rfl (by rw [ev17]; rfl) (by decide) rfl (fun ls hl => ?_)
      refine lv_goto (tgt := 35) C.1 C.2.1 dX8_transit_98 (by decide) ?_
      exact hk35 x4 v17 h _ _ hw ls (lv_sub hl [1, 2, 3, 4, 5, 0] rfl)
    · have h := ite_f c16 h
      refine lv_iload C.1 C.2.1 dX8_transit_80 (lv_at hl 4 rfl) ?_
      refine lv_aload_n C.1 C.2.1 dX8_transit_82 rfl (lv_at hl 0 rfl) ?_
      have hz18 := hw.2.2.1
      refine r_get (v := .ref (X.2.1 (σ.2.2.1))) C hw l_0 vc_8 kX8 1 rfl (by decide) gw_409 rfl dX8_transit_83 ?_
      refine r_getN (v := .ref (X.2.1 ((σ.2.2.1) + 5))) C hw (lg_0 hz18) vc_4 kX4 7 rfl (by decide) nw_231 rfl dX8_transit_86 ?_
      refine lv_iload C.1 C.2.1 dX8_transit_89 (lv_at hl 5 rfl) ?_
      obtain ⟨v19, ev19, h⟩ := bnd h
      refine r_ald C hw (lg_5 hz18) ev19 dX8_transit_91 ?_
      refine lv_iadd C.1 C.2.1 dX8_transit_92 ?_
      obtain ⟨v20, ev20, h⟩ := nm_d h
      refine lv_nm ev20 ?_
      refine lv_istore (lv' := [(4, .int v20), (0, .ref (X.2.1 0)), (1, .int a1), (2, .int a2), (3, .int a3), (5, .int x5)]) C.1 C.2.1 dX8_transit_93 hl (by decide) rfl (fun ls hl => ?_)
      obtain ⟨v21, ev21, h⟩ := nm_d h
      refine lv_iinc (v := v21) (lv' := [(5, .int v21), (4, .int v20), (0, .ref (X.2.1 0)), (1, .int a1), (2, .int a2), (3, .int a3)]) C.1 C.2.1 dX8_transit_95 hl (k := 5) rfl (by rw [ev21]; rfl) (by decide) rfl (fun ls hl => ?_)
      refine lv_goto (tgt := 35) C.1 C.2.1 dX8_transit_98 (by decide) ?_
      exact hk35 v20 v21 h _ _ hw ls (lv_sub hl [2, 3, 4, 5, 1, 0] rfl)
  have b35 : ∀ (n : Nat), ∀ (x4 : Int32) (x5 : Int32), f_X8_transit_b35 σ a1 a2 a3 n x4 x5 = some r → ∀ (H : Heap) (locs : List Loc), At X σ s.heap H locs → ∀ ls : Array Slot, lv_has ls 6 [(0, .ref (X.2.1 0)), (1, .int a1), (2, .int a2), (3, .int a3), (4, .int x4), (5, .int x5)] → W p l e (rmX 2 47) s m args below meth c H locs 0 0 (Zq X below s args (some (.int r)) σ) (F0 m 35 ls []) := by
    intro n
    induction n with
    | zero =>
      intro x4 x5 h
      exact no_some h
    | succ n ih =>
      intro x4 x5 h H locs hw ls hl
      rw [f_X8_transit_b35] at h
      refine lv_iload C.1 C.2.1 dX8_transit_35 (lv_at hl 5 rfl) ?_
      refine lv_aload_n C.1 C.2.1 dX8_transit_37 rfl (lv_at hl 0 rfl) ?_
      have hz8 := hw.2.2.1
      refine r_get (v := .ref (X.2.1 (σ.2.2.1))) C hw l_0 vc_8 kX8 1 rfl (by decide) gw_409 rfl dX8_transit_38 ?_
      refine r_getN (v := .int (σ.1 (σ.2.2.1) 2)) C hw (lg_0 hz8) vc_4 kX4 2 rfl (by decide) nw_219 rfl dX8_transit_41 ?_
      refine lv_icmp_ge (tgt := 101) C.1 C.2.1 dX8_transit_44 (by decide) (fun c9 => ?_) (fun c9 => ?_)
      · have h := ite_t c9 h
        refine lv_iload C.1 C.2.1 dX8_transit_101 (lv_at hl 4 rfl) ?_
        exact r_iret C hr hlk hw (Option.some.inj h) rfl dX8_transit_103
      · have h := ite_f c9 h
        refine lv_aload_n C.1 C.2.1 dX8_transit_47 rfl (lv_at hl 0 rfl) ?_
        have hz10 := hw.2.2.1
        refine r_get (v := .ref (X.2.1 (σ.2.2.1))) C hw l_0 vc_8 kX8 1 rfl (by decide) gw_409 rfl dX8_transit_48 ?_
        refine r_getN (v := .ref (X.2.1 ((σ.2.2.1) + 4))) C hw (lg_0 hz10) vc_4 kX4 6 rfl (by decide) nw_228 rfl dX8_transit_51 ?_
        refine lv_iload C.1 C.2.1 dX8_transit_54 (lv_at hl 5 rfl) ?_
        obtain ⟨v11, ev11, h⟩ := bnd h
        refine r_ald C hw (lg_4 hz10) ev11 dX8_transit_56 ?_
        refine lv_iload_n C.1 C.2.1 dX8_transit_57 rfl (lv_at hl 1 rfl) ?_
        refine lv_icmp_ne (tgt := 95) C.1 C.2.1 dX8_transit_58 (by decide) (fun c12 => ?_) (fun c12 => ?_)
        · have h := ite_f c12 h
          obtain ⟨v13, ev13, h⟩ := nm_d h
          refine lv_iinc (v := v13) (lv' := [(5, .int v13), (0, .ref (X.2.1 0)), (1, .int a1), (2, .int a2), (3, .int a3), (4, .int x4)]) C.1 C.2.1 dX8_transit_95 hl (k := 5) rfl (by rw [ev13]; rfl) (by decide) rfl (fun ls hl => ?_)
          refine lv_goto (tgt := 35) C.1 C.2.1 dX8_transit_98 (by decide) ?_
          exact ih x4 v13 h _ _ hw ls (lv_sub hl [1, 2, 3, 4, 5, 0] rfl)
        · have h := ite_t c12 h
          refine lv_aload_n C.1 C.2.1 dX8_transit_61 rfl (lv_at hl 0 rfl) ?_
          refine lv_iload C.1 C.2.1 dX8_transit_62 (lv_at hl 5 rfl) ?_
          refine lv_iload_n C.1 C.2.1 dX8_transit_64 rfl (lv_at hl 2 rfl) ?_
          refine lv_iload_n C.1 C.2.1 dX8_transit_65 rfl (lv_at hl 3 rfl) ?_
          refine lv_if_ne (tgt := 73) C.1 C.2.1 dX8_transit_66 (by decide) (fun c14 => ?_) (fun c14 => ?_)
          · have h := ite_f c14 h
            refine lv_iconst (v := 0) C.1 C.2.1 dX8_transit_73 (by decide) ?_
            exact b74 (fun x4 x5 => f_X8_transit_b35 σ a1 a2 a3 n x4 x5) ih x4 x5 x5 a2 0 h _ _ hw ls (lv_sub hl [0, 1, 2, 3, 4, 5] rfl)
          · have h := ite_t c14 h
            refine lv_iconst (v := 1) C.1 C.2.1 dX8_transit_69 (by decide) ?_
            refine lv_goto (tgt := 74) C.1 C.2.1 dX8_transit_70 (by decide) ?_
            exact b74 (fun x4 x5 => f_X8_transit_b35 σ a1 a2 a3 n x4 x5) ih x4 x5 x5 a2 1 h _ _ hw ls (lv_sub hl [0, 1, 2, 3, 4, 5] rfl)
  rw [f_X8_transit] at h
  refine lv_aload_n C.1 C.2.1 dX8_transit_0 rfl (lv_at hl 0 rfl) ?_
  have hz1 := hw.2.2.1
  refine r_get (v := .ref (X.2.1 (σ.2.2.1))) C hw l_0 vc_8 kX8 1 rfl (by decide) gw_409 rfl dX8_transit_1 ?_
  refine lv_iload_n C.1 C.2.1 dX8_transit_4 rfl (lv_at hl 1 rfl) ?_
  refine r_callVN (As := [.int a1]) C hw (ok_X4_hasItem X l σ (σ.2.2.1) a1 hz1 _ rfl) (lg_0 hz1) vc_4 gw_610 nw_667 gw_609 gw_24 gw_117 hl.1 pd_X4_hasItem ⟨Nat.le_of_ble_eq_true rfl, Nat.le_of_ble_eq_true rfl⟩ ⟨Nat.le_refl 0, Nat.le_refl 0⟩ (rest := []) (Nat.le_of_ble_eq_true rfl) dX8_transit_5 rfl (fun H locs hw => ?_)
  refine lv_if_eq (tgt := 27) C.1 C.2.1 dX8_transit_8 (by decide) (fun c3 => ?_) (fun c3 => ?_)
  · have h := ite_t c3 h
    refine lv_iconst (v := (-1)) C.1 C.2.1 dX8_transit_27 (by decide) ?_
    exact r_iret C hr hlk hw (Option.some.inj h) rfl dX8_transit_28
  · have h := ite_f c3 h
    refine lv_iload_n C.1 C.2.1 dX8_transit_11 rfl (lv_at hl 2 rfl) ?_
    refine r_callS (As := [.int a2]) C hw (ok_X8_isInstant X l σ a2 _ rfl) gw_675 gw_673 gw_674 gw_114 hl.1 pd_X8_isInstant ⟨Nat.le_of_ble_eq_true rfl, Nat.le_of_ble_eq_true rfl⟩ ⟨Nat.le_refl 0, Nat.le_refl 0⟩ (rest := []) (Nat.le_of_ble_eq_true rfl) dX8_transit_12 rfl (fun H locs hw => ?_)
    refine lv_if_eq (tgt := 27) C.1 C.2.1 dX8_transit_15 (by decide) (fun c5 => ?_) (fun c5 => ?_)
    · have h := ite_t c5 h
      refine lv_iconst (v := (-1)) C.1 C.2.1 dX8_transit_27 (by decide) ?_
      exact r_iret C hr hlk hw (Option.some.inj h) rfl dX8_transit_28
    · have h := ite_f c5 h
      refine lv_iload_n C.1 C.2.1 dX8_transit_18 rfl (lv_at hl 3 rfl) ?_
      refine lv_if_lt (tgt := 27) C.1 C.2.1 dX8_transit_19 (by decide) (fun c6 => ?_) (fun c6 => ?_)
      · have h := ite_t c6 h
        refine lv_iconst (v := (-1)) C.1 C.2.1 dX8_transit_27 (by decide) ?_
        exact r_iret C hr hlk hw (Option.some.inj h) rfl dX8_transit_28
      · have h := ite_f c6 h
        refine lv_iload_n C.1 C.2.1 dX8_transit_22 rfl (lv_at hl 3 rfl) ?_
        refine lv_iconst (v := 1) C.1 C.2.1 dX8_transit_23 (by decide) ?_
        refine lv_icmp_le (tgt := 29) C.1 C.2.1 dX8_transit_24 (by decide) (fun c7 => ?_) (fun c7 => ?_)
        · have h := ite_t c7 h
          refine lv_iconst (v := 0) C.1 C.2.1 dX8_transit_29 (by decide) ?_
          refine lv_istore (lv' := [(4, .int 0), (0, .ref (X.2.1 0)), (1, .int a1), (2, .int a2), (3, .int a3)]) C.1 C.2.1 dX8_transit_30 hl (by decide) rfl (fun ls hl => ?_)
          refine lv_iconst (v := 0) C.1 C.2.1 dX8_transit_32 (by decide) ?_
          refine lv_istore (lv' := [(5, .int 0), (4, .int 0), (0, .ref (X.2.1 0)), (1, .int a1), (2, .int a2), (3, .int a3)]) C.1 C.2.1 dX8_transit_33 hl (by decide) rfl (fun ls hl => ?_)
          exact b35 10000 0 0 h _ _ hw ls (lv_sub hl [2, 3, 4, 5, 1, 0] rfl)
        · have h := ite_f c7 h
          refine lv_iconst (v := (-1)) C.1 C.2.1 dX8_transit_27 (by decide) ?_
          exact r_iret C hr hlk hw (Option.some.inj h) rfl dX8_transit_28
def f_X8_isBelow (σ : St) (a1 : Int32) (a2 : Int32) (a3 : Int32) : Option (Bool × St) :=
  (f_X2_readAt σ (σ.2.2.1) a1 a2 a3).bind fun q2 => if 0 ≤ (q2.1 48 2) then (some (false, q2)) else (some (true, q2))
set_option maxRecDepth 100000 in
set_option maxHeartbeats 4000000 in
theorem ok_X8_isBelow (X : Xc) (l : Launch) (σ : St) (a1 : Int32) (a2 : Int32) (a3 : Int32) (r : Bool) (σ' : St) (h : f_X8_isBelow σ a1 a2 a3 = some (r, σ')) : Ok X l yX8_isBelow cX8_isBelow 4 (some .boolean) 3 75 [.ref (X.2.1 0), .int a1, .int a2, .int a3] σ (some (.int (b2i r))) σ' := by
  refine Ok.of (by decide) (Nat.le_of_ble_eq_true rfl) ?_
  intro p e s m args below meth c C hr hlk hw ls hl
  have C : Cx p s m args c X cX8_isBelow 4 "RunningCount" := C
  have hl : lv_has ls 4 [(0, .ref (X.2.1 0)), (1, .int a1), (2, .int a2), (3, .int a3)] := hl
  rw [f_X8_isBelow] at h
  refine lv_aload_n C.1 C.2.1 dX8_isBelow_0 rfl (lv_at hl 0 rfl) ?_
  refine r_get (v := .ref (X.2.1 48)) C hw l_0 vc_8 kX8 6 rfl (by decide) gw_414 rfl dX8_isBelow_1 ?_
  refine lv_aload_n C.1 C.2.1 dX8_isBelow_4 rfl (lv_at hl 0 rfl) ?_
  have hz1 := hw.2.2.1
  refine r_get (v := .ref (X.2.1 (σ.2.2.1))) C hw l_0 vc_8 kX8 1 rfl (by decide) gw_409 rfl dX8_isBelow_5 ?_
  refine lv_aload_n C.1 C.2.1 dX8_isBelow_8 rfl (lv_at hl 0 rfl) ?_
  refine r_get (v := .ref (X.2.1 31)) C hw l_0 vc_8 kX8 4 rfl (by decide) gw_412 rfl dX8_isBelow_9 ?_
  refine lv_iload_n C.1 C.2.1 dX8_isBelow_12 rfl (lv_at hl 1 rfl) ?_
  refine lv_iload_n C.1 C.2.1 dX8_isBelow_13 rfl (lv_at hl 2 rfl) ?_
  refine lv_iload_n C.1 C.2.1 dX8_isBelow_14 rfl (lv_at hl 3 rfl) ?_
  obtain ⟨q2, eq2, h⟩ := bnd h
  refine r_callVN (As := [.ref (X.2.1 (σ.2.2.1)), .ref (X.2.1 31), .int a1, .int a2, .int a3]) C hw (ok_X2_readAt X l σ (σ.2.2.1) a1 a2 a3 hz1 _ eq2) l_48 vc_2 gw_680 nw_677 gw_679 gw_34 gw_122 hl.1 pd_X2_readAt ⟨Nat.le_of_ble_eq_true rfl, Nat.le_of_ble_eq_true rfl⟩ ⟨Nat.le_refl 0, Nat.le_refl 0⟩ (rest := []) (Nat.le_of_ble_eq_true rfl) dX8_isBelow_15 rfl (fun H locs hw => ?_)
  refine lv_aload_n C.1 C.2.1 dX8_isBelow_18 rfl (lv_at hl 0 rfl) ?_
  refine r_get (v := .ref (X.2.1 48)) C hw l_0 vc_8 kX8 6 rfl (by decide) gw_414 rfl dX8_isBelow_19 ?_
  refine r_getN (v := .int (q2.1 48 2)) C hw l_48 vc_2 kX2 2 rfl (by decide) nw_393 rfl dX8_isBelow_22 ?_
  refine lv_if_ge (tgt := 32) C.1 C.2.1 dX8_isBelow_25 (by decide) (fun c3 => ?_) (fun c3 => ?_)
  · have h := ite_t c3 h
    refine lv_iconst (v := 0) C.1 C.2.1 dX8_isBelow_32 (by decide) ?_
    exact r_zret C hr hlk hw rfl (Prod.mk.inj (Option.some.inj h)).1 (Prod.mk.inj (Option.some.inj h)).2 dX8_isBelow_33
  · have h := ite_f c3 h
    refine lv_iconst (v := 1) C.1 C.2.1 dX8_isBelow_28 (by decide) ?_
    refine lv_goto (tgt := 33) C.1 C.2.1 dX8_isBelow_29 (by decide) ?_
    exact r_zret C hr hlk hw rfl (Prod.mk.inj (Option.some.inj h)).1 (Prod.mk.inj (Option.some.inj h)).2 dX8_isBelow_33
def f_X8_below_b122 (a1 : Int32) (a2 : Int32) : Nat → St → Int32 → Int32 → Option (Int32 × St)
  | 0, _, _, _ => none
  | n + 1, σ, x3, x4 => if (σ.1 31 0) ≤ x4 then (if x3 ≤ 999 then (some (x3, σ)) else (some ((-1), σ))) else ((f_X1_isAt σ x4 a1 a2).bind fun q8 => if (b2i q8) = 0 then (nm (x4 + 1) fun v10 => f_X8_below_b122 a1 a2 n σ x3 v10) else ((rd σ 34 40 x4).bind fun v11 => if x3 ≤ v11 then (nm (x4 + 1) fun v13 => f_X8_below_b122 a1 a2 n σ x3 v13) else ((rd σ 34 40 x4).bind fun v14 => (f_X8_isBelow σ a1 a2 v14).bind fun q15 => if (b2i q15.1) = 0 then (nm (x4 + 1) fun v17 => f_X8_below_b122 a1 a2 n q15.2 x3 v17) else ((rd q15.2 34 40 x4).bind fun v18 => nm (x4 + 1) fun v19 => f_X8_below_b122 a1 a2 n q15.2 v18 v19))))
def f_X8_below_b21 (a1 : Int32) (a2 : Int32) : Nat → St → Int32 → Int32 → Option (Int32 × St)
  | 0, _, _, _ => none
  | n + 1, σ, x3, x4 => if (σ.1 (σ.2.2.1) 2) ≤ x4 then (f_X8_below_b122 a1 a2 10000 σ x3 0) else (nm ((f_X8_legOf σ x4 0)) fun v21 => (rd σ ((σ.2.2.1) + 4) 40 x4).bind fun v23 => if v23 = a2 then ((rd σ ((σ.2.2.1) + 6) 80 v21).bind fun v27 => if v27 = a1 then ((rd σ ((σ.2.2.1) + 8) 80 v21).bind fun v31 => if x3 ≤ v31 then (nm (x4 + 1) fun v33 => f_X8_below_b21 a1 a2 n σ x3 v33) else ((rd σ ((σ.2.2.1) + 8) 80 v21).bind fun v35 => (f_X8_isBelow σ a1 a2 v35).bind fun q36 => if (b2i q36.1) = 0 then (nm (x4 + 1) fun v38 => f_X8_below_b21 a1 a2 n q36.2 x3 v38) else ((rd q36.2 ((q36.2.2.2.1) + 8) 80 v21).bind fun v40 => nm (x4 + 1) fun v41 => f_X8_below_b21 a1 a2 n q36.2 v40 v41))) else (nm (x4 + 1) fun v29 => f_X8_below_b21 a1 a2 n σ x3 v29)) else (nm (x4 + 1) fun v25 => f_X8_below_b21 a1 a2 n σ x3 v25))
def f_X8_below (σ : St) (a1 : Int32) (a2 : Int32) : Option (Int32 × St) :=
  if (b2i (f_X4_hasCouple σ (σ.2.2.1) a1 a2)) = 0 then (some ((-1), σ)) else (f_X8_below_b21 a1 a2 10000 σ 1000 0)
set_option maxRecDepth 100000 in
set_option maxHeartbeats 4000000 in
theorem ok_X8_below (X : Xc) (l : Launch) (σ : St) (a1 : Int32) (a2 : Int32) (r : Int32) (σ' : St) (h : f_X8_below σ a1 a2 = some (r, σ')) : Ok X l yX8_below cX8_below 6 (some .int) 4 98 [.ref (X.2.1 0), .int a1, .int a2] σ (some (.int r)) σ' := by
  refine Ok.of (by decide) (Nat.le_of_ble_eq_true rfl) ?_
  intro p e s m args below meth c C hr hlk hw ls hl
  have C : Cx p s m args c X cX8_below 6 "RunningCount" := C
  have hl : lv_has ls 6 [(0, .ref (X.2.1 0)), (1, .int a1), (2, .int a2)] := hl
  have b122 : ∀ (n : Nat), ∀ (σ : St) (x3 : Int32) (x4 : Int32), f_X8_below_b122 a1 a2 n σ x3 x4 = some (r, σ') → ∀ (H : Heap) (locs : List Loc), At X σ s.heap H locs → ∀ ls : Array Slot, lv_has ls 6 [(0, .ref (X.2.1 0)), (1, .int a1), (2, .int a2), (3, .int x3), (4, .int x4)] → W p l e (rmX 4 98) s m args below meth c H locs 0 0 (Zq X below s args (some (.int r)) σ') (F0 m 122 ls []) := by
    intro n
    induction n with
    | zero =>
      intro σ x3 x4 h
      exact no_some h
    | succ n ih =>
      intro σ x3 x4 h H locs hw ls hl
      rw [f_X8_below_b122] at h
      refine lv_iload C.1 C.2.1 dX8_below_122 (lv_at hl 4 rfl) ?_
      refine lv_aload_n C.1 C.2.1 dX8_below_124 rfl (lv_at hl 0 rfl) ?_
      refine r_get (v := .ref (X.2.1 31)) C hw l_0 vc_8 kX8 4 rfl (by decide) gw_412 rfl dX8_below_125 ?_
      refine r_getN (v := .int (σ.1 31 0)) C hw l_31 vc_1 kX1 0 rfl (by decide) nw_305 rfl dX8_below_128 ?_
      refine lv_icmp_ge (tgt := 198) C.1 C.2.1 dX8_below_131 (by decide) (fun c6 => ?_) (fun c6 => ?_)
      · have h := ite_t c6 h
        refine lv_iload_n C.1 C.2.1 dX8_below_198 rfl (lv_at hl 3 rfl) ?_
        refine lv_sipush (v := 999) C.1 C.2.1 dX8_below_199 (by decide) ?_
        refine lv_icmp_le (tgt := 209) C.1 C.2.1 dX8_below_202 (by decide) (fun c7 => ?_) (fun c7 => ?_)
        · have h := ite_t c7 h
          refine lv_iload_n C.1 C.2.1 dX8_below_209 rfl (lv_at hl 3 rfl) ?_
          exact r_iret C hr hlk hw (Prod.mk.inj (Option.some.inj h)).1 (Prod.mk.inj (Option.some.inj h)).2 dX8_below_210
        · have h := ite_f c7 h
          refine lv_iconst (v := (-1)) C.1 C.2.1 dX8_below_205 (by decide) ?_
          refine lv_goto (tgt := 210) C.1 C.2.1 dX8_below_206 (by decide) ?_
          exact r_iret C hr hlk hw (Prod.mk.inj (Option.some.inj h)).1 (Prod.mk.inj (Option.some.inj h)).2 dX8_below_210
      · have h := ite_f c6 h
        refine lv_aload_n C.1 C.2.1 dX8_below_134 rfl (lv_at hl 0 rfl) ?_
        refine r_get (v := .ref (X.2.1 31)) C hw l_0 vc_8 kX8 4 rfl (by decide) gw_412 rfl dX8_below_135 ?_
        refine lv_iload C.1 C.2.1 dX8_below_138 (lv_at hl 4 rfl) ?_
        refine lv_iload_n C.1 C.2.1 dX8_below_140 rfl (lv_at hl 1 rfl) ?_
        refine lv_iload_n C.1 C.2.1 dX8_below_141 rfl (lv_at hl 2 rfl) ?_
        obtain ⟨q8, eq8, h⟩ := bnd h
        refine r_callVN (As := [.int x4, .int a1, .int a2]) C hw (ok_X1_isAt X l σ x4 a1 a2 _ eq8) l_31 vc_1 gw_693 nw_734 gw_692 gw_37 gw_119 hl.1 pd_X1_isAt ⟨Nat.le_of_ble_eq_true rfl, Nat.le_of_ble_eq_true rfl⟩ ⟨Nat.le_refl 0, Nat.le_refl 0⟩ (rest := []) (Nat.le_of_ble_eq_true rfl) dX8_below_142 rfl (fun H locs hw => ?_)
        refine lv_if_eq (tgt := 192) C.1 C.2.1 dX8_below_145 (by decide) (fun c9 => ?_) (fun c9 => ?_)
        · have h := ite_t c9 h
          obtain ⟨v10, ev10, h⟩ := nm_d h
          refine lv_iinc (v := v10) (lv' := [(4, .int v10), (0, .ref (X.2.1 0)), (1, .int a1), (2, .int a2), (3, .int x3)]) C.1 C.2.1 dX8_below_192 hl (k := 4) rfl (by rw [ev10]; rfl) (by decide) rfl (fun ls hl => ?_)
          refine lv_goto (tgt := 122) C.1 C.2.1 dX8_below_195 (by decide) ?_
          exact ih σ x3 v10 h _ _ hw ls (lv_sub hl [1, 2, 3, 4, 0] rfl)
        · have h := ite_f c9 h
          refine lv_aload_n C.1 C.2.1 dX8_below_148 rfl (lv_at hl 0 rfl) ?_
          refine r_get (v := .ref (X.2.1 31)) C hw l_0 vc_8 kX8 4 rfl (by decide) gw_412 rfl dX8_below_149 ?_
          refine r_getN (v := .ref (X.2.1 34)) C hw l_31 vc_1 kX1 3 rfl (by decide) nw_311 rfl dX8_below_152 ?_
          refine lv_iload C.1 C.2.1 dX8_below_155 (lv_at hl 4 rfl) ?_
          obtain ⟨v11, ev11, h⟩ := bnd h
          refine r_ald C hw l_34 ev11 dX8_below_157 ?_
          refine lv_iload_n C.1 C.2.1 dX8_below_158 rfl (lv_at hl 3 rfl) ?_
          refine lv_icmp_ge (tgt := 192) C.1 C.2.1 dX8_below_159 (by decide) (fun c12 => ?_) (fun c12 => ?_)
          · have h := ite_t c12 h
            obtain ⟨v13, ev13, h⟩ := nm_d h
            refine lv_iinc (v := v13) (lv' := [(4, .int v13), (0, .ref (X.2.1 0)), (1, .int a1), (2, .int a2), (3, .int x3)]) C.1 C.2.1 dX8_below_192 hl (k := 4) rfl (by rw [ev13]; rfl) (by decide) rfl (fun ls hl => ?_)
            refine lv_goto (tgt := 122) C.1 C.2.1 dX8_below_195 (by decide) ?_
            exact ih σ x3 v13 h _ _ hw ls (lv_sub hl [1, 2, 3, 4, 0] rfl)
          · have h := ite_f c12 h
            refine lv_aload_n C.1 C.2.1 dX8_below_162 rfl (lv_at hl 0 rfl) ?_
            refine lv_iload_n C.1 C.2.1 dX8_below_163 rfl (lv_at hl 1 rfl) ?_
            refine lv_iload_n C.1 C.2.1 dX8_below_164 rfl (lv_at hl 2 rfl) ?_
            refine lv_aload_n C.1 C.2.1 dX8_below_165 rfl (lv_at hl 0 rfl) ?_
            refine r_get (v := .ref (X.2.1 31)) C hw l_0 vc_8 kX8 4 rfl (by decide) gw_412 rfl dX8_below_166 ?_
            refine r_getN (v := .ref (X.2.1 34)) C hw l_31 vc_1 kX1 3 rfl (by decide) nw_311 rfl dX8_below_169 ?_
            refine lv_iload C.1 C.2.1 dX8_below_172 (lv_at hl 4 rfl) ?_
            obtain ⟨v14, ev14, h⟩ := bnd h
            refine r_ald C hw l_34 ev14 dX8_below_174 ?_
            obtain ⟨q15, eq15, h⟩ := bnd h
            refine r_callV (As := [.int a1, .int a2, .int v14]) C hw (ok_X8_isBelow X l σ a1 a2 v14 _ _ eq15) l_0 vc_8 gw_733 gw_730 gw_732 gw_44 gw_114 hl.1 pd_X8_isBelow ⟨Nat.le_of_ble_eq_true rfl, Nat.le_of_ble_eq_true rfl⟩ ⟨Nat.le_refl 0, Nat.le_refl 0⟩ (rest := []) (Nat.le_of_ble_eq_true rfl) dX8_below_175 rfl (fun H locs hw => ?_)
            refine lv_if_eq (tgt := 192) C.1 C.2.1 dX8_below_178 (by decide) (fun c16 => ?_) (fun c16 => ?_)
            · have h := ite_t c16 h
              obtain ⟨v17, ev17, h⟩ := nm_d h
              refine lv_iinc (v := v17) (lv' := [(4, .int v17), (0, .ref (X.2.1 0)), (1, .int a1), (2, .int a2), (3, .int x3)]) C.1 C.2.1 dX8_below_192 hl (k := 4) rfl (by rw [ev17]; rfl) (by decide) rfl (fun ls hl => ?_)
              refine lv_goto (tgt := 122) C.1 C.2.1 dX8_below_195 (by decide) ?_
              exact ih q15.2 x3 v17 h _ _ hw ls (lv_sub hl [1, 2, 3, 4, 0] rfl)
            · have h := ite_f c16 h
              refine lv_aload_n C.1 C.2.1 dX8_below_181 rfl (lv_at hl 0 rfl) ?_
              refine r_get (v := .ref (X.2.1 31)) C hw l_0 vc_8 kX8 4 rfl (by decide) gw_412 rfl dX8_below_182 ?_
              refine r_getN (v := .ref (X.2.1 34)) C hw l_31 vc_1 kX1 3 rfl (by decide) nw_311 rfl dX8_below_185 ?_
              refine lv_iload C.1 C.2.1 dX8_below_188 (lv_at hl 4 rfl) ?_
              obtain ⟨v18, ev18, h⟩ := bnd h
              refine r_ald C hw l_34 ev18 dX8_below_190 ?_
              refine lv_istore_n (lv' := [(3, .int v18), (0, .ref (X.2.1 0)), (1, .int a1), (2, .int a2), (4, .int x4)]) C.1 C.2.1 dX8_below_191 rfl hl (by decide) rfl (fun ls hl => ?_)
              obtain ⟨v19, ev19, h⟩ := nm_d h
              refine lv_iinc (v := v19) (lv' := [(4, .int v19), (3, .int v18), (0, .ref (X.2.1 0)), (1, .int a1), (2, .int a2)]) C.1 C.2.1 dX8_below_192 hl (k := 4) rfl (by rw [ev19]; rfl) (by decide) rfl (fun ls hl => ?_)
              refine lv_goto (tgt := 122) C.1 C.2.1 dX8_below_195 (by decide) ?_
              exact ih q15.2 v18 v19 h _ _ hw ls (lv_sub hl [2, 3, 4, 1, 0] rfl)
  have b21 : ∀ (n : Nat), ∀ (σ : St) (x3 : Int32) (x4 : Int32), f_X8_below_b21 a1 a2 n σ x3 x4 = some (r, σ') → ∀ (H : Heap) (locs : List Loc), At X σ s.heap H locs → ∀ ls : Array Slot, lv_has ls 6 [(0, .ref (X.2.1 0)), (1, .int a1), (2, .int a2), (3, .int x3), (4, .int x4)] → W p l e (rmX 4 98) s m args below meth c H locs 0 0 (Zq X below s args (some (.int r)) σ') (F0 m 21 ls []) := by
    intro n
    induction n with
    | zero =>
      intro σ x3 x4 h
      exact no_some h
    | succ n ih =>
      intro σ x3 x4 h H locs hw ls hl
      rw [f_X8_below_b21] at h
      refine lv_iload C.1 C.2.1 dX8_below_21 (lv_at hl 4 rfl) ?_
      refine lv_aload_n C.1 C.2.1 dX8_below_23 rfl (lv_at hl 0 rfl) ?_
      have hz4 := hw.2.2.1
      refine r_get (v := .ref (X.2.1 (σ.2.2.1))) C hw l_0 vc_8 kX8 1 rfl (by decide) gw_409 rfl dX8_below_24 ?_
      refine r_getN (v := .int (σ.1 (σ.2.2.1) 2)) C hw (lg_0 hz4) vc_4 kX4 2 rfl (by decide) nw_219 rfl dX8_below_27 ?_
      refine lv_icmp_ge (tgt := 119) C.1 C.2.1 dX8_below_30 (by decide) (fun c5 => ?_) (fun c5 => ?_)
      · have h := ite_t c5 h
        refine lv_iconst (v := 0) C.1 C.2.1 dX8_below_119 (by decide) ?_
        refine lv_istore (lv' := [(4, .int 0), (0, .ref (X.2.1 0)), (1, .int a1), (2, .int a2), (3, .int x3)]) C.1 C.2.1 dX8_below_120 hl (by decide) rfl (fun ls hl => ?_)
        exact b122 10000 σ x3 0 h _ _ hw ls (lv_sub hl [1, 2, 3, 4, 0] rfl)
      · have h := ite_f c5 h
        refine lv_iload C.1 C.2.1 dX8_below_33 (lv_at hl 4 rfl) ?_
        refine lv_iconst (v := 0) C.1 C.2.1 dX8_below_35 (by decide) ?_
        refine r_callS (As := [.int x4, .int 0]) C hw (ok_X8_legOf X l σ x4 0 _ rfl) gw_632 gw_719 gw_631 gw_114 hl.1 pd_X8_legOf ⟨Nat.le_of_ble_eq_true rfl, Nat.le_of_ble_eq_true rfl⟩ ⟨Nat.le_refl 0, Nat.le_refl 0⟩ (rest := []) (Nat.le_of_ble_eq_true rfl) dX8_below_36 rfl (fun H locs hw => ?_)
        obtain ⟨v21, ev21, h⟩ := nm_d h
        refine lv_nm ev21 ?_
        refine lv_istore (lv' := [(5, .int v21), (0, .ref (X.2.1 0)), (1, .int a1), (2, .int a2), (3, .int x3), (4, .int x4)]) C.1 C.2.1 dX8_below_39 hl (by decide) rfl (fun ls hl => ?_)
        refine lv_aload_n C.1 C.2.1 dX8_below_41 rfl (lv_at hl 1 rfl) ?_
        have hz22 := hw.2.2.1
        refine r_get (v := .ref (X.2.1 (σ.2.2.1))) C hw l_0 vc_8 kX8 1 rfl (by decide) gw_409 rfl dX8_below_42 ?_
        refine r_getN (v := .ref (X.2.1 ((σ.2.2.1) + 4))) C hw (lg_0 hz22) vc_4 kX4 6 rfl (by decide) nw_228 rfl dX8_below_45 ?_
        refine lv_iload C.1 C.2.1 dX8_below_48 (lv_at hl 5 rfl) ?_
        obtain ⟨v23, ev23, h⟩ := bnd h
        refine r_ald C hw (lg_4 hz22) ev23 dX8_below_50 ?_
        refine lv_iload_n C.1 C.2.1 dX8_below_51 rfl (lv_at hl 3 rfl) ?_
        refine lv_icmp_ne (tgt := 113) C.1 C.2.1 dX8_below_52 (by decide) (fun c24 => ?_) (fun c24 => ?_)
        · have h := ite_f c24 h
          obtain ⟨v25, ev25, h⟩ := nm_d h
          refine lv_iinc (v := v25) (lv' := [(4, .int v25), (5, .int v21), (0, .ref (X.2.1 0)), (1, .int a1), (2, .int a2), (3, .int x3)]) C.1 C.2.1 dX8_below_113 hl (k := 5) rfl (by rw [ev25]; rfl) (by decide) rfl (fun ls hl => ?_)
          refine lv_goto (tgt := 21) C.1 C.2.1 dX8_below_116 (by decide) ?_
          exact ih σ x3 v25 h _ _ hw ls (lv_sub hl [2, 3, 4, 5, 0] rfl)
        · have h := ite_t c24 h
          refine lv_aload_n C.1 C.2.1 dX8_below_55 rfl (lv_at hl 1 rfl) ?_
          have hz26 := hw.2.2.1
          refine r_get (v := .ref (X.2.1 (σ.2.2.1))) C hw l_0 vc_8 kX8 1 rfl (by decide) gw_409 rfl dX8_below_56 ?_
          refine r_getN (v := .ref (X.2.1 ((σ.2.2.1) + 6))) C hw (lg_0 hz26) vc_4 kX4 8 rfl (by decide) nw_234 rfl dX8_below_59 ?_
          refine lv_iload C.1 C.2.1 dX8_below_62 (lv_at hl 0 rfl) ?_
          obtain ⟨v27, ev27, h⟩ := bnd h
          refine r_ald C hw (lg_6 hz26) ev27 dX8_below_64 ?_
          refine lv_iload_n C.1 C.2.1 dX8_below_65 rfl (lv_at hl 2 rfl) ?_
          refine lv_icmp_ne (tgt := 113) C.1 C.2.1 dX8_below_66 (by decide) (fun c28 => ?_) (fun c28 => ?_)
          · have h := ite_f c28 h
            obtain ⟨v29, ev29, h⟩ := nm_d h
            refine lv_iinc (v := v29) (lv' := [(4, .int v29), (5, .int v21), (0, .ref (X.2.1 0)), (1, .int a1), (2, .int a2), (3, .int x3)]) C.1 C.2.1 dX8_below_113 hl (k := 5) rfl (by rw [ev29]; rfl) (by decide) rfl (fun ls hl => ?_)
            refine lv_goto (tgt := 21) C.1 C.2.1 dX8_below_116 (by decide) ?_
            exact ih σ x3 v29 h _ _ hw ls (lv_sub hl [2, 3, 4, 5, 0] rfl)
          · have h := ite_t c28 h
            refine lv_aload_n C.1 C.2.1 dX8_below_69 rfl (lv_at hl 1 rfl) ?_
            have hz30 := hw.2.2.1
            refine r_get (v := .ref (X.2.1 (σ.2.2.1))) C hw l_0 vc_8 kX8 1 rfl (by decide) gw_409 rfl dX8_below_70 ?_
            refine r_getN (v := .ref (X.2.1 ((σ.2.2.1) + 8))) C hw (lg_0 hz30) vc_4 kX4 10 rfl (by decide) nw_238 rfl dX8_below_73 ?_
            refine lv_iload C.1 C.2.1 dX8_below_76 (lv_at hl 0 rfl) ?_
            obtain ⟨v31, ev31, h⟩ := bnd h
            refine r_ald C hw (lg_8 hz30) ev31 dX8_below_78 ?_
            refine lv_iload_n C.1 C.2.1 dX8_below_79 rfl (lv_at hl 4 rfl) ?_
            refine lv_icmp_ge (tgt := 113) C.1 C.2.1 dX8_below_80 (by decide) (fun c32 => ?_) (fun c32 => ?_)
            · have h := ite_t c32 h
              obtain ⟨v33, ev33, h⟩ := nm_d h
              refine lv_iinc (v := v33) (lv' := [(4, .int v33), (5, .int v21), (0, .ref (X.2.1 0)), (1, .int a1), (2, .int a2), (3, .int x3)]) C.1 C.2.1 dX8_below_113 hl (k := 5) rfl (by rw [ev33]; rfl) (by decide) rfl (fun ls hl => ?_)
              refine lv_goto (tgt := 21) C.1 C.2.1 dX8_below_116 (by decide) ?_
              exact ih σ x3 v33 h _ _ hw ls (lv_sub hl [2, 3, 4, 5, 0] rfl)
            · have h := ite_f c32 h
              refine lv_aload_n C.1 C.2.1 dX8_below_83 rfl (lv_at hl 1 rfl) ?_
              refine lv_iload_n C.1 C.2.1 dX8_below_84 rfl (lv_at hl 2 rfl) ?_
              refine lv_iload_n C.1 C.2.1 dX8_below_85 rfl (lv_at hl 3 rfl) ?_
              refine lv_aload_n C.1 C.2.1 dX8_below_86 rfl (lv_at hl 1 rfl) ?_
              have hz34 := hw.2.2.1
              refine r_get (v := .ref (X.2.1 (σ.2.2.1))) C hw l_0 vc_8 kX8 1 rfl (by decide) gw_409 rfl dX8_below_87 ?_
              refine r_getN (v := .ref (X.2.1 ((σ.2.2.1) + 8))) C hw (lg_0 hz34) vc_4 kX4 10 rfl (by decide) nw_238 rfl dX8_below_90 ?_
              refine lv_iload C.1 C.2.1 dX8_below_93 (lv_at hl 0 rfl) ?_
              obtain ⟨v35, ev35, h⟩ := bnd h
              refine r_ald C hw (lg_8 hz34) ev35 dX8_below_95 ?_
              obtain ⟨q36, eq36, h⟩ := bnd h
              refine r_callV (As := [.int a1, .int a2, .int v35]) C hw (ok_X8_isBelow X l σ a1 a2 v35 _ _ eq36) l_0 vc_8 gw_733 gw_730 gw_732 gw_44 gw_114 hl.1 pd_X8_isBelow ⟨Nat.le_of_ble_eq_true rfl, Nat.le_of_ble_eq_true rfl⟩ ⟨Nat.le_refl 0, Nat.le_refl 0⟩ (rest := []) (Nat.le_of_ble_eq_true rfl) dX8_below_96 rfl (fun H locs hw => ?_)
              refine lv_if_eq (tgt := 113) C.1 C.2.1 dX8_below_99 (by decide) (fun c37 => ?_) (fun c37 => ?_)
              · have h := ite_t c37 h
                obtain ⟨v38, ev38, h⟩ := nm_d h
                refine lv_iinc (v := v38) (lv' := [(4, .int v38), (5, .int v21), (0, .ref (X.2.1 0)), (1, .int a1), (2, .int a2), (3, .int x3)]) C.1 C.2.1 dX8_below_113 hl (k := 5) rfl (by rw [ev38]; rfl) (by decide) rfl (fun ls hl => ?_)
                refine lv_goto (tgt := 21) C.1 C.2.1 dX8_below_116 (by decide) ?_
                exact ih q36.2 x3 v38 h _ _ hw ls (lv_sub hl [2, 3, 4, 5, 0] rfl)
              · have h := ite_f c37 h
                refine lv_aload_n C.1 C.2.1 dX8_below_102 rfl (lv_at hl 1 rfl) ?_
                have hz39 := hw.2.2.1
                refine r_get (v := .ref (X.2.1 (q36.2.2.2.1))) C hw l_0 vc_8 kX8 1 rfl (by decide) gw_409 rfl dX8_below_103 ?_
                refine r_getN (v := .ref (X.2.1 ((q36.2.2.2.1) + 8))) C hw (lg_0 hz39) vc_4 kX4 10 rfl (by decide) nw_238 rfl dX8_below_106 ?_
                refine lv_iload C.1 C.2.1 dX8_below_109 (lv_at hl 0 rfl) ?_
                obtain ⟨v40, ev40, h⟩ := bnd h
                refine r_ald C hw (lg_8 hz39) ev40 dX8_below_111 ?_
                refine lv_istore_n (lv' := [(3, .int v40), (5, .int v21), (0, .ref (X.2.1 0)), (1, .int a1), (2, .int a2), (4, .int x4)]) C.1 C.2.1 dX8_below_112 rfl hl (by decide) rfl (fun ls hl => ?_)
                obtain ⟨v41, ev41, h⟩ := nm_d h
                refine lv_iinc (v := v41) (lv' := [(4, .int v41), (3, .int v40), (5, .int v21), (0, .ref (X.2.1 0)), (1, .int a1), (2, .int a2)]) C.1 C.2.1 dX8_below_113 hl (k := 5) rfl (by rw [ev41]; rfl) (by decide) rfl (fun ls hl => ?_)
                refine lv_goto (tgt := 21) C.1 C.2.1 dX8_below_116 (by decide) ?_
                exact ih q36.2 v40 v41 h _ _ hw ls (lv_sub hl [3, 4, 5, 1, 0] rfl)
  rw [f_X8_below] at h
  refine lv_aload_n C.1 C.2.1 dX8_below_0 rfl (lv_at hl 0 rfl) ?_
  have hz1 := hw.2.2.1
  refine r_get (v := .ref (X.2.1 (σ.2.2.1))) C hw l_0 vc_8 kX8 1 rfl (by decide) gw_409 rfl dX8_below_1 ?_
  refine lv_iload_n C.1 C.2.1 dX8_below_4 rfl (lv_at hl 1 rfl) ?_
  refine lv_iload_n C.1 C.2.1 dX8_below_5 rfl (lv_at hl 2 rfl) ?_
  refine r_callVN (As := [.int a1, .int a2]) C hw (ok_X4_hasCouple X l σ (σ.2.2.1) a1 a2 hz1 _ rfl) (lg_0 hz1) vc_4 gw_602 nw_672 gw_601 gw_22 gw_117 hl.1 pd_X4_hasCouple ⟨Nat.le_of_ble_eq_true rfl, Nat.le_of_ble_eq_true rfl⟩ ⟨Nat.le_refl 0, Nat.le_refl 0⟩ (rest := []) (Nat.le_of_ble_eq_true rfl) dX8_below_6 rfl (fun H locs hw => ?_)
  refine lv_if_ne (tgt := 14) C.1 C.2.1 dX8_below_9 (by decide) (fun c3 => ?_) (fun c3 => ?_)
  · have h := ite_f c3 h
    refine lv_sipush (v := 1000) C.1 C.2.1 dX8_below_14 (by decide) ?_
    refine lv_istore_n (lv' := [(3, .int 1000), (0, .ref (X.2.1 0)), (1, .int a1), (2, .int a2)]) C.1 C.2.1 dX8_below_17 rfl hl (by decide) rfl (fun ls hl => ?_)
    refine lv_iconst (v := 0) C.1 C.2.1 dX8_below_18 (by decide) ?_
    refine lv_istore (lv' := [(4, .int 0), (3, .int 1000), (0, .ref (X.2.1 0)), (1, .int a1), (2, .int a2)]) C.1 C.2.1 dX8_below_19 hl (by decide) rfl (fun ls hl => ?_)
    exact b21 10000 σ 1000 0 h _ _ hw ls (lv_sub hl [2, 3, 4, 1, 0] rfl)
  · have h := ite_t c3 h
    refine lv_iconst (v := (-1)) C.1 C.2.1 dX8_below_12 (by decide) ?_
    exact r_iret C hr hlk hw (Prod.mk.inj (Option.some.inj h)).1 (Prod.mk.inj (Option.some.inj h)).2 dX8_below_13
def f_X3_has (σ : St) (a1 : Int32) : Bool :=
  if a1 < 0 then (false) else (if (σ.1 24 0) ≤ a1 then (false) else (true))
set_option maxRecDepth 100000 in
set_option maxHeartbeats 4000000 in
theorem ok_X3_has (X : Xc) (l : Launch) (σ : St) (a1 : Int32) (r : Bool) (h : f_X3_has σ a1 = r) : Ok X l yX3_has cX3_has 2 (some .boolean) 0 0 [.ref (X.2.1 24), .int a1] σ (some (.int (b2i r))) σ := by
  refine Ok.of (by decide) (Nat.le_of_ble_eq_true rfl) ?_
  intro p e s m args below meth c C hr hlk hw ls hl
  have C : Cx p s m args c X cX3_has 2 "RunningCount$CountList" := C
  have hl : lv_has ls 2 [(0, .ref (X.2.1 24)), (1, .int a1)] := hl
  rw [f_X3_has] at h
  refine lv_iload_n C.1 C.2.1 dX3_has_0 rfl (lv_at hl 1 rfl) ?_
  refine lv_if_lt (tgt := 16) C.1 C.2.1 dX3_has_1 (by decide) (fun c1 => ?_) (fun c1 => ?_)
  · have h := ite_t c1 h
    refine lv_iconst (v := 0) C.1 C.2.1 dX3_has_16 (by decide) ?_
    exact r_zret C hr hlk hw rfl h rfl dX3_has_17
  · have h := ite_f c1 h
    refine lv_iload_n C.1 C.2.1 dX3_has_4 rfl (lv_at hl 1 rfl) ?_
    refine lv_aload_n C.1 C.2.1 dX3_has_5 rfl (lv_at hl 0 rfl) ?_
    refine r_get (v := .int (σ.1 24 0)) C hw l_24 vc_3 kX3 0 rfl (by decide) gw_268 rfl dX3_has_6 ?_
    refine lv_icmp_ge (tgt := 16) C.1 C.2.1 dX3_has_9 (by decide) (fun c2 => ?_) (fun c2 => ?_)
    · have h := ite_t c2 h
      refine lv_iconst (v := 0) C.1 C.2.1 dX3_has_16 (by decide) ?_
      exact r_zret C hr hlk hw rfl h rfl dX3_has_17
    · have h := ite_f c2 h
      refine lv_iconst (v := 1) C.1 C.2.1 dX3_has_12 (by decide) ?_
      refine lv_goto (tgt := 17) C.1 C.2.1 dX3_has_13 (by decide) ?_
      exact r_zret C hr hlk hw rfl h rfl dX3_has_17
def f_X8_turnTo (σ : St) (a1 : Int32) : Option St :=
  (rd σ 25 40 a1).bind fun v2 => (rd σ 26 40 a1).bind fun v3 => (rd σ 27 40 a1).bind fun v4 => (f_X2_readAt σ (σ.2.2.1) v2 v3 v4).bind fun q5 => some q5
set_option maxRecDepth 100000 in
set_option maxHeartbeats 4000000 in
theorem ok_X8_turnTo (X : Xc) (l : Launch) (σ : St) (a1 : Int32) (σ' : St) (h : f_X8_turnTo σ a1 = some σ') : Ok X l yX8_turnTo cX8_turnTo 2 none 3 75 [.ref (X.2.1 0), .int a1] σ none σ' := by
  refine Ok.of (by decide) (Nat.le_of_ble_eq_true rfl) ?_
  intro p e s m args below meth c C hr hlk hw ls hl
  have C : Cx p s m args c X cX8_turnTo 2 "RunningCount" := C
  have hl : lv_has ls 2 [(0, .ref (X.2.1 0)), (1, .int a1)] := hl
  rw [f_X8_turnTo] at h
  refine lv_aload_n C.1 C.2.1 dX8_turnTo_0 rfl (lv_at hl 0 rfl) ?_
  refine r_get (v := .ref (X.2.1 48)) C hw l_0 vc_8 kX8 6 rfl (by decide) gw_414 rfl dX8_turnTo_1 ?_
  refine lv_aload_n C.1 C.2.1 dX8_turnTo_4 rfl (lv_at hl 0 rfl) ?_
  have hz1 := hw.2.2.1
  refine r_get (v := .ref (X.2.1 (σ.2.2.1))) C hw l_0 vc_8 kX8 1 rfl (by decide) gw_409 rfl dX8_turnTo_5 ?_
  refine lv_aload_n C.1 C.2.1 dX8_turnTo_8 rfl (lv_at hl 0 rfl) ?_
  refine r_get (v := .ref (X.2.1 31)) C hw l_0 vc_8 kX8 4 rfl (by decide) gw_412 rfl dX8_turnTo_9 ?_
  refine lv_aload_n C.1 C.2.1 dX8_turnTo_12 rfl (lv_at hl 0 rfl) ?_
  refine r_get (v := .ref (X.2.1 24)) C hw l_0 vc_8 kX8 3 rfl (by decide) gw_411 rfl dX8_turnTo_13 ?_
  refine r_getN (v := .ref (X.2.1 25)) C hw l_24 vc_3 kX3 1 rfl (by decide) nw_271 rfl dX8_turnTo_16 ?_
  refine lv_iload_n C.1 C.2.1 dX8_turnTo_19 rfl (lv_at hl 1 rfl) ?_
  obtain ⟨v2, ev2, h⟩ := bnd h
  refine r_ald C hw l_25 ev2 dX8_turnTo_20 ?_
  refine lv_aload_n C.1 C.2.1 dX8_turnTo_21 rfl (lv_at hl 0 rfl) ?_
  refine r_get (v := .ref (X.2.1 24)) C hw l_0 vc_8 kX8 3 rfl (by decide) gw_411 rfl dX8_turnTo_22 ?_
  refine r_getN (v := .ref (X.2.1 26)) C hw l_24 vc_3 kX3 2 rfl (by decide) nw_273 rfl dX8_turnTo_25 ?_
  refine lv_iload_n C.1 C.2.1 dX8_turnTo_28 rfl (lv_at hl 1 rfl) ?_
  obtain ⟨v3, ev3, h⟩ := bnd h
  refine r_ald C hw l_26 ev3 dX8_turnTo_29 ?_
  refine lv_aload_n C.1 C.2.1 dX8_turnTo_30 rfl (lv_at hl 0 rfl) ?_
  refine r_get (v := .ref (X.2.1 24)) C hw l_0 vc_8 kX8 3 rfl (by decide) gw_411 rfl dX8_turnTo_31 ?_
  refine r_getN (v := .ref (X.2.1 27)) C hw l_24 vc_3 kX3 3 rfl (by decide) nw_275 rfl dX8_turnTo_34 ?_
  refine lv_iload_n C.1 C.2.1 dX8_turnTo_37 rfl (lv_at hl 1 rfl) ?_
  obtain ⟨v4, ev4, h⟩ := bnd h
  refine r_ald C hw l_27 ev4 dX8_turnTo_38 ?_
  obtain ⟨q5, eq5, h⟩ := bnd h
  refine r_callVN (As := [.ref (X.2.1 (σ.2.2.1)), .ref (X.2.1 31), .int v2, .int v3, .int v4]) C hw (ok_X2_readAt X l σ (σ.2.2.1) v2 v3 v4 hz1 _ eq5) l_48 vc_2 gw_680 nw_677 gw_679 gw_34 gw_122 hl.1 pd_X2_readAt ⟨Nat.le_of_ble_eq_true rfl, Nat.le_of_ble_eq_true rfl⟩ ⟨Nat.le_refl 0, Nat.le_refl 0⟩ (rest := []) (Nat.le_of_ble_eq_true rfl) dX8_turnTo_39 rfl (fun H locs hw => ?_)
  exact r_vret C hr hlk hw (Option.some.inj h) dX8_turnTo_42
def f_X8_allowedFor (σ : St) (a1 : Int32) : Option (Int32 × St) :=
  (f_X8_turnTo σ a1).bind fun q1 => (rd q1 26 40 a1).bind fun v2 => (rd q1 ((q1.2.2.1) + 2) 5 v2).bind fun v4 => nm ((v4 * (if (q1.1 48 0) < 0 then 0 else (q1.1 48 0))) / 100) fun v5 => (rd q1 ((q1.2.2.1) + 1) 5 v2).bind fun v7 => some (if v7 < v5 then v5 else v7, q1)
set_option maxRecDepth 100000 in
set_option maxHeartbeats 4000000 in
theorem ok_X8_allowedFor (X : Xc) (l : Launch) (σ : St) (a1 : Int32) (r : Int32) (σ' : St) (h : f_X8_allowedFor σ a1 = some (r, σ')) : Ok X l yX8_allowedFor cX8_allowedFor 4 (some .int) 4 96 [.ref (X.2.1 0), .int a1] σ (some (.int r)) σ' := by
  refine Ok.of (by decide) (Nat.le_of_ble_eq_true rfl) ?_
  intro p e s m args below meth c C hr hlk hw ls hl
  have C : Cx p s m args c X cX8_allowedFor 4 "RunningCount" := C
  have hl : lv_has ls 4 [(0, .ref (X.2.1 0)), (1, .int a1)] := hl
  rw [f_X8_allowedFor] at h
  refine lv_aload_n C.1 C.2.1 dX8_allowedFor_0 rfl (lv_at hl 0 rfl) ?_
  refine lv_iload_n C.1 C.2.1 dX8_allowedFor_1 rfl (lv_at hl 1 rfl) ?_
  obtain ⟨q1, eq1, h⟩ := bnd h
  refine r_callV (As := [.int a1]) C hw (ok_X8_turnTo X l σ a1 _ eq1) l_0 vc_8 gw_750 gw_747 gw_749 gw_47 gw_114 hl.1 pd_X8_turnTo ⟨Nat.le_of_ble_eq_true rfl, Nat.le_of_ble_eq_true rfl⟩ ⟨Nat.le_refl 0, Nat.le_refl 0⟩ (rest := []) (Nat.le_of_ble_eq_true rfl) dX8_allowedFor_2 rfl (fun H locs hw => ?_)
  refine lv_aload_n C.1 C.2.1 dX8_allowedFor_5 rfl (lv_at hl 0 rfl) ?_
  refine r_get (v := .ref (X.2.1 24)) C hw l_0 vc_8 kX8 3 rfl (by decide) gw_411 rfl dX8_allowedFor_6 ?_
  refine r_getN (v := .ref (X.2.1 26)) C hw l_24 vc_3 kX3 2 rfl (by decide) nw_273 rfl dX8_allowedFor_9 ?_
  refine lv_iload_n C.1 C.2.1 dX8_allowedFor_12 rfl (lv_at hl 1 rfl) ?_
  obtain ⟨v2, ev2, h⟩ := bnd h
  refine r_ald C hw l_26 ev2 dX8_allowedFor_13 ?_
  refine lv_istore_n (lv' := [(2, .int v2), (0, .ref (X.2.1 0)), (1, .int a1)]) C.1 C.2.1 dX8_allowedFor_14 rfl hl (by decide) rfl (fun ls hl => ?_)
  refine lv_aload_n C.1 C.2.1 dX8_allowedFor_15 rfl (lv_at hl 1 rfl) ?_
  have hz3 := hw.2.2.1
  refine r_get (v := .ref (X.2.1 (q1.2.2.1))) C hw l_0 vc_8 kX8 1 rfl (by decide) gw_409 rfl dX8_allowedFor_16 ?_
  refine r_getN (v := .ref (X.2.1 ((q1.2.2.1) + 2))) C hw (lg_0 hz3) vc_4 kX4 4 rfl (by decide) nw_224 rfl dX8_allowedFor_19 ?_
  refine lv_iload_n C.1 C.2.1 dX8_allowedFor_22 rfl (lv_at hl 0 rfl) ?_
  obtain ⟨v4, ev4, h⟩ := bnd h
  refine r_ald C hw (lg_2 hz3) ev4 dX8_allowedFor_23 ?_
  refine lv_aload_n C.1 C.2.1 dX8_allowedFor_24 rfl (lv_at hl 1 rfl) ?_
  refine r_get (v := .ref (X.2.1 48)) C hw l_0 vc_8 kX8 6 rfl (by decide) gw_414 rfl dX8_allowedFor_25 ?_
  refine r_getN (v := .int (q1.1 48 0)) C hw l_48 vc_2 kX2 0 rfl (by decide) nw_389 rfl dX8_allowedFor_28 ?_
  refine lv_iconst (v := 0) C.1 C.2.1 dX8_allowedFor_31 (by decide) ?_
  refine va_mmax C.1 C.2.1 (C.2.2.1.trans hl.1.symm) C.2.2.2.1 (C.2.2.2.2.1 _ gw_783) (C.2.2.2.2.1 _ gw_475) (C.2.2.2.2.1 _ gw_124) (C.2.2.2.2.1 _ gw_476) (Nat.le_of_ble_eq_true rfl) (Nat.le_of_ble_eq_true rfl) (Nat.le_refl 0) (Nat.le_refl 0) dX8_allowedFor_32 ?_
  refine lv_imul C.1 C.2.1 dX8_allowedFor_35 ?_
  refine lv_bipush (v := 100) C.1 C.2.1 dX8_allowedFor_36 (by decide) ?_
  refine lv_idiv C.1 C.2.1 dX8_allowedFor_38 (by decide) ?_
  obtain ⟨v5, ev5, h⟩ := nm_d h
  refine lv_nm ev5 ?_
  refine lv_istore_n (lv' := [(3, .int v5), (2, .int v2), (0, .ref (X.2.1 0)), (1, .int a1)]) C.1 C.2.1 dX8_allowedFor_39 rfl hl (by decide) rfl (fun ls hl => ?_)
  refine lv_aload_n C.1 C.2.1 dX8_allowedFor_40 rfl (lv_at hl 2 rfl) ?_
  have hz6 := hw.2.2.1
  refine r_get (v := .ref (X.2.1 (q1.2.2.1))) C hw l_0 vc_8 kX8 1 rfl (by decide) gw_409 rfl dX8_allowedFor_41 ?_
  refine r_getN (v := .ref (X.2.1 ((q1.2.2.1) + 1))) C hw (lg_0 hz6) vc_4 kX4 3 rfl (by decide) nw_222 rfl dX8_allowedFor_44 ?_
  refine lv_iload_n C.1 C.2.1 dX8_allowedFor_47 rfl (lv_at hl 1 rfl) ?_
  obtain ⟨v7, ev7, h⟩ := bnd h
  refine r_ald C hw (lg_1 hz6) ev7 dX8_allowedFor_48 ?_
  refine lv_iload_n C.1 C.2.1 dX8_allowedFor_49 rfl (lv_at hl 0 rfl) ?_
  refine va_mmax C.1 C.2.1 (C.2.2.1.trans hl.1.symm) C.2.2.2.1 (C.2.2.2.2.1 _ gw_783) (C.2.2.2.2.1 _ gw_475) (C.2.2.2.2.1 _ gw_124) (C.2.2.2.2.1 _ gw_476) (Nat.le_of_ble_eq_true rfl) (Nat.le_of_ble_eq_true rfl) (Nat.le_refl 0) (Nat.le_refl 0) dX8_allowedFor_50 ?_
  exact r_iret C hr hlk hw (Prod.mk.inj (Option.some.inj h)).1 (Prod.mk.inj (Option.some.inj h)).2 dX8_allowedFor_53
def f_X8_differenceOf (σ : St) (a1 : Int32) : Option (Int32 × St) :=
  (f_X8_turnTo σ a1).bind fun q1 => (rd q1 28 40 a1).bind fun v2 => if v2 ≤ (q1.1 48 2) then (if (q1.1 48 1) ≤ v2 then (some (0, q1)) else (some (v2 - (q1.1 48 1), q1))) else (some (v2 - (q1.1 48 2), q1))
set_option maxRecDepth 100000 in
set_option maxHeartbeats 4000000 in
theorem ok_X8_differenceOf (X : Xc) (l : Launch) (σ : St) (a1 : Int32) (r : Int32) (σ' : St) (h : f_X8_differenceOf σ a1 = some (r, σ')) : Ok X l yX8_differenceOf cX8_differenceOf 3 (some .int) 4 96 [.ref (X.2.1 0), .int a1] σ (some (.int r)) σ' := by
  refine Ok.of (by decide) (Nat.le_of_ble_eq_true rfl) ?_
  intro p e s m args below meth c C hr hlk hw ls hl
  have C : Cx p s m args c X cX8_differenceOf 3 "RunningCount" := C
  have hl : lv_has ls 3 [(0, .ref (X.2.1 0)), (1, .int a1)] := hl
  rw [f_X8_differenceOf] at h
  refine lv_aload_n C.1 C.2.1 dX8_differenceOf_0 rfl (lv_at hl 0 rfl) ?_
  refine lv_iload_n C.1 C.2.1 dX8_differenceOf_1 rfl (lv_at hl 1 rfl) ?_
  obtain ⟨q1, eq1, h⟩ := bnd h
  refine r_callV (As := [.int a1]) C hw (ok_X8_turnTo X l σ a1 _ eq1) l_0 vc_8 gw_750 gw_747 gw_749 gw_47 gw_114 hl.1 pd_X8_turnTo ⟨Nat.le_of_ble_eq_true rfl, Nat.le_of_ble_eq_true rfl⟩ ⟨Nat.le_refl 0, Nat.le_refl 0⟩ (rest := []) (Nat.le_of_ble_eq_true rfl) dX8_differenceOf_2 rfl (fun H locs hw => ?_)
  refine lv_aload_n C.1 C.2.1 dX8_differenceOf_5 rfl (lv_at hl 0 rfl) ?_
  refine r_get (v := .ref (X.2.1 24)) C hw l_0 vc_8 kX8 3 rfl (by decide) gw_411 rfl dX8_differenceOf_6 ?_
  refine r_getN (v := .ref (X.2.1 28)) C hw l_24 vc_3 kX3 4 rfl (by decide) nw_277 rfl dX8_differenceOf_9 ?_
  refine lv_iload_n C.1 C.2.1 dX8_differenceOf_12 rfl (lv_at hl 1 rfl) ?_
  obtain ⟨v2, ev2, h⟩ := bnd h
  refine r_ald C hw l_28 ev2 dX8_differenceOf_13 ?_
  refine lv_istore_n (lv' := [(2, .int v2), (0, .ref (X.2.1 0)), (1, .int a1)]) C.1 C.2.1 dX8_differenceOf_14 rfl hl (by decide) rfl (fun ls hl => ?_)
  refine lv_iload_n C.1 C.2.1 dX8_differenceOf_15 rfl (lv_at hl 0 rfl) ?_
  refine lv_aload_n C.1 C.2.1 dX8_differenceOf_16 rfl (lv_at hl 1 rfl) ?_
  refine r_get (v := .ref (X.2.1 48)) C hw l_0 vc_8 kX8 6 rfl (by decide) gw_414 rfl dX8_differenceOf_17 ?_
  refine r_getN (v := .int (q1.1 48 2)) C hw l_48 vc_2 kX2 2 rfl (by decide) nw_393 rfl dX8_differenceOf_20 ?_
  refine lv_icmp_le (tgt := 36) C.1 C.2.1 dX8_differenceOf_23 (by decide) (fun c3 => ?_) (fun c3 => ?_)
  · have h := ite_t c3 h
    refine lv_iload_n C.1 C.2.1 dX8_differenceOf_36 rfl (lv_at hl 0 rfl) ?_
    refine lv_aload_n C.1 C.2.1 dX8_differenceOf_37 rfl (lv_at hl 1 rfl) ?_
    refine r_get (v := .ref (X.2.1 48)) C hw l_0 vc_8 kX8 6 rfl (by decide) gw_414 rfl dX8_differenceOf_38 ?_
    refine r_getN (v := .int (q1.1 48 1)) C hw l_48 vc_2 kX2 1 rfl (by decide) nw_391 rfl dX8_differenceOf_41 ?_
    refine lv_icmp_ge (tgt := 59) C.1 C.2.1 dX8_differenceOf_44 (by decide) (fun c4 => ?_) (fun c4 => ?_)
    · have h := ite_t c4 h
      refine lv_iconst (v := 0) C.1 C.2.1 dX8_differenceOf_59 (by decide) ?_
      exact r_iret C hr hlk hw (Prod.mk.inj (Option.some.inj h)).1 (Prod.mk.inj (Option.some.inj h)).2 dX8_differenceOf_60
    · have h := ite_f c4 h
      refine lv_iload_n C.1 C.2.1 dX8_differenceOf_47 rfl (lv_at hl 0 rfl) ?_
      refine lv_aload_n C.1 C.2.1 dX8_differenceOf_48 rfl (lv_at hl 1 rfl) ?_
      refine r_get (v := .ref (X.2.1 48)) C hw l_0 vc_8 kX8 6 rfl (by decide) gw_414 rfl dX8_differenceOf_49 ?_
      refine r_getN (v := .int (q1.1 48 1)) C hw l_48 vc_2 kX2 1 rfl (by decide) nw_391 rfl dX8_differenceOf_52 ?_
      refine lv_isub C.1 C.2.1 dX8_differenceOf_55 ?_
      refine lv_goto (tgt := 60) C.1 C.2.1 dX8_differenceOf_56 (by decide) ?_
      exact r_iret C hr hlk hw (Prod.mk.inj (Option.some.inj h)).1 (Prod.mk.inj (Option.some.inj h)).2 dX8_differenceOf_60
  · have h := ite_f c3 h
    refine lv_iload_n C.1 C.2.1 dX8_differenceOf_26 rfl (lv_at hl 0 rfl) ?_
    refine lv_aload_n C.1 C.2.1 dX8_differenceOf_27 rfl (lv_at hl 1 rfl) ?_
    refine r_get (v := .ref (X.2.1 48)) C hw l_0 vc_8 kX8 6 rfl (by decide) gw_414 rfl dX8_differenceOf_28 ?_
    refine r_getN (v := .int (q1.1 48 2)) C hw l_48 vc_2 kX2 2 rfl (by decide) nw_393 rfl dX8_differenceOf_31 ?_
    refine lv_isub C.1 C.2.1 dX8_differenceOf_34 ?_
    exact r_iret C hr hlk hw (Prod.mk.inj (Option.some.inj h)).1 (Prod.mk.inj (Option.some.inj h)).2 dX8_differenceOf_35
def f_X8_difference (σ : St) (a1 : Int32) : Option (Int32 × St) :=
  if (b2i (f_X3_has σ a1)) = 0 then (some ((-100000000), σ)) else ((f_X8_differenceOf σ a1).bind fun q3 => some (q3.1, q3.2))
set_option maxRecDepth 100000 in
set_option maxHeartbeats 4000000 in
theorem ok_X8_difference (X : Xc) (l : Launch) (σ : St) (a1 : Int32) (r : Int32) (σ' : St) (h : f_X8_difference σ a1 = some (r, σ')) : Ok X l yX8_difference cX8_difference 2 (some .int) 5 118 [.ref (X.2.1 0), .int a1] σ (some (.int r)) σ' := by
  refine Ok.of (by decide) (Nat.le_of_ble_eq_true rfl) ?_
  intro p e s m args below meth c C hr hlk hw ls hl
  have C : Cx p s m args c X cX8_difference 2 "RunningCount" := C
  have hl : lv_has ls 2 [(0, .ref (X.2.1 0)), (1, .int a1)] := hl
  rw [f_X8_difference] at h
  refine lv_aload_n C.1 C.2.1 dX8_difference_0 rfl (lv_at hl 0 rfl) ?_
  refine r_get (v := .ref (X.2.1 24)) C hw l_0 vc_8 kX8 3 rfl (by decide) gw_411 rfl dX8_difference_1 ?_
  refine lv_iload_n C.1 C.2.1 dX8_difference_4 rfl (lv_at hl 1 rfl) ?_
  refine r_callVN (As := [.int a1]) C hw (ok_X3_has X l σ a1 _ rfl) l_24 vc_3 gw_742 nw_739 gw_741 gw_45 gw_118 hl.1 pd_X3_has ⟨Nat.le_of_ble_eq_true rfl, Nat.le_of_ble_eq_true rfl⟩ ⟨Nat.le_refl 0, Nat.le_refl 0⟩ (rest := []) (Nat.le_of_ble_eq_true rfl) dX8_difference_5 rfl (fun H locs hw => ?_)
  refine lv_if_eq (tgt := 19) C.1 C.2.1 dX8_difference_8 (by decide) (fun c2 => ?_) (fun c2 => ?_)
  · have h := ite_t c2 h
    refine lv_ldc (v := (-100000000)) C.1 C.2.1 C.2.2.2.1 (C.2.2.2.2.1 _ gw_676) dX8_difference_19 ?_
    exact r_iret C hr hlk hw (Prod.mk.inj (Option.some.inj h)).1 (Prod.mk.inj (Option.some.inj h)).2 dX8_difference_21
  · have h := ite_f c2 h
    refine lv_aload_n C.1 C.2.1 dX8_difference_11 rfl (lv_at hl 0 rfl) ?_
    refine lv_iload_n C.1 C.2.1 dX8_difference_12 rfl (lv_at hl 1 rfl) ?_
    obtain ⟨q3, eq3, h⟩ := bnd h
    refine r_callV (As := [.int a1]) C hw (ok_X8_differenceOf X l σ a1 _ _ eq3) l_0 vc_8 gw_746 gw_743 gw_745 gw_46 gw_114 hl.1 pd_X8_differenceOf ⟨Nat.le_of_ble_eq_true rfl, Nat.le_of_ble_eq_true rfl⟩ ⟨Nat.le_refl 0, Nat.le_refl 0⟩ (rest := []) (Nat.le_of_ble_eq_true rfl) dX8_difference_13 rfl (fun H locs hw => ?_)
    refine lv_goto (tgt := 21) C.1 C.2.1 dX8_difference_16 (by decide) ?_
    exact r_iret C hr hlk hw (Prod.mk.inj (Option.some.inj h)).1 (Prod.mk.inj (Option.some.inj h)).2 dX8_difference_21
def f_X8_share (σ : St) (a1 : Int32) : Option (Int32 × St) :=
  if (b2i (f_X3_has σ a1)) = 0 then (some ((-100000000), σ)) else ((f_X8_differenceOf σ a1).bind fun q3 => if (q3.2.1 48 0) = 0 then (some (0, q3.2)) else ((ckN (FP.fmul 1148846080 (FP.i2f q3.1))).bind fun q5 => (ckN (FP.fdiv (FP.fmul 1148846080 (FP.i2f q3.1)) (FP.i2f (q3.2.1 48 0)))).bind fun q6 => some (FP.f2i (FP.fdiv (FP.fmul 1148846080 (FP.i2f q3.1)) (FP.i2f (q3.2.1 48 0))), q3.2)))
set_option maxRecDepth 100000 in
set_option maxHeartbeats 4000000 in
theorem ok_X8_share (X : Xc) (l : Launch) (σ : St) (a1 : Int32) (r : Int32) (σ' : St) (h : f_X8_share σ a1 = some (r, σ')) : Ok X l yX8_share cX8_share 3 (some .int) 5 118 [.ref (X.2.1 0), .int a1] σ (some (.int r)) σ' := by
  refine Ok.of (by decide) (Nat.le_of_ble_eq_true rfl) ?_
  intro p e s m args below meth c C hr hlk hw ls hl
  have C : Cx p s m args c X cX8_share 3 "RunningCount" := C
  have hl : lv_has ls 3 [(0, .ref (X.2.1 0)), (1, .int a1)] := hl
  rw [f_X8_share] at h
  refine lv_aload_n C.1 C.2.1 dX8_share_0 rfl (lv_at hl 0 rfl) ?_
  refine r_get (v := .ref (X.2.1 24)) C hw l_0 vc_8 kX8 3 rfl (by decide) gw_411 rfl dX8_share_1 ?_
  refine lv_iload_n C.1 C.2.1 dX8_share_4 rfl (lv_at hl 1 rfl) ?_
  refine r_callVN (As := [.int a1]) C hw (ok_X3_has X l σ a1 _ rfl) l_24 vc_3 gw_742 nw_739 gw_741 gw_45 gw_118 hl.1 pd_X3_has ⟨Nat.le_of_ble_eq_true rfl, Nat.le_of_ble_eq_true rfl⟩ ⟨Nat.le_refl 0, Nat.le_refl 0⟩ (rest := []) (Nat.le_of_ble_eq_true rfl) dX8_share_5 rfl (fun H locs hw => ?_)
  refine lv_if_ne (tgt := 14) C.1 C.2.1 dX8_share_8 (by decide) (fun c2 => ?_) (fun c2 => ?_)
  · have h := ite_f c2 h
    refine lv_aload_n C.1 C.2.1 dX8_share_14 rfl (lv_at hl 0 rfl) ?_
    refine lv_iload_n C.1 C.2.1 dX8_share_15 rfl (lv_at hl 1 rfl) ?_
    obtain ⟨q3, eq3, h⟩ := bnd h
    refine r_callV (As := [.int a1]) C hw (ok_X8_differenceOf X l σ a1 _ _ eq3) l_0 vc_8 gw_746 gw_743 gw_745 gw_46 gw_114 hl.1 pd_X8_differenceOf ⟨Nat.le_of_ble_eq_true rfl, Nat.le_of_ble_eq_true rfl⟩ ⟨Nat.le_refl 0, Nat.le_refl 0⟩ (rest := []) (Nat.le_of_ble_eq_true rfl) dX8_share_16 rfl (fun H locs hw => ?_)
    refine lv_istore_n (lv' := [(2, .int q3.1), (0, .ref (X.2.1 0)), (1, .int a1)]) C.1 C.2.1 dX8_share_19 rfl hl (by decide) rfl (fun ls hl => ?_)
    refine lv_aload_n C.1 C.2.1 dX8_share_20 rfl (lv_at hl 1 rfl) ?_
    refine r_get (v := .ref (X.2.1 48)) C hw l_0 vc_8 kX8 6 rfl (by decide) gw_414 rfl dX8_share_21 ?_
    refine r_getN (v := .int (q3.2.1 48 0)) C hw l_48 vc_2 kX2 0 rfl (by decide) nw_389 rfl dX8_share_24 ?_
    refine lv_if_ne (tgt := 32) C.1 C.2.1 dX8_share_27 (by decide) (fun c4 => ?_) (fun c4 => ?_)
    · have h := ite_f c4 h
      refine lv_ldcf (v := 1148846080) C.1 C.2.1 C.2.2.2.1 (C.2.2.2.2.1 _ gw_755) dX8_share_32 ?_
      refine lv_iload_n C.1 C.2.1 dX8_share_34 rfl (lv_at hl 0 rfl) ?_
      refine lv_i2f C.1 C.2.1 dX8_share_35 ?_
      obtain ⟨q5, eq5, h⟩ := bnd h
      refine lv_fmul C.1 C.2.1 dX8_share_36 (ckN_ok eq5) ?_
      refine lv_aload_n C.1 C.2.1 dX8_share_37 rfl (lv_at hl 1 rfl) ?_
      refine r_get (v := .ref (X.2.1 48)) C hw l_0 vc_8 kX8 6 rfl (by decide) gw_414 rfl dX8_share_38 ?_
      refine r_getN (v := .int (q3.2.1 48 0)) C hw l_48 vc_2 kX2 0 rfl (by decide) nw_389 rfl dX8_share_41 ?_
      refine lv_i2f C.1 C.2.1 dX8_share_44 ?_
      obtain ⟨q6, eq6, h⟩ := bnd h
      refine lv_fdiv C.1 C.2.1 dX8_share_45 (ckN_ok eq6) ?_
      refine lv_f2i C.1 C.2.1 dX8_share_46 ?_
      exact r_iret C hr hlk hw (Prod.mk.inj (Option.some.inj h)).1 (Prod.mk.inj (Option.some.inj h)).2 dX8_share_47
    · have h := ite_t c4 h
      refine lv_iconst (v := 0) C.1 C.2.1 dX8_share_30 (by decide) ?_
      exact r_iret C hr hlk hw (Prod.mk.inj (Option.some.inj h)).1 (Prod.mk.inj (Option.some.inj h)).2 dX8_share_31
  · have h := ite_t c2 h
    refine lv_ldc (v := (-100000000)) C.1 C.2.1 C.2.2.2.1 (C.2.2.2.2.1 _ gw_676) dX8_share_11 ?_
    exact r_iret C hr hlk hw (Prod.mk.inj (Option.some.inj h)).1 (Prod.mk.inj (Option.some.inj h)).2 dX8_share_13
def f_X3_isAt (σ : St) (a1 : Int32) (a2 : Int32) (a3 : Int32) : Option Bool :=
  (rd σ 25 40 a1).bind fun v1 => if v1 = a2 then ((rd σ 26 40 a1).bind fun v3 => if v3 = a3 then (some true) else (some false)) else (some false)
set_option maxRecDepth 100000 in
set_option maxHeartbeats 4000000 in
theorem ok_X3_isAt (X : Xc) (l : Launch) (σ : St) (a1 : Int32) (a2 : Int32) (a3 : Int32) (r : Bool) (h : f_X3_isAt σ a1 a2 a3 = some r) : Ok X l yX3_isAt cX3_isAt 4 (some .boolean) 0 0 [.ref (X.2.1 24), .int a1, .int a2, .int a3] σ (some (.int (b2i r))) σ := by
  refine Ok.of (by decide) (Nat.le_of_ble_eq_true rfl) ?_
  intro p e s m args below meth c C hr hlk hw ls hl
  have C : Cx p s m args c X cX3_isAt 4 "RunningCount$CountList" := C
  have hl : lv_has ls 4 [(0, .ref (X.2.1 24)), (1, .int a1), (2, .int a2), (3, .int a3)] := hl
  rw [f_X3_isAt] at h
  refine lv_aload_n C.1 C.2.1 dX3_isAt_0 rfl (lv_at hl 0 rfl) ?_
  refine r_get (v := .ref (X.2.1 25)) C hw l_24 vc_3 kX3 1 rfl (by decide) gw_270 rfl dX3_isAt_1 ?_
  refine lv_iload_n C.1 C.2.1 dX3_isAt_4 rfl (lv_at hl 1 rfl) ?_
  obtain ⟨v1, ev1, h⟩ := bnd h
  refine r_ald C hw l_25 ev1 dX3_isAt_5 ?_
  refine lv_iload_n C.1 C.2.1 dX3_isAt_6 rfl (lv_at hl 2 rfl) ?_
  refine lv_icmp_ne (tgt := 24) C.1 C.2.1 dX3_isAt_7 (by decide) (fun c2 => ?_) (fun c2 => ?_)
  · have h := ite_f c2 h
    refine lv_iconst (v := 0) C.1 C.2.1 dX3_isAt_24 (by decide) ?_
    exact r_zret C hr hlk hw rfl (Option.some.inj h) rfl dX3_isAt_25
  · have h := ite_t c2 h
    refine lv_aload_n C.1 C.2.1 dX3_isAt_10 rfl (lv_at hl 0 rfl) ?_
    refine r_get (v := .ref (X.2.1 26)) C hw l_24 vc_3 kX3 2 rfl (by decide) gw_272 rfl dX3_isAt_11 ?_
    refine lv_iload_n C.1 C.2.1 dX3_isAt_14 rfl (lv_at hl 1 rfl) ?_
    obtain ⟨v3, ev3, h⟩ := bnd h
    refine r_ald C hw l_26 ev3 dX3_isAt_15 ?_
    refine lv_iload_n C.1 C.2.1 dX3_isAt_16 rfl (lv_at hl 3 rfl) ?_
    refine lv_icmp_ne (tgt := 24) C.1 C.2.1 dX3_isAt_17 (by decide) (fun c4 => ?_) (fun c4 => ?_)
    · have h := ite_f c4 h
      refine lv_iconst (v := 0) C.1 C.2.1 dX3_isAt_24 (by decide) ?_
      exact r_zret C hr hlk hw rfl (Option.some.inj h) rfl dX3_isAt_25
    · have h := ite_t c4 h
      refine lv_iconst (v := 1) C.1 C.2.1 dX3_isAt_20 (by decide) ?_
      refine lv_goto (tgt := 25) C.1 C.2.1 dX3_isAt_21 (by decide) ?_
      exact r_zret C hr hlk hw rfl (Option.some.inj h) rfl dX3_isAt_25
def f_X3_isOpenAt (σ : St) (a1 : Int32) (a2 : Int32) (a3 : Int32) : Option Bool :=
  (rd σ 30 40 a1).bind fun v1 => if v1 = 0 then ((f_X3_isAt σ a1 a2 a3).bind fun q3 => if (b2i q3) = 0 then (some false) else (some true)) else (some false)
set_option maxRecDepth 100000 in
set_option maxHeartbeats 4000000 in
theorem ok_X3_isOpenAt (X : Xc) (l : Launch) (σ : St) (a1 : Int32) (a2 : Int32) (a3 : Int32) (r : Bool) (h : f_X3_isOpenAt σ a1 a2 a3 = some r) : Ok X l yX3_isOpenAt cX3_isOpenAt 4 (some .boolean) 1 23 [.ref (X.2.1 24), .int a1, .int a2, .int a3] σ (some (.int (b2i r))) σ := by
  refine Ok.of (by decide) (Nat.le_of_ble_eq_true rfl) ?_
  intro p e s m args below meth c C hr hlk hw ls hl
  have C : Cx p s m args c X cX3_isOpenAt 4 "RunningCount$CountList" := C
  have hl : lv_has ls 4 [(0, .ref (X.2.1 24)), (1, .int a1), (2, .int a2), (3, .int a3)] := hl
  rw [f_X3_isOpenAt] at h
  refine lv_aload_n C.1 C.2.1 dX3_isOpenAt_0 rfl (lv_at hl 0 rfl) ?_
  refine r_get (v := .ref (X.2.1 30)) C hw l_24 vc_3 kX3 6 rfl (by decide) gw_280 rfl dX3_isOpenAt_1 ?_
  refine lv_iload_n C.1 C.2.1 dX3_isOpenAt_4 rfl (lv_at hl 1 rfl) ?_
  obtain ⟨v1, ev1, h⟩ := bnd h
  refine r_zald C hw l_30 ev1 dX3_isOpenAt_5 ?_
  refine lv_if_ne (tgt := 23) C.1 C.2.1 dX3_isOpenAt_6 (by decide) (fun c2 => ?_) (fun c2 => ?_)
  · have h := ite_f c2 h
    refine lv_iconst (v := 0) C.1 C.2.1 dX3_isOpenAt_23 (by decide) ?_
    exact r_zret C hr hlk hw rfl (Option.some.inj h) rfl dX3_isOpenAt_24
  · have h := ite_t c2 h
    refine lv_aload_n C.1 C.2.1 dX3_isOpenAt_9 rfl (lv_at hl 0 rfl) ?_
    refine lv_iload_n C.1 C.2.1 dX3_isOpenAt_10 rfl (lv_at hl 1 rfl) ?_
    refine lv_iload_n C.1 C.2.1 dX3_isOpenAt_11 rfl (lv_at hl 2 rfl) ?_
    refine lv_iload_n C.1 C.2.1 dX3_isOpenAt_12 rfl (lv_at hl 3 rfl) ?_
    obtain ⟨q3, eq3, h⟩ := bnd h
    refine r_callV (As := [.int a1, .int a2, .int a3]) C hw (ok_X3_isAt X l σ a1 a2 a3 _ eq3) l_24 vc_3 gw_775 gw_772 gw_774 gw_51 gw_118 hl.1 pd_X3_isAt ⟨Nat.le_of_ble_eq_true rfl, Nat.le_of_ble_eq_true rfl⟩ ⟨Nat.le_refl 0, Nat.le_refl 0⟩ (rest := []) (Nat.le_of_ble_eq_true rfl) dX3_isOpenAt_13 rfl (fun H locs hw => ?_)
    refine lv_if_eq (tgt := 23) C.1 C.2.1 dX3_isOpenAt_16 (by decide) (fun c4 => ?_) (fun c4 => ?_)
    · have h := ite_t c4 h
      refine lv_iconst (v := 0) C.1 C.2.1 dX3_isOpenAt_23 (by decide) ?_
      exact r_zret C hr hlk hw rfl (Option.some.inj h) rfl dX3_isOpenAt_24
    · have h := ite_f c4 h
      refine lv_iconst (v := 1) C.1 C.2.1 dX3_isOpenAt_19 (by decide) ?_
      refine lv_goto (tgt := 24) C.1 C.2.1 dX3_isOpenAt_20 (by decide) ?_
      exact r_zret C hr hlk hw rfl (Option.some.inj h) rfl dX3_isOpenAt_24
def f_X3_openFirst_b5 (σ : St) (a1 : Int32) (a2 : Int32) : Nat → Int32 → Int32 → Option Int32
  | 0, _, _ => none
  | n + 1, x3, x4 => if (σ.1 24 0) ≤ x4 then (some x3) else ((f_X3_isOpenAt σ x4 a1 a2).bind fun q2 => if (b2i q2) = 0 then (nm (x4 + 1) fun v4 => f_X3_openFirst_b5 σ a1 a2 n x3 v4) else (if x3 = (-1) then (nm (x4 + 1) fun v6 => f_X3_openFirst_b5 σ a1 a2 n x4 v6) else ((rd σ 27 40 x4).bind fun v7 => (rd σ 27 40 x3).bind fun v8 => if v8 ≤ v7 then (nm (x4 + 1) fun v10 => f_X3_openFirst_b5 σ a1 a2 n x3 v10) else (nm (x4 + 1) fun v11 => f_X3_openFirst_b5 σ a1 a2 n x4 v11))))
def f_X3_openFirst (σ : St) (a1 : Int32) (a2 : Int32) : Option Int32 :=
  f_X3_openFirst_b5 σ a1 a2 10000 (-1) 0
set_option maxRecDepth 100000 in
set_option maxHeartbeats 4000000 in
theorem ok_X3_openFirst (X : Xc) (l : Launch) (σ : St) (a1 : Int32) (a2 : Int32) (r : Int32) (h : f_X3_openFirst σ a1 a2 = some r) : Ok X l yX3_openFirst cX3_openFirst 5 (some .int) 2 46 [.ref (X.2.1 24), .int a1, .int a2] σ (some (.int r)) σ := by
  refine Ok.of (by decide) (Nat.le_of_ble_eq_true rfl) ?_
  intro p e s m args below meth c C hr hlk hw ls hl
  have C : Cx p s m args c X cX3_openFirst 5 "RunningCount$CountList" := C
  have hl : lv_has ls 5 [(0, .ref (X.2.1 24)), (1, .int a1), (2, .int a2)] := hl
  have b5 : ∀ (n : Nat), ∀ (x3 : Int32) (x4 : Int32), f_X3_openFirst_b5 σ a1 a2 n x3 x4 = some r → ∀ (H : Heap) (locs : List Loc), At X σ s.heap H locs → ∀ ls : Array Slot, lv_has ls 5 [(0, .ref (X.2.1 24)), (1, .int a1), (2, .int a2), (3, .int x3), (4, .int x4)] → W p l e (rmX 2 46) s m args below meth c H locs 0 0 (Zq X below s args (some (.int r)) σ) (F0 m 5 ls []) := by
    intro n
    induction n with
    | zero =>
      intro x3 x4 h
      exact no_some h
    | succ n ih =>
      intro x3 x4 h H locs hw ls hl
      rw [f_X3_openFirst_b5] at h
      refine lv_iload C.1 C.2.1 dX3_openFirst_5 (lv_at hl 4 rfl) ?_
      refine lv_aload_n C.1 C.2.1 dX3_openFirst_7 rfl (lv_at hl 0 rfl) ?_
      refine r_get (v := .int (σ.1 24 0)) C hw l_24 vc_3 kX3 0 rfl (by decide) gw_268 rfl dX3_openFirst_8 ?_
      refine lv_icmp_ge (tgt := 55) C.1 C.2.1 dX3_openFirst_11 (by decide) (fun c1 => ?_) (fun c1 => ?_)
      · have h := ite_t c1 h
        refine lv_iload_n C.1 C.2.1 dX3_openFirst_55 rfl (lv_at hl 3 rfl) ?_
        exact r_iret C hr hlk hw (Option.some.inj h) rfl dX3_openFirst_56
      · have h := ite_f c1 h
        refine lv_aload_n C.1 C.2.1 dX3_openFirst_14 rfl (lv_at hl 0 rfl) ?_
        refine lv_iload C.1 C.2.1 dX3_openFirst_15 (lv_at hl 4 rfl) ?_
        refine lv_iload_n C.1 C.2.1 dX3_openFirst_17 rfl (lv_at hl 1 rfl) ?_
        refine lv_iload_n C.1 C.2.1 dX3_openFirst_18 rfl (lv_at hl 2 rfl) ?_
        obtain ⟨q2, eq2, h⟩ := bnd h
        refine r_callV (As := [.int x4, .int a1, .int a2]) C hw (ok_X3_isOpenAt X l σ x4 a1 a2 _ eq2) l_24 vc_3 gw_771 gw_768 gw_770 gw_50 gw_118 hl.1 pd_X3_isOpenAt ⟨Nat.le_of_ble_eq_true rfl, Nat.le_of_ble_eq_true rfl⟩ ⟨Nat.le_refl 0, Nat.le_refl 0⟩ (rest := []) (Nat.le_of_ble_eq_true rfl) dX3_openFirst_19 rfl (fun H locs hw => ?_)
        refine lv_if_eq (tgt := 49) C.1 C.2.1 dX3_openFirst_22 (by decide) (fun c3 => ?_) (fun c3 => ?_)
        · have h := ite_t c3 h
          obtain ⟨v4, ev4, h⟩ := nm_d h
          refine lv_iinc (v := v4) (lv' := [(4, .int v4), (0, .ref (X.2.1 24)), (1, .int a1), (2, .int a2), (3, .int x3)]) C.1 C.2.1 dX3_openFirst_49 hl (k := 4) rfl (by rw [ev4]; rfl) (by decide) rfl (fun ls hl => ?_)
          refine lv_goto (tgt := 5) C.1 C.2.1 dX3_openFirst_52 (by decide) ?_
          exact ih x3 v4 h _ _ hw ls (lv_sub hl [1, 2, 3, 4, 0] rfl)
        · have h := ite_f c3 h
          refine lv_iload_n C.1 C.2.1 dX3_openFirst_25 rfl (lv_at hl 3 rfl) ?_
          refine lv_iconst (v := (-1)) C.1 C.2.1 dX3_openFirst_26 (by decide) ?_
          refine lv_icmp_eq (tgt := 46) C.1 C.2.1 dX3_openFirst_27 (by decide) (fun c5 => ?_) (fun c5 => ?_)
          · have h := ite_t c5 h
            refine lv_iload C.1 C.2.1 dX3_openFirst_46 (lv_at hl 4 rfl) ?_
            refine lv_istore_n (lv' := [(3, .int x4), (0, .ref (X.2.1 24)), (1, .int a1), (2, .int a2), (4, .int x4)]) C.1 C.2.1 dX3_openFirst_48 rfl hl (by decide) rfl (fun ls hl => ?_)
            obtain ⟨v6, ev6, h⟩ := nm_d h
            refine lv_iinc (v := v6) (lv' := [(4, .int v6), (3, .int x4), (0, .ref (X.2.1 24)), (1, .int a1), (2, .int a2)]) C.1 C.2.1 dX3_openFirst_49 hl (k := 4) rfl (by rw [ev6]; rfl) (by decide) rfl (fun ls hl => ?_)
            refine lv_goto (tgt := 5) C.1 C.2.1 dX3_openFirst_52 (by decide) ?_
            exact ih x4 v6 h _ _ hw ls (lv_sub hl [2, 3, 4, 1, 0] rfl)
          · have h := ite_f c5 h
            refine lv_aload_n C.1 C.2.1 dX3_openFirst_30 rfl (lv_at hl 0 rfl) ?_
            refine r_get (v := .ref (X.2.1 27)) C hw l_24 vc_3 kX3 3 rfl (by decide) gw_274 rfl dX3_openFirst_31 ?_
            refine lv_iload C.1 C.2.1 dX3_openFirst_34 (lv_at hl 4 rfl) ?_
            obtain ⟨v7, ev7, h⟩ := bnd h
            refine r_ald C hw l_27 ev7 dX3_openFirst_36 ?_
            refine lv_aload_n C.1 C.2.1 dX3_openFirst_37 rfl (lv_at hl 0 rfl) ?_
            refine r_get (v := .ref (X.2.1 27)) C hw l_24 vc_3 kX3 3 rfl (by decide) gw_274 rfl dX3_openFirst_38 ?_
            refine lv_iload_n C.1 C.2.1 dX3_openFirst_41 rfl (lv_at hl 3 rfl) ?_
            obtain ⟨v8, ev8, h⟩ := bnd h
            refine r_ald C hw l_27 ev8 dX3_openFirst_42 ?_
            refine lv_icmp_ge (tgt := 49) C.1 C.2.1 dX3_openFirst_43 (by decide) (fun c9 => ?_) (fun c9 => ?_)
            · have h := ite_t c9 h
              obtain ⟨v10, ev10, h⟩ := nm_d h
              refine lv_iinc (v := v10) (lv' := [(4, .int v10), (0, .ref (X.2.1 24)), (1, .int a1), (2, .int a2), (3, .int x3)]) C.1 C.2.1 dX3_openFirst_49 hl (k := 4) rfl (by rw [ev10]; rfl) (by decide) rfl (fun ls hl => ?_)
              refine lv_goto (tgt := 5) C.1 C.2.1 dX3_openFirst_52 (by decide) ?_
              exact ih x3 v10 h _ _ hw ls (lv_sub hl [1, 2, 3, 4, 0] rfl)
            · have h := ite_f c9 h
              refine lv_iload C.1 C.2.1 dX3_openFirst_46 (lv_at hl 4 rfl) ?_
              refine lv_istore_n (lv' := [(3, .int x4), (0, .ref (X.2.1 24)), (1, .int a1), (2, .int a2), (4, .int x4)]) C.1 C.2.1 dX3_openFirst_48 rfl hl (by decide) rfl (fun ls hl => ?_)
              obtain ⟨v11, ev11, h⟩ := nm_d h
              refine lv_iinc (v := v11) (lv' := [(4, .int v11), (3, .int x4), (0, .ref (X.2.1 24)), (1, .int a1), (2, .int a2)]) C.1 C.2.1 dX3_openFirst_49 hl (k := 4) rfl (by rw [ev11]; rfl) (by decide) rfl (fun ls hl => ?_)
              refine lv_goto (tgt := 5) C.1 C.2.1 dX3_openFirst_52 (by decide) ?_
              exact ih x4 v11 h _ _ hw ls (lv_sub hl [2, 3, 4, 1, 0] rfl)
  rw [f_X3_openFirst] at h
  refine lv_iconst (v := (-1)) C.1 C.2.1 dX3_openFirst_0 (by decide) ?_
  refine lv_istore_n (lv' := [(3, .int (-1)), (0, .ref (X.2.1 24)), (1, .int a1), (2, .int a2)]) C.1 C.2.1 dX3_openFirst_1 rfl hl (by decide) rfl (fun ls hl => ?_)
  refine lv_iconst (v := 0) C.1 C.2.1 dX3_openFirst_2 (by decide) ?_
  refine lv_istore (lv' := [(4, .int 0), (3, .int (-1)), (0, .ref (X.2.1 24)), (1, .int a1), (2, .int a2)]) C.1 C.2.1 dX3_openFirst_3 hl (by decide) rfl (fun ls hl => ?_)
  exact b5 10000 (-1) 0 h _ _ hw ls (lv_sub hl [2, 3, 4, 1, 0] rfl)
def f_X3_openAhead_b6 (σ : St) (a1 : Int32) (a2 : Int32) (a3 : Int32) : Nat → Int32 → Int32 → Option Int32
  | 0, _, _ => none
  | n + 1, x4, x5 => if (σ.1 24 0) ≤ x5 then (some x4) else ((f_X3_isOpenAt σ x5 a1 a2).bind fun q2 => if (b2i q2) = 0 then (nm (x5 + 1) fun v4 => f_X3_openAhead_b6 σ a1 a2 a3 n x4 v4) else ((rd σ 27 40 x5).bind fun v5 => if a3 ≤ v5 then (nm (x5 + 1) fun v7 => f_X3_openAhead_b6 σ a1 a2 a3 n x4 v7) else (if x4 = (-1) then (nm (x5 + 1) fun v9 => f_X3_openAhead_b6 σ a1 a2 a3 n x5 v9) else ((rd σ 27 40 x5).bind fun v10 => (rd σ 27 40 x4).bind fun v11 => if v10 ≤ v11 then (nm (x5 + 1) fun v13 => f_X3_openAhead_b6 σ a1 a2 a3 n x4 v13) else (nm (x5 + 1) fun v14 => f_X3_openAhead_b6 σ a1 a2 a3 n x5 v14)))))
def f_X3_openAhead (σ : St) (a1 : Int32) (a2 : Int32) (a3 : Int32) : Option Int32 :=
  f_X3_openAhead_b6 σ a1 a2 a3 10000 (-1) 0
set_option maxRecDepth 100000 in
set_option maxHeartbeats 4000000 in
theorem ok_X3_openAhead (X : Xc) (l : Launch) (σ : St) (a1 : Int32) (a2 : Int32) (a3 : Int32) (r : Int32) (h : f_X3_openAhead σ a1 a2 a3 = some r) : Ok X l yX3_openAhead cX3_openAhead 6 (some .int) 2 46 [.ref (X.2.1 24), .int a1, .int a2, .int a3] σ (some (.int r)) σ := by
  refine Ok.of (by decide) (Nat.le_of_ble_eq_true rfl) ?_
  intro p e s m args below meth c C hr hlk hw ls hl
  have C : Cx p s m args c X cX3_openAhead 6 "RunningCount$CountList" := C
  have hl : lv_has ls 6 [(0, .ref (X.2.1 24)), (1, .int a1), (2, .int a2), (3, .int a3)] := hl
  have b6 : ∀ (n : Nat), ∀ (x4 : Int32) (x5 : Int32), f_X3_openAhead_b6 σ a1 a2 a3 n x4 x5 = some r → ∀ (H : Heap) (locs : List Loc), At X σ s.heap H locs → ∀ ls : Array Slot, lv_has ls 6 [(0, .ref (X.2.1 24)), (1, .int a1), (2, .int a2), (3, .int a3), (4, .int x4), (5, .int x5)] → W p l e (rmX 2 46) s m args below meth c H locs 0 0 (Zq X below s args (some (.int r)) σ) (F0 m 6 ls []) := by
    intro n
    induction n with
    | zero =>
      intro x4 x5 h
      exact no_some h
    | succ n ih =>
      intro x4 x5 h H locs hw ls hl
      rw [f_X3_openAhead_b6] at h
      refine lv_iload C.1 C.2.1 dX3_openAhead_6 (lv_at hl 5 rfl) ?_
      refine lv_aload_n C.1 C.2.1 dX3_openAhead_8 rfl (lv_at hl 0 rfl) ?_
      refine r_get (v := .int (σ.1 24 0)) C hw l_24 vc_3 kX3 0 rfl (by decide) gw_268 rfl dX3_openAhead_9 ?_
      refine lv_icmp_ge (tgt := 70) C.1 C.2.1 dX3_openAhead_12 (by decide) (fun c1 => ?_) (fun c1 => ?_)
      · have h := ite_t c1 h
        refine lv_iload C.1 C.2.1 dX3_openAhead_70 (lv_at hl 4 rfl) ?_
        exact r_iret C hr hlk hw (Option.some.inj h) rfl dX3_openAhead_72
      · have h := ite_f c1 h
        refine lv_aload_n C.1 C.2.1 dX3_openAhead_15 rfl (lv_at hl 0 rfl) ?_
        refine lv_iload C.1 C.2.1 dX3_openAhead_16 (lv_at hl 5 rfl) ?_
        refine lv_iload_n C.1 C.2.1 dX3_openAhead_18 rfl (lv_at hl 1 rfl) ?_
        refine lv_iload_n C.1 C.2.1 dX3_openAhead_19 rfl (lv_at hl 2 rfl) ?_
        obtain ⟨q2, eq2, h⟩ := bnd h
        refine r_callV (As := [.int x5, .int a1, .int a2]) C hw (ok_X3_isOpenAt X l σ x5 a1 a2 _ eq2) l_24 vc_3 gw_771 gw_768 gw_770 gw_50 gw_118 hl.1 pd_X3_isOpenAt ⟨Nat.le_of_ble_eq_true rfl, Nat.le_of_ble_eq_true rfl⟩ ⟨Nat.le_refl 0, Nat.le_refl 0⟩ (rest := []) (Nat.le_of_ble_eq_true rfl) dX3_openAhead_20 rfl (fun H locs hw => ?_)
        refine lv_if_eq (tgt := 64) C.1 C.2.1 dX3_openAhead_23 (by decide) (fun c3 => ?_) (fun c3 => ?_)
        · have h := ite_t c3 h
          obtain ⟨v4, ev4, h⟩ := nm_d h
          refine lv_iinc (v := v4) (lv' := [(5, .int v4), (0, .ref (X.2.1 24)), (1, .int a1), (2, .int a2), (3, .int a3), (4, .int x4)]) C.1 C.2.1 dX3_openAhead_64 hl (k := 5) rfl (by rw [ev4]; rfl) (by decide) rfl (fun ls hl => ?_)
          refine lv_goto (tgt := 6) C.1 C.2.1 dX3_openAhead_67 (by decide) ?_
          exact ih x4 v4 h _ _ hw ls (lv_sub hl [1, 2, 3, 4, 5, 0] rfl)
        · have h := ite_f c3 h
          refine lv_aload_n C.1 C.2.1 dX3_openAhead_26 rfl (lv_at hl 0 rfl) ?_
          refine r_get (v := .ref (X.2.1 27)) C hw l_24 vc_3 kX3 3 rfl (by decide) gw_274 rfl dX3_openAhead_27 ?_
          refine lv_iload C.1 C.2.1 dX3_openAhead_30 (lv_at hl 5 rfl) ?_
          obtain ⟨v5, ev5, h⟩ := bnd h
          refine r_ald C hw l_27 ev5 dX3_openAhead_32 ?_
          refine lv_iload_n C.1 C.2.1 dX3_openAhead_33 rfl (lv_at hl 3 rfl) ?_
          refine lv_icmp_ge (tgt := 64) C.1 C.2.1 dX3_openAhead_34 (by decide) (fun c6 => ?_) (fun c6 => ?_)
          · have h := ite_t c6 h
            obtain ⟨v7, ev7, h⟩ := nm_d h
            refine lv_iinc (v := v7) (lv' := [(5, .int v7), (0, .ref (X.2.1 24)), (1, .int a1), (2, .int a2), (3, .int a3), (4, .int x4)]) C.1 C.2.1 dX3_openAhead_64 hl (k := 5) rfl (by rw [ev7]; rfl) (by decide) rfl (fun ls hl => ?_)
            refine lv_goto (tgt := 6) C.1 C.2.1 dX3_openAhead_67 (by decide) ?_
            exact ih x4 v7 h _ _ hw ls (lv_sub hl [1, 2, 3, 4, 5, 0] rfl)
          · have h := ite_f c6 h
            refine lv_iload C.1 C.2.1 dX3_openAhead_37 (lv_at hl 4 rfl) ?_
            refine lv_iconst (v := (-1)) C.1 C.2.1 dX3_openAhead_39 (by decide) ?_
            refine lv_icmp_eq (tgt := 60) C.1 C.2.1 dX3_openAhead_40 (by decide) (fun c8 => ?_) (fun c8 => ?_)
            · have h := ite_t c8 h
              refine lv_iload C.1 C.2.1 dX3_openAhead_60 (lv_at hl 5 rfl) ?_
              refine lv_istore (lv' := [(4, .int x5), (0, .ref (X.2.1 24)), (1, .int a1), (2, .int a2), (3, .int a3), (5, .int x5)]) C.1 C.2.1 dX3_openAhead_62 hl (by decide) rfl (fun ls hl => ?_)
              obtain ⟨v9, ev9, h⟩ := nm_d h
              refine lv_iinc (v := v9) (lv' := [(5, .int v9), (4, .int x5), (0, .ref (X.2.1 24)), (1, .int a1), (2, .int a2), (3, .int a3)]) C.1 C.2.1 dX3_openAhead_64 hl (k := 5) rfl (by rw [ev9]; rfl) (by decide) rfl (fun ls hl => ?_)
              refine lv_goto (tgt := 6) C.1 C.2.1 dX3_openAhead_67 (by decide) ?_
              exact ih x5 v9 h _ _ hw ls (lv_sub hl [2, 3, 4, 5, 1, 0] rfl)
            · have h := ite_f c8 h
              refine lv_aload_n C.1 C.2.1 dX3_openAhead_43 rfl (lv_at hl 0 rfl) ?_
              refine r_get (v := .ref (X.2.1 27)) C hw l_24 vc_3 kX3 3 rfl (by decide) gw_274 rfl dX3_openAhead_44 ?_
              refine lv_iload C.1 C.2.1 dX3_openAhead_47 (lv_at hl 5 rfl) ?_
              obtain ⟨v10, ev10, h⟩ := bnd h
              refine r_ald C hw l_27 ev10 dX3_openAhead_49 ?_
              refine lv_aload_n C.1 C.2.1 dX3_openAhead_50 rfl (lv_at hl 0 rfl) ?_
              refine r_get (v := .ref (X.2.1 27)) C hw l_24 vc_3 kX3 3 rfl (by decide) gw_274 rfl dX3_openAhead_51 ?_
              refine lv_iload C.1 C.2.1 dX3_openAhead_54 (lv_at hl 4 rfl) ?_
              obtain ⟨v11, ev11, h⟩ := bnd h
              refine r_ald C hw l_27 ev11 dX3_openAhead_56 ?_
              refine lv_icmp_le (tgt := 64) C.1 C.2.1 dX3_openAhead_57 (by decide) (fun c12 => ?_) (fun c12 => ?_)
              · have h := ite_t c12 h
                obtain ⟨v13, ev13, h⟩ := nm_d h
                refine lv_iinc (v := v13) (lv' := [(5, .int v13), (0, .ref (X.2.1 24)), (1, .int a1), (2, .int a2), (3, .int a3), (4, .int x4)]) C.1 C.2.1 dX3_openAhead_64 hl (k := 5) rfl (by rw [ev13]; rfl) (by decide) rfl (fun ls hl => ?_)
                refine lv_goto (tgt := 6) C.1 C.2.1 dX3_openAhead_67 (by decide) ?_
                exact ih x4 v13 h _ _ hw ls (lv_sub hl [1, 2, 3, 4, 5, 0] rfl)
              · have h := ite_f c12 h
                refine lv_iload C.1 C.2.1 dX3_openAhead_60 (lv_at hl 5 rfl) ?_
                refine lv_istore (lv' := [(4, .int x5), (0, .ref (X.2.1 24)), (1, .int a1), (2, .int a2), (3, .int a3), (5, .int x5)]) C.1 C.2.1 dX3_openAhead_62 hl (by decide) rfl (fun ls hl => ?_)
                obtain ⟨v14, ev14, h⟩ := nm_d h
                refine lv_iinc (v := v14) (lv' := [(5, .int v14), (4, .int x5), (0, .ref (X.2.1 24)), (1, .int a1), (2, .int a2), (3, .int a3)]) C.1 C.2.1 dX3_openAhead_64 hl (k := 5) rfl (by rw [ev14]; rfl) (by decide) rfl (fun ls hl => ?_)
                refine lv_goto (tgt := 6) C.1 C.2.1 dX3_openAhead_67 (by decide) ?_
                exact ih x5 v14 h _ _ hw ls (lv_sub hl [2, 3, 4, 5, 1, 0] rfl)
  rw [f_X3_openAhead] at h
  refine lv_iconst (v := (-1)) C.1 C.2.1 dX3_openAhead_0 (by decide) ?_
  refine lv_istore (lv' := [(4, .int (-1)), (0, .ref (X.2.1 24)), (1, .int a1), (2, .int a2), (3, .int a3)]) C.1 C.2.1 dX3_openAhead_1 hl (by decide) rfl (fun ls hl => ?_)
  refine lv_iconst (v := 0) C.1 C.2.1 dX3_openAhead_3 (by decide) ?_
  refine lv_istore (lv' := [(5, .int 0), (4, .int (-1)), (0, .ref (X.2.1 24)), (1, .int a1), (2, .int a2), (3, .int a3)]) C.1 C.2.1 dX3_openAhead_4 hl (by decide) rfl (fun ls hl => ?_)
  exact b6 10000 (-1) 0 h _ _ hw ls (lv_sub hl [2, 3, 4, 5, 1, 0] rfl)
def f_X8_middleOf (σ : St) (a0 : Int32) (a1 : Int32) (a2 : Int32) : Int32 :=
  if (if a1 < a0 then a1 else a0) < (if a2 < (if a0 < a1 then a1 else a0) then a2 else (if a0 < a1 then a1 else a0)) then (if a2 < (if a0 < a1 then a1 else a0) then a2 else (if a0 < a1 then a1 else a0)) else (if a1 < a0 then a1 else a0)
set_option maxRecDepth 100000 in
set_option maxHeartbeats 4000000 in
theorem ok_X8_middleOf (X : Xc) (l : Launch) (σ : St) (a0 : Int32) (a1 : Int32) (a2 : Int32) (r : Int32) (h : f_X8_middleOf σ a0 a1 a2 = r) : Ok X l yX8_middleOf cX8_middleOf 3 (some .int) 1 16 [.int a0, .int a1, .int a2] σ (some (.int r)) σ := by
  refine Ok.of (by decide) (Nat.le_of_ble_eq_true rfl) ?_
  intro p e s m args below meth c C hr hlk hw ls hl
  have C : Cx p s m args c X cX8_middleOf 3 "RunningCount" := C
  have hl : lv_has ls 3 [(0, .int a0), (1, .int a1), (2, .int a2)] := hl
  rw [f_X8_middleOf] at h
  refine lv_iload_n C.1 C.2.1 dX8_middleOf_0 rfl (lv_at hl 0 rfl) ?_
  refine lv_iload_n C.1 C.2.1 dX8_middleOf_1 rfl (lv_at hl 1 rfl) ?_
  refine va_mmin C.1 C.2.1 (C.2.2.1.trans hl.1.symm) C.2.2.2.1 (C.2.2.2.2.1 _ gw_791) (C.2.2.2.2.1 _ gw_459) (C.2.2.2.2.1 _ gw_124) (C.2.2.2.2.1 _ gw_460) (Nat.le_of_ble_eq_true rfl) (Nat.le_of_ble_eq_true rfl) (Nat.le_refl 0) (Nat.le_refl 0) dX8_middleOf_2 ?_
  refine lv_iload_n C.1 C.2.1 dX8_middleOf_5 rfl (lv_at hl 0 rfl) ?_
  refine lv_iload_n C.1 C.2.1 dX8_middleOf_6 rfl (lv_at hl 1 rfl) ?_
  refine va_mmax C.1 C.2.1 (C.2.2.1.trans hl.1.symm) C.2.2.2.1 (C.2.2.2.2.1 _ gw_783) (C.2.2.2.2.1 _ gw_475) (C.2.2.2.2.1 _ gw_124) (C.2.2.2.2.1 _ gw_476) (Nat.le_of_ble_eq_true rfl) (Nat.le_of_ble_eq_true rfl) (Nat.le_refl 0) (Nat.le_refl 0) dX8_middleOf_7 ?_
  refine lv_iload_n C.1 C.2.1 dX8_middleOf_10 rfl (lv_at hl 2 rfl) ?_
  refine va_mmin C.1 C.2.1 (C.2.2.1.trans hl.1.symm) C.2.2.2.1 (C.2.2.2.2.1 _ gw_791) (C.2.2.2.2.1 _ gw_459) (C.2.2.2.2.1 _ gw_124) (C.2.2.2.2.1 _ gw_460) (Nat.le_of_ble_eq_true rfl) (Nat.le_of_ble_eq_true rfl) (Nat.le_refl 0) (Nat.le_refl 0) dX8_middleOf_11 ?_
  refine va_mmax C.1 C.2.1 (C.2.2.1.trans hl.1.symm) C.2.2.2.1 (C.2.2.2.2.1 _ gw_783) (C.2.2.2.2.1 _ gw_475) (C.2.2.2.2.1 _ gw_124) (C.2.2.2.2.1 _ gw_476) (Nat.le_of_ble_eq_true rfl) (Nat.le_of_ble_eq_true rfl) (Nat.le_refl 0) (Nat.le_refl 0) dX8_middleOf_14 ?_
  exact r_iret C hr hlk hw h rfl dX8_middleOf_17
def f_X8_chosenOf_b97 (a1 : Int32) (a2 : Int32) (σ : St) (x3 : Int32) (x4 : Int32) : Option (Int32 × St) :=
  (f_X8_differenceOf σ x3).bind fun q12 => (f_X8_differenceOf q12.2 x4).bind fun q13 => nm (if 0 ≤ (q12.1 - q13.1) then (q12.1 - q13.1) else 0 - (q12.1 - q13.1)) fun v14 => (f_X8_allowedFor q13.2 x4).bind fun q15 => if q15.1 < v14 then (some ((-2), q15.2)) else (some (x4, q15.2))
def f_X8_chosenOf (σ : St) (a1 : Int32) (a2 : Int32) : Option (Int32 × St) :=
  (f_X3_openFirst σ a1 a2).bind fun q1 => if q1 = (-1) then (some ((-1), σ)) else ((f_X8_differenceOf σ q1).bind fun q3 => (f_X8_allowedFor q3.2 q1).bind fun q4 => if q4.1 < (if 0 ≤ q3.1 then q3.1 else 0 - q3.1) then ((f_X3_openAhead q4.2 a1 a2 1000).bind fun q6 => if q6 = (-1) then (some ((-2), q4.2)) else (if q6 = q1 then (some ((-2), q4.2)) else ((rd q4.2 27 40 q6).bind fun v9 => (f_X3_openAhead q4.2 a1 a2 v9).bind fun q10 => if q10 = (-1) then (f_X8_chosenOf_b97 a1 a2 q4.2 q1 q6) else (if q10 = q1 then (f_X8_chosenOf_b97 a1 a2 q4.2 q1 q6) else ((rd q4.2 27 40 q10).bind fun v18 => (f_X3_openAhead q4.2 a1 a2 v18).bind fun q19 => if q19 = (-1) then (some ((-2), q4.2)) else ((f_X8_differenceOf q4.2 q19).bind fun q21 => (f_X8_differenceOf q21.2 q10).bind fun q22 => (f_X8_differenceOf q22.2 q6).bind fun q23 => nm ((f_X8_middleOf q23.2 q21.1 q22.1 q23.1)) fun v25 => if q21.1 = v25 then (some (q19, q23.2)) else (if q22.1 = v25 then (some (q10, q23.2)) else (some (q6, q23.2))))))))) else (some (q1, q4.2)))
set_option maxRecDepth 100000 in
set_option maxHeartbeats 4000000 in
theorem ok_X8_chosenOf (X : Xc) (l : Launch) (σ : St) (a1 : Int32) (a2 : Int32) (r : Int32) (σ' : St) (h : f_X8_chosenOf σ a1 a2 = some (r, σ')) : Ok X l yX8_chosenOf cX8_chosenOf 10 (some .int) 5 119 [.ref (X.2.1 0), .int a1, .int a2] σ (some (.int r)) σ' := by
  refine Ok.of (by decide) (Nat.le_of_ble_eq_true rfl) ?_
  intro p e s m args below meth c C hr hlk hw ls hl
  have C : Cx p s m args c X cX8_chosenOf 10 "RunningCount" := C
  have hl : lv_has ls 10 [(0, .ref (X.2.1 0)), (1, .int a1), (2, .int a2)] := hl
  have b97 : ∀ (σ : St) (x3 : Int32) (x4 : Int32), f_X8_chosenOf_b97 a1 a2 σ x3 x4 = some (r, σ') → ∀ (H : Heap) (locs : List Loc), At X σ s.heap H locs → ∀ ls : Array Slot, lv_has ls 10 [(0, .ref (X.2.1 0)), (3, .int x3), (4, .int x4)] → W p l e (rmX 5 119) s m args below meth c H locs 0 0 (Zq X below s args (some (.int r)) σ') (F0 m 97 ls []) := by
    intro σ x3 x4 h H locs hw ls hl
    rw [f_X8_chosenOf_b97] at h
    refine lv_aload_n C.1 C.2.1 dX8_chosenOf_97 rfl (lv_at hl 0 rfl) ?_
    refine lv_iload_n C.1 C.2.1 dX8_chosenOf_98 rfl (lv_at hl 1 rfl) ?_
    obtain ⟨q12, eq12, h⟩ := bnd h
    refine r_callV (As := [.int x3]) C hw (ok_X8_differenceOf X l σ x3 _ _ eq12) l_0 vc_8 gw_746 gw_743 gw_745 gw_46 gw_114 hl.1 pd_X8_differenceOf ⟨Nat.le_of_ble_eq_true rfl, Nat.le_of_ble_eq_true rfl⟩ ⟨Nat.le_refl 0, Nat.le_refl 0⟩ (rest := []) (Nat.le_of_ble_eq_true rfl) dX8_chosenOf_99 rfl (fun H locs hw => ?_)
    refine lv_aload_n C.1 C.2.1 dX8_chosenOf_102 rfl (lv_at hl 0 rfl) ?_
    refine lv_iload C.1 C.2.1 dX8_chosenOf_103 (lv_at hl 2 rfl) ?_
    obtain ⟨q13, eq13, h⟩ := bnd h
    refine r_callV (As := [.int x4]) C hw (ok_X8_differenceOf X l q12.2 x4 _ _ eq13) l_0 vc_8 gw_746 gw_743 gw_745 gw_46 gw_114 hl.1 pd_X8_differenceOf ⟨Nat.le_of_ble_eq_true rfl, Nat.le_of_ble_eq_true rfl⟩ ⟨Nat.le_refl 0, Nat.le_refl 0⟩ (rest := [.int q12.1]) (Nat.le_of_ble_eq_true rfl) dX8_chosenOf_105 rfl (fun H locs hw => ?_)
    refine lv_isub C.1 C.2.1 dX8_chosenOf_108 ?_
    refine va_mabs C.1 C.2.1 (C.2.2.1.trans hl.1.symm) C.2.2.2.1 (C.2.2.2.2.1 _ gw_776) (C.2.2.2.2.1 _ gw_777) (C.2.2.2.2.1 _ gw_124) (C.2.2.2.2.1 _ gw_778) (Nat.le_of_ble_eq_true rfl) (Nat.le_of_ble_eq_true rfl) (Nat.le_refl 0) (Nat.le_refl 0) dX8_chosenOf_109 ?_
    obtain ⟨v14, ev14, h⟩ := nm_d h
    refine lv_nm ev14 ?_
    refine lv_istore (lv' := [(6, .int v14), (0, .ref (X.2.1 0)), (3, .int x3), (4, .int x4)]) C.1 C.2.1 dX8_chosenOf_112 hl (by decide) rfl (fun ls hl => ?_)
    refine lv_iload C.1 C.2.1 dX8_chosenOf_114 (lv_at hl 0 rfl) ?_
    refine lv_aload_n C.1 C.2.1 dX8_chosenOf_116 rfl (lv_at hl 1 rfl) ?_
    refine lv_iload C.1 C.2.1 dX8_chosenOf_117 (lv_at hl 3 rfl) ?_
    obtain ⟨q15, eq15, h⟩ := bnd h
    refine r_callV (As := [.int x4]) C hw (ok_X8_allowedFor X l q13.2 x4 _ _ eq15) l_0 vc_8 gw_782 gw_779 gw_781 gw_52 gw_114 hl.1 pd_X8_allowedFor ⟨Nat.le_of_ble_eq_true rfl, Nat.le_of_ble_eq_true rfl⟩ ⟨Nat.le_refl 0, Nat.le_refl 0⟩ (rest := [.int v14]) (Nat.le_of_ble_eq_true rfl) dX8_chosenOf_119 rfl (fun H locs hw => ?_)
    refine lv_icmp_gt (tgt := 130) C.1 C.2.1 dX8_chosenOf_122 (by decide) (fun c16 => ?_) (fun c16 => ?_)
    · have h := ite_t c16 h
      refine lv_bipush (v := (-2)) C.1 C.2.1 dX8_chosenOf_130 (by decide) ?_
      exact r_iret C hr hlk hw (Prod.mk.inj (Option.some.inj h)).1 (Prod.mk.inj (Option.some.inj h)).2 dX8_chosenOf_132
    · have h := ite_f c16 h
      refine lv_iload C.1 C.2.1 dX8_chosenOf_125 (lv_at hl 3 rfl) ?_
      refine lv_goto (tgt := 132) C.1 C.2.1 dX8_chosenOf_127 (by decide) ?_
      exact r_iret C hr hlk hw (Prod.mk.inj (Option.some.inj h)).1 (Prod.mk.inj (Option.some.inj h)).2 dX8_chosenOf_132
  rw [f_X8_chosenOf] at h
  refine lv_aload_n C.1 C.2.1 dX8_chosenOf_0 rfl (lv_at hl 0 rfl) ?_
  refine r_get (v := .ref (X.2.1 24)) C hw l_0 vc_8 kX8 3 rfl (by decide) gw_411 rfl dX8_chosenOf_1 ?_
  refine lv_iload_n C.1 C.2.1 dX8_chosenOf_4 rfl (lv_at hl 1 rfl) ?_
  refine lv_iload_n C.1 C.2.1 dX8_chosenOf_5 rfl (lv_at hl 2 rfl) ?_
  obtain ⟨q1, eq1, h⟩ := bnd h
  refine r_callVN (As := [.int a1, .int a2]) C hw (ok_X3_openFirst X l σ a1 a2 _ eq1) l_24 vc_3 gw_767 nw_764 gw_766 gw_49 gw_118 hl.1 pd_X3_openFirst ⟨Nat.le_of_ble_eq_true rfl, Nat.le_of_ble_eq_true rfl⟩ ⟨Nat.le_refl 0, Nat.le_refl 0⟩ (rest := []) (Nat.le_of_ble_eq_true rfl) dX8_chosenOf_6 rfl (fun H locs hw => ?_)
  refine lv_istore_n (lv' := [(3, .int q1), (0, .ref (X.2.1 0)), (1, .int a1), (2, .int a2)]) C.1 C.2.1 dX8_chosenOf_9 rfl hl (by decide) rfl (fun ls hl => ?_)
  refine lv_iload_n C.1 C.2.1 dX8_chosenOf_10 rfl (lv_at hl 0 rfl) ?_
  refine lv_iconst (v := (-1)) C.1 C.2.1 dX8_chosenOf_11 (by decide) ?_
  refine lv_icmp_ne (tgt := 17) C.1 C.2.1 dX8_chosenOf_12 (by decide) (fun c2 => ?_) (fun c2 => ?_)
  · have h := ite_f c2 h
    refine lv_aload_n C.1 C.2.1 dX8_chosenOf_17 rfl (lv_at hl 1 rfl) ?_
    refine lv_iload_n C.1 C.2.1 dX8_chosenOf_18 rfl (lv_at hl 0 rfl) ?_
    obtain ⟨q3, eq3, h⟩ := bnd h
    refine r_callV (As := [.int q1]) C hw (ok_X8_differenceOf X l σ q1 _ _ eq3) l_0 vc_8 gw_746 gw_743 gw_745 gw_46 gw_114 hl.1 pd_X8_differenceOf ⟨Nat.le_of_ble_eq_true rfl, Nat.le_of_ble_eq_true rfl⟩ ⟨Nat.le_refl 0, Nat.le_refl 0⟩ (rest := []) (Nat.le_of_ble_eq_true rfl) dX8_chosenOf_19 rfl (fun H locs hw => ?_)
    refine va_mabs C.1 C.2.1 (C.2.2.1.trans hl.1.symm) C.2.2.2.1 (C.2.2.2.2.1 _ gw_776) (C.2.2.2.2.1 _ gw_777) (C.2.2.2.2.1 _ gw_124) (C.2.2.2.2.1 _ gw_778) (Nat.le_of_ble_eq_true rfl) (Nat.le_of_ble_eq_true rfl) (Nat.le_refl 0) (Nat.le_refl 0) dX8_chosenOf_22 ?_
    refine lv_aload_n C.1 C.2.1 dX8_chosenOf_25 rfl (lv_at hl 1 rfl) ?_
    refine lv_iload_n C.1 C.2.1 dX8_chosenOf_26 rfl (lv_at hl 0 rfl) ?_
    obtain ⟨q4, eq4, h⟩ := bnd h
    refine r_callV (As := [.int q1]) C hw (ok_X8_allowedFor X l q3.2 q1 _ _ eq4) l_0 vc_8 gw_782 gw_779 gw_781 gw_52 gw_114 hl.1 pd_X8_allowedFor ⟨Nat.le_of_ble_eq_true rfl, Nat.le_of_ble_eq_true rfl⟩ ⟨Nat.le_refl 0, Nat.le_refl 0⟩ (rest := [.int (if 0 ≤ q3.1 then q3.1 else 0 - q3.1)]) (Nat.le_of_ble_eq_true rfl) dX8_chosenOf_27 rfl (fun H locs hw => ?_)
    refine lv_icmp_gt (tgt := 35) C.1 C.2.1 dX8_chosenOf_30 (by decide) (fun c5 => ?_) (fun c5 => ?_)
    · have h := ite_t c5 h
      refine lv_aload_n C.1 C.2.1 dX8_chosenOf_35 rfl (lv_at hl 1 rfl) ?_
      refine r_get (v := .ref (X.2.1 24)) C hw l_0 vc_8 kX8 3 rfl (by decide) gw_411 rfl dX8_chosenOf_36 ?_
      refine lv_iload_n C.1 C.2.1 dX8_chosenOf_39 rfl (lv_at hl 2 rfl) ?_
      refine lv_iload_n C.1 C.2.1 dX8_chosenOf_40 rfl (lv_at hl 3 rfl) ?_
      refine lv_sipush (v := 1000) C.1 C.2.1 dX8_chosenOf_41 (by decide) ?_
      obtain ⟨q6, eq6, h⟩ := bnd h
      refine r_callVN (As := [.int a1, .int a2, .int 1000]) C hw (ok_X3_openAhead X l q4.2 a1 a2 1000 _ eq6) l_24 vc_3 gw_787 nw_784 gw_786 gw_53 gw_118 hl.1 pd_X3_openAhead ⟨Nat.le_of_ble_eq_true rfl, Nat.le_of_ble_eq_true rfl⟩ ⟨Nat.le_refl 0, Nat.le_refl 0⟩ (rest := []) (Nat.le_of_ble_eq_true rfl) dX8_chosenOf_44 rfl (fun H locs hw => ?_)
      refine lv_istore (lv' := [(4, .int q6), (3, .int q1), (0, .ref (X.2.1 0)), (1, .int a1), (2, .int a2)]) C.1 C.2.1 dX8_chosenOf_47 hl (by decide) rfl (fun ls hl => ?_)
      refine lv_iload C.1 C.2.1 dX8_chosenOf_49 (lv_at hl 0 rfl) ?_
      refine lv_iconst (v := (-1)) C.1 C.2.1 dX8_chosenOf_51 (by decide) ?_
      refine lv_icmp_eq (tgt := 61) C.1 C.2.1 dX8_chosenOf_52 (by decide) (fun c7 => ?_) (fun c7 => ?_)
      · have h := ite_t c7 h
        refine lv_bipush (v := (-2)) C.1 C.2.1 dX8_chosenOf_61 (by decide) ?_
        exact r_iret C hr hlk hw (Prod.mk.inj (Option.some.inj h)).1 (Prod.mk.inj (Option.some.inj h)).2 dX8_chosenOf_63
      · have h := ite_f c7 h
        refine lv_iload C.1 C.2.1 dX8_chosenOf_55 (lv_at hl 0 rfl) ?_
        refine lv_iload_n C.1 C.2.1 dX8_chosenOf_57 rfl (lv_at hl 1 rfl) ?_
        refine lv_icmp_ne (tgt := 64) C.1 C.2.1 dX8_chosenOf_58 (by decide) (fun c8 => ?_) (fun c8 => ?_)
        · have h := ite_f c8 h
          refine lv_aload_n C.1 C.2.1 dX8_chosenOf_64 rfl (lv_at hl 2 rfl) ?_
          refine r_get (v := .ref (X.2.1 24)) C hw l_0 vc_8 kX8 3 rfl (by decide) gw_411 rfl dX8_chosenOf_65 ?_
          refine lv_iload_n C.1 C.2.1 dX8_chosenOf_68 rfl (lv_at hl 3 rfl) ?_
          refine lv_iload_n C.1 C.2.1 dX8_chosenOf_69 rfl (lv_at hl 4 rfl) ?_
          refine lv_aload_n C.1 C.2.1 dX8_chosenOf_70 rfl (lv_at hl 2 rfl) ?_
          refine r_get (v := .ref (X.2.1 24)) C hw l_0 vc_8 kX8 3 rfl (by decide) gw_411 rfl dX8_chosenOf_71 ?_
          refine r_getN (v := .ref (X.2.1 27)) C hw l_24 vc_3 kX3 3 rfl (by decide) nw_275 rfl dX8_chosenOf_74 ?_
          refine lv_iload C.1 C.2.1 dX8_chosenOf_77 (lv_at hl 0 rfl) ?_
          obtain ⟨v9, ev9, h⟩ := bnd h
          refine r_ald C hw l_27 ev9 dX8_chosenOf_79 ?_
          obtain ⟨q10, eq10, h⟩ := bnd h
          refine r_callVN (As := [.int a1, .int a2, .int v9]) C hw (ok_X3_openAhead X l q4.2 a1 a2 v9 _ eq10) l_24 vc_3 gw_787 nw_784 gw_786 gw_53 gw_118 hl.1 pd_X3_openAhead ⟨Nat.le_of_ble_eq_true rfl, Nat.le_of_ble_eq_true rfl⟩ ⟨Nat.le_refl 0, Nat.le_refl 0⟩ (rest := []) (Nat.le_of_ble_eq_true rfl) dX8_chosenOf_80 rfl (fun H locs hw => ?_)
          refine lv_istore (lv' := [(5, .int q10), (4, .int q6), (3, .int q1), (0, .ref (X.2.1 0)), (1, .int a1), (2, .int a2)]) C.1 C.2.1 dX8_chosenOf_83 hl (by decide) rfl (fun ls hl => ?_)
          refine lv_iload C.1 C.2.1 dX8_chosenOf_85 (lv_at hl 0 rfl) ?_
          refine lv_iconst (v := (-1)) C.1 C.2.1 dX8_chosenOf_87 (by decide) ?_
          refine lv_icmp_eq (tgt := 97) C.1 C.2.1 dX8_chosenOf_88 (by decide) (fun c11 => ?_) (fun c11 => ?_)
          · have h := ite_t c11 h
            exact b97 q4.2 q1 q6 h _ _ hw ls (lv_sub hl [3, 2, 1] rfl)
          · have h := ite_f c11 h
            refine lv_iload C.1 C.2.1 dX8_chosenOf_91 (lv_at hl 0 rfl) ?_
            refine lv_iload_n C.1 C.2.1 dX8_chosenOf_93 rfl (lv_at hl 2 rfl) ?_
            refine lv_icmp_ne (tgt := 133) C.1 C.2.1 dX8_chosenOf_94 (by decide) (fun c17 => ?_) (fun c17 => ?_)
            · have h := ite_f c17 h
              refine lv_aload_n C.1 C.2.1 dX8_chosenOf_133 rfl (lv_at hl 3 rfl) ?_
              refine r_get (v := .ref (X.2.1 24)) C hw l_0 vc_8 kX8 3 rfl (by decide) gw_411 rfl dX8_chosenOf_134 ?_
              refine lv_iload_n C.1 C.2.1 dX8_chosenOf_137 rfl (lv_at hl 4 rfl) ?_
              refine lv_iload_n C.1 C.2.1 dX8_chosenOf_138 rfl (lv_at hl 5 rfl) ?_
              refine lv_aload_n C.1 C.2.1 dX8_chosenOf_139 rfl (lv_at hl 3 rfl) ?_
              refine r_get (v := .ref (X.2.1 24)) C hw l_0 vc_8 kX8 3 rfl (by decide) gw_411 rfl dX8_chosenOf_140 ?_
              refine r_getN (v := .ref (X.2.1 27)) C hw l_24 vc_3 kX3 3 rfl (by decide) nw_275 rfl dX8_chosenOf_143 ?_
              refine lv_iload C.1 C.2.1 dX8_chosenOf_146 (lv_at hl 0 rfl) ?_
              obtain ⟨v18, ev18, h⟩ := bnd h
              refine r_ald C hw l_27 ev18 dX8_chosenOf_148 ?_
              obtain ⟨q19, eq19, h⟩ := bnd h
              refine r_callVN (As := [.int a1, .int a2, .int v18]) C hw (ok_X3_openAhead X l q4.2 a1 a2 v18 _ eq19) l_24 vc_3 gw_787 nw_784 gw_786 gw_53 gw_118 hl.1 pd_X3_openAhead ⟨Nat.le_of_ble_eq_true rfl, Nat.le_of_ble_eq_true rfl⟩ ⟨Nat.le_refl 0, Nat.le_refl 0⟩ (rest := []) (Nat.le_of_ble_eq_true rfl) dX8_chosenOf_149 rfl (fun H locs hw => ?_)
              refine lv_istore (lv' := [(6, .int q19), (5, .int q10), (4, .int q6), (3, .int q1), (0, .ref (X.2.1 0)), (1, .int a1), (2, .int a2)]) C.1 C.2.1 dX8_chosenOf_152 hl (by decide) rfl (fun ls hl => ?_)
              refine lv_iload C.1 C.2.1 dX8_chosenOf_154 (lv_at hl 0 rfl) ?_
              refine lv_iconst (v := (-1)) C.1 C.2.1 dX8_chosenOf_156 (by decide) ?_
              refine lv_icmp_ne (tgt := 163) C.1 C.2.1 dX8_chosenOf_157 (by decide) (fun c20 => ?_) (fun c20 => ?_)
              · have h := ite_f c20 h
                refine lv_aload_n C.1 C.2.1 dX8_chosenOf_163 rfl (lv_at hl 4 rfl) ?_
                refine lv_iload C.1 C.2.1 dX8_chosenOf_164 (lv_at hl 0 rfl) ?_
                obtain ⟨q21, eq21, h⟩ := bnd h
                refine r_callV (As := [.int q19]) C hw (ok_X8_differenceOf X l q4.2 q19 _ _ eq21) l_0 vc_8 gw_746 gw_743 gw_745 gw_46 gw_114 hl.1 pd_X8_differenceOf ⟨Nat.le_of_ble_eq_true rfl, Nat.le_of_ble_eq_true rfl⟩ ⟨Nat.le_refl 0, Nat.le_refl 0⟩ (rest := []) (Nat.le_of_ble_eq_true rfl) dX8_chosenOf_166 rfl (fun H locs hw => ?_)
                refine lv_istore (lv' := [(7, .int q21.1), (6, .int q19), (5, .int q10), (4, .int q6), (3, .int q1), (0, .ref (X.2.1 0)), (1, .int a1), (2, .int a2)]) C.1 C.2.1 dX8_chosenOf_169 hl (by decide) rfl (fun ls hl => ?_)
                refine lv_aload_n C.1 C.2.1 dX8_chosenOf_171 rfl (lv_at hl 5 rfl) ?_
                refine lv_iload C.1 C.2.1 dX8_chosenOf_172 (lv_at hl 2 rfl) ?_
                obtain ⟨q22, eq22, h⟩ := bnd h
                refine r_callV (As := [.int q10]) C hw (ok_X8_differenceOf X l q21.2 q10 _ _ eq22) l_0 vc_8 gw_746 gw_743 gw_745 gw_46 gw_114 hl.1 pd_X8_differenceOf ⟨Nat.le_of_ble_eq_true rfl, Nat.le_of_ble_eq_true rfl⟩ ⟨Nat.le_refl 0, Nat.le_refl 0⟩ (rest := []) (Nat.le_of_ble_eq_true rfl) dX8_chosenOf_174 rfl (fun H locs hw => ?_)
                refine lv_istore (lv' := [(8, .int q22.1), (7, .int q21.1), (6, .int q19), (5, .int q10), (4, .int q6), (3, .int q1), (0, .ref (X.2.1 0)), (1, .int a1), (2, .int a2)]) C.1 C.2.1 dX8_chosenOf_177 hl (by decide) rfl (fun ls hl => ?_)
                refine lv_iload C.1 C.2.1 dX8_chosenOf_179 (lv_at hl 1 rfl) ?_
                refine lv_iload C.1 C.2.1 dX8_chosenOf_181 (lv_at hl 0 rfl) ?_
                refine lv_aload_n C.1 C.2.1 dX8_chosenOf_183 rfl (lv_at hl 6 rfl) ?_
                refine lv_iload C.1 C.2.1 dX8_chosenOf_184 (lv_at hl 4 rfl) ?_
                obtain ⟨q23, eq23, h⟩ := bnd h
                refine r_callV (As := [.int q6]) C hw (ok_X8_differenceOf X l q22.2 q6 _ _ eq23) l_0 vc_8 gw_746 gw_743 gw_745 gw_46 gw_114 hl.1 pd_X8_differenceOf ⟨Nat.le_of_ble_eq_true rfl, Nat.le_of_ble_eq_true rfl⟩ ⟨Nat.le_refl 0, Nat.le_refl 0⟩ (rest := [.int q22.1, .int q21.1]) (Nat.le_of_ble_eq_true rfl) dX8_chosenOf_186 rfl (fun H locs hw => ?_)
                refine r_callS (As := [.int q21.1, .int q22.1, .int q23.1]) C hw (ok_X8_middleOf X l q23.2 q21.1 q22.1 q23.1 _ rfl) gw_790 gw_788 gw_789 gw_114 hl.1 pd_X8_middleOf ⟨Nat.le_of_ble_eq_true rfl, Nat.le_of_ble_eq_true rfl⟩ ⟨Nat.le_refl 0, Nat.le_refl 0⟩ (rest := []) (Nat.le_of_ble_eq_true rfl) dX8_chosenOf_189 rfl (fun H locs hw => ?_)
                obtain ⟨v25, ev25, h⟩ := nm_d h
                refine lv_nm ev25 ?_
                refine lv_istore (lv' := [(9, .int v25), (8, .int q22.1), (7, .int q21.1), (6, .int q19), (5, .int q10), (4, .int q6), (3, .int q1), (0, .ref (X.2.1 0)), (1, .int a1), (2, .int a2)]) C.1 C.2.1 dX8_chosenOf_192 hl (by decide) rfl (fun ls hl => ?_)
                refine lv_iload C.1 C.2.1 dX8_chosenOf_194 (lv_at hl 2 rfl) ?_
                refine lv_iload C.1 C.2.1 dX8_chosenOf_196 (lv_at hl 0 rfl) ?_
                refine lv_icmp_ne (tgt := 204) C.1 C.2.1 dX8_chosenOf_198 (by decide) (fun c26 => ?_) (fun c26 => ?_)
                · have h := ite_f c26 h
                  refine lv_iload C.1 C.2.1 dX8_chosenOf_204 (lv_at hl 1 rfl) ?_
                  refine lv_iload C.1 C.2.1 dX8_chosenOf_206 (lv_at hl 0 rfl) ?_
                  refine lv_icmp_ne (tgt := 216) C.1 C.2.1 dX8_chosenOf_208 (by decide) (fun c27 => ?_) (fun c27 => ?_)
                  · have h := ite_f c27 h
                    refine lv_iload C.1 C.2.1 dX8_chosenOf_216 (lv_at hl 5 rfl) ?_
                    exact r_iret C hr hlk hw (Prod.mk.inj (Option.some.inj h)).1 (Prod.mk.inj (Option.some.inj h)).2 dX8_chosenOf_218
                  · have h := ite_t c27 h
                    refine lv_iload C.1 C.2.1 dX8_chosenOf_211 (lv_at hl 4 rfl) ?_
                    refine lv_goto (tgt := 218) C.1 C.2.1 dX8_chosenOf_213 (by decide) ?_
                    exact r_iret C hr hlk hw (Prod.mk.inj (Option.some.inj h)).1 (Prod.mk.inj (Option.some.inj h)).2 dX8_chosenOf_218
                · have h := ite_t c26 h
                  refine lv_iload C.1 C.2.1 dX8_chosenOf_201 (lv_at hl 3 rfl) ?_
                  exact r_iret C hr hlk hw (Prod.mk.inj (Option.some.inj h)).1 (Prod.mk.inj (Option.some.inj h)).2 dX8_chosenOf_203
              · have h := ite_t c20 h
                refine lv_bipush (v := (-2)) C.1 C.2.1 dX8_chosenOf_160 (by decide) ?_
                exact r_iret C hr hlk hw (Prod.mk.inj (Option.some.inj h)).1 (Prod.mk.inj (Option.some.inj h)).2 dX8_chosenOf_162
            · have h := ite_t c17 h
              exact b97 q4.2 q1 q6 h _ _ hw ls (lv_sub hl [3, 2, 1] rfl)
        · have h := ite_t c8 h
          refine lv_bipush (v := (-2)) C.1 C.2.1 dX8_chosenOf_61 (by decide) ?_
          exact r_iret C hr hlk hw (Prod.mk.inj (Option.some.inj h)).1 (Prod.mk.inj (Option.some.inj h)).2 dX8_chosenOf_63
    · have h := ite_f c5 h
      refine lv_iload_n C.1 C.2.1 dX8_chosenOf_33 rfl (lv_at hl 0 rfl) ?_
      exact r_iret C hr hlk hw (Prod.mk.inj (Option.some.inj h)).1 (Prod.mk.inj (Option.some.inj h)).2 dX8_chosenOf_34
  · have h := ite_t c2 h
    refine lv_iconst (v := (-1)) C.1 C.2.1 dX8_chosenOf_15 (by decide) ?_
    exact r_iret C hr hlk hw (Prod.mk.inj (Option.some.inj h)).1 (Prod.mk.inj (Option.some.inj h)).2 dX8_chosenOf_16
def f_X8_chosen (σ : St) (a1 : Int32) (a2 : Int32) : Option (Int32 × St) :=
  if (b2i (f_X4_hasCouple σ (σ.2.2.1) a1 a2)) = 0 then (some ((-1), σ)) else ((f_X8_chosenOf σ a1 a2).bind fun q4 => some (q4.1, q4.2))
set_option maxRecDepth 100000 in
set_option maxHeartbeats 4000000 in
theorem ok_X8_chosen (X : Xc) (l : Launch) (σ : St) (a1 : Int32) (a2 : Int32) (r : Int32) (σ' : St) (h : f_X8_chosen σ a1 a2 = some (r, σ')) : Ok X l yX8_chosen cX8_chosen 3 (some .int) 6 148 [.ref (X.2.1 0), .int a1, .int a2] σ (some (.int r)) σ' := by
  refine Ok.of (by decide) (Nat.le_of_ble_eq_true rfl) ?_
  intro p e s m args below meth c C hr hlk hw ls hl
  have C : Cx p s m args c X cX8_chosen 3 "RunningCount" := C
  have hl : lv_has ls 3 [(0, .ref (X.2.1 0)), (1, .int a1), (2, .int a2)] := hl
  rw [f_X8_chosen] at h
  refine lv_aload_n C.1 C.2.1 dX8_chosen_0 rfl (lv_at hl 0 rfl) ?_
  have hz1 := hw.2.2.1
  refine r_get (v := .ref (X.2.1 (σ.2.2.1))) C hw l_0 vc_8 kX8 1 rfl (by decide) gw_409 rfl dX8_chosen_1 ?_
  refine lv_iload_n C.1 C.2.1 dX8_chosen_4 rfl (lv_at hl 1 rfl) ?_
  refine lv_iload_n C.1 C.2.1 dX8_chosen_5 rfl (lv_at hl 2 rfl) ?_
  refine r_callVN (As := [.int a1, .int a2]) C hw (ok_X4_hasCouple X l σ (σ.2.2.1) a1 a2 hz1 _ rfl) (lg_0 hz1) vc_4 gw_602 nw_672 gw_601 gw_22 gw_117 hl.1 pd_X4_hasCouple ⟨Nat.le_of_ble_eq_true rfl, Nat.le_of_ble_eq_true rfl⟩ ⟨Nat.le_refl 0, Nat.le_refl 0⟩ (rest := []) (Nat.le_of_ble_eq_true rfl) dX8_chosen_6 rfl (fun H locs hw => ?_)
  refine lv_if_eq (tgt := 21) C.1 C.2.1 dX8_chosen_9 (by decide) (fun c3 => ?_) (fun c3 => ?_)
  · have h := ite_t c3 h
    refine lv_iconst (v := (-1)) C.1 C.2.1 dX8_chosen_21 (by decide) ?_
    exact r_iret C hr hlk hw (Prod.mk.inj (Option.some.inj h)).1 (Prod.mk.inj (Option.some.inj h)).2 dX8_chosen_22
  · have h := ite_f c3 h
    refine lv_aload_n C.1 C.2.1 dX8_chosen_12 rfl (lv_at hl 0 rfl) ?_
    refine lv_iload_n C.1 C.2.1 dX8_chosen_13 rfl (lv_at hl 1 rfl) ?_
    refine lv_iload_n C.1 C.2.1 dX8_chosen_14 rfl (lv_at hl 2 rfl) ?_
    obtain ⟨q4, eq4, h⟩ := bnd h
    refine r_callV (As := [.int a1, .int a2]) C hw (ok_X8_chosenOf X l σ a1 a2 _ _ eq4) l_0 vc_8 gw_763 gw_760 gw_762 gw_48 gw_114 hl.1 pd_X8_chosenOf ⟨Nat.le_of_ble_eq_true rfl, Nat.le_of_ble_eq_true rfl⟩ ⟨Nat.le_refl 0, Nat.le_refl 0⟩ (rest := []) (Nat.le_of_ble_eq_true rfl) dX8_chosen_15 rfl (fun H locs hw => ?_)
    refine lv_goto (tgt := 22) C.1 C.2.1 dX8_chosen_18 (by decide) ?_
    exact r_iret C hr hlk hw (Prod.mk.inj (Option.some.inj h)).1 (Prod.mk.inj (Option.some.inj h)).2 dX8_chosen_22
def f_X8_due_b17 (k4 : St → Int32 → Int32 → Option (Int32 × St)) : Nat → St → Int32 → Int32 → Int32 → Option (Int32 × St)
  | 0, _, _, _, _ => none
  | n + 1, σ, x1, x2, x3 => if (σ.1 (σ.2.2.1) 1) ≤ x3 then (nm (x2 + 1) fun v5 => k4 σ x1 v5) else ((f_X8_chosenOf σ x2 x3).bind fun q6 => if q6.1 = (-2) then (nm (x1 + 1) fun v9 => nm (x3 + 1) fun v10 => f_X8_due_b17 k4 n q6.2 v9 x2 v10) else (nm (x3 + 1) fun v8 => f_X8_due_b17 k4 n q6.2 x1 x2 v8))
def f_X8_due_b4 : Nat → St → Int32 → Int32 → Option (Int32 × St)
  | 0, _, _, _ => none
  | n + 1, σ, x1, x2 => if (σ.1 (σ.2.2.1) 0) ≤ x2 then (some (x1, σ)) else (f_X8_due_b17 (fun σ x1 x2 => f_X8_due_b4 n σ x1 x2) 10000 σ x1 x2 0)
def f_X8_due (σ : St) : Option (Int32 × St) :=
  f_X8_due_b4 10000 σ 0 0
set_option maxRecDepth 100000 in
set_option maxHeartbeats 4000000 in
theorem ok_X8_due (X : Xc) (l : Launch) (σ : St) (r : Int32) (σ' : St) (h : f_X8_due σ = some (r, σ')) : Ok X l yX8_due cX8_due 4 (some .int) 6 148 [.ref (X.2.1 0)] σ (some (.int r)) σ' := by
  refine Ok.of (by decide) (Nat.le_of_ble_eq_true rfl) ?_
  intro p e s m args below meth c C hr hlk hw ls hl
  have C : Cx p s m args c X cX8_due 4 "RunningCount" := C
  have hl : lv_has ls 4 [(0, .ref (X.2.1 0))] := hl
  have b17 : ∀ (k4 : St → Int32 → Int32 → Option (Int32 × St)) (hk4 : ∀ (σ : St) (x1 : Int32) (x2 : Int32), k4 σ x1 x2 = some (r, σ') → ∀ (H : Heap) (locs : List Loc), At X σ s.heap H locs → ∀ ls : Array Slot, lv_has ls 4 [(0, .ref (X.2.1 0)), (1, .int x1), (2, .int x2)] → W p l e (rmX 6 148) s m args below meth c H locs 0 0 (Zq X below s args (some (.int r)) σ') (F0 m 4 ls [])), ∀ (n : Nat), ∀ (σ : St) (x1 : Int32) (x2 : Int32) (x3 : Int32), f_X8_due_b17 k4 n σ x1 x2 x3 = some (r, σ') → ∀ (H : Heap) (locs : List Loc), At X σ s.heap H locs → ∀ ls : Array Slot, lv_has ls 4 [(0, .ref (X.2.1 0)), (1, .int x1), (2, .int x2), (3, .int x3)] → W p l e (rmX 6 148) s m args below meth c H locs 0 0 (Zq X below s args (some (.int r)) σ') (F0 m 17 ls []) := by
    intro k4 hk4
    intro n
    induction n with
    | zero =>
      intro σ x1 x2 x3 h
      exact no_some h
    | succ n ih =>
      intro σ x1 x2 x3 h H locs hw ls hl
      rw [f_X8_due_b17] at h
      refine lv_iload_n C.1 C.2.1 dX8_due_17 rfl (lv_at hl 3 rfl) ?_
      refine lv_aload_n C.1 C.2.1 dX8_due_18 rfl (lv_at hl 0 rfl) ?_
      have hz3 := hw.2.2.1
      refine r_get (v := .ref (X.2.1 (σ.2.2.1))) C hw l_0 vc_8 kX8 1 rfl (by decide) gw_409 rfl dX8_due_19 ?_
      refine r_getN (v := .int (σ.1 (σ.2.2.1) 1)) C hw (lg_0 hz3) vc_4 kX4 1 rfl (by decide) nw_216 rfl dX8_due_22 ?_
      refine lv_icmp_ge (tgt := 48) C.1 C.2.1 dX8_due_25 (by decide) (fun c4 => ?_) (fun c4 => ?_)
      · have h := ite_t c4 h
        obtain ⟨v5, ev5, h⟩ := nm_d h
        refine lv_iinc (v := v5) (lv' := [(2, .int v5), (0, .ref (X.2.1 0)), (1, .int x1), (3, .int x3)]) C.1 C.2.1 dX8_due_48 hl (k := 2) rfl (by rw [ev5]; rfl) (by decide) rfl (fun ls hl => ?_)
        refine lv_goto (tgt := 4) C.1 C.2.1 dX8_due_51 (by decide) ?_
        exact hk4 σ x1 v5 h _ _ hw ls (lv_sub hl [1, 2, 0] rfl)
      · have h := ite_f c4 h
        refine lv_aload_n C.1 C.2.1 dX8_due_28 rfl (lv_at hl 0 rfl) ?_
        refine lv_iload_n C.1 C.2.1 dX8_due_29 rfl (lv_at hl 2 rfl) ?_
        refine lv_iload_n C.1 C.2.1 dX8_due_30 rfl (lv_at hl 3 rfl) ?_
        obtain ⟨q6, eq6, h⟩ := bnd h
        refine r_callV (As := [.int x2, .int x3]) C hw (ok_X8_chosenOf X l σ x2 x3 _ _ eq6) l_0 vc_8 gw_763 gw_760 gw_762 gw_48 gw_114 hl.1 pd_X8_chosenOf ⟨Nat.le_of_ble_eq_true rfl, Nat.le_of_ble_eq_true rfl⟩ ⟨Nat.le_refl 0, Nat.le_refl 0⟩ (rest := []) (Nat.le_of_ble_eq_true rfl) dX8_due_31 rfl (fun H locs hw => ?_)
        refine lv_bipush (v := (-2)) C.1 C.2.1 dX8_due_34 (by decide) ?_
        refine lv_icmp_ne (tgt := 42) C.1 C.2.1 dX8_due_36 (by decide) (fun c7 => ?_) (fun c7 => ?_)
        · have h := ite_f c7 h
          obtain ⟨v8, ev8, h⟩ := nm_d h
          refine lv_iinc (v := v8) (lv' := [(3, .int v8), (0, .ref (X.2.1 0)), (1, .int x1), (2, .int x2)]) C.1 C.2.1 dX8_due_42 hl (k := 3) rfl (by rw [ev8]; rfl) (by decide) rfl (fun ls hl => ?_)
          refine lv_goto (tgt := 17) C.1 C.2.1 dX8_due_45 (by decide) ?_
          exact ih q6.2 x1 x2 v8 h _ _ hw ls (lv_sub hl [1, 2, 3, 0] rfl)
        · have h := ite_t c7 h
          obtain ⟨v9, ev9, h⟩ := nm_d h
          refine lv_iinc (v := v9) (lv' := [(1, .int v9), (0, .ref (X.2.1 0)), (2, .int x2), (3, .int x3)]) C.1 C.2.1 dX8_due_39 hl (k := 1) rfl (by rw [ev9]; rfl) (by decide) rfl (fun ls hl => ?_)
          obtain ⟨v10, ev10, h⟩ := nm_d h
          refine lv_iinc (v := v10) (lv' := [(3, .int v10), (1, .int v9), (0, .ref (X.2.1 0)), (2, .int x2)]) C.1 C.2.1 dX8_due_42 hl (k := 3) rfl (by rw [ev10]; rfl) (by decide) rfl (fun ls hl => ?_)
          refine lv_goto (tgt := 17) C.1 C.2.1 dX8_due_45 (by decide) ?_
          exact ih q6.2 v9 x2 v10 h _ _ hw ls (lv_sub hl [2, 1, 3, 0] rfl)
  have b4 : ∀ (n : Nat), ∀ (σ : St) (x1 : Int32) (x2 : Int32), f_X8_due_b4 n σ x1 x2 = some (r, σ') → ∀ (H : Heap) (locs : List Loc), At X σ s.heap H locs → ∀ ls : Array Slot, lv_has ls 4 [(0, .ref (X.2.1 0)), (1, .int x1), (2, .int x2)] → W p l e (rmX 6 148) s m args below meth c H locs 0 0 (Zq X below s args (some (.int r)) σ') (F0 m 4 ls []) := by
    intro n
    induction n with
    | zero =>
      intro σ x1 x2 h
      exact no_some h
    | succ n ih =>
      intro σ x1 x2 h H locs hw ls hl
      rw [f_X8_due_b4] at h
      refine lv_iload_n C.1 C.2.1 dX8_due_4 rfl (lv_at hl 2 rfl) ?_
      refine lv_aload_n C.1 C.2.1 dX8_due_5 rfl (lv_at hl 0 rfl) ?_
      have hz1 := hw.2.2.1
      refine r_get (v := .ref (X.2.1 (σ.2.2.1))) C hw l_0 vc_8 kX8 1 rfl (by decide) gw_409 rfl dX8_due_6 ?_
      refine r_getN (v := .int (σ.1 (σ.2.2.1) 0)) C hw (lg_0 hz1) vc_4 kX4 0 rfl (by decide) nw_213 rfl dX8_due_9 ?_
      refine lv_icmp_ge (tgt := 54) C.1 C.2.1 dX8_due_12 (by decide) (fun c2 => ?_) (fun c2 => ?_)
      · have h := ite_t c2 h
        refine lv_iload_n C.1 C.2.1 dX8_due_54 rfl (lv_at hl 1 rfl) ?_
        exact r_iret C hr hlk hw (Prod.mk.inj (Option.some.inj h)).1 (Prod.mk.inj (Option.some.inj h)).2 dX8_due_55
      · have h := ite_f c2 h
        refine lv_iconst (v := 0) C.1 C.2.1 dX8_due_15 (by decide) ?_
        refine lv_istore_n (lv' := [(3, .int 0), (0, .ref (X.2.1 0)), (1, .int x1), (2, .int x2)]) C.1 C.2.1 dX8_due_16 rfl hl (by decide) rfl (fun ls hl => ?_)
        exact b17 (fun σ x1 x2 => f_X8_due_b4 n σ x1 x2) ih 10000 σ x1 x2 0 h _ _ hw ls (lv_sub hl [1, 2, 3, 0] rfl)
  rw [f_X8_due] at h
  refine lv_iconst (v := 0) C.1 C.2.1 dX8_due_0 (by decide) ?_
  refine lv_istore_n (lv' := [(1, .int 0), (0, .ref (X.2.1 0))]) C.1 C.2.1 dX8_due_1 rfl hl (by decide) rfl (fun ls hl => ?_)
  refine lv_iconst (v := 0) C.1 C.2.1 dX8_due_2 (by decide) ?_
  refine lv_istore_n (lv' := [(2, .int 0), (1, .int 0), (0, .ref (X.2.1 0))]) C.1 C.2.1 dX8_due_3 rfl hl (by decide) rfl (fun ls hl => ?_)
  exact b4 10000 σ 0 0 h _ _ hw ls (lv_sub hl [2, 1, 0] rfl)
def f_X2_sureWith_b7 (σ : St) (a1 : Int32) : Nat → Int32 → Int32 → Option Int32
  | 0, _, _ => none
  | n + 1, x2, x3 => if 10 ≤ x3 then (some x2) else (if ((a1 >>> (x3 &&& 31)) &&& 1) = 1 then ((rd σ 49 10 x3).bind fun v5 => nm (x2 + v5) fun v6 => nm (x3 + 1) fun v7 => f_X2_sureWith_b7 σ a1 n v6 v7) else (nm (x3 + 1) fun v4 => f_X2_sureWith_b7 σ a1 n x2 v4))
def f_X2_sureWith (σ : St) (a1 : Int32) : Option Int32 :=
  nm (σ.1 48 0) fun v1 => f_X2_sureWith_b7 σ a1 10000 v1 0
set_option maxRecDepth 100000 in
set_option maxHeartbeats 4000000 in
theorem ok_X2_sureWith (X : Xc) (l : Launch) (σ : St) (a1 : Int32) (r : Int32) (h : f_X2_sureWith σ a1 = some r) : Ok X l yX2_sureWith cX2_sureWith 4 (some .int) 0 0 [.ref (X.2.1 48), .int a1] σ (some (.int r)) σ := by
  refine Ok.of (by decide) (Nat.le_of_ble_eq_true rfl) ?_
  intro p e s m args below meth c C hr hlk hw ls hl
  have C : Cx p s m args c X cX2_sureWith 4 "RunningCount$Book" := C
  have hl : lv_has ls 4 [(0, .ref (X.2.1 48)), (1, .int a1)] := hl
  have b7 : ∀ (n : Nat), ∀ (x2 : Int32) (x3 : Int32), f_X2_sureWith_b7 σ a1 n x2 x3 = some r → ∀ (H : Heap) (locs : List Loc), At X σ s.heap H locs → ∀ ls : Array Slot, lv_has ls 4 [(0, .ref (X.2.1 48)), (1, .int a1), (2, .int x2), (3, .int x3)] → W p l e (rmX 0 0) s m args below meth c H locs 0 0 (Zq X below s args (some (.int r)) σ) (F0 m 7 ls []) := by
    intro n
    induction n with
    | zero =>
      intro x2 x3 h
      exact no_some h
    | succ n ih =>
      intro x2 x3 h H locs hw ls hl
      rw [f_X2_sureWith_b7] at h
      refine lv_iload_n C.1 C.2.1 dX2_sureWith_7 rfl (lv_at hl 3 rfl) ?_
      refine lv_bipush (v := 10) C.1 C.2.1 dX2_sureWith_8 (by decide) ?_
      refine lv_icmp_ge (tgt := 37) C.1 C.2.1 dX2_sureWith_10 (by decide) (fun c2 => ?_) (fun c2 => ?_)
      · have h := ite_t c2 h
        refine lv_iload_n C.1 C.2.1 dX2_sureWith_37 rfl (lv_at hl 2 rfl) ?_
        exact r_iret C hr hlk hw (Option.some.inj h) rfl dX2_sureWith_38
      · have h := ite_f c2 h
        refine lv_iload_n C.1 C.2.1 dX2_sureWith_13 rfl (lv_at hl 1 rfl) ?_
        refine lv_iload_n C.1 C.2.1 dX2_sureWith_14 rfl (lv_at hl 3 rfl) ?_
        refine lv_ishr C.1 C.2.1 dX2_sureWith_15 ?_
        refine lv_iconst (v := 1) C.1 C.2.1 dX2_sureWith_16 (by decide) ?_
        refine lv_iand C.1 C.2.1 dX2_sureWith_17 ?_
        refine lv_iconst (v := 1) C.1 C.2.1 dX2_sureWith_18 (by decide) ?_
        refine lv_icmp_ne (tgt := 31) C.1 C.2.1 dX2_sureWith_19 (by decide) (fun c3 => ?_) (fun c3 => ?_)
        · have h := ite_f c3 h
          obtain ⟨v4, ev4, h⟩ := nm_d h
          refine lv_iinc (v := v4) (lv' := [(3, .int v4), (0, .ref (X.2.1 48)), (1, .int a1), (2, .int x2)]) C.1 C.2.1 dX2_sureWith_31 hl (k := 3) rfl (by rw [ev4]; rfl) (by decide) rfl (fun ls hl => ?_)
          refine lv_goto (tgt := 7) C.1 C.2.1 dX2_sureWith_34 (by decide) ?_
          exact ih x2 v4 h _ _ hw ls (lv_sub hl [1, 2, 3, 0] rfl)
        · have h := ite_t c3 h
          refine lv_iload_n C.1 C.2.1 dX2_sureWith_22 rfl (lv_at hl 2 rfl) ?_
          refine lv_aload_n C.1 C.2.1 dX2_sureWith_23 rfl (lv_at hl 0 rfl) ?_
          refine r_get (v := .ref (X.2.1 49)) C hw l_48 vc_2 kX2 4 rfl (by decide) gw_396 rfl dX2_sureWith_24 ?_
          refine lv_iload_n C.1 C.2.1 dX2_sureWith_27 rfl (lv_at hl 3 rfl) ?_
          obtain ⟨v5, ev5, h⟩ := bnd h
          refine r_ald C hw l_49 ev5 dX2_sureWith_28 ?_
          refine lv_iadd C.1 C.2.1 dX2_sureWith_29 ?_
          obtain ⟨v6, ev6, h⟩ := nm_d h
          refine lv_nm ev6 ?_
          refine lv_istore_n (lv' := [(2, .int v6), (0, .ref (X.2.1 48)), (1, .int a1), (3, .int x3)]) C.1 C.2.1 dX2_sureWith_30 rfl hl (by decide) rfl (fun ls hl => ?_)
          obtain ⟨v7, ev7, h⟩ := nm_d h
          refine lv_iinc (v := v7) (lv' := [(3, .int v7), (2, .int v6), (0, .ref (X.2.1 48)), (1, .int a1)]) C.1 C.2.1 dX2_sureWith_31 hl (k := 3) rfl (by rw [ev7]; rfl) (by decide) rfl (fun ls hl => ?_)
          refine lv_goto (tgt := 7) C.1 C.2.1 dX2_sureWith_34 (by decide) ?_
          exact ih v6 v7 h _ _ hw ls (lv_sub hl [2, 3, 1, 0] rfl)
  rw [f_X2_sureWith] at h
  refine lv_aload_n C.1 C.2.1 dX2_sureWith_0 rfl (lv_at hl 0 rfl) ?_
  refine r_get (v := .int (σ.1 48 0)) C hw l_48 vc_2 kX2 0 rfl (by decide) gw_388 rfl dX2_sureWith_1 ?_
  obtain ⟨v1, ev1, h⟩ := nm_d h
  refine lv_nm ev1 ?_
  refine lv_istore_n (lv' := [(2, .int v1), (0, .ref (X.2.1 48)), (1, .int a1)]) C.1 C.2.1 dX2_sureWith_4 rfl hl (by decide) rfl (fun ls hl => ?_)
  refine lv_iconst (v := 0) C.1 C.2.1 dX2_sureWith_5 (by decide) ?_
  refine lv_istore_n (lv' := [(3, .int 0), (2, .int v1), (0, .ref (X.2.1 48)), (1, .int a1)]) C.1 C.2.1 dX2_sureWith_6 rfl hl (by decide) rfl (fun ls hl => ?_)
  exact b7 10000 v1 0 h _ _ hw ls (lv_sub hl [2, 3, 1, 0] rfl)
def f_X8_explained_b38 (a1 : Int32) (a2 : Int32) : Nat → St → Int32 → Int32 → Option (Int32 × St)
  | 0, _, _, _ => none
  | n + 1, σ, x3, x4 => if (1 <<< ((σ.1 48 3) &&& 31)) ≤ x4 then (if a2 = (-1) then (some (x3, σ)) else (some ((-1), σ))) else ((f_X2_sureWith σ x4).bind fun q7 => (rd σ 28 40 a1).bind fun v8 => if q7 = v8 then (if x3 = a2 then (some (x4, σ)) else (nm (x3 + 1) fun v12 => nm (x4 + 1) fun v13 => f_X8_explained_b38 a1 a2 n σ v12 v13)) else (nm (x4 + 1) fun v10 => f_X8_explained_b38 a1 a2 n σ x3 v10))
def f_X8_explained (σ : St) (a1 : Int32) (a2 : Int32) : Option (Int32 × St) :=
  if (b2i (f_X3_has σ a1)) = 0 then (some ((-1), σ)) else ((f_X8_turnTo σ a1).bind fun q3 => if (q3.1 48 3) ≤ 10 then (f_X8_explained_b38 a1 a2 10000 q3 0 0) else (some ((-2), q3)))
set_option maxRecDepth 100000 in
set_option maxHeartbeats 4000000 in
theorem ok_X8_explained (X : Xc) (l : Launch) (σ : St) (a1 : Int32) (a2 : Int32) (r : Int32) (σ' : St) (h : f_X8_explained σ a1 a2 = some (r, σ')) : Ok X l yX8_explained cX8_explained 5 (some .int) 4 96 [.ref (X.2.1 0), .int a1, .int a2] σ (some (.int r)) σ' := by
  refine Ok.of (by decide) (Nat.le_of_ble_eq_true rfl) ?_
  intro p e s m args below meth c C hr hlk hw ls hl
  have C : Cx p s m args c X cX8_explained 5 "RunningCount" := C
  have hl : lv_has ls 5 [(0, .ref (X.2.1 0)), (1, .int a1), (2, .int a2)] := hl
  have b38 : ∀ (n : Nat), ∀ (σ : St) (x3 : Int32) (x4 : Int32), f_X8_explained_b38 a1 a2 n σ x3 x4 = some (r, σ') → ∀ (H : Heap) (locs : List Loc), At X σ s.heap H locs → ∀ ls : Array Slot, lv_has ls 5 [(0, .ref (X.2.1 0)), (1, .int a1), (2, .int a2), (3, .int x3), (4, .int x4)] → W p l e (rmX 4 96) s m args below meth c H locs 0 0 (Zq X below s args (some (.int r)) σ') (F0 m 38 ls []) := by
    intro n
    induction n with
    | zero =>
      intro σ x3 x4 h
      exact no_some h
    | succ n ih =>
      intro σ x3 x4 h H locs hw ls hl
      rw [f_X8_explained_b38] at h
      refine lv_iload C.1 C.2.1 dX8_explained_38 (lv_at hl 4 rfl) ?_
      refine lv_iconst (v := 1) C.1 C.2.1 dX8_explained_40 (by decide) ?_
      refine lv_aload_n C.1 C.2.1 dX8_explained_41 rfl (lv_at hl 0 rfl) ?_
      refine r_get (v := .ref (X.2.1 48)) C hw l_0 vc_8 kX8 6 rfl (by decide) gw_414 rfl dX8_explained_42 ?_
      refine r_getN (v := .int (σ.1 48 3)) C hw l_48 vc_2 kX2 3 rfl (by decide) nw_395 rfl dX8_explained_45 ?_
      refine lv_ishl C.1 C.2.1 dX8_explained_48 ?_
      refine lv_icmp_ge (tgt := 90) C.1 C.2.1 dX8_explained_49 (by decide) (fun c5 => ?_) (fun c5 => ?_)
      · have h := ite_t c5 h
        refine lv_iload_n C.1 C.2.1 dX8_explained_90 rfl (lv_at hl 2 rfl) ?_
        refine lv_iconst (v := (-1)) C.1 C.2.1 dX8_explained_91 (by decide) ?_
        refine lv_icmp_ne (tgt := 99) C.1 C.2.1 dX8_explained_92 (by decide) (fun c6 => ?_) (fun c6 => ?_)
        · have h := ite_f c6 h
          refine lv_iconst (v := (-1)) C.1 C.2.1 dX8_explained_99 (by decide) ?_
          exact r_iret C hr hlk hw (Prod.mk.inj (Option.some.inj h)).1 (Prod.mk.inj (Option.some.inj h)).2 dX8_explained_100
        · have h := ite_t c6 h
          refine lv_iload_n C.1 C.2.1 dX8_explained_95 rfl (lv_at hl 3 rfl) ?_
          refine lv_goto (tgt := 100) C.1 C.2.1 dX8_explained_96 (by decide) ?_
          exact r_iret C hr hlk hw (Prod.mk.inj (Option.some.inj h)).1 (Prod.mk.inj (Option.some.inj h)).2 dX8_explained_100
      · have h := ite_f c5 h
        refine lv_aload_n C.1 C.2.1 dX8_explained_52 rfl (lv_at hl 0 rfl) ?_
        refine r_get (v := .ref (X.2.1 48)) C hw l_0 vc_8 kX8 6 rfl (by decide) gw_414 rfl dX8_explained_53 ?_
        refine lv_iload C.1 C.2.1 dX8_explained_56 (lv_at hl 4 rfl) ?_
        obtain ⟨q7, eq7, h⟩ := bnd h
        refine r_callVN (As := [.int x4]) C hw (ok_X2_sureWith X l σ x4 _ eq7) l_48 vc_2 gw_803 nw_800 gw_802 gw_54 gw_122 hl.1 pd_X2_sureWith ⟨Nat.le_of_ble_eq_true rfl, Nat.le_of_ble_eq_true rfl⟩ ⟨Nat.le_refl 0, Nat.le_refl 0⟩ (rest := []) (Nat.le_of_ble_eq_true rfl) dX8_explained_58 rfl (fun H locs hw => ?_)
        refine lv_aload_n C.1 C.2.1 dX8_explained_61 rfl (lv_at hl 0 rfl) ?_
        refine r_get (v := .ref (X.2.1 24)) C hw l_0 vc_8 kX8 3 rfl (by decide) gw_411 rfl dX8_explained_62 ?_
        refine r_getN (v := .ref (X.2.1 28)) C hw l_24 vc_3 kX3 4 rfl (by decide) nw_277 rfl dX8_explained_65 ?_
        refine lv_iload_n C.1 C.2.1 dX8_explained_68 rfl (lv_at hl 1 rfl) ?_
        obtain ⟨v8, ev8, h⟩ := bnd h
        refine r_ald C hw l_28 ev8 dX8_explained_69 ?_
        refine lv_icmp_ne (tgt := 84) C.1 C.2.1 dX8_explained_70 (by decide) (fun c9 => ?_) (fun c9 => ?_)
        · have h := ite_f c9 h
          obtain ⟨v10, ev10, h⟩ := nm_d h
          refine lv_iinc (v := v10) (lv' := [(4, .int v10), (0, .ref (X.2.1 0)), (1, .int a1), (2, .int a2), (3, .int x3)]) C.1 C.2.1 dX8_explained_84 hl (k := 4) rfl (by rw [ev10]; rfl) (by decide) rfl (fun ls hl => ?_)
          refine lv_goto (tgt := 38) C.1 C.2.1 dX8_explained_87 (by decide) ?_
          exact ih σ x3 v10 h _ _ hw ls (lv_sub hl [1, 2, 3, 4, 0] rfl)
        · have h := ite_t c9 h
          refine lv_iload_n C.1 C.2.1 dX8_explained_73 rfl (lv_at hl 3 rfl) ?_
          refine lv_iload_n C.1 C.2.1 dX8_explained_74 rfl (lv_at hl 2 rfl) ?_
          refine lv_icmp_ne (tgt := 81) C.1 C.2.1 dX8_explained_75 (by decide) (fun c11 => ?_) (fun c11 => ?_)
          · have h := ite_f c11 h
            obtain ⟨v12, ev12, h⟩ := nm_d h
            refine lv_iinc (v := v12) (lv' := [(3, .int v12), (0, .ref (X.2.1 0)), (1, .int a1), (2, .int a2), (4, .int x4)]) C.1 C.2.1 dX8_explained_81 hl (k := 3) rfl (by rw [ev12]; rfl) (by decide) rfl (fun ls hl => ?_)
            obtain ⟨v13, ev13, h⟩ := nm_d h
            refine lv_iinc (v := v13) (lv' := [(4, .int v13), (3, .int v12), (0, .ref (X.2.1 0)), (1, .int a1), (2, .int a2)]) C.1 C.2.1 dX8_explained_84 hl (k := 4) rfl (by rw [ev13]; rfl) (by decide) rfl (fun ls hl => ?_)
            refine lv_goto (tgt := 38) C.1 C.2.1 dX8_explained_87 (by decide) ?_
            exact ih σ v12 v13 h _ _ hw ls (lv_sub hl [2, 3, 4, 1, 0] rfl)
          · have h := ite_t c11 h
            refine lv_iload C.1 C.2.1 dX8_explained_78 (lv_at hl 4 rfl) ?_
            exact r_iret C hr hlk hw (Prod.mk.inj (Option.some.inj h)).1 (Prod.mk.inj (Option.some.inj h)).2 dX8_explained_80
  rw [f_X8_explained] at h
  refine lv_aload_n C.1 C.2.1 dX8_explained_0 rfl (lv_at hl 0 rfl) ?_
  refine r_get (v := .ref (X.2.1 24)) C hw l_0 vc_8 kX8 3 rfl (by decide) gw_411 rfl dX8_explained_1 ?_
  refine lv_iload_n C.1 C.2.1 dX8_explained_4 rfl (lv_at hl 1 rfl) ?_
  refine r_callVN (As := [.int a1]) C hw (ok_X3_has X l σ a1 _ rfl) l_24 vc_3 gw_742 nw_739 gw_741 gw_45 gw_118 hl.1 pd_X3_has ⟨Nat.le_of_ble_eq_true rfl, Nat.le_of_ble_eq_true rfl⟩ ⟨Nat.le_refl 0, Nat.le_refl 0⟩ (rest := []) (Nat.le_of_ble_eq_true rfl) dX8_explained_5 rfl (fun H locs hw => ?_)
  refine lv_if_ne (tgt := 13) C.1 C.2.1 dX8_explained_8 (by decide) (fun c2 => ?_) (fun c2 => ?_)
  · have h := ite_f c2 h
    refine lv_aload_n C.1 C.2.1 dX8_explained_13 rfl (lv_at hl 0 rfl) ?_
    refine lv_iload_n C.1 C.2.1 dX8_explained_14 rfl (lv_at hl 1 rfl) ?_
    obtain ⟨q3, eq3, h⟩ := bnd h
    refine r_callV (As := [.int a1]) C hw (ok_X8_turnTo X l σ a1 _ eq3) l_0 vc_8 gw_750 gw_747 gw_749 gw_47 gw_114 hl.1 pd_X8_turnTo ⟨Nat.le_of_ble_eq_true rfl, Nat.le_of_ble_eq_true rfl⟩ ⟨Nat.le_refl 0, Nat.le_refl 0⟩ (rest := []) (Nat.le_of_ble_eq_true rfl) dX8_explained_15 rfl (fun H locs hw => ?_)
    refine lv_aload_n C.1 C.2.1 dX8_explained_18 rfl (lv_at hl 0 rfl) ?_
    refine r_get (v := .ref (X.2.1 48)) C hw l_0 vc_8 kX8 6 rfl (by decide) gw_414 rfl dX8_explained_19 ?_
    refine r_getN (v := .int (q3.1 48 3)) C hw l_48 vc_2 kX2 3 rfl (by decide) nw_395 rfl dX8_explained_22 ?_
    refine lv_bipush (v := 10) C.1 C.2.1 dX8_explained_25 (by decide) ?_
    refine lv_icmp_le (tgt := 33) C.1 C.2.1 dX8_explained_27 (by decide) (fun c4 => ?_) (fun c4 => ?_)
    · have h := ite_t c4 h
      refine lv_iconst (v := 0) C.1 C.2.1 dX8_explained_33 (by decide) ?_
      refine lv_istore_n (lv' := [(3, .int 0), (0, .ref (X.2.1 0)), (1, .int a1), (2, .int a2)]) C.1 C.2.1 dX8_explained_34 rfl hl (by decide) rfl (fun ls hl => ?_)
      refine lv_iconst (v := 0) C.1 C.2.1 dX8_explained_35 (by decide) ?_
      refine lv_istore (lv' := [(4, .int 0), (3, .int 0), (0, .ref (X.2.1 0)), (1, .int a1), (2, .int a2)]) C.1 C.2.1 dX8_explained_36 hl (by decide) rfl (fun ls hl => ?_)
      exact b38 10000 q3 0 0 h _ _ hw ls (lv_sub hl [2, 3, 4, 1, 0] rfl)
    · have h := ite_f c4 h
      refine lv_bipush (v := (-2)) C.1 C.2.1 dX8_explained_30 (by decide) ?_
      exact r_iret C hr hlk hw (Prod.mk.inj (Option.some.inj h)).1 (Prod.mk.inj (Option.some.inj h)).2 dX8_explained_32
  · have h := ite_t c2 h
    refine lv_iconst (v := (-1)) C.1 C.2.1 dX8_explained_11 (by decide) ?_
    exact r_iret C hr hlk hw (Prod.mk.inj (Option.some.inj h)).1 (Prod.mk.inj (Option.some.inj h)).2 dX8_explained_12
def f_X8_adjusted (σ : St) (a1 : Int32) (a2 : Int32) : Option Int32 :=
  if a1 < 0 then (some (-100000000)) else (if a1 < (σ.1 31 0) then (if a2 = 0 then ((rd σ 32 40 a1).bind fun v10 => some v10) else (if a2 = 1 then ((rd σ 33 40 a1).bind fun v9 => some v9) else (if a2 = 2 then ((rd σ 34 40 a1).bind fun v8 => some v8) else (if a2 = 3 then ((rd σ 35 40 a1).bind fun v7 => some v7) else (some (-100000000)))))) else (some (-100000000)))
set_option maxRecDepth 100000 in
set_option maxHeartbeats 4000000 in
theorem ok_X8_adjusted (X : Xc) (l : Launch) (σ : St) (a1 : Int32) (a2 : Int32) (r : Int32) (h : f_X8_adjusted σ a1 a2 = some r) : Ok X l yX8_adjusted cX8_adjusted 3 (some .int) 0 0 [.ref (X.2.1 0), .int a1, .int a2] σ (some (.int r)) σ := by
  refine Ok.of (by decide) (Nat.le_of_ble_eq_true rfl) ?_
  intro p e s m args below meth c C hr hlk hw ls hl
  have C : Cx p s m args c X cX8_adjusted 3 "RunningCount" := C
  have hl : lv_has ls 3 [(0, .ref (X.2.1 0)), (1, .int a1), (2, .int a2)] := hl
  rw [f_X8_adjusted] at h
  refine lv_iload_n C.1 C.2.1 dX8_adjusted_0 rfl (lv_at hl 1 rfl) ?_
  refine lv_if_lt (tgt := 15) C.1 C.2.1 dX8_adjusted_1 (by decide) (fun c1 => ?_) (fun c1 => ?_)
  · have h := ite_t c1 h
    refine lv_ldc (v := (-100000000)) C.1 C.2.1 C.2.2.2.1 (C.2.2.2.2.1 _ gw_676) dX8_adjusted_15 ?_
    exact r_iret C hr hlk hw (Option.some.inj h) rfl dX8_adjusted_17
  · have h := ite_f c1 h
    refine lv_iload_n C.1 C.2.1 dX8_adjusted_4 rfl (lv_at hl 1 rfl) ?_
    refine lv_aload_n C.1 C.2.1 dX8_adjusted_5 rfl (lv_at hl 0 rfl) ?_
    refine r_get (v := .ref (X.2.1 31)) C hw l_0 vc_8 kX8 4 rfl (by decide) gw_412 rfl dX8_adjusted_6 ?_
    refine r_getN (v := .int (σ.1 31 0)) C hw l_31 vc_1 kX1 0 rfl (by decide) nw_305 rfl dX8_adjusted_9 ?_
    refine lv_icmp_lt (tgt := 18) C.1 C.2.1 dX8_adjusted_12 (by decide) (fun c2 => ?_) (fun c2 => ?_)
    · have h := ite_t c2 h
      refine lv_iload_n C.1 C.2.1 dX8_adjusted_18 rfl (lv_at hl 2 rfl) ?_
      by_cases c3 : a2 = 0
      · have h := ite_t c3 h
        refine lv_tableIn (tgt := 48) C.1 C.2.1 dX8_adjusted_19 (by rw [c3]; decide) (by rw [c3]; decide) (by rw [c3]; rfl) (by decide) ?_
        refine lv_aload_n C.1 C.2.1 dX8_adjusted_48 rfl (lv_at hl 0 rfl) ?_
        refine r_get (v := .ref (X.2.1 31)) C hw l_0 vc_8 kX8 4 rfl (by decide) gw_412 rfl dX8_adjusted_49 ?_
        refine r_getN (v := .ref (X.2.1 32)) C hw l_31 vc_1 kX1 1 rfl (by decide) nw_307 rfl dX8_adjusted_52 ?_
        refine lv_iload_n C.1 C.2.1 dX8_adjusted_55 rfl (lv_at hl 1 rfl) ?_
        obtain ⟨v10, ev10, h⟩ := bnd h
        refine r_ald C hw l_32 ev10 dX8_adjusted_56 ?_
        exact r_iret C hr hlk hw (Option.some.inj h) rfl dX8_adjusted_57
      · have h := ite_f c3 h
        by_cases c4 : a2 = 1
        · have h := ite_t c4 h
          refine lv_tableIn (tgt := 58) C.1 C.2.1 dX8_adjusted_19 (by rw [c4]; decide) (by rw [c4]; decide) (by rw [c4]; rfl) (by decide) ?_
          refine lv_aload_n C.1 C.2.1 dX8_adjusted_58 rfl (lv_at hl 0 rfl) ?_
          refine r_get (v := .ref (X.2.1 31)) C hw l_0 vc_8 kX8 4 rfl (by decide) gw_412 rfl dX8_adjusted_59 ?_
          refine r_getN (v := .ref (X.2.1 33)) C hw l_31 vc_1 kX1 2 rfl (by decide) nw_309 rfl dX8_adjusted_62 ?_
          refine lv_iload_n C.1 C.2.1 dX8_adjusted_65 rfl (lv_at hl 1 rfl) ?_
          obtain ⟨v9, ev9, h⟩ := bnd h
          refine r_ald C hw l_33 ev9 dX8_adjusted_66 ?_
          exact r_iret C hr hlk hw (Option.some.inj h) rfl dX8_adjusted_67
        · have h := ite_f c4 h
          by_cases c5 : a2 = 2
          · have h := ite_t c5 h
            refine lv_tableIn (tgt := 68) C.1 C.2.1 dX8_adjusted_19 (by rw [c5]; decide) (by rw [c5]; decide) (by rw [c5]; rfl) (by decide) ?_
            refine lv_aload_n C.1 C.2.1 dX8_adjusted_68 rfl (lv_at hl 0 rfl) ?_
            refine r_get (v := .ref (X.2.1 31)) C hw l_0 vc_8 kX8 4 rfl (by decide) gw_412 rfl dX8_adjusted_69 ?_
            refine r_getN (v := .ref (X.2.1 34)) C hw l_31 vc_1 kX1 3 rfl (by decide) nw_311 rfl dX8_adjusted_72 ?_
            refine lv_iload_n C.1 C.2.1 dX8_adjusted_75 rfl (lv_at hl 1 rfl) ?_
            obtain ⟨v8, ev8, h⟩ := bnd h
            refine r_ald C hw l_34 ev8 dX8_adjusted_76 ?_
            exact r_iret C hr hlk hw (Option.some.inj h) rfl dX8_adjusted_77
          · have h := ite_f c5 h
            by_cases c6 : a2 = 3
            · have h := ite_t c6 h
              refine lv_tableIn (tgt := 78) C.1 C.2.1 dX8_adjusted_19 (by rw [c6]; decide) (by rw [c6]; decide) (by rw [c6]; rfl) (by decide) ?_
              refine lv_aload_n C.1 C.2.1 dX8_adjusted_78 rfl (lv_at hl 0 rfl) ?_
              refine r_get (v := .ref (X.2.1 31)) C hw l_0 vc_8 kX8 4 rfl (by decide) gw_412 rfl dX8_adjusted_79 ?_
              refine r_getN (v := .ref (X.2.1 35)) C hw l_31 vc_1 kX1 4 rfl (by decide) nw_313 rfl dX8_adjusted_82 ?_
              refine lv_iload_n C.1 C.2.1 dX8_adjusted_85 rfl (lv_at hl 1 rfl) ?_
              obtain ⟨v7, ev7, h⟩ := bnd h
              refine r_ald C hw l_35 ev7 dX8_adjusted_86 ?_
              exact r_iret C hr hlk hw (Option.some.inj h) rfl dX8_adjusted_87
            · have h := ite_f c6 h
              refine sw_out (ts := 88) C.1 C.2.1 dX8_adjusted_19 [0, 1, 2, 3] (by decide) (by decide) (List.forall_mem_cons.mpr ⟨c3, (List.forall_mem_cons.mpr ⟨c4, (List.forall_mem_cons.mpr ⟨c5, (List.forall_mem_cons.mpr ⟨c6, fun _ h => absurd h List.not_mem_nil⟩)⟩)⟩)⟩) (by decide) ?_
              refine lv_ldc (v := (-100000000)) C.1 C.2.1 C.2.2.2.1 (C.2.2.2.2.1 _ gw_676) dX8_adjusted_88 ?_
              exact r_iret C hr hlk hw (Option.some.inj h) rfl dX8_adjusted_90
    · have h := ite_f c2 h
      refine lv_ldc (v := (-100000000)) C.1 C.2.1 C.2.2.2.1 (C.2.2.2.2.1 _ gw_676) dX8_adjusted_15 ?_
      exact r_iret C hr hlk hw (Option.some.inj h) rfl dX8_adjusted_17
def f_X5_begin_b40 (a1 : Int32) (a2 : Int32) (σ : St) (y3 : Nat) (s1 : Int32) : Option (Nat × St) :=
  nm (upI σ 36 1 s1) fun σ5 => nm (upI σ5 36 0 (if 10 < ((σ5.1 36 0) + 1) then 10 else ((σ5.1 36 0) + 1))) fun σ6 => some (y3, σ6)
def f_X5_begin (σ : St) (a1 : Int32) (a2 : Int32) : Option (Nat × St) :=
  (rdN 10 (σ.1 36 1)).bind fun u1 => nm (upI σ (37 + 1 + u1) 0 a1) fun σ2 => nm (upI σ2 (37 + 1 + u1) 1 a2) fun σ3 => if 9 ≤ (σ3.1 36 1) then (f_X5_begin_b40 a1 a2 σ3 (37 + 1 + u1) 0) else (f_X5_begin_b40 a1 a2 σ3 (37 + 1 + u1) ((σ3.1 36 1) + 1))
set_option maxRecDepth 100000 in
set_option maxHeartbeats 4000000 in
theorem ok_X5_begin (X : Xc) (l : Launch) (σ : St) (a1 : Int32) (a2 : Int32) (r : Nat) (σ' : St) (h : f_X5_begin σ a1 a2 = some (r, σ')) : Ok X l yX5_begin cX5_begin 4 (some (.object "RunningCount$Act")) 1 16 [.ref (X.2.1 36), .int a1, .int a2] σ (some (.ref (X.2.1 r))) σ' := by
  refine Ok.of (by decide) (Nat.le_of_ble_eq_true rfl) ?_
  intro p e s m args below meth c C hr hlk hw ls hl
  have C : Cx p s m args c X cX5_begin 4 "RunningCount$Journal" := C
  have hl : lv_has ls 4 [(0, .ref (X.2.1 36)), (1, .int a1), (2, .int a2)] := hl
  have b40 : ∀ (σ : St) (y3 : Nat) (s1 : Int32), f_X5_begin_b40 a1 a2 σ y3 s1 = some (r, σ') → isA y3 → ∀ (H : Heap) (locs : List Loc), At X σ s.heap H locs → ∀ ls : Array Slot, lv_has ls 4 [(0, .ref (X.2.1 36)), (3, .ref (X.2.1 y3))] → W p l e (rmX 1 16) s m args below meth c H locs 0 0 (Zq X below s args (some (.ref (X.2.1 r))) σ') (F0 m 40 ls [.int s1, .ref (X.2.1 36)]) := by
    intro σ y3 s1 h hy3 H locs hw ls hl
    rw [f_X5_begin_b40] at h
    obtain ⟨σ5, eσ5, h⟩ := nm_d h
    refine r_put C hw l_36 vc_5 kX5 tyX5 tyX5_ok nmX5 1 (by decide) (by decide) gw_373 rfl rfl rfl (put_i l_36 rfl eσ5) dX5_begin_40 (fun H locs hw => ?_)
    refine lv_aload_n C.1 C.2.1 dX5_begin_43 rfl (lv_at hl 0 rfl) ?_
    refine lv_aload_n C.1 C.2.1 dX5_begin_44 rfl (lv_at hl 0 rfl) ?_
    refine r_get (v := .int (σ5.1 36 0)) C hw l_36 vc_5 kX5 0 rfl (by decide) gw_371 rfl dX5_begin_45 ?_
    refine lv_iconst (v := 1) C.1 C.2.1 dX5_begin_48 (by decide) ?_
    refine lv_iadd C.1 C.2.1 dX5_begin_49 ?_
    refine lv_bipush (v := 10) C.1 C.2.1 dX5_begin_50 (by decide) ?_
    refine va_mmin C.1 C.2.1 (C.2.2.1.trans hl.1.symm) C.2.2.2.1 (C.2.2.2.2.1 _ gw_817) (C.2.2.2.2.1 _ gw_459) (C.2.2.2.2.1 _ gw_124) (C.2.2.2.2.1 _ gw_460) (Nat.le_of_ble_eq_true rfl) (Nat.le_of_ble_eq_true rfl) (Nat.le_refl 0) (Nat.le_refl 0) dX5_begin_52 ?_
    obtain ⟨σ6, eσ6, h⟩ := nm_d h
    refine r_put C hw l_36 vc_5 kX5 tyX5 tyX5_ok nmX5 0 (by decide) (by decide) gw_371 rfl rfl rfl (put_i l_36 rfl eσ6) dX5_begin_55 (fun H locs hw => ?_)
    refine lv_aload_n C.1 C.2.1 dX5_begin_58 rfl (lv_at hl 1 rfl) ?_
    exact r_aret C hr hlk hw (Prod.mk.inj (Option.some.inj h)).1 (Prod.mk.inj (Option.some.inj h)).2 dX5_begin_59
  rw [f_X5_begin] at h
  refine lv_aload_n C.1 C.2.1 dX5_begin_0 rfl (lv_at hl 0 rfl) ?_
  refine r_get (v := .ref (X.2.1 37)) C hw l_36 vc_5 kX5 2 rfl (by decide) gw_374 rfl dX5_begin_1 ?_
  refine lv_aload_n C.1 C.2.1 dX5_begin_4 rfl (lv_at hl 0 rfl) ?_
  refine r_get (v := .int (σ.1 36 1)) C hw l_36 vc_5 kX5 1 rfl (by decide) gw_373 rfl dX5_begin_5 ?_
  obtain ⟨u1, eu1, h⟩ := bnd h
  have hAu1 : isA (37 + 1 + u1) := isA_of (rdN_ok eu1).2.2
  refine r_aald C hw l_37 eu1 dX5_begin_8 ?_
  refine lv_astore_n (lv' := [(3, .ref (X.2.1 (37 + 1 + u1))), (0, .ref (X.2.1 36)), (1, .int a1), (2, .int a2)]) C.1 C.2.1 dX5_begin_9 rfl hl (by decide) rfl (fun ls hl => ?_)
  refine lv_aload_n C.1 C.2.1 dX5_begin_10 rfl (lv_at hl 0 rfl) ?_
  refine lv_iload_n C.1 C.2.1 dX5_begin_11 rfl (lv_at hl 2 rfl) ?_
  obtain ⟨σ2, eσ2, h⟩ := nm_d h
  refine r_putN C hw (la_o hAu1) vc_0 kX0 tyX0 tyX0_ok nmX0 0 (by decide) (by decide) nw_338 rfl rfl rfl (put_i (la_o hAu1) rfl eσ2) dX5_begin_12 (fun H locs hw => ?_)
  refine lv_aload_n C.1 C.2.1 dX5_begin_15 rfl (lv_at hl 0 rfl) ?_
  refine lv_iload_n C.1 C.2.1 dX5_begin_16 rfl (lv_at hl 3 rfl) ?_
  obtain ⟨σ3, eσ3, h⟩ := nm_d h
  refine r_putN C hw (la_o hAu1) vc_0 kX0 tyX0 tyX0_ok nmX0 1 (by decide) (by decide) nw_340 rfl rfl rfl (put_i (la_o hAu1) rfl eσ3) dX5_begin_17 (fun H locs hw => ?_)
  refine lv_aload_n C.1 C.2.1 dX5_begin_20 rfl (lv_at hl 1 rfl) ?_
  refine lv_aload_n C.1 C.2.1 dX5_begin_21 rfl (lv_at hl 1 rfl) ?_
  refine r_get (v := .int (σ3.1 36 1)) C hw l_36 vc_5 kX5 1 rfl (by decide) gw_373 rfl dX5_begin_22 ?_
  refine lv_bipush (v := 9) C.1 C.2.1 dX5_begin_25 (by decide) ?_
  refine lv_icmp_ge (tgt := 39) C.1 C.2.1 dX5_begin_27 (by decide) (fun c4 => ?_) (fun c4 => ?_)
  · have h := ite_t c4 h
    refine lv_iconst (v := 0) C.1 C.2.1 dX5_begin_39 (by decide) ?_
    exact b40 σ3 (37 + 1 + u1) 0 h hAu1 _ _ hw ls (lv_sub hl [1, 0] rfl)
  · have h := ite_f c4 h
    refine lv_aload_n C.1 C.2.1 dX5_begin_30 rfl (lv_at hl 1 rfl) ?_
    refine r_get (v := .int (σ3.1 36 1)) C hw l_36 vc_5 kX5 1 rfl (by decide) gw_373 rfl dX5_begin_31 ?_
    refine lv_iconst (v := 1) C.1 C.2.1 dX5_begin_34 (by decide) ?_
    refine lv_iadd C.1 C.2.1 dX5_begin_35 ?_
    refine lv_goto (tgt := 40) C.1 C.2.1 dX5_begin_36 (by decide) ?_
    exact b40 σ3 (37 + 1 + u1) ((σ3.1 36 1) + 1) h hAu1 _ _ hw ls (lv_sub hl [1, 0] rfl)
theorem isA_X5_begin {σ : St} {a b : Int32} {q : Nat × St} (h : f_X5_begin σ a b = some q) : isA q.1 := by
  rw [f_X5_begin] at h
  obtain ⟨u, hu, h⟩ := bnd h
  have hu := (rdN_ok hu).2.2
  simp only [nm, f_X5_begin_b40] at h
  split at h <;> (cases h; exact isA_of hu)
def f_X8_moves (σ : St) (a1 : Int32) (a2 : Int32) : Option (Int32 × St) :=
  if (b2i (f_X4_hasItem σ (σ.2.2.1) a1)) = 0 then (some ((-1), σ)) else (if a2 < 1 then (some ((-1), σ)) else (if a2 ≤ 99 then (if (σ.1 (σ.2.2.1) 2) < 40 then ((f_X4_addMove σ (σ.2.2.1) a1 a2).bind fun q9 => (f_X5_begin q9.2 0 q9.1).bind fun q10 => some (q9.1, q10.2)) else (some ((-2), σ))) else (some ((-1), σ))))
set_option maxRecDepth 100000 in
set_option maxHeartbeats 4000000 in
theorem ok_X8_moves (X : Xc) (l : Launch) (σ : St) (a1 : Int32) (a2 : Int32) (r : Int32) (σ' : St) (h : f_X8_moves σ a1 a2 = some (r, σ')) : Ok X l yX8_moves cX8_moves 4 (some .int) 3 68 [.ref (X.2.1 0), .int a1, .int a2] σ (some (.int r)) σ' := by
  refine Ok.of (by decide) (Nat.le_of_ble_eq_true rfl) ?_
  intro p e s m args below meth c C hr hlk hw ls hl
  have C : Cx p s m args c X cX8_moves 4 "RunningCount" := C
  have hl : lv_has ls 4 [(0, .ref (X.2.1 0)), (1, .int a1), (2, .int a2)] := hl
  rw [f_X8_moves] at h
  refine lv_aload_n C.1 C.2.1 dX8_moves_0 rfl (lv_at hl 0 rfl) ?_
  have hz1 := hw.2.2.1
  refine r_get (v := .ref (X.2.1 (σ.2.2.1))) C hw l_0 vc_8 kX8 1 rfl (by decide) gw_409 rfl dX8_moves_1 ?_
  refine lv_iload_n C.1 C.2.1 dX8_moves_4 rfl (lv_at hl 1 rfl) ?_
  refine r_callVN (As := [.int a1]) C hw (ok_X4_hasItem X l σ (σ.2.2.1) a1 hz1 _ rfl) (lg_0 hz1) vc_4 gw_610 nw_667 gw_609 gw_24 gw_117 hl.1 pd_X4_hasItem ⟨Nat.le_of_ble_eq_true rfl, Nat.le_of_ble_eq_true rfl⟩ ⟨Nat.le_refl 0, Nat.le_refl 0⟩ (rest := []) (Nat.le_of_ble_eq_true rfl) dX8_moves_5 rfl (fun H locs hw => ?_)
  refine lv_if_eq (tgt := 22) C.1 C.2.1 dX8_moves_8 (by decide) (fun c3 => ?_) (fun c3 => ?_)
  · have h := ite_t c3 h
    refine lv_iconst (v := (-1)) C.1 C.2.1 dX8_moves_22 (by decide) ?_
    exact r_iret C hr hlk hw (Prod.mk.inj (Option.some.inj h)).1 (Prod.mk.inj (Option.some.inj h)).2 dX8_moves_23
  · have h := ite_f c3 h
    refine lv_iload_n C.1 C.2.1 dX8_moves_11 rfl (lv_at hl 2 rfl) ?_
    refine lv_iconst (v := 1) C.1 C.2.1 dX8_moves_12 (by decide) ?_
    refine lv_icmp_lt (tgt := 22) C.1 C.2.1 dX8_moves_13 (by decide) (fun c4 => ?_) (fun c4 => ?_)
    · have h := ite_t c4 h
      refine lv_iconst (v := (-1)) C.1 C.2.1 dX8_moves_22 (by decide) ?_
      exact r_iret C hr hlk hw (Prod.mk.inj (Option.some.inj h)).1 (Prod.mk.inj (Option.some.inj h)).2 dX8_moves_23
    · have h := ite_f c4 h
      refine lv_iload_n C.1 C.2.1 dX8_moves_16 rfl (lv_at hl 2 rfl) ?_
      refine lv_bipush (v := 99) C.1 C.2.1 dX8_moves_17 (by decide) ?_
      refine lv_icmp_le (tgt := 24) C.1 C.2.1 dX8_moves_19 (by decide) (fun c5 => ?_) (fun c5 => ?_)
      · have h := ite_t c5 h
        refine lv_aload_n C.1 C.2.1 dX8_moves_24 rfl (lv_at hl 0 rfl) ?_
        have hz6 := hw.2.2.1
        refine r_get (v := .ref (X.2.1 (σ.2.2.1))) C hw l_0 vc_8 kX8 1 rfl (by decide) gw_409 rfl dX8_moves_25 ?_
        refine r_getN (v := .int (σ.1 (σ.2.2.1) 2)) C hw (lg_0 hz6) vc_4 kX4 2 rfl (by decide) nw_219 rfl dX8_moves_28 ?_
        refine lv_bipush (v := 40) C.1 C.2.1 dX8_moves_31 (by decide) ?_
        refine lv_icmp_lt (tgt := 39) C.1 C.2.1 dX8_moves_33 (by decide) (fun c7 => ?_) (fun c7 => ?_)
        · have h := ite_t c7 h
          refine lv_aload_n C.1 C.2.1 dX8_moves_39 rfl (lv_at hl 0 rfl) ?_
          have hz8 := hw.2.2.1
          refine r_get (v := .ref (X.2.1 (σ.2.2.1))) C hw l_0 vc_8 kX8 1 rfl (by decide) gw_409 rfl dX8_moves_40 ?_
          refine lv_iload_n C.1 C.2.1 dX8_moves_43 rfl (lv_at hl 1 rfl) ?_
          refine lv_iload_n C.1 C.2.1 dX8_moves_44 rfl (lv_at hl 2 rfl) ?_
          obtain ⟨q9, eq9, h⟩ := bnd h
          refine r_callVN (As := [.int a1, .int a2]) C hw (ok_X4_addMove X l σ (σ.2.2.1) a1 a2 hz8 _ _ eq9) (lg_0 hz8) vc_4 gw_629 nw_812 gw_628 gw_28 gw_117 hl.1 pd_X4_addMove ⟨Nat.le_of_ble_eq_true rfl, Nat.le_of_ble_eq_true rfl⟩ ⟨Nat.le_refl 0, Nat.le_refl 0⟩ (rest := []) (Nat.le_of_ble_eq_true rfl) dX8_moves_45 rfl (fun H locs hw => ?_)
          refine lv_istore_n (lv' := [(3, .int q9.1), (0, .ref (X.2.1 0)), (1, .int a1), (2, .int a2)]) C.1 C.2.1 dX8_moves_48 rfl hl (by decide) rfl (fun ls hl => ?_)
          refine lv_aload_n C.1 C.2.1 dX8_moves_49 rfl (lv_at hl 1 rfl) ?_
          refine r_get (v := .ref (X.2.1 36)) C hw l_0 vc_8 kX8 5 rfl (by decide) gw_413 rfl dX8_moves_50 ?_
          refine lv_iconst (v := 0) C.1 C.2.1 dX8_moves_53 (by decide) ?_
          refine lv_iload_n C.1 C.2.1 dX8_moves_54 rfl (lv_at hl 0 rfl) ?_
          obtain ⟨q10, eq10, h⟩ := bnd h
          refine r_callVN (As := [.int 0, .int q9.1]) C hw (ok_X5_begin X l q9.2 0 q9.1 _ _ eq10) l_36 vc_5 gw_816 nw_813 gw_815 gw_55 gw_120 hl.1 pd_X5_begin ⟨Nat.le_of_ble_eq_true rfl, Nat.le_of_ble_eq_true rfl⟩ ⟨Nat.le_refl 0, Nat.le_refl 0⟩ (rest := []) (Nat.le_of_ble_eq_true rfl) dX8_moves_55 rfl (fun H locs hw => ?_)
          have hA11 : isA q10.1 := isA_X5_begin eq10
          refine lv_pop C.1 C.2.1 dX8_moves_58 rfl ?_
          refine lv_iload_n C.1 C.2.1 dX8_moves_59 rfl (lv_at hl 0 rfl) ?_
          exact r_iret C hr hlk hw (Prod.mk.inj (Option.some.inj h)).1 (Prod.mk.inj (Option.some.inj h)).2 dX8_moves_60
        · have h := ite_f c7 h
          refine lv_bipush (v := (-2)) C.1 C.2.1 dX8_moves_36 (by decide) ?_
          exact r_iret C hr hlk hw (Prod.mk.inj (Option.some.inj h)).1 (Prod.mk.inj (Option.some.inj h)).2 dX8_moves_38
      · have h := ite_f c5 h
        refine lv_iconst (v := (-1)) C.1 C.2.1 dX8_moves_22 (by decide) ?_
        exact r_iret C hr hlk hw (Prod.mk.inj (Option.some.inj h)).1 (Prod.mk.inj (Option.some.inj h)).2 dX8_moves_23
def f_X8_isLeg (σ : St) (a0 : Int32) : Bool :=
  if a0 = 0 then (true) else (if a0 = 1 then (true) else (false))
set_option maxRecDepth 100000 in
set_option maxHeartbeats 4000000 in
theorem ok_X8_isLeg (X : Xc) (l : Launch) (σ : St) (a0 : Int32) (r : Bool) (h : f_X8_isLeg σ a0 = r) : Ok X l yX8_isLeg cX8_isLeg 1 (some .boolean) 0 0 [.int a0] σ (some (.int (b2i r))) σ := by
  refine Ok.of (by decide) (Nat.le_of_ble_eq_true rfl) ?_
  intro p e s m args below meth c C hr hlk hw ls hl
  have C : Cx p s m args c X cX8_isLeg 1 "RunningCount" := C
  have hl : lv_has ls 1 [(0, .int a0)] := hl
  rw [f_X8_isLeg] at h
  refine lv_iload_n C.1 C.2.1 dX8_isLeg_0 rfl (lv_at hl 0 rfl) ?_
  refine lv_if_eq (tgt := 9) C.1 C.2.1 dX8_isLeg_1 (by decide) (fun c1 => ?_) (fun c1 => ?_)
  · have h := ite_t c1 h
    refine lv_iconst (v := 1) C.1 C.2.1 dX8_isLeg_9 (by decide) ?_
    refine lv_goto (tgt := 14) C.1 C.2.1 dX8_isLeg_10 (by decide) ?_
    exact r_zret C hr hlk hw rfl h rfl dX8_isLeg_14
  · have h := ite_f c1 h
    refine lv_iload_n C.1 C.2.1 dX8_isLeg_4 rfl (lv_at hl 0 rfl) ?_
    refine lv_iconst (v := 1) C.1 C.2.1 dX8_isLeg_5 (by decide) ?_
    refine lv_icmp_ne (tgt := 13) C.1 C.2.1 dX8_isLeg_6 (by decide) (fun c2 => ?_) (fun c2 => ?_)
    · have h := ite_f c2 h
      refine lv_iconst (v := 0) C.1 C.2.1 dX8_isLeg_13 (by decide) ?_
      exact r_zret C hr hlk hw rfl h rfl dX8_isLeg_14
    · have h := ite_t c2 h
      refine lv_iconst (v := 1) C.1 C.2.1 dX8_isLeg_9 (by decide) ?_
      refine lv_goto (tgt := 14) C.1 C.2.1 dX8_isLeg_10 (by decide) ?_
      exact r_zret C hr hlk hw rfl h rfl dX8_isLeg_14
def f_X8_isSpan (σ : St) (a0 : Int32) (a1 : Int32) : Bool :=
  if (b2i (f_X8_isInstant σ a0)) = 0 then (false) else (if (b2i (f_X8_isInstant σ a1)) = 0 then (false) else (if a1 < a0 then (false) else (true)))
set_option maxRecDepth 100000 in
set_option maxHeartbeats 4000000 in
theorem ok_X8_isSpan (X : Xc) (l : Launch) (σ : St) (a0 : Int32) (a1 : Int32) (r : Bool) (h : f_X8_isSpan σ a0 a1 = r) : Ok X l yX8_isSpan cX8_isSpan 2 (some .boolean) 1 20 [.int a0, .int a1] σ (some (.int (b2i r))) σ := by
  refine Ok.of (by decide) (Nat.le_of_ble_eq_true rfl) ?_
  intro p e s m args below meth c C hr hlk hw ls hl
  have C : Cx p s m args c X cX8_isSpan 2 "RunningCount" := C
  have hl : lv_has ls 2 [(0, .int a0), (1, .int a1)] := hl
  rw [f_X8_isSpan] at h
  refine lv_iload_n C.1 C.2.1 dX8_isSpan_0 rfl (lv_at hl 0 rfl) ?_
  refine r_callS (As := [.int a0]) C hw (ok_X8_isInstant X l σ a0 _ rfl) gw_675 gw_673 gw_674 gw_114 hl.1 pd_X8_isInstant ⟨Nat.le_of_ble_eq_true rfl, Nat.le_of_ble_eq_true rfl⟩ ⟨Nat.le_refl 0, Nat.le_refl 0⟩ (rest := []) (Nat.le_of_ble_eq_true rfl) dX8_isSpan_1 rfl (fun H locs hw => ?_)
  refine lv_if_eq (tgt := 23) C.1 C.2.1 dX8_isSpan_4 (by decide) (fun c2 => ?_) (fun c2 => ?_)
  · have h := ite_t c2 h
    refine lv_iconst (v := 0) C.1 C.2.1 dX8_isSpan_23 (by decide) ?_
    exact r_zret C hr hlk hw rfl h rfl dX8_isSpan_24
  · have h := ite_f c2 h
    refine lv_iload_n C.1 C.2.1 dX8_isSpan_7 rfl (lv_at hl 1 rfl) ?_
    refine r_callS (As := [.int a1]) C hw (ok_X8_isInstant X l σ a1 _ rfl) gw_675 gw_673 gw_674 gw_114 hl.1 pd_X8_isInstant ⟨Nat.le_of_ble_eq_true rfl, Nat.le_of_ble_eq_true rfl⟩ ⟨Nat.le_refl 0, Nat.le_refl 0⟩ (rest := []) (Nat.le_of_ble_eq_true rfl) dX8_isSpan_8 rfl (fun H locs hw => ?_)
    refine lv_if_eq (tgt := 23) C.1 C.2.1 dX8_isSpan_11 (by decide) (fun c4 => ?_) (fun c4 => ?_)
    · have h := ite_t c4 h
      refine lv_iconst (v := 0) C.1 C.2.1 dX8_isSpan_23 (by decide) ?_
      exact r_zret C hr hlk hw rfl h rfl dX8_isSpan_24
    · have h := ite_f c4 h
      refine lv_iload_n C.1 C.2.1 dX8_isSpan_14 rfl (lv_at hl 0 rfl) ?_
      refine lv_iload_n C.1 C.2.1 dX8_isSpan_15 rfl (lv_at hl 1 rfl) ?_
      refine lv_icmp_gt (tgt := 23) C.1 C.2.1 dX8_isSpan_16 (by decide) (fun c5 => ?_) (fun c5 => ?_)
      · have h := ite_t c5 h
        refine lv_iconst (v := 0) C.1 C.2.1 dX8_isSpan_23 (by decide) ?_
        exact r_zret C hr hlk hw rfl h rfl dX8_isSpan_24
      · have h := ite_f c5 h
        refine lv_iconst (v := 1) C.1 C.2.1 dX8_isSpan_19 (by decide) ?_
        refine lv_goto (tgt := 24) C.1 C.2.1 dX8_isSpan_20 (by decide) ?_
        exact r_zret C hr hlk hw rfl h rfl dX8_isSpan_24
def f_X8_leg (σ : St) (a1 : Int32) (a2 : Int32) (a3 : Int32) (a4 : Int32) (a5 : Int32) : Option (Bool × St) :=
  if (b2i (f_X4_hasMove σ (σ.2.2.1) a1)) = 0 then (some (false, σ)) else (if (b2i (f_X8_isLeg σ a2)) = 0 then (some (false, σ)) else (if (b2i (f_X4_hasShelf σ (σ.2.2.1) a3)) = 0 then (some (false, σ)) else (if (b2i (f_X8_isSpan σ a4 a5)) = 0 then (some (false, σ)) else ((f_X4_isThere σ (σ.2.2.1) (f_X8_legOf σ a1 a2)).bind fun q13 => if (b2i q13) = 0 then ((f_X4_setLeg σ (σ.2.2.1) (f_X8_legOf σ a1 a2) a3 a4 a5).bind fun q17 => (f_X5_begin q17 1 (f_X8_legOf q17 a1 a2)).bind fun q19 => some (true, q19.2)) else (some (false, σ))))))
set_option maxRecDepth 100000 in
set_option maxHeartbeats 4000000 in
theorem ok_X8_leg (X : Xc) (l : Launch) (σ : St) (a1 : Int32) (a2 : Int32) (a3 : Int32) (a4 : Int32) (a5 : Int32) (r : Bool) (σ' : St) (h : f_X8_leg σ a1 a2 a3 a4 a5 = some (r, σ')) : Ok X l yX8_leg cX8_leg 6 (some .boolean) 2 41 [.ref (X.2.1 0), .int a1, .int a2, .int a3, .int a4, .int a5] σ (some (.int (b2i r))) σ' := by
  refine Ok.of (by decide) (Nat.le_of_ble_eq_true rfl) ?_
  intro p e s m args below meth c C hr hlk hw ls hl
  have C : Cx p s m args c X cX8_leg 6 "RunningCount" := C
  have hl : lv_has ls 6 [(0, .ref (X.2.1 0)), (1, .int a1), (2, .int a2), (3, .int a3), (4, .int a4), (5, .int a5)] := hl
  rw [f_X8_leg] at h
  refine lv_aload_n C.1 C.2.1 dX8_leg_0 rfl (lv_at hl 0 rfl) ?_
  have hz1 := hw.2.2.1
  refine r_get (v := .ref (X.2.1 (σ.2.2.1))) C hw l_0 vc_8 kX8 1 rfl (by decide) gw_409 rfl dX8_leg_1 ?_
  refine lv_iload_n C.1 C.2.1 dX8_leg_4 rfl (lv_at hl 1 rfl) ?_
  refine r_callVN (As := [.int a1]) C hw (ok_X4_hasMove X l σ (σ.2.2.1) a1 hz1 _ rfl) (lg_0 hz1) vc_4 gw_825 nw_822 gw_824 gw_56 gw_117 hl.1 pd_X4_hasMove ⟨Nat.le_of_ble_eq_true rfl, Nat.le_of_ble_eq_true rfl⟩ ⟨Nat.le_refl 0, Nat.le_refl 0⟩ (rest := []) (Nat.le_of_ble_eq_true rfl) dX8_leg_5 rfl (fun H locs hw => ?_)
  refine lv_if_eq (tgt := 39) C.1 C.2.1 dX8_leg_8 (by decide) (fun c3 => ?_) (fun c3 => ?_)
  · have h := ite_t c3 h
    refine lv_iconst (v := 0) C.1 C.2.1 dX8_leg_39 (by decide) ?_
    exact r_zret C hr hlk hw rfl (Prod.mk.inj (Option.some.inj h)).1 (Prod.mk.inj (Option.some.inj h)).2 dX8_leg_40
  · have h := ite_f c3 h
    refine lv_iload_n C.1 C.2.1 dX8_leg_11 rfl (lv_at hl 2 rfl) ?_
    refine r_callS (As := [.int a2]) C hw (ok_X8_isLeg X l σ a2 _ rfl) gw_828 gw_826 gw_827 gw_114 hl.1 pd_X8_isLeg ⟨Nat.le_of_ble_eq_true rfl, Nat.le_of_ble_eq_true rfl⟩ ⟨Nat.le_refl 0, Nat.le_refl 0⟩ (rest := []) (Nat.le_of_ble_eq_true rfl) dX8_leg_12 rfl (fun H locs hw => ?_)
    refine lv_if_eq (tgt := 39) C.1 C.2.1 dX8_leg_15 (by decide) (fun c5 => ?_) (fun c5 => ?_)
    · have h := ite_t c5 h
      refine lv_iconst (v := 0) C.1 C.2.1 dX8_leg_39 (by decide) ?_
      exact r_zret C hr hlk hw rfl (Prod.mk.inj (Option.some.inj h)).1 (Prod.mk.inj (Option.some.inj h)).2 dX8_leg_40
    · have h := ite_f c5 h
      refine lv_aload_n C.1 C.2.1 dX8_leg_18 rfl (lv_at hl 0 rfl) ?_
      have hz6 := hw.2.2.1
      refine r_get (v := .ref (X.2.1 (σ.2.2.1))) C hw l_0 vc_8 kX8 1 rfl (by decide) gw_409 rfl dX8_leg_19 ?_
      refine lv_iload_n C.1 C.2.1 dX8_leg_22 rfl (lv_at hl 3 rfl) ?_
      refine r_callVN (As := [.int a3]) C hw (ok_X4_hasShelf X l σ (σ.2.2.1) a3 hz6 _ rfl) (lg_0 hz6) vc_4 gw_606 nw_829 gw_605 gw_23 gw_117 hl.1 pd_X4_hasShelf ⟨Nat.le_of_ble_eq_true rfl, Nat.le_of_ble_eq_true rfl⟩ ⟨Nat.le_refl 0, Nat.le_refl 0⟩ (rest := []) (Nat.le_of_ble_eq_true rfl) dX8_leg_23 rfl (fun H locs hw => ?_)
      refine lv_if_eq (tgt := 39) C.1 C.2.1 dX8_leg_26 (by decide) (fun c8 => ?_) (fun c8 => ?_)
      · have h := ite_t c8 h
        refine lv_iconst (v := 0) C.1 C.2.1 dX8_leg_39 (by decide) ?_
        exact r_zret C hr hlk hw rfl (Prod.mk.inj (Option.some.inj h)).1 (Prod.mk.inj (Option.some.inj h)).2 dX8_leg_40
      · have h := ite_f c8 h
        refine lv_iload C.1 C.2.1 dX8_leg_29 (lv_at hl 4 rfl) ?_
        refine lv_iload C.1 C.2.1 dX8_leg_31 (lv_at hl 5 rfl) ?_
        refine r_callS (As := [.int a4, .int a5]) C hw (ok_X8_isSpan X l σ a4 a5 _ rfl) gw_832 gw_830 gw_831 gw_114 hl.1 pd_X8_isSpan ⟨Nat.le_of_ble_eq_true rfl, Nat.le_of_ble_eq_true rfl⟩ ⟨Nat.le_refl 0, Nat.le_refl 0⟩ (rest := []) (Nat.le_of_ble_eq_true rfl) dX8_leg_33 rfl (fun H locs hw => ?_)
        refine lv_if_ne (tgt := 41) C.1 C.2.1 dX8_leg_36 (by decide) (fun c10 => ?_) (fun c10 => ?_)
        · have h := ite_f c10 h
          refine lv_aload_n C.1 C.2.1 dX8_leg_41 rfl (lv_at hl 0 rfl) ?_
          have hz11 := hw.2.2.1
          refine r_get (v := .ref (X.2.1 (σ.2.2.1))) C hw l_0 vc_8 kX8 1 rfl (by decide) gw_409 rfl dX8_leg_42 ?_
          refine lv_iload_n C.1 C.2.1 dX8_leg_45 rfl (lv_at hl 1 rfl) ?_
          refine lv_iload_n C.1 C.2.1 dX8_leg_46 rfl (lv_at hl 2 rfl) ?_
          refine r_callS (As := [.int a1, .int a2]) C hw (ok_X8_legOf X l σ a1 a2 _ rfl) gw_632 gw_719 gw_631 gw_114 hl.1 pd_X8_legOf ⟨Nat.le_of_ble_eq_true rfl, Nat.le_of_ble_eq_true rfl⟩ ⟨Nat.le_refl 0, Nat.le_refl 0⟩ (rest := [.ref (X.2.1 (σ.2.2.1))]) (Nat.le_of_ble_eq_true rfl) dX8_leg_47 rfl (fun H locs hw => ?_)
          obtain ⟨q13, eq13, h⟩ := bnd h
          refine r_callVN (As := [.int (f_X8_legOf σ a1 a2)]) C hw (ok_X4_isThere X l σ (σ.2.2.1) (f_X8_legOf σ a1 a2) hz11 _ eq13) (lg_0 hz11) vc_4 gw_723 nw_720 gw_722 gw_43 gw_117 hl.1 pd_X4_isThere ⟨Nat.le_of_ble_eq_true rfl, Nat.le_of_ble_eq_true rfl⟩ ⟨Nat.le_refl 0, Nat.le_refl 0⟩ (rest := []) (Nat.le_of_ble_eq_true rfl) dX8_leg_50 rfl (fun H locs hw => ?_)
          refine lv_if_eq (tgt := 58) C.1 C.2.1 dX8_leg_53 (by decide) (fun c14 => ?_) (fun c14 => ?_)
          · have h := ite_t c14 h
            refine lv_aload_n C.1 C.2.1 dX8_leg_58 rfl (lv_at hl 0 rfl) ?_
            have hz15 := hw.2.2.1
            refine r_get (v := .ref (X.2.1 (σ.2.2.1))) C hw l_0 vc_8 kX8 1 rfl (by decide) gw_409 rfl dX8_leg_59 ?_
            refine lv_iload_n C.1 C.2.1 dX8_leg_62 rfl (lv_at hl 1 rfl) ?_
            refine lv_iload_n C.1 C.2.1 dX8_leg_63 rfl (lv_at hl 2 rfl) ?_
            refine r_callS (As := [.int a1, .int a2]) C hw (ok_X8_legOf X l σ a1 a2 _ rfl) gw_632 gw_719 gw_631 gw_114 hl.1 pd_X8_legOf ⟨Nat.le_of_ble_eq_true rfl, Nat.le_of_ble_eq_true rfl⟩ ⟨Nat.le_refl 0, Nat.le_refl 0⟩ (rest := [.ref (X.2.1 (σ.2.2.1))]) (Nat.le_of_ble_eq_true rfl) dX8_leg_64 rfl (fun H locs hw => ?_)
            refine lv_iload_n C.1 C.2.1 dX8_leg_67 rfl (lv_at hl 3 rfl) ?_
            refine lv_iload C.1 C.2.1 dX8_leg_68 (lv_at hl 4 rfl) ?_
            refine lv_iload C.1 C.2.1 dX8_leg_70 (lv_at hl 5 rfl) ?_
            obtain ⟨q17, eq17, h⟩ := bnd h
            refine r_callVN (As := [.int (f_X8_legOf σ a1 a2), .int a3, .int a4, .int a5]) C hw (ok_X4_setLeg X l σ (σ.2.2.1) (f_X8_legOf σ a1 a2) a3 a4 a5 hz15 _ eq17) (lg_0 hz15) vc_4 gw_640 nw_833 gw_639 gw_30 gw_117 hl.1 pd_X4_setLeg ⟨Nat.le_of_ble_eq_true rfl, Nat.le_of_ble_eq_true rfl⟩ ⟨Nat.le_refl 0, Nat.le_refl 0⟩ (rest := []) (Nat.le_of_ble_eq_true rfl) dX8_leg_72 rfl (fun H locs hw => ?_)
            refine lv_aload_n C.1 C.2.1 dX8_leg_75 rfl (lv_at hl 0 rfl) ?_
            refine r_get (v := .ref (X.2.1 36)) C hw l_0 vc_8 kX8 5 rfl (by decide) gw_413 rfl dX8_leg_76 ?_
            refine lv_iconst (v := 1) C.1 C.2.1 dX8_leg_79 (by decide) ?_
            refine lv_iload_n C.1 C.2.1 dX8_leg_80 rfl (lv_at hl 1 rfl) ?_
            refine lv_iload_n C.1 C.2.1 dX8_leg_81 rfl (lv_at hl 2 rfl) ?_
            refine r_callS (As := [.int a1, .int a2]) C hw (ok_X8_legOf X l q17 a1 a2 _ rfl) gw_632 gw_719 gw_631 gw_114 hl.1 pd_X8_legOf ⟨Nat.le_of_ble_eq_true rfl, Nat.le_of_ble_eq_true rfl⟩ ⟨Nat.le_refl 0, Nat.le_refl 0⟩ (rest := [.int 1, .ref (X.2.1 36)]) (Nat.le_of_ble_eq_true rfl) dX8_leg_82 rfl (fun H locs hw => ?_)
            obtain ⟨q19, eq19, h⟩ := bnd h
            refine r_callVN (As := [.int 1, .int (f_X8_legOf q17 a1 a2)]) C hw (ok_X5_begin X l q17 1 (f_X8_legOf q17 a1 a2) _ _ eq19) l_36 vc_5 gw_816 nw_813 gw_815 gw_55 gw_120 hl.1 pd_X5_begin ⟨Nat.le_of_ble_eq_true rfl, Nat.le_of_ble_eq_true rfl⟩ ⟨Nat.le_refl 0, Nat.le_refl 0⟩ (rest := []) (Nat.le_of_ble_eq_true rfl) dX8_leg_85 rfl (fun H locs hw => ?_)
            have hA20 : isA q19.1 := isA_X5_begin eq19
            refine lv_pop C.1 C.2.1 dX8_leg_88 rfl ?_
            refine lv_iconst (v := 1) C.1 C.2.1 dX8_leg_89 (by decide) ?_
            exact r_zret C hr hlk hw rfl (Prod.mk.inj (Option.some.inj h)).1 (Prod.mk.inj (Option.some.inj h)).2 dX8_leg_90
          · have h := ite_f c14 h
            refine lv_iconst (v := 0) C.1 C.2.1 dX8_leg_56 (by decide) ?_
            exact r_zret C hr hlk hw rfl (Prod.mk.inj (Option.some.inj h)).1 (Prod.mk.inj (Option.some.inj h)).2 dX8_leg_57
        · have h := ite_t c10 h
          refine lv_iconst (v := 0) C.1 C.2.1 dX8_leg_39 (by decide) ?_
          exact r_zret C hr hlk hw rfl (Prod.mk.inj (Option.some.inj h)).1 (Prod.mk.inj (Option.some.inj h)).2 dX8_leg_40
def f_X4_setSpan (σ : St) (g0 : Nat) (a1 : Int32) (a2 : Int32) (a3 : Int32) : Option St :=
  if a1 < 0 then (some σ) else (if 80 ≤ a1 then (some σ) else ((wr σ (g0 + 7) 80 a1 a2).bind fun σ3 => (wr σ3 (g0 + 8) 80 a1 a3).bind fun σ4 => some σ4))
set_option maxRecDepth 100000 in
set_option maxHeartbeats 4000000 in
theorem ok_X4_setSpan (X : Xc) (l : Launch) (σ : St) (g0 : Nat) (a1 : Int32) (a2 : Int32) (a3 : Int32) (hg0 : isG g0) (σ' : St) (h : f_X4_setSpan σ g0 a1 a2 a3 = some σ') : Ok X l yX4_setSpan cX4_setSpan 4 none 0 0 [.ref (X.2.1 g0), .int a1, .int a2, .int a3] σ none σ' := by
  refine Ok.of (by decide) (Nat.le_of_ble_eq_true rfl) ?_
  intro p e s m args below meth c C hr hlk hw ls hl
  have C : Cx p s m args c X cX4_setSpan 4 "RunningCount$Goods" := C
  have hl : lv_has ls 4 [(0, .ref (X.2.1 g0)), (1, .int a1), (2, .int a2), (3, .int a3)] := hl
  rw [f_X4_setSpan] at h
  refine lv_iload_n C.1 C.2.1 dX4_setSpan_0 rfl (lv_at hl 1 rfl) ?_
  refine lv_if_lt (tgt := 24) C.1 C.2.1 dX4_setSpan_1 (by decide) (fun c1 => ?_) (fun c1 => ?_)
  · have h := ite_t c1 h
    exact r_vret C hr hlk hw (Option.some.inj h) dX4_setSpan_24
  · have h := ite_f c1 h
    refine lv_iload_n C.1 C.2.1 dX4_setSpan_4 rfl (lv_at hl 1 rfl) ?_
    refine lv_bipush (v := 80) C.1 C.2.1 dX4_setSpan_5 (by decide) ?_
    refine lv_icmp_ge (tgt := 24) C.1 C.2.1 dX4_setSpan_7 (by decide) (fun c2 => ?_) (fun c2 => ?_)
    · have h := ite_t c2 h
      exact r_vret C hr hlk hw (Option.some.inj h) dX4_setSpan_24
    · have h := ite_f c2 h
      refine lv_aload_n C.1 C.2.1 dX4_setSpan_10 rfl (lv_at hl 0 rfl) ?_
      refine r_get (v := .ref (X.2.1 (g0 + 7))) C hw (lg_0 hg0) vc_4 kX4 9 rfl (by decide) gw_235 rfl dX4_setSpan_11 ?_
      refine lv_iload_n C.1 C.2.1 dX4_setSpan_14 rfl (lv_at hl 1 rfl) ?_
      refine lv_iload_n C.1 C.2.1 dX4_setSpan_15 rfl (lv_at hl 2 rfl) ?_
      obtain ⟨σ3, eσ3, h⟩ := bnd h
      refine r_ast C hw (lg_7 hg0) eσ3 dX4_setSpan_16 (fun H locs hw => ?_)
      refine lv_aload_n C.1 C.2.1 dX4_setSpan_17 rfl (lv_at hl 0 rfl) ?_
      refine r_get (v := .ref (X.2.1 (g0 + 8))) C hw (lg_0 hg0) vc_4 kX4 10 rfl (by decide) gw_237 rfl dX4_setSpan_18 ?_
      refine lv_iload_n C.1 C.2.1 dX4_setSpan_21 rfl (lv_at hl 1 rfl) ?_
      refine lv_iload_n C.1 C.2.1 dX4_setSpan_22 rfl (lv_at hl 3 rfl) ?_
      obtain ⟨σ4, eσ4, h⟩ := bnd h
      refine r_ast C hw (lg_8 hg0) eσ4 dX4_setSpan_23 (fun H locs hw => ?_)
      exact r_vret C hr hlk hw (Option.some.inj h) dX4_setSpan_24
def f_X8_narrow (σ : St) (a1 : Int32) (a2 : Int32) (a3 : Int32) (a4 : Int32) : Option (Int32 × St) :=
  if (b2i (f_X4_hasMove σ (σ.2.2.1) a1)) = 0 then (some ((-1), σ)) else (if (b2i (f_X8_isLeg σ a2)) = 0 then (some ((-1), σ)) else ((f_X4_isThere σ (σ.2.2.1) (f_X8_legOf σ a1 a2)).bind fun q8 => if (b2i q8) = 0 then (some ((-1), σ)) else (nm ((f_X8_legOf σ a1 a2)) fun v11 => (rd σ ((σ.2.2.1) + 7) 80 v11).bind fun v13 => (rd σ ((σ.2.2.1) + 8) 80 v11).bind fun v15 => if a3 < v13 then (some ((-1), σ)) else (if v15 < a4 then (some ((-1), σ)) else (if a3 ≤ a4 then ((f_X5_begin σ 2 v11).bind fun q19 => nm (upI q19.2 q19.1 2 v13) fun σ21 => nm (upI σ21 q19.1 3 v15) fun σ22 => (f_X4_setSpan σ22 (σ22.2.2.1) v11 a3 a4).bind fun q24 => some ((v15 - v13) - (a4 - a3), q24)) else (some ((-1), σ)))))))
set_option maxRecDepth 100000 in
set_option maxHeartbeats 4000000 in
theorem ok_X8_narrow (X : Xc) (l : Launch) (σ : St) (a1 : Int32) (a2 : Int32) (a3 : Int32) (a4 : Int32) (r : Int32) (σ' : St) (h : f_X8_narrow σ a1 a2 a3 a4 = some (r, σ')) : Ok X l yX8_narrow cX8_narrow 9 (some .int) 2 39 [.ref (X.2.1 0), .int a1, .int a2, .int a3, .int a4] σ (some (.int r)) σ' := by
  refine Ok.of (by decide) (Nat.le_of_ble_eq_true rfl) ?_
  intro p e s m args below meth c C hr hlk hw ls hl
  have C : Cx p s m args c X cX8_narrow 9 "RunningCount" := C
  have hl : lv_has ls 9 [(0, .ref (X.2.1 0)), (1, .int a1), (2, .int a2), (3, .int a3), (4, .int a4)] := hl
  rw [f_X8_narrow] at h
  refine lv_aload_n C.1 C.2.1 dX8_narrow_0 rfl (lv_at hl 0 rfl) ?_
  have hz1 := hw.2.2.1
  refine r_get (v := .ref (X.2.1 (σ.2.2.1))) C hw l_0 vc_8 kX8 1 rfl (by decide) gw_409 rfl dX8_narrow_1 ?_
  refine lv_iload_n C.1 C.2.1 dX8_narrow_4 rfl (lv_at hl 1 rfl) ?_
  refine r_callVN (As := [.int a1]) C hw (ok_X4_hasMove X l σ (σ.2.2.1) a1 hz1 _ rfl) (lg_0 hz1) vc_4 gw_825 nw_822 gw_824 gw_56 gw_117 hl.1 pd_X4_hasMove ⟨Nat.le_of_ble_eq_true rfl, Nat.le_of_ble_eq_true rfl⟩ ⟨Nat.le_refl 0, Nat.le_refl 0⟩ (rest := []) (Nat.le_of_ble_eq_true rfl) dX8_narrow_5 rfl (fun H locs hw => ?_)
  refine lv_if_eq (tgt := 33) C.1 C.2.1 dX8_narrow_8 (by decide) (fun c3 => ?_) (fun c3 => ?_)
  · have h := ite_t c3 h
    refine lv_iconst (v := (-1)) C.1 C.2.1 dX8_narrow_33 (by decide) ?_
    exact r_iret C hr hlk hw (Prod.mk.inj (Option.some.inj h)).1 (Prod.mk.inj (Option.some.inj h)).2 dX8_narrow_34
  · have h := ite_f c3 h
    refine lv_iload_n C.1 C.2.1 dX8_narrow_11 rfl (lv_at hl 2 rfl) ?_
    refine r_callS (As := [.int a2]) C hw (ok_X8_isLeg X l σ a2 _ rfl) gw_828 gw_826 gw_827 gw_114 hl.1 pd_X8_isLeg ⟨Nat.le_of_ble_eq_true rfl, Nat.le_of_ble_eq_true rfl⟩ ⟨Nat.le_refl 0, Nat.le_refl 0⟩ (rest := []) (Nat.le_of_ble_eq_true rfl) dX8_narrow_12 rfl (fun H locs hw => ?_)
    refine lv_if_eq (tgt := 33) C.1 C.2.1 dX8_narrow_15 (by decide) (fun c5 => ?_) (fun c5 => ?_)
    · have h := ite_t c5 h
      refine lv_iconst (v := (-1)) C.1 C.2.1 dX8_narrow_33 (by decide) ?_
      exact r_iret C hr hlk hw (Prod.mk.inj (Option.some.inj h)).1 (Prod.mk.inj (Option.some.inj h)).2 dX8_narrow_34
    · have h := ite_f c5 h
      refine lv_aload_n C.1 C.2.1 dX8_narrow_18 rfl (lv_at hl 0 rfl) ?_
      have hz6 := hw.2.2.1
      refine r_get (v := .ref (X.2.1 (σ.2.2.1))) C hw l_0 vc_8 kX8 1 rfl (by decide) gw_409 rfl dX8_narrow_19 ?_
      refine lv_iload_n C.1 C.2.1 dX8_narrow_22 rfl (lv_at hl 1 rfl) ?_
      refine lv_iload_n C.1 C.2.1 dX8_narrow_23 rfl (lv_at hl 2 rfl) ?_
      refine r_callS (As := [.int a1, .int a2]) C hw (ok_X8_legOf X l σ a1 a2 _ rfl) gw_632 gw_719 gw_631 gw_114 hl.1 pd_X8_legOf ⟨Nat.le_of_ble_eq_true rfl, Nat.le_of_ble_eq_true rfl⟩ ⟨Nat.le_refl 0, Nat.le_refl 0⟩ (rest := [.ref (X.2.1 (σ.2.2.1))]) (Nat.le_of_ble_eq_true rfl) dX8_narrow_24 rfl (fun H locs hw => ?_)
      obtain ⟨q8, eq8, h⟩ := bnd h
      refine r_callVN (As := [.int (f_X8_legOf σ a1 a2)]) C hw (ok_X4_isThere X l σ (σ.2.2.1) (f_X8_legOf σ a1 a2) hz6 _ eq8) (lg_0 hz6) vc_4 gw_723 nw_720 gw_722 gw_43 gw_117 hl.1 pd_X4_isThere ⟨Nat.le_of_ble_eq_true rfl, Nat.le_of_ble_eq_true rfl⟩ ⟨Nat.le_refl 0, Nat.le_refl 0⟩ (rest := []) (Nat.le_of_ble_eq_true rfl) dX8_narrow_27 rfl (fun H locs hw => ?_)
      refine lv_if_ne (tgt := 35) C.1 C.2.1 dX8_narrow_30 (by decide) (fun c9 => ?_) (fun c9 => ?_)
      · have h := ite_f c9 h
        refine lv_iload_n C.1 C.2.1 dX8_narrow_35 rfl (lv_at hl 1 rfl) ?_
        refine lv_iload_n C.1 C.2.1 dX8_narrow_36 rfl (lv_at hl 2 rfl) ?_
        refine r_callS (As := [.int a1, .int a2]) C hw (ok_X8_legOf X l σ a1 a2 _ rfl) gw_632 gw_719 gw_631 gw_114 hl.1 pd_X8_legOf ⟨Nat.le_of_ble_eq_true rfl, Nat.le_of_ble_eq_true rfl⟩ ⟨Nat.le_refl 0, Nat.le_refl 0⟩ (rest := []) (Nat.le_of_ble_eq_true rfl) dX8_narrow_37 rfl (fun H locs hw => ?_)
        obtain ⟨v11, ev11, h⟩ := nm_d h
        refine lv_nm ev11 ?_
        refine lv_istore (lv' := [(5, .int v11), (0, .ref (X.2.1 0)), (1, .int a1), (2, .int a2), (3, .int a3), (4, .int a4)]) C.1 C.2.1 dX8_narrow_40 hl (by decide) rfl (fun ls hl => ?_)
        refine lv_aload_n C.1 C.2.1 dX8_narrow_42 rfl (lv_at hl 1 rfl) ?_
        have hz12 := hw.2.2.1
        refine r_get (v := .ref (X.2.1 (σ.2.2.1))) C hw l_0 vc_8 kX8 1 rfl (by decide) gw_409 rfl dX8_narrow_43 ?_
        refine r_getN (v := .ref (X.2.1 ((σ.2.2.1) + 7))) C hw (lg_0 hz12) vc_4 kX4 9 rfl (by decide) nw_236 rfl dX8_narrow_46 ?_
        refine lv_iload C.1 C.2.1 dX8_narrow_49 (lv_at hl 0 rfl) ?_
        obtain ⟨v13, ev13, h⟩ := bnd h
        refine r_ald C hw (lg_7 hz12) ev13 dX8_narrow_51 ?_
        refine lv_istore (lv' := [(6, .int v13), (5, .int v11), (0, .ref (X.2.1 0)), (1, .int a1), (2, .int a2), (3, .int a3), (4, .int a4)]) C.1 C.2.1 dX8_narrow_52 hl (by decide) rfl (fun ls hl => ?_)
        refine lv_aload_n C.1 C.2.1 dX8_narrow_54 rfl (lv_at hl 2 rfl) ?_
        have hz14 := hw.2.2.1
        refine r_get (v := .ref (X.2.1 (σ.2.2.1))) C hw l_0 vc_8 kX8 1 rfl (by decide) gw_409 rfl dX8_narrow_55 ?_
        refine r_getN (v := .ref (X.2.1 ((σ.2.2.1) + 8))) C hw (lg_0 hz14) vc_4 kX4 10 rfl (by decide) nw_238 rfl dX8_narrow_58 ?_
        refine lv_iload C.1 C.2.1 dX8_narrow_61 (lv_at hl 1 rfl) ?_
        obtain ⟨v15, ev15, h⟩ := bnd h
        refine r_ald C hw (lg_8 hz14) ev15 dX8_narrow_63 ?_
        refine lv_istore (lv' := [(7, .int v15), (6, .int v13), (5, .int v11), (0, .ref (X.2.1 0)), (1, .int a1), (2, .int a2), (3, .int a3), (4, .int a4)]) C.1 C.2.1 dX8_narrow_64 hl (by decide) rfl (fun ls hl => ?_)
        refine lv_iload_n C.1 C.2.1 dX8_narrow_66 rfl (lv_at hl 6 rfl) ?_
        refine lv_iload C.1 C.2.1 dX8_narrow_67 (lv_at hl 1 rfl) ?_
        refine lv_icmp_lt (tgt := 85) C.1 C.2.1 dX8_narrow_69 (by decide) (fun c16 => ?_) (fun c16 => ?_)
        · have h := ite_t c16 h
          refine lv_iconst (v := (-1)) C.1 C.2.1 dX8_narrow_85 (by decide) ?_
          exact r_iret C hr hlk hw (Prod.mk.inj (Option.some.inj h)).1 (Prod.mk.inj (Option.some.inj h)).2 dX8_narrow_86
        · have h := ite_f c16 h
          refine lv_iload C.1 C.2.1 dX8_narrow_72 (lv_at hl 7 rfl) ?_
          refine lv_iload C.1 C.2.1 dX8_narrow_74 (lv_at hl 0 rfl) ?_
          refine lv_icmp_gt (tgt := 85) C.1 C.2.1 dX8_narrow_76 (by decide) (fun c17 => ?_) (fun c17 => ?_)
          · have h := ite_t c17 h
            refine lv_iconst (v := (-1)) C.1 C.2.1 dX8_narrow_85 (by decide) ?_
            exact r_iret C hr hlk hw (Prod.mk.inj (Option.some.inj h)).1 (Prod.mk.inj (Option.some.inj h)).2 dX8_narrow_86
          · have h := ite_f c17 h
            refine lv_iload_n C.1 C.2.1 dX8_narrow_79 rfl (lv_at hl 6 rfl) ?_
            refine lv_iload C.1 C.2.1 dX8_narrow_80 (lv_at hl 7 rfl) ?_
            refine lv_icmp_le (tgt := 87) C.1 C.2.1 dX8_narrow_82 (by decide) (fun c18 => ?_) (fun c18 => ?_)
            · have h := ite_t c18 h
              refine lv_aload_n C.1 C.2.1 dX8_narrow_87 rfl (lv_at hl 3 rfl) ?_
              refine r_get (v := .ref (X.2.1 36)) C hw l_0 vc_8 kX8 5 rfl (by decide) gw_413 rfl dX8_narrow_88 ?_
              refine lv_iconst (v := 2) C.1 C.2.1 dX8_narrow_91 (by decide) ?_
              refine lv_iload C.1 C.2.1 dX8_narrow_92 (lv_at hl 2 rfl) ?_
              obtain ⟨q19, eq19, h⟩ := bnd h
              refine r_callVN (As := [.int 2, .int v11]) C hw (ok_X5_begin X l σ 2 v11 _ _ eq19) l_36 vc_5 gw_816 nw_813 gw_815 gw_55 gw_120 hl.1 pd_X5_begin ⟨Nat.le_of_ble_eq_true rfl, Nat.le_of_ble_eq_true rfl⟩ ⟨Nat.le_refl 0, Nat.le_refl 0⟩ (rest := []) (Nat.le_of_ble_eq_true rfl) dX8_narrow_94 rfl (fun H locs hw => ?_)
              have hA20 : isA q19.1 := isA_X5_begin eq19
              refine lv_astore (lv' := [(8, .ref (X.2.1 q19.1)), (7, .int v15), (6, .int v13), (5, .int v11), (0, .ref (X.2.1 0)), (1, .int a1), (2, .int a2), (3, .int a3), (4, .int a4)]) C.1 C.2.1 dX8_narrow_97 hl (by decide) rfl (fun ls hl => ?_)
              refine lv_aload C.1 C.2.1 dX8_narrow_99 (lv_at hl 0 rfl) ?_
              refine lv_iload C.1 C.2.1 dX8_narrow_101 (lv_at hl 2 rfl) ?_
              obtain ⟨σ21, eσ21, h⟩ := nm_d h
              refine r_putN C hw (la_o hA20) vc_0 kX0 tyX0 tyX0_ok nmX0 2 (by decide) (by decide) nw_342 rfl rfl rfl (put_i (la_o hA20) rfl eσ21) dX8_narrow_103 (fun H locs hw => ?_)
              refine lv_aload C.1 C.2.1 dX8_narrow_106 (lv_at hl 0 rfl) ?_
              refine lv_iload C.1 C.2.1 dX8_narrow_108 (lv_at hl 1 rfl) ?_
              obtain ⟨σ22, eσ22, h⟩ := nm_d h
              refine r_putN C hw (la_o hA20) vc_0 kX0 tyX0 tyX0_ok nmX0 3 (by decide) (by decide) nw_343 rfl rfl rfl (put_i (la_o hA20) rfl eσ22) dX8_narrow_110 (fun H locs hw => ?_)
              refine lv_aload_n C.1 C.2.1 dX8_narrow_113 rfl (lv_at hl 4 rfl) ?_
              have hz23 := hw.2.2.1
              refine r_get (v := .ref (X.2.1 (σ22.2.2.1))) C hw l_0 vc_8 kX8 1 rfl (by decide) gw_409 rfl dX8_narrow_114 ?_
              refine lv_iload C.1 C.2.1 dX8_narrow_117 (lv_at hl 3 rfl) ?_
              refine lv_iload_n C.1 C.2.1 dX8_narrow_119 rfl (lv_at hl 7 rfl) ?_
              refine lv_iload C.1 C.2.1 dX8_narrow_120 (lv_at hl 8 rfl) ?_
              obtain ⟨q24, eq24, h⟩ := bnd h
              refine r_callVN (As := [.int v11, .int a3, .int a4]) C hw (ok_X4_setSpan X l σ22 (σ22.2.2.1) v11 a3 a4 hz23 _ eq24) (lg_0 hz23) vc_4 gw_841 nw_838 gw_840 gw_57 gw_117 hl.1 pd_X4_setSpan ⟨Nat.le_of_ble_eq_true rfl, Nat.le_of_ble_eq_true rfl⟩ ⟨Nat.le_refl 0, Nat.le_refl 0⟩ (rest := []) (Nat.le_of_ble_eq_true rfl) dX8_narrow_122 rfl (fun H locs hw => ?_)
              refine lv_iload C.1 C.2.1 dX8_narrow_125 (lv_at hl 1 rfl) ?_
              refine lv_iload C.1 C.2.1 dX8_narrow_127 (lv_at hl 2 rfl) ?_
              refine lv_isub C.1 C.2.1 dX8_narrow_129 ?_
              refine lv_iload C.1 C.2.1 dX8_narrow_130 (lv_at hl 8 rfl) ?_
              refine lv_iload_n C.1 C.2.1 dX8_narrow_132 rfl (lv_at hl 7 rfl) ?_
              refine lv_isub C.1 C.2.1 dX8_narrow_133 ?_
              refine lv_isub C.1 C.2.1 dX8_narrow_134 ?_
              exact r_iret C hr hlk hw (Prod.mk.inj (Option.some.inj h)).1 (Prod.mk.inj (Option.some.inj h)).2 dX8_narrow_135
            · have h := ite_f c18 h
              refine lv_iconst (v := (-1)) C.1 C.2.1 dX8_narrow_85 (by decide) ?_
              exact r_iret C hr hlk hw (Prod.mk.inj (Option.some.inj h)).1 (Prod.mk.inj (Option.some.inj h)).2 dX8_narrow_86
      · have h := ite_t c9 h
        refine lv_iconst (v := (-1)) C.1 C.2.1 dX8_narrow_33 (by decide) ?_
        exact r_iret C hr hlk hw (Prod.mk.inj (Option.some.inj h)).1 (Prod.mk.inj (Option.some.inj h)).2 dX8_narrow_34
def f_X3_isCountedAt_b3 (σ : St) (a1 : Int32) (a2 : Int32) (a3 : Int32) : Nat → Int32 → Option Bool
  | 0, _ => none
  | n + 1, x4 => if (σ.1 24 0) ≤ x4 then (some false) else ((f_X3_isAt σ x4 a1 a2).bind fun q2 => if (b2i q2) = 0 then (nm (x4 + 1) fun v4 => f_X3_isCountedAt_b3 σ a1 a2 a3 n v4) else ((rd σ 27 40 x4).bind fun v5 => if v5 = a3 then (some true) else (nm (x4 + 1) fun v7 => f_X3_isCountedAt_b3 σ a1 a2 a3 n v7)))
def f_X3_isCountedAt (σ : St) (a1 : Int32) (a2 : Int32) (a3 : Int32) : Option Bool :=
  f_X3_isCountedAt_b3 σ a1 a2 a3 10000 0
set_option maxRecDepth 100000 in
set_option maxHeartbeats 4000000 in
theorem ok_X3_isCountedAt (X : Xc) (l : Launch) (σ : St) (a1 : Int32) (a2 : Int32) (a3 : Int32) (r : Bool) (h : f_X3_isCountedAt σ a1 a2 a3 = some r) : Ok X l yX3_isCountedAt cX3_isCountedAt 5 (some .boolean) 1 23 [.ref (X.2.1 24), .int a1, .int a2, .int a3] σ (some (.int (b2i r))) σ := by
  refine Ok.of (by decide) (Nat.le_of_ble_eq_true rfl) ?_
  intro p e s m args below meth c C hr hlk hw ls hl
  have C : Cx p s m args c X cX3_isCountedAt 5 "RunningCount$CountList" := C
  have hl : lv_has ls 5 [(0, .ref (X.2.1 24)), (1, .int a1), (2, .int a2), (3, .int a3)] := hl
  have b3 : ∀ (n : Nat), ∀ (x4 : Int32), f_X3_isCountedAt_b3 σ a1 a2 a3 n x4 = some r → ∀ (H : Heap) (locs : List Loc), At X σ s.heap H locs → ∀ ls : Array Slot, lv_has ls 5 [(0, .ref (X.2.1 24)), (1, .int a1), (2, .int a2), (3, .int a3), (4, .int x4)] → W p l e (rmX 1 23) s m args below meth c H locs 0 0 (Zq X below s args (some (.int (b2i r))) σ) (F0 m 3 ls []) := by
    intro n
    induction n with
    | zero =>
      intro x4 h
      exact no_some h
    | succ n ih =>
      intro x4 h H locs hw ls hl
      rw [f_X3_isCountedAt_b3] at h
      refine lv_iload C.1 C.2.1 dX3_isCountedAt_3 (lv_at hl 4 rfl) ?_
      refine lv_aload_n C.1 C.2.1 dX3_isCountedAt_5 rfl (lv_at hl 0 rfl) ?_
      refine r_get (v := .int (σ.1 24 0)) C hw l_24 vc_3 kX3 0 rfl (by decide) gw_268 rfl dX3_isCountedAt_6 ?_
      refine lv_icmp_ge (tgt := 42) C.1 C.2.1 dX3_isCountedAt_9 (by decide) (fun c1 => ?_) (fun c1 => ?_)
      · have h := ite_t c1 h
        refine lv_iconst (v := 0) C.1 C.2.1 dX3_isCountedAt_42 (by decide) ?_
        exact r_zret C hr hlk hw rfl (Option.some.inj h) rfl dX3_isCountedAt_43
      · have h := ite_f c1 h
        refine lv_aload_n C.1 C.2.1 dX3_isCountedAt_12 rfl (lv_at hl 0 rfl) ?_
        refine lv_iload C.1 C.2.1 dX3_isCountedAt_13 (lv_at hl 4 rfl) ?_
        refine lv_iload_n C.1 C.2.1 dX3_isCountedAt_15 rfl (lv_at hl 1 rfl) ?_
        refine lv_iload_n C.1 C.2.1 dX3_isCountedAt_16 rfl (lv_at hl 2 rfl) ?_
        obtain ⟨q2, eq2, h⟩ := bnd h
        refine r_callV (As := [.int x4, .int a1, .int a2]) C hw (ok_X3_isAt X l σ x4 a1 a2 _ eq2) l_24 vc_3 gw_775 gw_772 gw_774 gw_51 gw_118 hl.1 pd_X3_isAt ⟨Nat.le_of_ble_eq_true rfl, Nat.le_of_ble_eq_true rfl⟩ ⟨Nat.le_refl 0, Nat.le_refl 0⟩ (rest := []) (Nat.le_of_ble_eq_true rfl) dX3_isCountedAt_17 rfl (fun H locs hw => ?_)
        refine lv_if_eq (tgt := 36) C.1 C.2.1 dX3_isCountedAt_20 (by decide) (fun c3 => ?_) (fun c3 => ?_)
        · have h := ite_t c3 h
          obtain ⟨v4, ev4, h⟩ := nm_d h
          refine lv_iinc (v := v4) (lv' := [(4, .int v4), (0, .ref (X.2.1 24)), (1, .int a1), (2, .int a2), (3, .int a3)]) C.1 C.2.1 dX3_isCountedAt_36 hl (k := 4) rfl (by rw [ev4]; rfl) (by decide) rfl (fun ls hl => ?_)
          refine lv_goto (tgt := 3) C.1 C.2.1 dX3_isCountedAt_39 (by decide) ?_
          exact ih v4 h _ _ hw ls (lv_sub hl [1, 2, 3, 4, 0] rfl)
        · have h := ite_f c3 h
          refine lv_aload_n C.1 C.2.1 dX3_isCountedAt_23 rfl (lv_at hl 0 rfl) ?_
          refine r_get (v := .ref (X.2.1 27)) C hw l_24 vc_3 kX3 3 rfl (by decide) gw_274 rfl dX3_isCountedAt_24 ?_
          refine lv_iload C.1 C.2.1 dX3_isCountedAt_27 (lv_at hl 4 rfl) ?_
          obtain ⟨v5, ev5, h⟩ := bnd h
          refine r_ald C hw l_27 ev5 dX3_isCountedAt_29 ?_
          refine lv_iload_n C.1 C.2.1 dX3_isCountedAt_30 rfl (lv_at hl 3 rfl) ?_
          refine lv_icmp_ne (tgt := 36) C.1 C.2.1 dX3_isCountedAt_31 (by decide) (fun c6 => ?_) (fun c6 => ?_)
          · have h := ite_f c6 h
            obtain ⟨v7, ev7, h⟩ := nm_d h
            refine lv_iinc (v := v7) (lv' := [(4, .int v7), (0, .ref (X.2.1 24)), (1, .int a1), (2, .int a2), (3, .int a3)]) C.1 C.2.1 dX3_isCountedAt_36 hl (k := 4) rfl (by rw [ev7]; rfl) (by decide) rfl (fun ls hl => ?_)
            refine lv_goto (tgt := 3) C.1 C.2.1 dX3_isCountedAt_39 (by decide) ?_
            exact ih v7 h _ _ hw ls (lv_sub hl [1, 2, 3, 4, 0] rfl)
          · have h := ite_t c6 h
            refine lv_iconst (v := 1) C.1 C.2.1 dX3_isCountedAt_34 (by decide) ?_
            exact r_zret C hr hlk hw rfl (Option.some.inj h) rfl dX3_isCountedAt_35
  rw [f_X3_isCountedAt] at h
  refine lv_iconst (v := 0) C.1 C.2.1 dX3_isCountedAt_0 (by decide) ?_
  refine lv_istore (lv' := [(4, .int 0), (0, .ref (X.2.1 24)), (1, .int a1), (2, .int a2), (3, .int a3)]) C.1 C.2.1 dX3_isCountedAt_1 hl (by decide) rfl (fun ls hl => ?_)
  exact b3 10000 0 h _ _ hw ls (lv_sub hl [1, 2, 3, 4, 0] rfl)
def f_X3_isPostedBehind_b3 (σ : St) (a1 : Int32) (a2 : Int32) (a3 : Int32) : Nat → Int32 → Option Bool
  | 0, _ => none
  | n + 1, x4 => if (σ.1 24 0) ≤ x4 then (some false) else ((f_X3_isAt σ x4 a1 a2).bind fun q2 => if (b2i q2) = 0 then (nm (x4 + 1) fun v4 => f_X3_isPostedBehind_b3 σ a1 a2 a3 n v4) else ((rd σ 30 40 x4).bind fun v5 => if v5 = 0 then (nm (x4 + 1) fun v7 => f_X3_isPostedBehind_b3 σ a1 a2 a3 n v7) else ((rd σ 27 40 x4).bind fun v8 => if v8 ≤ a3 then (nm (x4 + 1) fun v10 => f_X3_isPostedBehind_b3 σ a1 a2 a3 n v10) else (some true))))
def f_X3_isPostedBehind (σ : St) (a1 : Int32) (a2 : Int32) (a3 : Int32) : Option Bool :=
  f_X3_isPostedBehind_b3 σ a1 a2 a3 10000 0
set_option maxRecDepth 100000 in
set_option maxHeartbeats 4000000 in
theorem ok_X3_isPostedBehind (X : Xc) (l : Launch) (σ : St) (a1 : Int32) (a2 : Int32) (a3 : Int32) (r : Bool) (h : f_X3_isPostedBehind σ a1 a2 a3 = some r) : Ok X l yX3_isPostedBehind cX3_isPostedBehind 5 (some .boolean) 1 23 [.ref (X.2.1 24), .int a1, .int a2, .int a3] σ (some (.int (b2i r))) σ := by
  refine Ok.of (by decide) (Nat.le_of_ble_eq_true rfl) ?_
  intro p e s m args below meth c C hr hlk hw ls hl
  have C : Cx p s m args c X cX3_isPostedBehind 5 "RunningCount$CountList" := C
  have hl : lv_has ls 5 [(0, .ref (X.2.1 24)), (1, .int a1), (2, .int a2), (3, .int a3)] := hl
  have b3 : ∀ (n : Nat), ∀ (x4 : Int32), f_X3_isPostedBehind_b3 σ a1 a2 a3 n x4 = some r → ∀ (H : Heap) (locs : List Loc), At X σ s.heap H locs → ∀ ls : Array Slot, lv_has ls 5 [(0, .ref (X.2.1 24)), (1, .int a1), (2, .int a2), (3, .int a3), (4, .int x4)] → W p l e (rmX 1 23) s m args below meth c H locs 0 0 (Zq X below s args (some (.int (b2i r))) σ) (F0 m 3 ls []) := by
    intro n
    induction n with
    | zero =>
      intro x4 h
      exact no_some h
    | succ n ih =>
      intro x4 h H locs hw ls hl
      rw [f_X3_isPostedBehind_b3] at h
      refine lv_iload C.1 C.2.1 dX3_isPostedBehind_3 (lv_at hl 4 rfl) ?_
      refine lv_aload_n C.1 C.2.1 dX3_isPostedBehind_5 rfl (lv_at hl 0 rfl) ?_
      refine r_get (v := .int (σ.1 24 0)) C hw l_24 vc_3 kX3 0 rfl (by decide) gw_268 rfl dX3_isPostedBehind_6 ?_
      refine lv_icmp_ge (tgt := 52) C.1 C.2.1 dX3_isPostedBehind_9 (by decide) (fun c1 => ?_) (fun c1 => ?_)
      · have h := ite_t c1 h
        refine lv_iconst (v := 0) C.1 C.2.1 dX3_isPostedBehind_52 (by decide) ?_
        exact r_zret C hr hlk hw rfl (Option.some.inj h) rfl dX3_isPostedBehind_53
      · have h := ite_f c1 h
        refine lv_aload_n C.1 C.2.1 dX3_isPostedBehind_12 rfl (lv_at hl 0 rfl) ?_
        refine lv_iload C.1 C.2.1 dX3_isPostedBehind_13 (lv_at hl 4 rfl) ?_
        refine lv_iload_n C.1 C.2.1 dX3_isPostedBehind_15 rfl (lv_at hl 1 rfl) ?_
        refine lv_iload_n C.1 C.2.1 dX3_isPostedBehind_16 rfl (lv_at hl 2 rfl) ?_
        obtain ⟨q2, eq2, h⟩ := bnd h
        refine r_callV (As := [.int x4, .int a1, .int a2]) C hw (ok_X3_isAt X l σ x4 a1 a2 _ eq2) l_24 vc_3 gw_775 gw_772 gw_774 gw_51 gw_118 hl.1 pd_X3_isAt ⟨Nat.le_of_ble_eq_true rfl, Nat.le_of_ble_eq_true rfl⟩ ⟨Nat.le_refl 0, Nat.le_refl 0⟩ (rest := []) (Nat.le_of_ble_eq_true rfl) dX3_isPostedBehind_17 rfl (fun H locs hw => ?_)
        refine lv_if_eq (tgt := 46) C.1 C.2.1 dX3_isPostedBehind_20 (by decide) (fun c3 => ?_) (fun c3 => ?_)
        · have h := ite_t c3 h
          obtain ⟨v4, ev4, h⟩ := nm_d h
          refine lv_iinc (v := v4) (lv' := [(4, .int v4), (0, .ref (X.2.1 24)), (1, .int a1), (2, .int a2), (3, .int a3)]) C.1 C.2.1 dX3_isPostedBehind_46 hl (k := 4) rfl (by rw [ev4]; rfl) (by decide) rfl (fun ls hl => ?_)
          refine lv_goto (tgt := 3) C.1 C.2.1 dX3_isPostedBehind_49 (by decide) ?_
          exact ih v4 h _ _ hw ls (lv_sub hl [1, 2, 3, 4, 0] rfl)
        · have h := ite_f c3 h
          refine lv_aload_n C.1 C.2.1 dX3_isPostedBehind_23 rfl (lv_at hl 0 rfl) ?_
          refine r_get (v := .ref (X.2.1 30)) C hw l_24 vc_3 kX3 6 rfl (by decide) gw_280 rfl dX3_isPostedBehind_24 ?_
          refine lv_iload C.1 C.2.1 dX3_isPostedBehind_27 (lv_at hl 4 rfl) ?_
          obtain ⟨v5, ev5, h⟩ := bnd h
          refine r_zald C hw l_30 ev5 dX3_isPostedBehind_29 ?_
          refine lv_if_eq (tgt := 46) C.1 C.2.1 dX3_isPostedBehind_30 (by decide) (fun c6 => ?_) (fun c6 => ?_)
          · have h := ite_t c6 h
            obtain ⟨v7, ev7, h⟩ := nm_d h
            refine lv_iinc (v := v7) (lv' := [(4, .int v7), (0, .ref (X.2.1 24)), (1, .int a1), (2, .int a2), (3, .int a3)]) C.1 C.2.1 dX3_isPostedBehind_46 hl (k := 4) rfl (by rw [ev7]; rfl) (by decide) rfl (fun ls hl => ?_)
            refine lv_goto (tgt := 3) C.1 C.2.1 dX3_isPostedBehind_49 (by decide) ?_
            exact ih v7 h _ _ hw ls (lv_sub hl [1, 2, 3, 4, 0] rfl)
          · have h := ite_f c6 h
            refine lv_aload_n C.1 C.2.1 dX3_isPostedBehind_33 rfl (lv_at hl 0 rfl) ?_
            refine r_get (v := .ref (X.2.1 27)) C hw l_24 vc_3 kX3 3 rfl (by decide) gw_274 rfl dX3_isPostedBehind_34 ?_
            refine lv_iload C.1 C.2.1 dX3_isPostedBehind_37 (lv_at hl 4 rfl) ?_
            obtain ⟨v8, ev8, h⟩ := bnd h
            refine r_ald C hw l_27 ev8 dX3_isPostedBehind_39 ?_
            refine lv_iload_n C.1 C.2.1 dX3_isPostedBehind_40 rfl (lv_at hl 3 rfl) ?_
            refine lv_icmp_le (tgt := 46) C.1 C.2.1 dX3_isPostedBehind_41 (by decide) (fun c9 => ?_) (fun c9 => ?_)
            · have h := ite_t c9 h
              obtain ⟨v10, ev10, h⟩ := nm_d h
              refine lv_iinc (v := v10) (lv' := [(4, .int v10), (0, .ref (X.2.1 24)), (1, .int a1), (2, .int a2), (3, .int a3)]) C.1 C.2.1 dX3_isPostedBehind_46 hl (k := 4) rfl (by rw [ev10]; rfl) (by decide) rfl (fun ls hl => ?_)
              refine lv_goto (tgt := 3) C.1 C.2.1 dX3_isPostedBehind_49 (by decide) ?_
              exact ih v10 h _ _ hw ls (lv_sub hl [1, 2, 3, 4, 0] rfl)
            · have h := ite_f c9 h
              refine lv_iconst (v := 1) C.1 C.2.1 dX3_isPostedBehind_44 (by decide) ?_
              exact r_zret C hr hlk hw rfl (Option.some.inj h) rfl dX3_isPostedBehind_45
  rw [f_X3_isPostedBehind] at h
  refine lv_iconst (v := 0) C.1 C.2.1 dX3_isPostedBehind_0 (by decide) ?_
  refine lv_istore (lv' := [(4, .int 0), (0, .ref (X.2.1 24)), (1, .int a1), (2, .int a2), (3, .int a3)]) C.1 C.2.1 dX3_isPostedBehind_1 hl (by decide) rfl (fun ls hl => ?_)
  exact b3 10000 0 h _ _ hw ls (lv_sub hl [1, 2, 3, 4, 0] rfl)
def f_X3_copy (σ : St) (a1 : Int32) (a2 : Int32) : Option St :=
  (rd σ 25 40 a1).bind fun v1 => (wr σ 25 40 a2 v1).bind fun σ2 => (rd σ2 26 40 a1).bind fun v3 => (wr σ2 26 40 a2 v3).bind fun σ4 => (rd σ4 27 40 a1).bind fun v5 => (wr σ4 27 40 a2 v5).bind fun σ6 => (rd σ6 28 40 a1).bind fun v7 => (wr σ6 28 40 a2 v7).bind fun σ8 => (rd σ8 29 40 a1).bind fun v9 => (wr σ8 29 40 a2 v9).bind fun σ10 => (rd σ10 30 40 a1).bind fun v11 => (wr σ10 30 40 a2 (vp_nar .boolean v11)).bind fun σ12 => some σ12
set_option maxRecDepth 100000 in
set_option maxHeartbeats 4000000 in
theorem ok_X3_copy (X : Xc) (l : Launch) (σ : St) (a1 : Int32) (a2 : Int32) (σ' : St) (h : f_X3_copy σ a1 a2 = some σ') : Ok X l yX3_copy cX3_copy 3 none 0 0 [.ref (X.2.1 24), .int a1, .int a2] σ none σ' := by
  refine Ok.of (by decide) (Nat.le_of_ble_eq_true rfl) ?_
  intro p e s m args below meth c C hr hlk hw ls hl
  have C : Cx p s m args c X cX3_copy 3 "RunningCount$CountList" := C
  have hl : lv_has ls 3 [(0, .ref (X.2.1 24)), (1, .int a1), (2, .int a2)] := hl
  rw [f_X3_copy] at h
  refine lv_aload_n C.1 C.2.1 dX3_copy_0 rfl (lv_at hl 0 rfl) ?_
  refine r_get (v := .ref (X.2.1 25)) C hw l_24 vc_3 kX3 1 rfl (by decide) gw_270 rfl dX3_copy_1 ?_
  refine lv_iload_n C.1 C.2.1 dX3_copy_4 rfl (lv_at hl 2 rfl) ?_
  refine lv_aload_n C.1 C.2.1 dX3_copy_5 rfl (lv_at hl 0 rfl) ?_
  refine r_get (v := .ref (X.2.1 25)) C hw l_24 vc_3 kX3 1 rfl (by decide) gw_270 rfl dX3_copy_6 ?_
  refine lv_iload_n C.1 C.2.1 dX3_copy_9 rfl (lv_at hl 1 rfl) ?_
  obtain ⟨v1, ev1, h⟩ := bnd h
  refine r_ald C hw l_25 ev1 dX3_copy_10 ?_
  obtain ⟨σ2, eσ2, h⟩ := bnd h
  refine r_ast C hw l_25 eσ2 dX3_copy_11 (fun H locs hw => ?_)
  refine lv_aload_n C.1 C.2.1 dX3_copy_12 rfl (lv_at hl 0 rfl) ?_
  refine r_get (v := .ref (X.2.1 26)) C hw l_24 vc_3 kX3 2 rfl (by decide) gw_272 rfl dX3_copy_13 ?_
  refine lv_iload_n C.1 C.2.1 dX3_copy_16 rfl (lv_at hl 2 rfl) ?_
  refine lv_aload_n C.1 C.2.1 dX3_copy_17 rfl (lv_at hl 0 rfl) ?_
  refine r_get (v := .ref (X.2.1 26)) C hw l_24 vc_3 kX3 2 rfl (by decide) gw_272 rfl dX3_copy_18 ?_
  refine lv_iload_n C.1 C.2.1 dX3_copy_21 rfl (lv_at hl 1 rfl) ?_
  obtain ⟨v3, ev3, h⟩ := bnd h
  refine r_ald C hw l_26 ev3 dX3_copy_22 ?_
  obtain ⟨σ4, eσ4, h⟩ := bnd h
  refine r_ast C hw l_26 eσ4 dX3_copy_23 (fun H locs hw => ?_)
  refine lv_aload_n C.1 C.2.1 dX3_copy_24 rfl (lv_at hl 0 rfl) ?_
  refine r_get (v := .ref (X.2.1 27)) C hw l_24 vc_3 kX3 3 rfl (by decide) gw_274 rfl dX3_copy_25 ?_
  refine lv_iload_n C.1 C.2.1 dX3_copy_28 rfl (lv_at hl 2 rfl) ?_
  refine lv_aload_n C.1 C.2.1 dX3_copy_29 rfl (lv_at hl 0 rfl) ?_
  refine r_get (v := .ref (X.2.1 27)) C hw l_24 vc_3 kX3 3 rfl (by decide) gw_274 rfl dX3_copy_30 ?_
  refine lv_iload_n C.1 C.2.1 dX3_copy_33 rfl (lv_at hl 1 rfl) ?_
  obtain ⟨v5, ev5, h⟩ := bnd h
  refine r_ald C hw l_27 ev5 dX3_copy_34 ?_
  obtain ⟨σ6, eσ6, h⟩ := bnd h
  refine r_ast C hw l_27 eσ6 dX3_copy_35 (fun H locs hw => ?_)
  refine lv_aload_n C.1 C.2.1 dX3_copy_36 rfl (lv_at hl 0 rfl) ?_
  refine r_get (v := .ref (X.2.1 28)) C hw l_24 vc_3 kX3 4 rfl (by decide) gw_276 rfl dX3_copy_37 ?_
  refine lv_iload_n C.1 C.2.1 dX3_copy_40 rfl (lv_at hl 2 rfl) ?_
  refine lv_aload_n C.1 C.2.1 dX3_copy_41 rfl (lv_at hl 0 rfl) ?_
  refine r_get (v := .ref (X.2.1 28)) C hw l_24 vc_3 kX3 4 rfl (by decide) gw_276 rfl dX3_copy_42 ?_
  refine lv_iload_n C.1 C.2.1 dX3_copy_45 rfl (lv_at hl 1 rfl) ?_
  obtain ⟨v7, ev7, h⟩ := bnd h
  refine r_ald C hw l_28 ev7 dX3_copy_46 ?_
  obtain ⟨σ8, eσ8, h⟩ := bnd h
  refine r_ast C hw l_28 eσ8 dX3_copy_47 (fun H locs hw => ?_)
  refine lv_aload_n C.1 C.2.1 dX3_copy_48 rfl (lv_at hl 0 rfl) ?_
  refine r_get (v := .ref (X.2.1 29)) C hw l_24 vc_3 kX3 5 rfl (by decide) gw_278 rfl dX3_copy_49 ?_
  refine lv_iload_n C.1 C.2.1 dX3_copy_52 rfl (lv_at hl 2 rfl) ?_
  refine lv_aload_n C.1 C.2.1 dX3_copy_53 rfl (lv_at hl 0 rfl) ?_
  refine r_get (v := .ref (X.2.1 29)) C hw l_24 vc_3 kX3 5 rfl (by decide) gw_278 rfl dX3_copy_54 ?_
  refine lv_iload_n C.1 C.2.1 dX3_copy_57 rfl (lv_at hl 1 rfl) ?_
  obtain ⟨v9, ev9, h⟩ := bnd h
  refine r_ald C hw l_29 ev9 dX3_copy_58 ?_
  obtain ⟨σ10, eσ10, h⟩ := bnd h
  refine r_ast C hw l_29 eσ10 dX3_copy_59 (fun H locs hw => ?_)
  refine lv_aload_n C.1 C.2.1 dX3_copy_60 rfl (lv_at hl 0 rfl) ?_
  refine r_get (v := .ref (X.2.1 30)) C hw l_24 vc_3 kX3 6 rfl (by decide) gw_280 rfl dX3_copy_61 ?_
  refine lv_iload_n C.1 C.2.1 dX3_copy_64 rfl (lv_at hl 2 rfl) ?_
  refine lv_aload_n C.1 C.2.1 dX3_copy_65 rfl (lv_at hl 0 rfl) ?_
  refine r_get (v := .ref (X.2.1 30)) C hw l_24 vc_3 kX3 6 rfl (by decide) gw_280 rfl dX3_copy_66 ?_
  refine lv_iload_n C.1 C.2.1 dX3_copy_69 rfl (lv_at hl 1 rfl) ?_
  obtain ⟨v11, ev11, h⟩ := bnd h
  refine r_zald C hw l_30 ev11 dX3_copy_70 ?_
  obtain ⟨σ12, eσ12, h⟩ := bnd h
  refine r_zast C hw l_30 eσ12 dX3_copy_71 (fun H locs hw => ?_)
  exact r_vret C hr hlk hw (Option.some.inj h) dX3_copy_72
def f_X3_insert_b28 (a1 : Int32) (a2 : Int32) (a3 : Int32) (a4 : Int32) (a5 : Int32) (a6 : Int32) : Nat → St → Int32 → Option St
  | 0, _, _ => none
  | n + 1, σ, x7 => if x7 ≤ a1 then ((wr σ 25 40 a1 a2).bind fun σ6 => (wr σ6 26 40 a1 a3).bind fun σ7 => (wr σ7 27 40 a1 a4).bind fun σ8 => (wr σ8 28 40 a1 a5).bind fun σ9 => (wr σ9 29 40 a1 a6).bind fun σ10 => (wr σ10 30 40 a1 (vp_nar .boolean 0)).bind fun σ11 => nm (upI σ11 24 0 ((σ11.1 24 0) + 1)) fun σ12 => some σ12) else ((f_X3_copy σ (x7 - 1) x7).bind fun q13 => nm (x7 + (-1)) fun v14 => f_X3_insert_b28 a1 a2 a3 a4 a5 a6 n q13 v14)
def f_X3_insert (σ : St) (a1 : Int32) (a2 : Int32) (a3 : Int32) (a4 : Int32) (a5 : Int32) (a6 : Int32) : Option St :=
  if 40 ≤ (σ.1 24 0) then (some σ) else (if a1 < 0 then (some σ) else (if a1 ≤ (σ.1 24 0) then (nm (σ.1 24 0) fun v4 => f_X3_insert_b28 a1 a2 a3 a4 a5 a6 10000 σ v4) else (some σ)))
set_option maxRecDepth 100000 in
set_option maxHeartbeats 4000000 in
theorem ok_X3_insert (X : Xc) (l : Launch) (σ : St) (a1 : Int32) (a2 : Int32) (a3 : Int32) (a4 : Int32) (a5 : Int32) (a6 : Int32) (σ' : St) (h : f_X3_insert σ a1 a2 a3 a4 a5 a6 = some σ') : Ok X l yX3_insert cX3_insert 8 none 1 22 [.ref (X.2.1 24), .int a1, .int a2, .int a3, .int a4, .int a5, .int a6] σ none σ' := by
  refine Ok.of (by decide) (Nat.le_of_ble_eq_true rfl) ?_
  intro p e s m args below meth c C hr hlk hw ls hl
  have C : Cx p s m args c X cX3_insert 8 "RunningCount$CountList" := C
  have hl : lv_has ls 8 [(0, .ref (X.2.1 24)), (1, .int a1), (2, .int a2), (3, .int a3), (4, .int a4), (5, .int a5), (6, .int a6)] := hl
  have b28 : ∀ (n : Nat), ∀ (σ : St) (x7 : Int32), f_X3_insert_b28 a1 a2 a3 a4 a5 a6 n σ x7 = some σ' → ∀ (H : Heap) (locs : List Loc), At X σ s.heap H locs → ∀ ls : Array Slot, lv_has ls 8 [(0, .ref (X.2.1 24)), (1, .int a1), (2, .int a2), (3, .int a3), (4, .int a4), (5, .int a5), (6, .int a6), (7, .int x7)] → W p l e (rmX 1 22) s m args below meth c H locs 0 0 (Zq X below s args none σ') (F0 m 28 ls []) := by
    intro n
    induction n with
    | zero =>
      intro σ x7 h
      exact no_some h
    | succ n ih =>
      intro σ x7 h H locs hw ls hl
      rw [f_X3_insert_b28] at h
      refine lv_iload C.1 C.2.1 dX3_insert_28 (lv_at hl 7 rfl) ?_
      refine lv_iload_n C.1 C.2.1 dX3_insert_30 rfl (lv_at hl 1 rfl) ?_
      refine lv_icmp_le (tgt := 50) C.1 C.2.1 dX3_insert_31 (by decide) (fun c5 => ?_) (fun c5 => ?_)
      · have h := ite_t c5 h
        refine lv_aload_n C.1 C.2.1 dX3_insert_50 rfl (lv_at hl 0 rfl) ?_
        refine r_get (v := .ref (X.2.1 25)) C hw l_24 vc_3 kX3 1 rfl (by decide) gw_270 rfl dX3_insert_51 ?_
        refine lv_iload_n C.1 C.2.1 dX3_insert_54 rfl (lv_at hl 1 rfl) ?_
        refine lv_iload_n C.1 C.2.1 dX3_insert_55 rfl (lv_at hl 2 rfl) ?_
        obtain ⟨σ6, eσ6, h⟩ := bnd h
        refine r_ast C hw l_25 eσ6 dX3_insert_56 (fun H locs hw => ?_)
        refine lv_aload_n C.1 C.2.1 dX3_insert_57 rfl (lv_at hl 0 rfl) ?_
        refine r_get (v := .ref (X.2.1 26)) C hw l_24 vc_3 kX3 2 rfl (by decide) gw_272 rfl dX3_insert_58 ?_
        refine lv_iload_n C.1 C.2.1 dX3_insert_61 rfl (lv_at hl 1 rfl) ?_
        refine lv_iload_n C.1 C.2.1 dX3_insert_62 rfl (lv_at hl 3 rfl) ?_
        obtain ⟨σ7, eσ7, h⟩ := bnd h
        refine r_ast C hw l_26 eσ7 dX3_insert_63 (fun H locs hw => ?_)
        refine lv_aload_n C.1 C.2.1 dX3_insert_64 rfl (lv_at hl 0 rfl) ?_
        refine r_get (v := .ref (X.2.1 27)) C hw l_24 vc_3 kX3 3 rfl (by decide) gw_274 rfl dX3_insert_65 ?_
        refine lv_iload_n C.1 C.2.1 dX3_insert_68 rfl (lv_at hl 1 rfl) ?_
        refine lv_iload C.1 C.2.1 dX3_insert_69 (lv_at hl 4 rfl) ?_
        obtain ⟨σ8, eσ8, h⟩ := bnd h
        refine r_ast C hw l_27 eσ8 dX3_insert_71 (fun H locs hw => ?_)
        refine lv_aload_n C.1 C.2.1 dX3_insert_72 rfl (lv_at hl 0 rfl) ?_
        refine r_get (v := .ref (X.2.1 28)) C hw l_24 vc_3 kX3 4 rfl (by decide) gw_276 rfl dX3_insert_73 ?_
        refine lv_iload_n C.1 C.2.1 dX3_insert_76 rfl (lv_at hl 1 rfl) ?_
        refine lv_iload C.1 C.2.1 dX3_insert_77 (lv_at hl 5 rfl) ?_
        obtain ⟨σ9, eσ9, h⟩ := bnd h
        refine r_ast C hw l_28 eσ9 dX3_insert_79 (fun H locs hw => ?_)
        refine lv_aload_n C.1 C.2.1 dX3_insert_80 rfl (lv_at hl 0 rfl) ?_
        refine r_get (v := .ref (X.2.1 29)) C hw l_24 vc_3 kX3 5 rfl (by decide) gw_278 rfl dX3_insert_81 ?_
        refine lv_iload_n C.1 C.2.1 dX3_insert_84 rfl (lv_at hl 1 rfl) ?_
        refine lv_iload C.1 C.2.1 dX3_insert_85 (lv_at hl 6 rfl) ?_
        obtain ⟨σ10, eσ10, h⟩ := bnd h
        refine r_ast C hw l_29 eσ10 dX3_insert_87 (fun H locs hw => ?_)
        refine lv_aload_n C.1 C.2.1 dX3_insert_88 rfl (lv_at hl 0 rfl) ?_
        refine r_get (v := .ref (X.2.1 30)) C hw l_24 vc_3 kX3 6 rfl (by decide) gw_280 rfl dX3_insert_89 ?_
        refine lv_iload_n C.1 C.2.1 dX3_insert_92 rfl (lv_at hl 1 rfl) ?_
        refine lv_iconst (v := 0) C.1 C.2.1 dX3_insert_93 (by decide) ?_
        obtain ⟨σ11, eσ11, h⟩ := bnd h
        refine r_zast C hw l_30 eσ11 dX3_insert_94 (fun H locs hw => ?_)
        refine lv_aload_n C.1 C.2.1 dX3_insert_95 rfl (lv_at hl 0 rfl) ?_
        refine lv_dup C.1 C.2.1 dX3_insert_96 rfl ?_
        refine r_get (v := .int (σ11.1 24 0)) C hw l_24 vc_3 kX3 0 rfl (by decide) gw_268 rfl dX3_insert_97 ?_
        refine lv_iconst (v := 1) C.1 C.2.1 dX3_insert_100 (by decide) ?_
        refine lv_iadd C.1 C.2.1 dX3_insert_101 ?_
        obtain ⟨σ12, eσ12, h⟩ := nm_d h
        refine r_put C hw l_24 vc_3 kX3 tyX3 tyX3_ok nmX3 0 (by decide) (by decide) gw_268 rfl rfl rfl (put_i l_24 rfl eσ12) dX3_insert_102 (fun H locs hw => ?_)
        exact r_vret C hr hlk hw (Option.some.inj h) dX3_insert_105
      · have h := ite_f c5 h
        refine lv_aload_n C.1 C.2.1 dX3_insert_34 rfl (lv_at hl 0 rfl) ?_
        refine lv_iload C.1 C.2.1 dX3_insert_35 (lv_at hl 7 rfl) ?_
        refine lv_iconst (v := 1) C.1 C.2.1 dX3_insert_37 (by decide) ?_
        refine lv_isub C.1 C.2.1 dX3_insert_38 ?_
        refine lv_iload C.1 C.2.1 dX3_insert_39 (lv_at hl 7 rfl) ?_
        obtain ⟨q13, eq13, h⟩ := bnd h
        refine r_callV (As := [.int (x7 - 1), .int x7]) C hw (ok_X3_copy X l σ (x7 - 1) x7 _ eq13) l_24 vc_3 gw_861 gw_858 gw_860 gw_61 gw_118 hl.1 pd_X3_copy ⟨Nat.le_of_ble_eq_true rfl, Nat.le_of_ble_eq_true rfl⟩ ⟨Nat.le_refl 0, Nat.le_refl 0⟩ (rest := []) (Nat.le_of_ble_eq_true rfl) dX3_insert_41 rfl (fun H locs hw => ?_)
        obtain ⟨v14, ev14, h⟩ := nm_d h
        refine lv_iinc (v := v14) (lv' := [(7, .int v14), (0, .ref (X.2.1 24)), (1, .int a1), (2, .int a2), (3, .int a3), (4, .int a4), (5, .int a5), (6, .int a6)]) C.1 C.2.1 dX3_insert_44 hl (k := 7) rfl (by rw [ev14]; rfl) (by decide) rfl (fun ls hl => ?_)
        refine lv_goto (tgt := 28) C.1 C.2.1 dX3_insert_47 (by decide) ?_
        exact ih q13 v14 h _ _ hw ls (lv_sub hl [1, 2, 3, 4, 5, 6, 7, 0] rfl)
  rw [f_X3_insert] at h
  refine lv_aload_n C.1 C.2.1 dX3_insert_0 rfl (lv_at hl 0 rfl) ?_
  refine r_get (v := .int (σ.1 24 0)) C hw l_24 vc_3 kX3 0 rfl (by decide) gw_268 rfl dX3_insert_1 ?_
  refine lv_bipush (v := 40) C.1 C.2.1 dX3_insert_4 (by decide) ?_
  refine lv_icmp_ge (tgt := 21) C.1 C.2.1 dX3_insert_6 (by decide) (fun c1 => ?_) (fun c1 => ?_)
  · have h := ite_t c1 h
    exact r_vret C hr hlk hw (Option.some.inj h) dX3_insert_21
  · have h := ite_f c1 h
    refine lv_iload_n C.1 C.2.1 dX3_insert_9 rfl (lv_at hl 1 rfl) ?_
    refine lv_if_lt (tgt := 21) C.1 C.2.1 dX3_insert_10 (by decide) (fun c2 => ?_) (fun c2 => ?_)
    · have h := ite_t c2 h
      exact r_vret C hr hlk hw (Option.some.inj h) dX3_insert_21
    · have h := ite_f c2 h
      refine lv_iload_n C.1 C.2.1 dX3_insert_13 rfl (lv_at hl 1 rfl) ?_
      refine lv_aload_n C.1 C.2.1 dX3_insert_14 rfl (lv_at hl 0 rfl) ?_
      refine r_get (v := .int (σ.1 24 0)) C hw l_24 vc_3 kX3 0 rfl (by decide) gw_268 rfl dX3_insert_15 ?_
      refine lv_icmp_le (tgt := 22) C.1 C.2.1 dX3_insert_18 (by decide) (fun c3 => ?_) (fun c3 => ?_)
      · have h := ite_t c3 h
        refine lv_aload_n C.1 C.2.1 dX3_insert_22 rfl (lv_at hl 0 rfl) ?_
        refine r_get (v := .int (σ.1 24 0)) C hw l_24 vc_3 kX3 0 rfl (by decide) gw_268 rfl dX3_insert_23 ?_
        obtain ⟨v4, ev4, h⟩ := nm_d h
        refine lv_nm ev4 ?_
        refine lv_istore (lv' := [(7, .int v4), (0, .ref (X.2.1 24)), (1, .int a1), (2, .int a2), (3, .int a3), (4, .int a4), (5, .int a5), (6, .int a6)]) C.1 C.2.1 dX3_insert_26 hl (by decide) rfl (fun ls hl => ?_)
        exact b28 10000 σ v4 h _ _ hw ls (lv_sub hl [1, 2, 3, 4, 5, 6, 7, 0] rfl)
      · have h := ite_f c3 h
        exact r_vret C hr hlk hw (Option.some.inj h) dX3_insert_21
def f_X8_counts_b97 (a1 : Int32) (a2 : Int32) (a3 : Int32) (a4 : Int32) (a5 : Int32) (σ : St) : Option (Int32 × St) :=
  (f_X3_isPostedBehind σ a1 a2 a3).bind fun q14 => if (b2i q14) = 0 then (if (σ.1 24 0) < 40 then (nm (σ.1 24 0) fun v17 => (f_X3_insert σ v17 a1 a2 a3 a4 a5).bind fun q18 => (f_X5_begin q18 3 v17).bind fun q19 => some (v17, q19.2)) else (some ((-5), σ))) else (some ((-4), σ))
def f_X8_counts (σ : St) (a1 : Int32) (a2 : Int32) (a3 : Int32) (a4 : Int32) (a5 : Int32) : Option (Int32 × St) :=
  if (b2i (f_X4_hasCouple σ (σ.2.2.1) a1 a2)) = 0 then (some ((-1), σ)) else (if (b2i (f_X8_isInstant σ a3)) = 0 then (some ((-1), σ)) else (if a4 < 0 then (some ((-1), σ)) else (if 9999 < a4 then (some ((-1), σ)) else (if a5 < 0 then (some ((-1), σ)) else (if a5 ≤ 3 then ((f_X3_isCountedAt σ a1 a2 a3).bind fun q10 => if (b2i q10) = 0 then ((f_X3_openAhead σ a1 a2 a3).bind fun q12 => if q12 = (-1) then (f_X8_counts_b97 a1 a2 a3 a4 a5 σ) else ((rd σ 29 40 q12).bind fun v21 => if v21 = a5 then (some ((-3), σ)) else (f_X8_counts_b97 a1 a2 a3 a4 a5 σ))) else (some ((-2), σ))) else (some ((-1), σ)))))))
set_option maxRecDepth 100000 in
set_option maxHeartbeats 4000000 in
theorem ok_X8_counts (X : Xc) (l : Launch) (σ : St) (a1 : Int32) (a2 : Int32) (a3 : Int32) (a4 : Int32) (a5 : Int32) (r : Int32) (σ' : St) (h : f_X8_counts σ a1 a2 a3 a4 a5 = some (r, σ')) : Ok X l yX8_counts cX8_counts 8 (some .int) 3 71 [.ref (X.2.1 0), .int a1, .int a2, .int a3, .int a4, .int a5] σ (some (.int r)) σ' := by
  refine Ok.of (by decide) (Nat.le_of_ble_eq_true rfl) ?_
  intro p e s m args below meth c C hr hlk hw ls hl
  have C : Cx p s m args c X cX8_counts 8 "RunningCount" := C
  have hl : lv_has ls 8 [(0, .ref (X.2.1 0)), (1, .int a1), (2, .int a2), (3, .int a3), (4, .int a4), (5, .int a5)] := hl
  have b97 : ∀ (σ : St), f_X8_counts_b97 a1 a2 a3 a4 a5 σ = some (r, σ') → ∀ (H : Heap) (locs : List Loc), At X σ s.heap H locs → ∀ ls : Array Slot, lv_has ls 8 [(0, .ref (X.2.1 0)), (1, .int a1), (2, .int a2), (3, .int a3), (4, .int a4), (5, .int a5)] → W p l e (rmX 3 71) s m args below meth c H locs 0 0 (Zq X below s args (some (.int r)) σ') (F0 m 97 ls []) := by
    intro σ h H locs hw ls hl
    rw [f_X8_counts_b97] at h
    refine lv_aload_n C.1 C.2.1 dX8_counts_97 rfl (lv_at hl 0 rfl) ?_
    refine r_get (v := .ref (X.2.1 24)) C hw l_0 vc_8 kX8 3 rfl (by decide) gw_411 rfl dX8_counts_98 ?_
    refine lv_iload_n C.1 C.2.1 dX8_counts_101 rfl (lv_at hl 1 rfl) ?_
    refine lv_iload_n C.1 C.2.1 dX8_counts_102 rfl (lv_at hl 2 rfl) ?_
    refine lv_iload_n C.1 C.2.1 dX8_counts_103 rfl (lv_at hl 3 rfl) ?_
    obtain ⟨q14, eq14, h⟩ := bnd h
    refine r_callVN (As := [.int a1, .int a2, .int a3]) C hw (ok_X3_isPostedBehind X l σ a1 a2 a3 _ eq14) l_24 vc_3 gw_853 nw_850 gw_852 gw_59 gw_118 hl.1 pd_X3_isPostedBehind ⟨Nat.le_of_ble_eq_true rfl, Nat.le_of_ble_eq_true rfl⟩ ⟨Nat.le_refl 0, Nat.le_refl 0⟩ (rest := []) (Nat.le_of_ble_eq_true rfl) dX8_counts_104 rfl (fun H locs hw => ?_)
    refine lv_if_eq (tgt := 113) C.1 C.2.1 dX8_counts_107 (by decide) (fun c15 => ?_) (fun c15 => ?_)
    · have h := ite_t c15 h
      refine lv_aload_n C.1 C.2.1 dX8_counts_113 rfl (lv_at hl 0 rfl) ?_
      refine r_get (v := .ref (X.2.1 24)) C hw l_0 vc_8 kX8 3 rfl (by decide) gw_411 rfl dX8_counts_114 ?_
      refine r_getN (v := .int (σ.1 24 0)) C hw l_24 vc_3 kX3 0 rfl (by decide) nw_269 rfl dX8_counts_117 ?_
      refine lv_bipush (v := 40) C.1 C.2.1 dX8_counts_120 (by decide) ?_
      refine lv_icmp_lt (tgt := 128) C.1 C.2.1 dX8_counts_122 (by decide) (fun c16 => ?_) (fun c16 => ?_)
      · have h := ite_t c16 h
        refine lv_aload_n C.1 C.2.1 dX8_counts_128 rfl (lv_at hl 0 rfl) ?_
        refine r_get (v := .ref (X.2.1 24)) C hw l_0 vc_8 kX8 3 rfl (by decide) gw_411 rfl dX8_counts_129 ?_
        refine r_getN (v := .int (σ.1 24 0)) C hw l_24 vc_3 kX3 0 rfl (by decide) nw_269 rfl dX8_counts_132 ?_
        obtain ⟨v17, ev17, h⟩ := nm_d h
        refine lv_nm ev17 ?_
        refine lv_istore (lv' := [(7, .int v17), (0, .ref (X.2.1 0)), (1, .int a1), (2, .int a2), (3, .int a3), (4, .int a4), (5, .int a5)]) C.1 C.2.1 dX8_counts_135 hl (by decide) rfl (fun ls hl => ?_)
        refine lv_aload_n C.1 C.2.1 dX8_counts_137 rfl (lv_at hl 1 rfl) ?_
        refine r_get (v := .ref (X.2.1 24)) C hw l_0 vc_8 kX8 3 rfl (by decide) gw_411 rfl dX8_counts_138 ?_
        refine lv_iload C.1 C.2.1 dX8_counts_141 (lv_at hl 0 rfl) ?_
        refine lv_iload_n C.1 C.2.1 dX8_counts_143 rfl (lv_at hl 2 rfl) ?_
        refine lv_iload_n C.1 C.2.1 dX8_counts_144 rfl (lv_at hl 3 rfl) ?_
        refine lv_iload_n C.1 C.2.1 dX8_counts_145 rfl (lv_at hl 4 rfl) ?_
        refine lv_iload C.1 C.2.1 dX8_counts_146 (lv_at hl 5 rfl) ?_
        refine lv_iload C.1 C.2.1 dX8_counts_148 (lv_at hl 6 rfl) ?_
        obtain ⟨q18, eq18, h⟩ := bnd h
        refine r_callVN (As := [.int v17, .int a1, .int a2, .int a3, .int a4, .int a5]) C hw (ok_X3_insert X l σ v17 a1 a2 a3 a4 a5 _ eq18) l_24 vc_3 gw_857 nw_854 gw_856 gw_60 gw_118 hl.1 pd_X3_insert ⟨Nat.le_of_ble_eq_true rfl, Nat.le_of_ble_eq_true rfl⟩ ⟨Nat.le_refl 0, Nat.le_refl 0⟩ (rest := []) (Nat.le_of_ble_eq_true rfl) dX8_counts_150 rfl (fun H locs hw => ?_)
        refine lv_aload_n C.1 C.2.1 dX8_counts_153 rfl (lv_at hl 1 rfl) ?_
        refine r_get (v := .ref (X.2.1 36)) C hw l_0 vc_8 kX8 5 rfl (by decide) gw_413 rfl dX8_counts_154 ?_
        refine lv_iconst (v := 3) C.1 C.2.1 dX8_counts_157 (by decide) ?_
        refine lv_iload C.1 C.2.1 dX8_counts_158 (lv_at hl 0 rfl) ?_
        obtain ⟨q19, eq19, h⟩ := bnd h
        refine r_callVN (As := [.int 3, .int v17]) C hw (ok_X5_begin X l q18 3 v17 _ _ eq19) l_36 vc_5 gw_816 nw_813 gw_815 gw_55 gw_120 hl.1 pd_X5_begin ⟨Nat.le_of_ble_eq_true rfl, Nat.le_of_ble_eq_true rfl⟩ ⟨Nat.le_refl 0, Nat.le_refl 0⟩ (rest := []) (Nat.le_of_ble_eq_true rfl) dX8_counts_160 rfl (fun H locs hw => ?_)
        have hA20 : isA q19.1 := isA_X5_begin eq19
        refine lv_pop C.1 C.2.1 dX8_counts_163 rfl ?_
        refine lv_iload C.1 C.2.1 dX8_counts_164 (lv_at hl 0 rfl) ?_
        exact r_iret C hr hlk hw (Prod.mk.inj (Option.some.inj h)).1 (Prod.mk.inj (Option.some.inj h)).2 dX8_counts_166
      · have h := ite_f c16 h
        refine lv_bipush (v := (-5)) C.1 C.2.1 dX8_counts_125 (by decide) ?_
        exact r_iret C hr hlk hw (Prod.mk.inj (Option.some.inj h)).1 (Prod.mk.inj (Option.some.inj h)).2 dX8_counts_127
    · have h := ite_f c15 h
      refine lv_bipush (v := (-4)) C.1 C.2.1 dX8_counts_110 (by decide) ?_
      exact r_iret C hr hlk hw (Prod.mk.inj (Option.some.inj h)).1 (Prod.mk.inj (Option.some.inj h)).2 dX8_counts_112
  rw [f_X8_counts] at h
  refine lv_aload_n C.1 C.2.1 dX8_counts_0 rfl (lv_at hl 0 rfl) ?_
  have hz1 := hw.2.2.1
  refine r_get (v := .ref (X.2.1 (σ.2.2.1))) C hw l_0 vc_8 kX8 1 rfl (by decide) gw_409 rfl dX8_counts_1 ?_
  refine lv_iload_n C.1 C.2.1 dX8_counts_4 rfl (lv_at hl 1 rfl) ?_
  refine lv_iload_n C.1 C.2.1 dX8_counts_5 rfl (lv_at hl 2 rfl) ?_
  refine r_callVN (As := [.int a1, .int a2]) C hw (ok_X4_hasCouple X l σ (σ.2.2.1) a1 a2 hz1 _ rfl) (lg_0 hz1) vc_4 gw_602 nw_672 gw_601 gw_22 gw_117 hl.1 pd_X4_hasCouple ⟨Nat.le_of_ble_eq_true rfl, Nat.le_of_ble_eq_true rfl⟩ ⟨Nat.le_refl 0, Nat.le_refl 0⟩ (rest := []) (Nat.le_of_ble_eq_true rfl) dX8_counts_6 rfl (fun H locs hw => ?_)
  refine lv_if_eq (tgt := 43) C.1 C.2.1 dX8_counts_9 (by decide) (fun c3 => ?_) (fun c3 => ?_)
  · have h := ite_t c3 h
    refine lv_iconst (v := (-1)) C.1 C.2.1 dX8_counts_43 (by decide) ?_
    exact r_iret C hr hlk hw (Prod.mk.inj (Option.some.inj h)).1 (Prod.mk.inj (Option.some.inj h)).2 dX8_counts_44
  · have h := ite_f c3 h
    refine lv_iload_n C.1 C.2.1 dX8_counts_12 rfl (lv_at hl 3 rfl) ?_
    refine r_callS (As := [.int a3]) C hw (ok_X8_isInstant X l σ a3 _ rfl) gw_675 gw_673 gw_674 gw_114 hl.1 pd_X8_isInstant ⟨Nat.le_of_ble_eq_true rfl, Nat.le_of_ble_eq_true rfl⟩ ⟨Nat.le_refl 0, Nat.le_refl 0⟩ (rest := []) (Nat.le_of_ble_eq_true rfl) dX8_counts_13 rfl (fun H locs hw => ?_)
    refine lv_if_eq (tgt := 43) C.1 C.2.1 dX8_counts_16 (by decide) (fun c5 => ?_) (fun c5 => ?_)
    · have h := ite_t c5 h
      refine lv_iconst (v := (-1)) C.1 C.2.1 dX8_counts_43 (by decide) ?_
      exact r_iret C hr hlk hw (Prod.mk.inj (Option.some.inj h)).1 (Prod.mk.inj (Option.some.inj h)).2 dX8_counts_44
    · have h := ite_f c5 h
      refine lv_iload C.1 C.2.1 dX8_counts_19 (lv_at hl 4 rfl) ?_
      refine lv_if_lt (tgt := 43) C.1 C.2.1 dX8_counts_21 (by decide) (fun c6 => ?_) (fun c6 => ?_)
      · have h := ite_t c6 h
        refine lv_iconst (v := (-1)) C.1 C.2.1 dX8_counts_43 (by decide) ?_
        exact r_iret C hr hlk hw (Prod.mk.inj (Option.some.inj h)).1 (Prod.mk.inj (Option.some.inj h)).2 dX8_counts_44
      · have h := ite_f c6 h
        refine lv_iload C.1 C.2.1 dX8_counts_24 (lv_at hl 4 rfl) ?_
        refine lv_sipush (v := 9999) C.1 C.2.1 dX8_counts_26 (by decide) ?_
        refine lv_icmp_gt (tgt := 43) C.1 C.2.1 dX8_counts_29 (by decide) (fun c7 => ?_) (fun c7 => ?_)
        · have h := ite_t c7 h
          refine lv_iconst (v := (-1)) C.1 C.2.1 dX8_counts_43 (by decide) ?_
          exact r_iret C hr hlk hw (Prod.mk.inj (Option.some.inj h)).1 (Prod.mk.inj (Option.some.inj h)).2 dX8_counts_44
        · have h := ite_f c7 h
          refine lv_iload C.1 C.2.1 dX8_counts_32 (lv_at hl 5 rfl) ?_
          refine lv_if_lt (tgt := 43) C.1 C.2.1 dX8_counts_34 (by decide) (fun c8 => ?_) (fun c8 => ?_)
          · have h := ite_t c8 h
            refine lv_iconst (v := (-1)) C.1 C.2.1 dX8_counts_43 (by decide) ?_
            exact r_iret C hr hlk hw (Prod.mk.inj (Option.some.inj h)).1 (Prod.mk.inj (Option.some.inj h)).2 dX8_counts_44
          · have h := ite_f c8 h
            refine lv_iload C.1 C.2.1 dX8_counts_37 (lv_at hl 5 rfl) ?_
            refine lv_iconst (v := 3) C.1 C.2.1 dX8_counts_39 (by decide) ?_
            refine lv_icmp_le (tgt := 45) C.1 C.2.1 dX8_counts_40 (by decide) (fun c9 => ?_) (fun c9 => ?_)
            · have h := ite_t c9 h
              refine lv_aload_n C.1 C.2.1 dX8_counts_45 rfl (lv_at hl 0 rfl) ?_
              refine r_get (v := .ref (X.2.1 24)) C hw l_0 vc_8 kX8 3 rfl (by decide) gw_411 rfl dX8_counts_46 ?_
              refine lv_iload_n C.1 C.2.1 dX8_counts_49 rfl (lv_at hl 1 rfl) ?_
              refine lv_iload_n C.1 C.2.1 dX8_counts_50 rfl (lv_at hl 2 rfl) ?_
              refine lv_iload_n C.1 C.2.1 dX8_counts_51 rfl (lv_at hl 3 rfl) ?_
              obtain ⟨q10, eq10, h⟩ := bnd h
              refine r_callVN (As := [.int a1, .int a2, .int a3]) C hw (ok_X3_isCountedAt X l σ a1 a2 a3 _ eq10) l_24 vc_3 gw_849 nw_846 gw_848 gw_58 gw_118 hl.1 pd_X3_isCountedAt ⟨Nat.le_of_ble_eq_true rfl, Nat.le_of_ble_eq_true rfl⟩ ⟨Nat.le_refl 0, Nat.le_refl 0⟩ (rest := []) (Nat.le_of_ble_eq_true rfl) dX8_counts_52 rfl (fun H locs hw => ?_)
              refine lv_if_eq (tgt := 61) C.1 C.2.1 dX8_counts_55 (by decide) (fun c11 => ?_) (fun c11 => ?_)
              · have h := ite_t c11 h
                refine lv_aload_n C.1 C.2.1 dX8_counts_61 rfl (lv_at hl 0 rfl) ?_
                refine r_get (v := .ref (X.2.1 24)) C hw l_0 vc_8 kX8 3 rfl (by decide) gw_411 rfl dX8_counts_62 ?_
                refine lv_iload_n C.1 C.2.1 dX8_counts_65 rfl (lv_at hl 1 rfl) ?_
                refine lv_iload_n C.1 C.2.1 dX8_counts_66 rfl (lv_at hl 2 rfl) ?_
                refine lv_iload_n C.1 C.2.1 dX8_counts_67 rfl (lv_at hl 3 rfl) ?_
                obtain ⟨q12, eq12, h⟩ := bnd h
                refine r_callVN (As := [.int a1, .int a2, .int a3]) C hw (ok_X3_openAhead X l σ a1 a2 a3 _ eq12) l_24 vc_3 gw_787 nw_784 gw_786 gw_53 gw_118 hl.1 pd_X3_openAhead ⟨Nat.le_of_ble_eq_true rfl, Nat.le_of_ble_eq_true rfl⟩ ⟨Nat.le_refl 0, Nat.le_refl 0⟩ (rest := []) (Nat.le_of_ble_eq_true rfl) dX8_counts_68 rfl (fun H locs hw => ?_)
                refine lv_istore (lv' := [(6, .int q12), (0, .ref (X.2.1 0)), (1, .int a1), (2, .int a2), (3, .int a3), (4, .int a4), (5, .int a5)]) C.1 C.2.1 dX8_counts_71 hl (by decide) rfl (fun ls hl => ?_)
                refine lv_iload C.1 C.2.1 dX8_counts_73 (lv_at hl 0 rfl) ?_
                refine lv_iconst (v := (-1)) C.1 C.2.1 dX8_counts_75 (by decide) ?_
                refine lv_icmp_eq (tgt := 97) C.1 C.2.1 dX8_counts_76 (by decide) (fun c13 => ?_) (fun c13 => ?_)
                · have h := ite_t c13 h
                  exact b97 σ h _ _ hw ls (lv_sub hl [1, 2, 3, 4, 5, 6] rfl)
                · have h := ite_f c13 h
                  refine lv_aload_n C.1 C.2.1 dX8_counts_79 rfl (lv_at hl 1 rfl) ?_
                  refine r_get (v := .ref (X.2.1 24)) C hw l_0 vc_8 kX8 3 rfl (by decide) gw_411 rfl dX8_counts_80 ?_
                  refine r_getN (v := .ref (X.2.1 29)) C hw l_24 vc_3 kX3 5 rfl (by decide) nw_279 rfl dX8_counts_83 ?_
                  refine lv_iload C.1 C.2.1 dX8_counts_86 (lv_at hl 0 rfl) ?_
                  obtain ⟨v21, ev21, h⟩ := bnd h
                  refine r_ald C hw l_29 ev21 dX8_counts_88 ?_
                  refine lv_iload C.1 C.2.1 dX8_counts_89 (lv_at hl 6 rfl) ?_
                  refine lv_icmp_ne (tgt := 97) C.1 C.2.1 dX8_counts_91 (by decide) (fun c22 => ?_) (fun c22 => ?_)
                  · have h := ite_f c22 h
                    exact b97 σ h _ _ hw ls (lv_sub hl [1, 2, 3, 4, 5, 6] rfl)
                  · have h := ite_t c22 h
                    refine lv_bipush (v := (-3)) C.1 C.2.1 dX8_counts_94 (by decide) ?_
                    exact r_iret C hr hlk hw (Prod.mk.inj (Option.some.inj h)).1 (Prod.mk.inj (Option.some.inj h)).2 dX8_counts_96
              · have h := ite_f c11 h
                refine lv_bipush (v := (-2)) C.1 C.2.1 dX8_counts_58 (by decide) ?_
                exact r_iret C hr hlk hw (Prod.mk.inj (Option.some.inj h)).1 (Prod.mk.inj (Option.some.inj h)).2 dX8_counts_60
            · have h := ite_f c9 h
              refine lv_iconst (v := (-1)) C.1 C.2.1 dX8_counts_43 (by decide) ?_
              exact r_iret C hr hlk hw (Prod.mk.inj (Option.some.inj h)).1 (Prod.mk.inj (Option.some.inj h)).2 dX8_counts_44
def f_X1_append (σ : St) (a1 : Int32) (a2 : Int32) (a3 : Int32) (a4 : Int32) : Option St :=
  if 40 ≤ (σ.1 31 0) then (some σ) else ((wr σ 32 40 (σ.1 31 0) a1).bind fun σ2 => (wr σ2 33 40 (σ2.1 31 0) a2).bind fun σ3 => (wr σ3 34 40 (σ3.1 31 0) a3).bind fun σ4 => (wr σ4 35 40 (σ4.1 31 0) a4).bind fun σ5 => nm (upI σ5 31 0 ((σ5.1 31 0) + 1)) fun σ6 => some σ6)
set_option maxRecDepth 100000 in
set_option maxHeartbeats 4000000 in
theorem ok_X1_append (X : Xc) (l : Launch) (σ : St) (a1 : Int32) (a2 : Int32) (a3 : Int32) (a4 : Int32) (σ' : St) (h : f_X1_append σ a1 a2 a3 a4 = some σ') : Ok X l yX1_append cX1_append 5 none 0 0 [.ref (X.2.1 31), .int a1, .int a2, .int a3, .int a4] σ none σ' := by
  refine Ok.of (by decide) (Nat.le_of_ble_eq_true rfl) ?_
  intro p e s m args below meth c C hr hlk hw ls hl
  have C : Cx p s m args c X cX1_append 5 "RunningCount$AdjustmentList" := C
  have hl : lv_has ls 5 [(0, .ref (X.2.1 31)), (1, .int a1), (2, .int a2), (3, .int a3), (4, .int a4)] := hl
  rw [f_X1_append] at h
  refine lv_aload_n C.1 C.2.1 dX1_append_0 rfl (lv_at hl 0 rfl) ?_
  refine r_get (v := .int (σ.1 31 0)) C hw l_31 vc_1 kX1 0 rfl (by decide) gw_304 rfl dX1_append_1 ?_
  refine lv_bipush (v := 40) C.1 C.2.1 dX1_append_4 (by decide) ?_
  refine lv_icmp_ge (tgt := 60) C.1 C.2.1 dX1_append_6 (by decide) (fun c1 => ?_) (fun c1 => ?_)
  · have h := ite_t c1 h
    exact r_vret C hr hlk hw (Option.some.inj h) dX1_append_60
  · have h := ite_f c1 h
    refine lv_aload_n C.1 C.2.1 dX1_append_9 rfl (lv_at hl 0 rfl) ?_
    refine r_get (v := .ref (X.2.1 32)) C hw l_31 vc_1 kX1 1 rfl (by decide) gw_306 rfl dX1_append_10 ?_
    refine lv_aload_n C.1 C.2.1 dX1_append_13 rfl (lv_at hl 0 rfl) ?_
    refine r_get (v := .int (σ.1 31 0)) C hw l_31 vc_1 kX1 0 rfl (by decide) gw_304 rfl dX1_append_14 ?_
    refine lv_iload_n C.1 C.2.1 dX1_append_17 rfl (lv_at hl 1 rfl) ?_
    obtain ⟨σ2, eσ2, h⟩ := bnd h
    refine r_ast C hw l_32 eσ2 dX1_append_18 (fun H locs hw => ?_)
    refine lv_aload_n C.1 C.2.1 dX1_append_19 rfl (lv_at hl 0 rfl) ?_
    refine r_get (v := .ref (X.2.1 33)) C hw l_31 vc_1 kX1 2 rfl (by decide) gw_308 rfl dX1_append_20 ?_
    refine lv_aload_n C.1 C.2.1 dX1_append_23 rfl (lv_at hl 0 rfl) ?_
    refine r_get (v := .int (σ2.1 31 0)) C hw l_31 vc_1 kX1 0 rfl (by decide) gw_304 rfl dX1_append_24 ?_
    refine lv_iload_n C.1 C.2.1 dX1_append_27 rfl (lv_at hl 2 rfl) ?_
    obtain ⟨σ3, eσ3, h⟩ := bnd h
    refine r_ast C hw l_33 eσ3 dX1_append_28 (fun H locs hw => ?_)
    refine lv_aload_n C.1 C.2.1 dX1_append_29 rfl (lv_at hl 0 rfl) ?_
    refine r_get (v := .ref (X.2.1 34)) C hw l_31 vc_1 kX1 3 rfl (by decide) gw_310 rfl dX1_append_30 ?_
    refine lv_aload_n C.1 C.2.1 dX1_append_33 rfl (lv_at hl 0 rfl) ?_
    refine r_get (v := .int (σ3.1 31 0)) C hw l_31 vc_1 kX1 0 rfl (by decide) gw_304 rfl dX1_append_34 ?_
    refine lv_iload_n C.1 C.2.1 dX1_append_37 rfl (lv_at hl 3 rfl) ?_
    obtain ⟨σ4, eσ4, h⟩ := bnd h
    refine r_ast C hw l_34 eσ4 dX1_append_38 (fun H locs hw => ?_)
    refine lv_aload_n C.1 C.2.1 dX1_append_39 rfl (lv_at hl 0 rfl) ?_
    refine r_get (v := .ref (X.2.1 35)) C hw l_31 vc_1 kX1 4 rfl (by decide) gw_312 rfl dX1_append_40 ?_
    refine lv_aload_n C.1 C.2.1 dX1_append_43 rfl (lv_at hl 0 rfl) ?_
    refine r_get (v := .int (σ4.1 31 0)) C hw l_31 vc_1 kX1 0 rfl (by decide) gw_304 rfl dX1_append_44 ?_
    refine lv_iload C.1 C.2.1 dX1_append_47 (lv_at hl 4 rfl) ?_
    obtain ⟨σ5, eσ5, h⟩ := bnd h
    refine r_ast C hw l_35 eσ5 dX1_append_49 (fun H locs hw => ?_)
    refine lv_aload_n C.1 C.2.1 dX1_append_50 rfl (lv_at hl 0 rfl) ?_
    refine lv_dup C.1 C.2.1 dX1_append_51 rfl ?_
    refine r_get (v := .int (σ5.1 31 0)) C hw l_31 vc_1 kX1 0 rfl (by decide) gw_304 rfl dX1_append_52 ?_
    refine lv_iconst (v := 1) C.1 C.2.1 dX1_append_55 (by decide) ?_
    refine lv_iadd C.1 C.2.1 dX1_append_56 ?_
    obtain ⟨σ6, eσ6, h⟩ := nm_d h
    refine r_put C hw l_31 vc_1 kX1 tyX1 tyX1_ok nmX1 0 (by decide) (by decide) gw_304 rfl rfl rfl (put_i l_31 rfl eσ6) dX1_append_57 (fun H locs hw => ?_)
    exact r_vret C hr hlk hw (Option.some.inj h) dX1_append_60
def f_X3_postUpTo_b6 (a1 : Int32) (a2 : Int32) (a3 : Int32) : Nat → St → Int64 → Int32 → Option (Int64 × St)
  | 0, _, _, _ => none
  | n + 1, σ, x4, x6 => if (σ.1 24 0) ≤ x6 then (some (x4, σ)) else ((f_X3_isOpenAt σ x6 a1 a2).bind fun q2 => if (b2i q2) = 0 then (nm (x6 + 1) fun v4 => f_X3_postUpTo_b6 a1 a2 a3 n σ x4 v4) else ((rd σ 27 40 x6).bind fun v5 => if a3 < v5 then (nm (x6 + 1) fun v7 => f_X3_postUpTo_b6 a1 a2 a3 n σ x4 v7) else ((wr σ 30 40 x6 (vp_nar .boolean 1)).bind fun σ8 => nm (x4 ||| ((1 : Int64) <<< (x6.toInt64 &&& 63))) fun v9 => nm (x6 + 1) fun v10 => f_X3_postUpTo_b6 a1 a2 a3 n σ8 v9 v10)))
def f_X3_postUpTo (σ : St) (a1 : Int32) (a2 : Int32) (a3 : Int32) : Option (Int64 × St) :=
  f_X3_postUpTo_b6 a1 a2 a3 10000 σ 0 0
set_option maxRecDepth 100000 in
set_option maxHeartbeats 4000000 in
theorem ok_X3_postUpTo (X : Xc) (l : Launch) (σ : St) (a1 : Int32) (a2 : Int32) (a3 : Int32) (r : Int64) (σ' : St) (h : f_X3_postUpTo σ a1 a2 a3 = some (r, σ')) : Ok X l yX3_postUpTo cX3_postUpTo 7 (some .long) 2 46 [.ref (X.2.1 24), .int a1, .int a2, .int a3] σ (some (.long r)) σ' := by
  refine Ok.of (by decide) (Nat.le_of_ble_eq_true rfl) ?_
  intro p e s m args below meth c C hr hlk hw ls hl
  have C : Cx p s m args c X cX3_postUpTo 7 "RunningCount$CountList" := C
  have hl : lv_has ls 7 [(0, .ref (X.2.1 24)), (1, .int a1), (2, .int a2), (3, .int a3)] := hl
  have b6 : ∀ (n : Nat), ∀ (σ : St) (x4 : Int64) (x6 : Int32), f_X3_postUpTo_b6 a1 a2 a3 n σ x4 x6 = some (r, σ') → ∀ (H : Heap) (locs : List Loc), At X σ s.heap H locs → ∀ ls : Array Slot, lv_has ls 7 [(0, .ref (X.2.1 24)), (1, .int a1), (2, .int a2), (3, .int a3), (4, .long x4), (6, .int x6)] → W p l e (rmX 2 46) s m args below meth c H locs 0 0 (Zq X below s args (some (.long r)) σ') (F0 m 6 ls []) := by
    intro n
    induction n with
    | zero =>
      intro σ x4 x6 h
      exact no_some h
    | succ n ih =>
      intro σ x4 x6 h H locs hw ls hl
      rw [f_X3_postUpTo_b6] at h
      refine lv_iload C.1 C.2.1 dX3_postUpTo_6 (lv_at hl 5 rfl) ?_
      refine lv_aload_n C.1 C.2.1 dX3_postUpTo_8 rfl (lv_at hl 0 rfl) ?_
      refine r_get (v := .int (σ.1 24 0)) C hw l_24 vc_3 kX3 0 rfl (by decide) gw_268 rfl dX3_postUpTo_9 ?_
      refine lv_icmp_ge (tgt := 60) C.1 C.2.1 dX3_postUpTo_12 (by decide) (fun c1 => ?_) (fun c1 => ?_)
      · have h := ite_t c1 h
        refine lv_lload C.1 C.2.1 dX3_postUpTo_60 (lv_at hl 4 rfl) ?_
        exact r_lret C hr hlk hw (Prod.mk.inj (Option.some.inj h)).1 (Prod.mk.inj (Option.some.inj h)).2 dX3_postUpTo_62
      · have h := ite_f c1 h
        refine lv_aload_n C.1 C.2.1 dX3_postUpTo_15 rfl (lv_at hl 0 rfl) ?_
        refine lv_iload C.1 C.2.1 dX3_postUpTo_16 (lv_at hl 5 rfl) ?_
        refine lv_iload_n C.1 C.2.1 dX3_postUpTo_18 rfl (lv_at hl 1 rfl) ?_
        refine lv_iload_n C.1 C.2.1 dX3_postUpTo_19 rfl (lv_at hl 2 rfl) ?_
        obtain ⟨q2, eq2, h⟩ := bnd h
        refine r_callV (As := [.int x6, .int a1, .int a2]) C hw (ok_X3_isOpenAt X l σ x6 a1 a2 _ eq2) l_24 vc_3 gw_771 gw_768 gw_770 gw_50 gw_118 hl.1 pd_X3_isOpenAt ⟨Nat.le_of_ble_eq_true rfl, Nat.le_of_ble_eq_true rfl⟩ ⟨Nat.le_refl 0, Nat.le_refl 0⟩ (rest := []) (Nat.le_of_ble_eq_true rfl) dX3_postUpTo_20 rfl (fun H locs hw => ?_)
        refine lv_if_eq (tgt := 54) C.1 C.2.1 dX3_postUpTo_23 (by decide) (fun c3 => ?_) (fun c3 => ?_)
        · have h := ite_t c3 h
          obtain ⟨v4, ev4, h⟩ := nm_d h
          refine lv_iinc (v := v4) (lv' := [(6, .int v4), (0, .ref (X.2.1 24)), (1, .int a1), (2, .int a2), (3, .int a3), (4, .long x4)]) C.1 C.2.1 dX3_postUpTo_54 hl (k := 5) rfl (by rw [ev4]; rfl) (by decide) rfl (fun ls hl => ?_)
          refine lv_goto (tgt := 6) C.1 C.2.1 dX3_postUpTo_57 (by decide) ?_
          exact ih σ x4 v4 h _ _ hw ls (lv_sub hl [1, 2, 3, 4, 5, 0] rfl)
        · have h := ite_f c3 h
          refine lv_aload_n C.1 C.2.1 dX3_postUpTo_26 rfl (lv_at hl 0 rfl) ?_
          refine r_get (v := .ref (X.2.1 27)) C hw l_24 vc_3 kX3 3 rfl (by decide) gw_274 rfl dX3_postUpTo_27 ?_
          refine lv_iload C.1 C.2.1 dX3_postUpTo_30 (lv_at hl 5 rfl) ?_
          obtain ⟨v5, ev5, h⟩ := bnd h
          refine r_ald C hw l_27 ev5 dX3_postUpTo_32 ?_
          refine lv_iload_n C.1 C.2.1 dX3_postUpTo_33 rfl (lv_at hl 3 rfl) ?_
          refine lv_icmp_gt (tgt := 54) C.1 C.2.1 dX3_postUpTo_34 (by decide) (fun c6 => ?_) (fun c6 => ?_)
          · have h := ite_t c6 h
            obtain ⟨v7, ev7, h⟩ := nm_d h
            refine lv_iinc (v := v7) (lv' := [(6, .int v7), (0, .ref (X.2.1 24)), (1, .int a1), (2, .int a2), (3, .int a3), (4, .long x4)]) C.1 C.2.1 dX3_postUpTo_54 hl (k := 5) rfl (by rw [ev7]; rfl) (by decide) rfl (fun ls hl => ?_)
            refine lv_goto (tgt := 6) C.1 C.2.1 dX3_postUpTo_57 (by decide) ?_
            exact ih σ x4 v7 h _ _ hw ls (lv_sub hl [1, 2, 3, 4, 5, 0] rfl)
          · have h := ite_f c6 h
            refine lv_aload_n C.1 C.2.1 dX3_postUpTo_37 rfl (lv_at hl 0 rfl) ?_
            refine r_get (v := .ref (X.2.1 30)) C hw l_24 vc_3 kX3 6 rfl (by decide) gw_280 rfl dX3_postUpTo_38 ?_
            refine lv_iload C.1 C.2.1 dX3_postUpTo_41 (lv_at hl 5 rfl) ?_
            refine lv_iconst (v := 1) C.1 C.2.1 dX3_postUpTo_43 (by decide) ?_
            obtain ⟨σ8, eσ8, h⟩ := bnd h
            refine r_zast C hw l_30 eσ8 dX3_postUpTo_44 (fun H locs hw => ?_)
            refine lv_lload C.1 C.2.1 dX3_postUpTo_45 (lv_at hl 4 rfl) ?_
            refine lv_lconst (v := 1) C.1 C.2.1 dX3_postUpTo_47 (by decide) ?_
            refine lv_iload C.1 C.2.1 dX3_postUpTo_48 (lv_at hl 5 rfl) ?_
            refine lv_lshl (v := (1 : Int64) <<< (x6.toInt64 &&& 63)) C.1 C.2.1 dX3_postUpTo_50 rfl ?_
            refine lv_lor C.1 C.2.1 dX3_postUpTo_51 ?_
            obtain ⟨v9, ev9, h⟩ := nm_d h
            refine lv_nml ev9 ?_
            refine lv_lstore (lv' := [(4, .long v9), (0, .ref (X.2.1 24)), (1, .int a1), (2, .int a2), (3, .int a3), (6, .int x6)]) C.1 C.2.1 dX3_postUpTo_52 hl (by decide) rfl (fun ls hl => ?_)
            obtain ⟨v10, ev10, h⟩ := nm_d h
            refine lv_iinc (v := v10) (lv' := [(6, .int v10), (4, .long v9), (0, .ref (X.2.1 24)), (1, .int a1), (2, .int a2), (3, .int a3)]) C.1 C.2.1 dX3_postUpTo_54 hl (k := 5) rfl (by rw [ev10]; rfl) (by decide) rfl (fun ls hl => ?_)
            refine lv_goto (tgt := 6) C.1 C.2.1 dX3_postUpTo_57 (by decide) ?_
            exact ih σ8 v9 v10 h _ _ hw ls (lv_sub hl [2, 3, 4, 5, 1, 0] rfl)
  rw [f_X3_postUpTo] at h
  refine lv_lconst (v := 0) C.1 C.2.1 dX3_postUpTo_0 (by decide) ?_
  refine lv_lstore (lv' := [(4, .long 0), (0, .ref (X.2.1 24)), (1, .int a1), (2, .int a2), (3, .int a3)]) C.1 C.2.1 dX3_postUpTo_1 hl (by decide) rfl (fun ls hl => ?_)
  refine lv_iconst (v := 0) C.1 C.2.1 dX3_postUpTo_3 (by decide) ?_
  refine lv_istore (lv' := [(6, .int 0), (4, .long 0), (0, .ref (X.2.1 24)), (1, .int a1), (2, .int a2), (3, .int a3)]) C.1 C.2.1 dX3_postUpTo_4 hl (by decide) rfl (fun ls hl => ?_)
  exact b6 10000 σ 0 0 h _ _ hw ls (lv_sub hl [2, 3, 4, 5, 1, 0] rfl)
def f_X8_post_b22 (a1 : Int32) (a2 : Int32) (σ : St) (s0 : Int32) : Option (Int32 × St) :=
  if 0 ≤ s0 then ((rd σ 27 40 s0).bind fun v5 => (f_X8_differenceOf σ s0).bind fun q6 => (f_X1_append q6.2 a1 a2 v5 q6.1).bind fun q7 => (f_X5_begin q7 4 s0).bind fun q8 => (f_X3_postUpTo q8.2 a1 a2 v5).bind fun q10 => nm (upL q10.2 q8.1 q10.1) fun σ11 => some (q6.1, σ11)) else (some ((-100000000), σ))
def f_X8_post (σ : St) (a1 : Int32) (a2 : Int32) : Option (Int32 × St) :=
  if (b2i (f_X4_hasCouple σ (σ.2.2.1) a1 a2)) = 0 then (f_X8_post_b22 a1 a2 σ (-1)) else ((f_X8_chosenOf σ a1 a2).bind fun q12 => f_X8_post_b22 a1 a2 q12.2 q12.1)
set_option maxRecDepth 100000 in
set_option maxHeartbeats 4000000 in
theorem ok_X8_post (X : Xc) (l : Launch) (σ : St) (a1 : Int32) (a2 : Int32) (r : Int32) (σ' : St) (h : f_X8_post σ a1 a2 = some (r, σ')) : Ok X l yX8_post cX8_post 7 (some .int) 6 148 [.ref (X.2.1 0), .int a1, .int a2] σ (some (.int r)) σ' := by
  refine Ok.of (by decide) (Nat.le_of_ble_eq_true rfl) ?_
  intro p e s m args below meth c C hr hlk hw ls hl
  have C : Cx p s m args c X cX8_post 7 "RunningCount" := C
  have hl : lv_has ls 7 [(0, .ref (X.2.1 0)), (1, .int a1), (2, .int a2)] := hl
  have b22 : ∀ (σ : St) (s0 : Int32), f_X8_post_b22 a1 a2 σ s0 = some (r, σ') → ∀ (H : Heap) (locs : List Loc), At X σ s.heap H locs → ∀ ls : Array Slot, lv_has ls 7 [(0, .ref (X.2.1 0)), (1, .int a1), (2, .int a2)] → W p l e (rmX 6 148) s m args below meth c H locs 0 0 (Zq X below s args (some (.int r)) σ') (F0 m 22 ls [.int s0]) := by
    intro σ s0 h H locs hw ls hl
    rw [f_X8_post_b22] at h
    refine lv_istore_n (lv' := [(3, .int s0), (0, .ref (X.2.1 0)), (1, .int a1), (2, .int a2)]) C.1 C.2.1 dX8_post_22 rfl hl (by decide) rfl (fun ls hl => ?_)
    refine lv_iload_n C.1 C.2.1 dX8_post_23 rfl (lv_at hl 0 rfl) ?_
    refine lv_if_ge (tgt := 30) C.1 C.2.1 dX8_post_24 (by decide) (fun c4 => ?_) (fun c4 => ?_)
    · have h := ite_t c4 h
      refine lv_aload_n C.1 C.2.1 dX8_post_30 rfl (lv_at hl 1 rfl) ?_
      refine r_get (v := .ref (X.2.1 24)) C hw l_0 vc_8 kX8 3 rfl (by decide) gw_411 rfl dX8_post_31 ?_
      refine r_getN (v := .ref (X.2.1 27)) C hw l_24 vc_3 kX3 3 rfl (by decide) nw_275 rfl dX8_post_34 ?_
      refine lv_iload_n C.1 C.2.1 dX8_post_37 rfl (lv_at hl 0 rfl) ?_
      obtain ⟨v5, ev5, h⟩ := bnd h
      refine r_ald C hw l_27 ev5 dX8_post_38 ?_
      refine lv_istore (lv' := [(4, .int v5), (3, .int s0), (0, .ref (X.2.1 0)), (1, .int a1), (2, .int a2)]) C.1 C.2.1 dX8_post_39 hl (by decide) rfl (fun ls hl => ?_)
      refine lv_aload_n C.1 C.2.1 dX8_post_41 rfl (lv_at hl 2 rfl) ?_
      refine lv_iload_n C.1 C.2.1 dX8_post_42 rfl (lv_at hl 1 rfl) ?_
      obtain ⟨q6, eq6, h⟩ := bnd h
      refine r_callV (As := [.int s0]) C hw (ok_X8_differenceOf X l σ s0 _ _ eq6) l_0 vc_8 gw_746 gw_743 gw_745 gw_46 gw_114 hl.1 pd_X8_differenceOf ⟨Nat.le_of_ble_eq_true rfl, Nat.le_of_ble_eq_true rfl⟩ ⟨Nat.le_refl 0, Nat.le_refl 0⟩ (rest := []) (Nat.le_of_ble_eq_true rfl) dX8_post_43 rfl (fun H locs hw => ?_)
      refine lv_istore (lv' := [(5, .int q6.1), (4, .int v5), (3, .int s0), (0, .ref (X.2.1 0)), (1, .int a1), (2, .int a2)]) C.1 C.2.1 dX8_post_46 hl (by decide) rfl (fun ls hl => ?_)
      refine lv_aload_n C.1 C.2.1 dX8_post_48 rfl (lv_at hl 3 rfl) ?_
      refine r_get (v := .ref (X.2.1 31)) C hw l_0 vc_8 kX8 4 rfl (by decide) gw_412 rfl dX8_post_49 ?_
      refine lv_iload_n C.1 C.2.1 dX8_post_52 rfl (lv_at hl 4 rfl) ?_
      refine lv_iload_n C.1 C.2.1 dX8_post_53 rfl (lv_at hl 5 rfl) ?_
      refine lv_iload C.1 C.2.1 dX8_post_54 (lv_at hl 1 rfl) ?_
      refine lv_iload C.1 C.2.1 dX8_post_56 (lv_at hl 0 rfl) ?_
      obtain ⟨q7, eq7, h⟩ := bnd h
      refine r_callVN (As := [.int a1, .int a2, .int v5, .int q6.1]) C hw (ok_X1_append X l q6.2 a1 a2 v5 q6.1 _ eq7) l_31 vc_1 gw_869 nw_866 gw_868 gw_62 gw_119 hl.1 pd_X1_append ⟨Nat.le_of_ble_eq_true rfl, Nat.le_of_ble_eq_true rfl⟩ ⟨Nat.le_refl 0, Nat.le_refl 0⟩ (rest := []) (Nat.le_of_ble_eq_true rfl) dX8_post_58 rfl (fun H locs hw => ?_)
      refine lv_aload_n C.1 C.2.1 dX8_post_61 rfl (lv_at hl 3 rfl) ?_
      refine r_get (v := .ref (X.2.1 36)) C hw l_0 vc_8 kX8 5 rfl (by decide) gw_413 rfl dX8_post_62 ?_
      refine lv_iconst (v := 4) C.1 C.2.1 dX8_post_65 (by decide) ?_
      refine lv_iload_n C.1 C.2.1 dX8_post_66 rfl (lv_at hl 2 rfl) ?_
      obtain ⟨q8, eq8, h⟩ := bnd h
      refine r_callVN (As := [.int 4, .int s0]) C hw (ok_X5_begin X l q7 4 s0 _ _ eq8) l_36 vc_5 gw_816 nw_813 gw_815 gw_55 gw_120 hl.1 pd_X5_begin ⟨Nat.le_of_ble_eq_true rfl, Nat.le_of_ble_eq_true rfl⟩ ⟨Nat.le_refl 0, Nat.le_refl 0⟩ (rest := []) (Nat.le_of_ble_eq_true rfl) dX8_post_67 rfl (fun H locs hw => ?_)
      have hA9 : isA q8.1 := isA_X5_begin eq8
      refine lv_astore (lv' := [(6, .ref (X.2.1 q8.1)), (5, .int q6.1), (4, .int v5), (3, .int s0), (0, .ref (X.2.1 0)), (1, .int a1), (2, .int a2)]) C.1 C.2.1 dX8_post_70 hl (by decide) rfl (fun ls hl => ?_)
      refine lv_aload C.1 C.2.1 dX8_post_72 (lv_at hl 0 rfl) ?_
      refine lv_aload_n C.1 C.2.1 dX8_post_74 rfl (lv_at hl 4 rfl) ?_
      refine r_get (v := .ref (X.2.1 24)) C hw l_0 vc_8 kX8 3 rfl (by decide) gw_411 rfl dX8_post_75 ?_
      refine lv_iload_n C.1 C.2.1 dX8_post_78 rfl (lv_at hl 5 rfl) ?_
      refine lv_iload_n C.1 C.2.1 dX8_post_79 rfl (lv_at hl 6 rfl) ?_
      refine lv_iload C.1 C.2.1 dX8_post_80 (lv_at hl 2 rfl) ?_
      obtain ⟨q10, eq10, h⟩ := bnd h
      refine r_callVN (As := [.int a1, .int a2, .int v5]) C hw (ok_X3_postUpTo X l q8.2 a1 a2 v5 _ _ eq10) l_24 vc_3 gw_873 nw_870 gw_872 gw_63 gw_118 hl.1 pd_X3_postUpTo ⟨Nat.le_of_ble_eq_true rfl, Nat.le_of_ble_eq_true rfl⟩ ⟨Nat.le_refl 0, Nat.le_refl 0⟩ (rest := [.ref (X.2.1 q8.1)]) (Nat.le_of_ble_eq_true rfl) dX8_post_82 rfl (fun H locs hw => ?_)
      obtain ⟨σ11, eσ11, h⟩ := nm_d h
      refine r_putN C hw (la_o hA9) vc_0 kX0 tyX0 tyX0_ok nmX0 9 (by decide) (by decide) nw_349 rfl rfl rfl (put_l (la_o hA9) rfl rfl eσ11) dX8_post_85 (fun H locs hw => ?_)
      refine lv_iload C.1 C.2.1 dX8_post_88 (lv_at hl 1 rfl) ?_
      exact r_iret C hr hlk hw (Prod.mk.inj (Option.some.inj h)).1 (Prod.mk.inj (Option.some.inj h)).2 dX8_post_90
    · have h := ite_f c4 h
      refine lv_ldc (v := (-100000000)) C.1 C.2.1 C.2.2.2.1 (C.2.2.2.2.1 _ gw_676) dX8_post_27 ?_
      exact r_iret C hr hlk hw (Prod.mk.inj (Option.some.inj h)).1 (Prod.mk.inj (Option.some.inj h)).2 dX8_post_29
  rw [f_X8_post] at h
  refine lv_aload_n C.1 C.2.1 dX8_post_0 rfl (lv_at hl 0 rfl) ?_
  have hz1 := hw.2.2.1
  refine r_get (v := .ref (X.2.1 (σ.2.2.1))) C hw l_0 vc_8 kX8 1 rfl (by decide) gw_409 rfl dX8_post_1 ?_
  refine lv_iload_n C.1 C.2.1 dX8_post_4 rfl (lv_at hl 1 rfl) ?_
  refine lv_iload_n C.1 C.2.1 dX8_post_5 rfl (lv_at hl 2 rfl) ?_
  refine r_callVN (As := [.int a1, .int a2]) C hw (ok_X4_hasCouple X l σ (σ.2.2.1) a1 a2 hz1 _ rfl) (lg_0 hz1) vc_4 gw_602 nw_672 gw_601 gw_22 gw_117 hl.1 pd_X4_hasCouple ⟨Nat.le_of_ble_eq_true rfl, Nat.le_of_ble_eq_true rfl⟩ ⟨Nat.le_refl 0, Nat.le_refl 0⟩ (rest := []) (Nat.le_of_ble_eq_true rfl) dX8_post_6 rfl (fun H locs hw => ?_)
  refine lv_if_eq (tgt := 21) C.1 C.2.1 dX8_post_9 (by decide) (fun c3 => ?_) (fun c3 => ?_)
  · have h := ite_t c3 h
    refine lv_iconst (v := (-1)) C.1 C.2.1 dX8_post_21 (by decide) ?_
    exact b22 σ (-1) h _ _ hw ls (lv_sub hl [0, 1, 2] rfl)
  · have h := ite_f c3 h
    refine lv_aload_n C.1 C.2.1 dX8_post_12 rfl (lv_at hl 0 rfl) ?_
    refine lv_iload_n C.1 C.2.1 dX8_post_13 rfl (lv_at hl 1 rfl) ?_
    refine lv_iload_n C.1 C.2.1 dX8_post_14 rfl (lv_at hl 2 rfl) ?_
    obtain ⟨q12, eq12, h⟩ := bnd h
    refine r_callV (As := [.int a1, .int a2]) C hw (ok_X8_chosenOf X l σ a1 a2 _ _ eq12) l_0 vc_8 gw_763 gw_760 gw_762 gw_48 gw_114 hl.1 pd_X8_chosenOf ⟨Nat.le_of_ble_eq_true rfl, Nat.le_of_ble_eq_true rfl⟩ ⟨Nat.le_refl 0, Nat.le_refl 0⟩ (rest := []) (Nat.le_of_ble_eq_true rfl) dX8_post_15 rfl (fun H locs hw => ?_)
    refine lv_goto (tgt := 22) C.1 C.2.1 dX8_post_18 (by decide) ?_
    exact b22 q12.2 q12.1 h _ _ hw ls (lv_sub hl [0, 1, 2] rfl)
def f_X3_remove_b11 (a1 : Int32) : Nat → St → Int32 → Option St
  | 0, _, _ => none
  | n + 1, σ, x2 => if ((σ.1 24 0) - 1) ≤ x2 then (nm (upI σ 24 0 ((σ.1 24 0) - 1)) fun σ4 => some σ4) else ((f_X3_copy σ (x2 + 1) x2).bind fun q5 => nm (x2 + 1) fun v6 => f_X3_remove_b11 a1 n q5 v6)
def f_X3_remove (σ : St) (a1 : Int32) : Option St :=
  if (b2i (f_X3_has σ a1)) = 0 then (some σ) else (f_X3_remove_b11 a1 10000 σ a1)
set_option maxRecDepth 100000 in
set_option maxHeartbeats 4000000 in
theorem ok_X3_remove (X : Xc) (l : Launch) (σ : St) (a1 : Int32) (σ' : St) (h : f_X3_remove σ a1 = some σ') : Ok X l yX3_remove cX3_remove 3 none 1 22 [.ref (X.2.1 24), .int a1] σ none σ' := by
  refine Ok.of (by decide) (Nat.le_of_ble_eq_true rfl) ?_
  intro p e s m args below meth c C hr hlk hw ls hl
  have C : Cx p s m args c X cX3_remove 3 "RunningCount$CountList" := C
  have hl : lv_has ls 3 [(0, .ref (X.2.1 24)), (1, .int a1)] := hl
  have b11 : ∀ (n : Nat), ∀ (σ : St) (x2 : Int32), f_X3_remove_b11 a1 n σ x2 = some σ' → ∀ (H : Heap) (locs : List Loc), At X σ s.heap H locs → ∀ ls : Array Slot, lv_has ls 3 [(0, .ref (X.2.1 24)), (2, .int x2)] → W p l e (rmX 1 22) s m args below meth c H locs 0 0 (Zq X below s args none σ') (F0 m 11 ls []) := by
    intro n
    induction n with
    | zero =>
      intro σ x2 h
      exact no_some h
    | succ n ih =>
      intro σ x2 h H locs hw ls hl
      rw [f_X3_remove_b11] at h
      refine lv_iload_n C.1 C.2.1 dX3_remove_11 rfl (lv_at hl 1 rfl) ?_
      refine lv_aload_n C.1 C.2.1 dX3_remove_12 rfl (lv_at hl 0 rfl) ?_
      refine r_get (v := .int (σ.1 24 0)) C hw l_24 vc_3 kX3 0 rfl (by decide) gw_268 rfl dX3_remove_13 ?_
      refine lv_iconst (v := 1) C.1 C.2.1 dX3_remove_16 (by decide) ?_
      refine lv_isub C.1 C.2.1 dX3_remove_17 ?_
      refine lv_icmp_ge (tgt := 35) C.1 C.2.1 dX3_remove_18 (by decide) (fun c3 => ?_) (fun c3 => ?_)
      · have h := ite_t c3 h
        refine lv_aload_n C.1 C.2.1 dX3_remove_35 rfl (lv_at hl 0 rfl) ?_
        refine lv_dup C.1 C.2.1 dX3_remove_36 rfl ?_
        refine r_get (v := .int (σ.1 24 0)) C hw l_24 vc_3 kX3 0 rfl (by decide) gw_268 rfl dX3_remove_37 ?_
        refine lv_iconst (v := 1) C.1 C.2.1 dX3_remove_40 (by decide) ?_
        refine lv_isub C.1 C.2.1 dX3_remove_41 ?_
        obtain ⟨σ4, eσ4, h⟩ := nm_d h
        refine r_put C hw l_24 vc_3 kX3 tyX3 tyX3_ok nmX3 0 (by decide) (by decide) gw_268 rfl rfl rfl (put_i l_24 rfl eσ4) dX3_remove_42 (fun H locs hw => ?_)
        exact r_vret C hr hlk hw (Option.some.inj h) dX3_remove_45
      · have h := ite_f c3 h
        refine lv_aload_n C.1 C.2.1 dX3_remove_21 rfl (lv_at hl 0 rfl) ?_
        refine lv_iload_n C.1 C.2.1 dX3_remove_22 rfl (lv_at hl 1 rfl) ?_
        refine lv_iconst (v := 1) C.1 C.2.1 dX3_remove_23 (by decide) ?_
        refine lv_iadd C.1 C.2.1 dX3_remove_24 ?_
        refine lv_iload_n C.1 C.2.1 dX3_remove_25 rfl (lv_at hl 1 rfl) ?_
        obtain ⟨q5, eq5, h⟩ := bnd h
        refine r_callV (As := [.int (x2 + 1), .int x2]) C hw (ok_X3_copy X l σ (x2 + 1) x2 _ eq5) l_24 vc_3 gw_861 gw_858 gw_860 gw_61 gw_118 hl.1 pd_X3_copy ⟨Nat.le_of_ble_eq_true rfl, Nat.le_of_ble_eq_true rfl⟩ ⟨Nat.le_refl 0, Nat.le_refl 0⟩ (rest := []) (Nat.le_of_ble_eq_true rfl) dX3_remove_26 rfl (fun H locs hw => ?_)
        obtain ⟨v6, ev6, h⟩ := nm_d h
        refine lv_iinc (v := v6) (lv' := [(2, .int v6), (0, .ref (X.2.1 24))]) C.1 C.2.1 dX3_remove_29 hl (k := 1) rfl (by rw [ev6]; rfl) (by decide) rfl (fun ls hl => ?_)
        refine lv_goto (tgt := 11) C.1 C.2.1 dX3_remove_32 (by decide) ?_
        exact ih q5 v6 h _ _ hw ls (lv_sub hl [1, 0] rfl)
  rw [f_X3_remove] at h
  refine lv_aload_n C.1 C.2.1 dX3_remove_0 rfl (lv_at hl 0 rfl) ?_
  refine lv_iload_n C.1 C.2.1 dX3_remove_1 rfl (lv_at hl 1 rfl) ?_
  refine r_callV (As := [.int a1]) C hw (ok_X3_has X l σ a1 _ rfl) l_24 vc_3 gw_742 gw_882 gw_741 gw_45 gw_118 hl.1 pd_X3_has ⟨Nat.le_of_ble_eq_true rfl, Nat.le_of_ble_eq_true rfl⟩ ⟨Nat.le_refl 0, Nat.le_refl 0⟩ (rest := []) (Nat.le_of_ble_eq_true rfl) dX3_remove_2 rfl (fun H locs hw => ?_)
  refine lv_if_ne (tgt := 9) C.1 C.2.1 dX3_remove_5 (by decide) (fun c2 => ?_) (fun c2 => ?_)
  · have h := ite_f c2 h
    refine lv_iload_n C.1 C.2.1 dX3_remove_9 rfl (lv_at hl 1 rfl) ?_
    refine lv_istore_n (lv' := [(2, .int a1), (0, .ref (X.2.1 24)), (1, .int a1)]) C.1 C.2.1 dX3_remove_10 rfl hl (by decide) rfl (fun ls hl => ?_)
    exact b11 10000 σ a1 h _ _ hw ls (lv_sub hl [1, 0] rfl)
  · have h := ite_t c2 h
    exact r_vret C hr hlk hw (Option.some.inj h) dX3_remove_8
def f_X8_drop (σ : St) (a1 : Int32) : Option (Bool × St) :=
  if (b2i (f_X3_has σ a1)) = 0 then (some (false, σ)) else ((rd σ 30 40 a1).bind fun v3 => if v3 = 0 then ((f_X5_begin σ 5 a1).bind fun q5 => (rd q5.2 25 40 a1).bind fun v7 => nm (upI q5.2 q5.1 4 v7) fun σ8 => (rd σ8 26 40 a1).bind fun v9 => nm (upI σ8 q5.1 5 v9) fun σ10 => (rd σ10 27 40 a1).bind fun v11 => nm (upI σ10 q5.1 6 v11) fun σ12 => (rd σ12 28 40 a1).bind fun v13 => nm (upI σ12 q5.1 7 v13) fun σ14 => (rd σ14 29 40 a1).bind fun v15 => nm (upI σ14 q5.1 8 v15) fun σ16 => (f_X3_remove σ16 a1).bind fun q17 => some (true, q17)) else (some (false, σ)))
set_option maxRecDepth 100000 in
set_option maxHeartbeats 4000000 in
theorem ok_X8_drop (X : Xc) (l : Launch) (σ : St) (a1 : Int32) (r : Bool) (σ' : St) (h : f_X8_drop σ a1 = some (r, σ')) : Ok X l yX8_drop cX8_drop 3 (some .boolean) 2 44 [.ref (X.2.1 0), .int a1] σ (some (.int (b2i r))) σ' := by
  refine Ok.of (by decide) (Nat.le_of_ble_eq_true rfl) ?_
  intro p e s m args below meth c C hr hlk hw ls hl
  have C : Cx p s m args c X cX8_drop 3 "RunningCount" := C
  have hl : lv_has ls 3 [(0, .ref (X.2.1 0)), (1, .int a1)] := hl
  rw [f_X8_drop] at h
  refine lv_aload_n C.1 C.2.1 dX8_drop_0 rfl (lv_at hl 0 rfl) ?_
  refine r_get (v := .ref (X.2.1 24)) C hw l_0 vc_8 kX8 3 rfl (by decide) gw_411 rfl dX8_drop_1 ?_
  refine lv_iload_n C.1 C.2.1 dX8_drop_4 rfl (lv_at hl 1 rfl) ?_
  refine r_callVN (As := [.int a1]) C hw (ok_X3_has X l σ a1 _ rfl) l_24 vc_3 gw_742 nw_739 gw_741 gw_45 gw_118 hl.1 pd_X3_has ⟨Nat.le_of_ble_eq_true rfl, Nat.le_of_ble_eq_true rfl⟩ ⟨Nat.le_refl 0, Nat.le_refl 0⟩ (rest := []) (Nat.le_of_ble_eq_true rfl) dX8_drop_5 rfl (fun H locs hw => ?_)
  refine lv_if_eq (tgt := 23) C.1 C.2.1 dX8_drop_8 (by decide) (fun c2 => ?_) (fun c2 => ?_)
  · have h := ite_t c2 h
    refine lv_iconst (v := 0) C.1 C.2.1 dX8_drop_23 (by decide) ?_
    exact r_zret C hr hlk hw rfl (Prod.mk.inj (Option.some.inj h)).1 (Prod.mk.inj (Option.some.inj h)).2 dX8_drop_24
  · have h := ite_f c2 h
    refine lv_aload_n C.1 C.2.1 dX8_drop_11 rfl (lv_at hl 0 rfl) ?_
    refine r_get (v := .ref (X.2.1 24)) C hw l_0 vc_8 kX8 3 rfl (by decide) gw_411 rfl dX8_drop_12 ?_
    refine r_getN (v := .ref (X.2.1 30)) C hw l_24 vc_3 kX3 6 rfl (by decide) nw_281 rfl dX8_drop_15 ?_
    refine lv_iload_n C.1 C.2.1 dX8_drop_18 rfl (lv_at hl 1 rfl) ?_
    obtain ⟨v3, ev3, h⟩ := bnd h
    refine r_zald C hw l_30 ev3 dX8_drop_19 ?_
    refine lv_if_eq (tgt := 25) C.1 C.2.1 dX8_drop_20 (by decide) (fun c4 => ?_) (fun c4 => ?_)
    · have h := ite_t c4 h
      refine lv_aload_n C.1 C.2.1 dX8_drop_25 rfl (lv_at hl 0 rfl) ?_
      refine r_get (v := .ref (X.2.1 36)) C hw l_0 vc_8 kX8 5 rfl (by decide) gw_413 rfl dX8_drop_26 ?_
      refine lv_iconst (v := 5) C.1 C.2.1 dX8_drop_29 (by decide) ?_
      refine lv_iload_n C.1 C.2.1 dX8_drop_30 rfl (lv_at hl 1 rfl) ?_
      obtain ⟨q5, eq5, h⟩ := bnd h
      refine r_callVN (As := [.int 5, .int a1]) C hw (ok_X5_begin X l σ 5 a1 _ _ eq5) l_36 vc_5 gw_816 nw_813 gw_815 gw_55 gw_120 hl.1 pd_X5_begin ⟨Nat.le_of_ble_eq_true rfl, Nat.le_of_ble_eq_true rfl⟩ ⟨Nat.le_refl 0, Nat.le_refl 0⟩ (rest := []) (Nat.le_of_ble_eq_true rfl) dX8_drop_31 rfl (fun H locs hw => ?_)
      have hA6 : isA q5.1 := isA_X5_begin eq5
      refine lv_astore_n (lv' := [(2, .ref (X.2.1 q5.1)), (0, .ref (X.2.1 0)), (1, .int a1)]) C.1 C.2.1 dX8_drop_34 rfl hl (by decide) rfl (fun ls hl => ?_)
      refine lv_aload_n C.1 C.2.1 dX8_drop_35 rfl (lv_at hl 0 rfl) ?_
      refine lv_aload_n C.1 C.2.1 dX8_drop_36 rfl (lv_at hl 1 rfl) ?_
      refine r_get (v := .ref (X.2.1 24)) C hw l_0 vc_8 kX8 3 rfl (by decide) gw_411 rfl dX8_drop_37 ?_
      refine r_getN (v := .ref (X.2.1 25)) C hw l_24 vc_3 kX3 1 rfl (by decide) nw_271 rfl dX8_drop_40 ?_
      refine lv_iload_n C.1 C.2.1 dX8_drop_43 rfl (lv_at hl 2 rfl) ?_
      obtain ⟨v7, ev7, h⟩ := bnd h
      refine r_ald C hw l_25 ev7 dX8_drop_44 ?_
      obtain ⟨σ8, eσ8, h⟩ := nm_d h
      refine r_putN C hw (la_o hA6) vc_0 kX0 tyX0 tyX0_ok nmX0 4 (by decide) (by decide) nw_344 rfl rfl rfl (put_i (la_o hA6) rfl eσ8) dX8_drop_45 (fun H locs hw => ?_)
      refine lv_aload_n C.1 C.2.1 dX8_drop_48 rfl (lv_at hl 0 rfl) ?_
      refine lv_aload_n C.1 C.2.1 dX8_drop_49 rfl (lv_at hl 1 rfl) ?_
      refine r_get (v := .ref (X.2.1 24)) C hw l_0 vc_8 kX8 3 rfl (by decide) gw_411 rfl dX8_drop_50 ?_
      refine r_getN (v := .ref (X.2.1 26)) C hw l_24 vc_3 kX3 2 rfl (by decide) nw_273 rfl dX8_drop_53 ?_
      refine lv_iload_n C.1 C.2.1 dX8_drop_56 rfl (lv_at hl 2 rfl) ?_
      obtain ⟨v9, ev9, h⟩ := bnd h
      refine r_ald C hw l_26 ev9 dX8_drop_57 ?_
      obtain ⟨σ10, eσ10, h⟩ := nm_d h
      refine r_putN C hw (la_o hA6) vc_0 kX0 tyX0 tyX0_ok nmX0 5 (by decide) (by decide) nw_345 rfl rfl rfl (put_i (la_o hA6) rfl eσ10) dX8_drop_58 (fun H locs hw => ?_)
      refine lv_aload_n C.1 C.2.1 dX8_drop_61 rfl (lv_at hl 0 rfl) ?_
      refine lv_aload_n C.1 C.2.1 dX8_drop_62 rfl (lv_at hl 1 rfl) ?_
      refine r_get (v := .ref (X.2.1 24)) C hw l_0 vc_8 kX8 3 rfl (by decide) gw_411 rfl dX8_drop_63 ?_
      refine r_getN (v := .ref (X.2.1 27)) C hw l_24 vc_3 kX3 3 rfl (by decide) nw_275 rfl dX8_drop_66 ?_
      refine lv_iload_n C.1 C.2.1 dX8_drop_69 rfl (lv_at hl 2 rfl) ?_
      obtain ⟨v11, ev11, h⟩ := bnd h
      refine r_ald C hw l_27 ev11 dX8_drop_70 ?_
      obtain ⟨σ12, eσ12, h⟩ := nm_d h
      refine r_putN C hw (la_o hA6) vc_0 kX0 tyX0 tyX0_ok nmX0 6 (by decide) (by decide) nw_346 rfl rfl rfl (put_i (la_o hA6) rfl eσ12) dX8_drop_71 (fun H locs hw => ?_)
      refine lv_aload_n C.1 C.2.1 dX8_drop_74 rfl (lv_at hl 0 rfl) ?_
      refine lv_aload_n C.1 C.2.1 dX8_drop_75 rfl (lv_at hl 1 rfl) ?_
      refine r_get (v := .ref (X.2.1 24)) C hw l_0 vc_8 kX8 3 rfl (by decide) gw_411 rfl dX8_drop_76 ?_
      refine r_getN (v := .ref (X.2.1 28)) C hw l_24 vc_3 kX3 4 rfl (by decide) nw_277 rfl dX8_drop_79 ?_
      refine lv_iload_n C.1 C.2.1 dX8_drop_82 rfl (lv_at hl 2 rfl) ?_
      obtain ⟨v13, ev13, h⟩ := bnd h
      refine r_ald C hw l_28 ev13 dX8_drop_83 ?_
      obtain ⟨σ14, eσ14, h⟩ := nm_d h
      refine r_putN C hw (la_o hA6) vc_0 kX0 tyX0 tyX0_ok nmX0 7 (by decide) (by decide) nw_347 rfl rfl rfl (put_i (la_o hA6) rfl eσ14) dX8_drop_84 (fun H locs hw => ?_)
      refine lv_aload_n C.1 C.2.1 dX8_drop_87 rfl (lv_at hl 0 rfl) ?_
      refine lv_aload_n C.1 C.2.1 dX8_drop_88 rfl (lv_at hl 1 rfl) ?_
      refine r_get (v := .ref (X.2.1 24)) C hw l_0 vc_8 kX8 3 rfl (by decide) gw_411 rfl dX8_drop_89 ?_
      refine r_getN (v := .ref (X.2.1 29)) C hw l_24 vc_3 kX3 5 rfl (by decide) nw_279 rfl dX8_drop_92 ?_
      refine lv_iload_n C.1 C.2.1 dX8_drop_95 rfl (lv_at hl 2 rfl) ?_
      obtain ⟨v15, ev15, h⟩ := bnd h
      refine r_ald C hw l_29 ev15 dX8_drop_96 ?_
      obtain ⟨σ16, eσ16, h⟩ := nm_d h
      refine r_putN C hw (la_o hA6) vc_0 kX0 tyX0 tyX0_ok nmX0 8 (by decide) (by decide) nw_348 rfl rfl rfl (put_i (la_o hA6) rfl eσ16) dX8_drop_97 (fun H locs hw => ?_)
      refine lv_aload_n C.1 C.2.1 dX8_drop_100 rfl (lv_at hl 1 rfl) ?_
      refine r_get (v := .ref (X.2.1 24)) C hw l_0 vc_8 kX8 3 rfl (by decide) gw_411 rfl dX8_drop_101 ?_
      refine lv_iload_n C.1 C.2.1 dX8_drop_104 rfl (lv_at hl 2 rfl) ?_
      obtain ⟨q17, eq17, h⟩ := bnd h
      refine r_callVN (As := [.int a1]) C hw (ok_X3_remove X l σ16 a1 _ eq17) l_24 vc_3 gw_881 nw_878 gw_880 gw_64 gw_118 hl.1 pd_X3_remove ⟨Nat.le_of_ble_eq_true rfl, Nat.le_of_ble_eq_true rfl⟩ ⟨Nat.le_refl 0, Nat.le_refl 0⟩ (rest := []) (Nat.le_of_ble_eq_true rfl) dX8_drop_105 rfl (fun H locs hw => ?_)
      refine lv_iconst (v := 1) C.1 C.2.1 dX8_drop_108 (by decide) ?_
      exact r_zret C hr hlk hw rfl (Prod.mk.inj (Option.some.inj h)).1 (Prod.mk.inj (Option.some.inj h)).2 dX8_drop_109
    · have h := ite_f c4 h
      refine lv_iconst (v := 0) C.1 C.2.1 dX8_drop_23 (by decide) ?_
      exact r_zret C hr hlk hw rfl (Prod.mk.inj (Option.some.inj h)).1 (Prod.mk.inj (Option.some.inj h)).2 dX8_drop_24
def f_X5_takeLatest_b19 (σ : St) (s1 : Int32) : Option (Nat × St) :=
  nm (upI σ 36 1 s1) fun σ2 => nm (upI σ2 36 0 (if ((σ2.1 36 0) - 1) < 0 then 0 else ((σ2.1 36 0) - 1))) fun σ3 => (rdN 10 (σ3.1 36 1)).bind fun u4 => some ((37 + 1 + u4), σ3)
def f_X5_takeLatest (σ : St) : Option (Nat × St) :=
  if (σ.1 36 1) ≤ 0 then (f_X5_takeLatest_b19 σ 9) else (f_X5_takeLatest_b19 σ ((σ.1 36 1) - 1))
set_option maxRecDepth 100000 in
set_option maxHeartbeats 4000000 in
theorem ok_X5_takeLatest (X : Xc) (l : Launch) (σ : St) (r : Nat) (σ' : St) (h : f_X5_takeLatest σ = some (r, σ')) : Ok X l yX5_takeLatest cX5_takeLatest 1 (some (.object "RunningCount$Act")) 1 16 [.ref (X.2.1 36)] σ (some (.ref (X.2.1 r))) σ' := by
  refine Ok.of (by decide) (Nat.le_of_ble_eq_true rfl) ?_
  intro p e s m args below meth c C hr hlk hw ls hl
  have C : Cx p s m args c X cX5_takeLatest 1 "RunningCount$Journal" := C
  have hl : lv_has ls 1 [(0, .ref (X.2.1 36))] := hl
  have b19 : ∀ (σ : St) (s1 : Int32), f_X5_takeLatest_b19 σ s1 = some (r, σ') → ∀ (H : Heap) (locs : List Loc), At X σ s.heap H locs → ∀ ls : Array Slot, lv_has ls 1 [(0, .ref (X.2.1 36))] → W p l e (rmX 1 16) s m args below meth c H locs 0 0 (Zq X below s args (some (.ref (X.2.1 r))) σ') (F0 m 19 ls [.int s1, .ref (X.2.1 36)]) := by
    intro σ s1 h H locs hw ls hl
    rw [f_X5_takeLatest_b19] at h
    obtain ⟨σ2, eσ2, h⟩ := nm_d h
    refine r_put C hw l_36 vc_5 kX5 tyX5 tyX5_ok nmX5 1 (by decide) (by decide) gw_373 rfl rfl rfl (put_i l_36 rfl eσ2) dX5_takeLatest_19 (fun H locs hw => ?_)
    refine lv_aload_n C.1 C.2.1 dX5_takeLatest_22 rfl (lv_at hl 0 rfl) ?_
    refine lv_aload_n C.1 C.2.1 dX5_takeLatest_23 rfl (lv_at hl 0 rfl) ?_
    refine r_get (v := .int (σ2.1 36 0)) C hw l_36 vc_5 kX5 0 rfl (by decide) gw_371 rfl dX5_takeLatest_24 ?_
    refine lv_iconst (v := 1) C.1 C.2.1 dX5_takeLatest_27 (by decide) ?_
    refine lv_isub C.1 C.2.1 dX5_takeLatest_28 ?_
    refine lv_iconst (v := 0) C.1 C.2.1 dX5_takeLatest_29 (by decide) ?_
    refine va_mmax C.1 C.2.1 (C.2.2.1.trans hl.1.symm) C.2.2.2.1 (C.2.2.2.2.1 _ gw_891) (C.2.2.2.2.1 _ gw_475) (C.2.2.2.2.1 _ gw_124) (C.2.2.2.2.1 _ gw_476) (Nat.le_of_ble_eq_true rfl) (Nat.le_of_ble_eq_true rfl) (Nat.le_refl 0) (Nat.le_refl 0) dX5_takeLatest_30 ?_
    obtain ⟨σ3, eσ3, h⟩ := nm_d h
    refine r_put C hw l_36 vc_5 kX5 tyX5 tyX5_ok nmX5 0 (by decide) (by decide) gw_371 rfl rfl rfl (put_i l_36 rfl eσ3) dX5_takeLatest_33 (fun H locs hw => ?_)
    refine lv_aload_n C.1 C.2.1 dX5_takeLatest_36 rfl (lv_at hl 0 rfl) ?_
    refine r_get (v := .ref (X.2.1 37)) C hw l_36 vc_5 kX5 2 rfl (by decide) gw_374 rfl dX5_takeLatest_37 ?_
    refine lv_aload_n C.1 C.2.1 dX5_takeLatest_40 rfl (lv_at hl 0 rfl) ?_
    refine r_get (v := .int (σ3.1 36 1)) C hw l_36 vc_5 kX5 1 rfl (by decide) gw_373 rfl dX5_takeLatest_41 ?_
    obtain ⟨u4, eu4, h⟩ := bnd h
    have hAu4 : isA (37 + 1 + u4) := isA_of (rdN_ok eu4).2.2
    refine r_aald C hw l_37 eu4 dX5_takeLatest_44 ?_
    exact r_aret C hr hlk hw (Prod.mk.inj (Option.some.inj h)).1 (Prod.mk.inj (Option.some.inj h)).2 dX5_takeLatest_45
  rw [f_X5_takeLatest] at h
  refine lv_aload_n C.1 C.2.1 dX5_takeLatest_0 rfl (lv_at hl 0 rfl) ?_
  refine lv_aload_n C.1 C.2.1 dX5_takeLatest_1 rfl (lv_at hl 0 rfl) ?_
  refine r_get (v := .int (σ.1 36 1)) C hw l_36 vc_5 kX5 1 rfl (by decide) gw_373 rfl dX5_takeLatest_2 ?_
  refine lv_if_le (tgt := 17) C.1 C.2.1 dX5_takeLatest_5 (by decide) (fun c1 => ?_) (fun c1 => ?_)
  · have h := ite_t c1 h
    refine lv_bipush (v := 9) C.1 C.2.1 dX5_takeLatest_17 (by decide) ?_
    exact b19 σ 9 h _ _ hw ls (lv_sub hl [0] rfl)
  · have h := ite_f c1 h
    refine lv_aload_n C.1 C.2.1 dX5_takeLatest_8 rfl (lv_at hl 0 rfl) ?_
    refine r_get (v := .int (σ.1 36 1)) C hw l_36 vc_5 kX5 1 rfl (by decide) gw_373 rfl dX5_takeLatest_9 ?_
    refine lv_iconst (v := 1) C.1 C.2.1 dX5_takeLatest_12 (by decide) ?_
    refine lv_isub C.1 C.2.1 dX5_takeLatest_13 ?_
    refine lv_goto (tgt := 19) C.1 C.2.1 dX5_takeLatest_14 (by decide) ?_
    exact b19 σ ((σ.1 36 1) - 1) h _ _ hw ls (lv_sub hl [0] rfl)
theorem isA_X5_takeLatest {σ : St} {q : Nat × St} (h : f_X5_takeLatest σ = some q) : isA q.1 := by
  have key : ∀ (σ : St) (x : Int32), f_X5_takeLatest_b19 σ x = some q → isA q.1 := by
    intro σ x h
    rw [f_X5_takeLatest_b19] at h
    simp only [nm] at h
    obtain ⟨u, hu, h⟩ := bnd h
    cases h
    exact isA_of (rdN_ok hu).2.2
  rw [f_X5_takeLatest] at h
  split at h
  · exact key _ _ h
  · exact key _ _ h
def f_X4_removeLastMove (σ : St) (g0 : Nat) : Option St :=
  if (σ.1 g0 2) ≤ 0 then (some σ) else (nm (upI σ g0 2 ((σ.1 g0 2) - 1)) fun σ2 => some σ2)
set_option maxRecDepth 100000 in
set_option maxHeartbeats 4000000 in
theorem ok_X4_removeLastMove (X : Xc) (l : Launch) (σ : St) (g0 : Nat) (hg0 : isG g0) (σ' : St) (h : f_X4_removeLastMove σ g0 = some σ') : Ok X l yX4_removeLastMove cX4_removeLastMove 1 none 0 0 [.ref (X.2.1 g0)] σ none σ' := by
  refine Ok.of (by decide) (Nat.le_of_ble_eq_true rfl) ?_
  intro p e s m args below meth c C hr hlk hw ls hl
  have C : Cx p s m args c X cX4_removeLastMove 1 "RunningCount$Goods" := C
  have hl : lv_has ls 1 [(0, .ref (X.2.1 g0))] := hl
  rw [f_X4_removeLastMove] at h
  refine lv_aload_n C.1 C.2.1 dX4_removeLastMove_0 rfl (lv_at hl 0 rfl) ?_
  refine r_get (v := .int (σ.1 g0 2)) C hw (lg_0 hg0) vc_4 kX4 2 rfl (by decide) gw_217 rfl dX4_removeLastMove_1 ?_
  refine lv_if_le (tgt := 17) C.1 C.2.1 dX4_removeLastMove_4 (by decide) (fun c1 => ?_) (fun c1 => ?_)
  · have h := ite_t c1 h
    exact r_vret C hr hlk hw (Option.some.inj h) dX4_removeLastMove_17
  · have h := ite_f c1 h
    refine lv_aload_n C.1 C.2.1 dX4_removeLastMove_7 rfl (lv_at hl 0 rfl) ?_
    refine lv_dup C.1 C.2.1 dX4_removeLastMove_8 rfl ?_
    refine r_get (v := .int (σ.1 g0 2)) C hw (lg_0 hg0) vc_4 kX4 2 rfl (by decide) gw_217 rfl dX4_removeLastMove_9 ?_
    refine lv_iconst (v := 1) C.1 C.2.1 dX4_removeLastMove_12 (by decide) ?_
    refine lv_isub C.1 C.2.1 dX4_removeLastMove_13 ?_
    obtain ⟨σ2, eσ2, h⟩ := nm_d h
    refine r_put C hw (lg_0 hg0) vc_4 kX4 tyX4 tyX4_ok nmX4 2 (by decide) (by decide) gw_217 rfl rfl rfl (put_i (lg_0 hg0) rfl eσ2) dX4_removeLastMove_14 (fun H locs hw => ?_)
    exact r_vret C hr hlk hw (Option.some.inj h) dX4_removeLastMove_17
def f_X1_removeLast (σ : St) : Option St :=
  if (σ.1 31 0) ≤ 0 then (some σ) else (nm (upI σ 31 0 ((σ.1 31 0) - 1)) fun σ2 => some σ2)
set_option maxRecDepth 100000 in
set_option maxHeartbeats 4000000 in
theorem ok_X1_removeLast (X : Xc) (l : Launch) (σ : St) (σ' : St) (h : f_X1_removeLast σ = some σ') : Ok X l yX1_removeLast cX1_removeLast 1 none 0 0 [.ref (X.2.1 31)] σ none σ' := by
  refine Ok.of (by decide) (Nat.le_of_ble_eq_true rfl) ?_
  intro p e s m args below meth c C hr hlk hw ls hl
  have C : Cx p s m args c X cX1_removeLast 1 "RunningCount$AdjustmentList" := C
  have hl : lv_has ls 1 [(0, .ref (X.2.1 31))] := hl
  rw [f_X1_removeLast] at h
  refine lv_aload_n C.1 C.2.1 dX1_removeLast_0 rfl (lv_at hl 0 rfl) ?_
  refine r_get (v := .int (σ.1 31 0)) C hw l_31 vc_1 kX1 0 rfl (by decide) gw_304 rfl dX1_removeLast_1 ?_
  refine lv_if_le (tgt := 17) C.1 C.2.1 dX1_removeLast_4 (by decide) (fun c1 => ?_) (fun c1 => ?_)
  · have h := ite_t c1 h
    exact r_vret C hr hlk hw (Option.some.inj h) dX1_removeLast_17
  · have h := ite_f c1 h
    refine lv_aload_n C.1 C.2.1 dX1_removeLast_7 rfl (lv_at hl 0 rfl) ?_
    refine lv_dup C.1 C.2.1 dX1_removeLast_8 rfl ?_
    refine r_get (v := .int (σ.1 31 0)) C hw l_31 vc_1 kX1 0 rfl (by decide) gw_304 rfl dX1_removeLast_9 ?_
    refine lv_iconst (v := 1) C.1 C.2.1 dX1_removeLast_12 (by decide) ?_
    refine lv_isub C.1 C.2.1 dX1_removeLast_13 ?_
    obtain ⟨σ2, eσ2, h⟩ := nm_d h
    refine r_put C hw l_31 vc_1 kX1 tyX1 tyX1_ok nmX1 0 (by decide) (by decide) gw_304 rfl rfl rfl (put_i l_31 rfl eσ2) dX1_removeLast_14 (fun H locs hw => ?_)
    exact r_vret C hr hlk hw (Option.some.inj h) dX1_removeLast_17
def f_X3_reopen_b2 (a1 : Int64) : Nat → St → Int32 → Option St
  | 0, _, _ => none
  | n + 1, σ, x3 => if (σ.1 24 0) ≤ x3 then (some σ) else (if (lg_cmp ((a1 >>> (x3.toInt64 &&& 63)) &&& 1) 1) = 0 then ((wr σ 30 40 x3 (vp_nar .boolean 0)).bind fun σ4 => nm (x3 + 1) fun v5 => f_X3_reopen_b2 a1 n σ4 v5) else (nm (x3 + 1) fun v3 => f_X3_reopen_b2 a1 n σ v3))
def f_X3_reopen (σ : St) (a1 : Int64) : Option St :=
  f_X3_reopen_b2 a1 10000 σ 0
set_option maxRecDepth 100000 in
set_option maxHeartbeats 4000000 in
theorem ok_X3_reopen (X : Xc) (l : Launch) (σ : St) (a1 : Int64) (σ' : St) (h : f_X3_reopen σ a1 = some σ') : Ok X l yX3_reopen cX3_reopen 4 none 0 0 [.ref (X.2.1 24), .long a1] σ none σ' := by
  refine Ok.of (by decide) (Nat.le_of_ble_eq_true rfl) ?_
  intro p e s m args below meth c C hr hlk hw ls hl
  have C : Cx p s m args c X cX3_reopen 4 "RunningCount$CountList" := C
  have hl : lv_has ls 4 [(0, .ref (X.2.1 24)), (1, .long a1)] := hl
  have b2 : ∀ (n : Nat), ∀ (σ : St) (x3 : Int32), f_X3_reopen_b2 a1 n σ x3 = some σ' → ∀ (H : Heap) (locs : List Loc), At X σ s.heap H locs → ∀ ls : Array Slot, lv_has ls 4 [(0, .ref (X.2.1 24)), (1, .long a1), (3, .int x3)] → W p l e (rmX 0 0) s m args below meth c H locs 0 0 (Zq X below s args none σ') (F0 m 2 ls []) := by
    intro n
    induction n with
    | zero =>
      intro σ x3 h
      exact no_some h
    | succ n ih =>
      intro σ x3 h H locs hw ls hl
      rw [f_X3_reopen_b2] at h
      refine lv_iload_n C.1 C.2.1 dX3_reopen_2 rfl (lv_at hl 2 rfl) ?_
      refine lv_aload_n C.1 C.2.1 dX3_reopen_3 rfl (lv_at hl 0 rfl) ?_
      refine r_get (v := .int (σ.1 24 0)) C hw l_24 vc_3 kX3 0 rfl (by decide) gw_268 rfl dX3_reopen_4 ?_
      refine lv_icmp_ge (tgt := 33) C.1 C.2.1 dX3_reopen_7 (by decide) (fun c1 => ?_) (fun c1 => ?_)
      · have h := ite_t c1 h
        exact r_vret C hr hlk hw (Option.some.inj h) dX3_reopen_33
      · have h := ite_f c1 h
        refine lv_lload_n C.1 C.2.1 dX3_reopen_10 rfl (lv_at hl 1 rfl) ?_
        refine lv_iload_n C.1 C.2.1 dX3_reopen_11 rfl (lv_at hl 2 rfl) ?_
        refine lv_lshr (v := a1 >>> (x3.toInt64 &&& 63)) C.1 C.2.1 dX3_reopen_12 rfl ?_
        refine lv_lconst (v := 1) C.1 C.2.1 dX3_reopen_13 (by decide) ?_
        refine lv_land C.1 C.2.1 dX3_reopen_14 ?_
        refine lv_lconst (v := 1) C.1 C.2.1 dX3_reopen_15 (by decide) ?_
        refine W.lcmp C.1 C.2.1 dX3_reopen_16 ?_
        refine lv_if_ne (tgt := 27) C.1 C.2.1 dX3_reopen_17 (by decide) (fun c2 => ?_) (fun c2 => ?_)
        · have h := ite_f c2 h
          obtain ⟨v3, ev3, h⟩ := nm_d h
          refine lv_iinc (v := v3) (lv' := [(3, .int v3), (0, .ref (X.2.1 24)), (1, .long a1)]) C.1 C.2.1 dX3_reopen_27 hl (k := 2) rfl (by rw [ev3]; rfl) (by decide) rfl (fun ls hl => ?_)
          refine lv_goto (tgt := 2) C.1 C.2.1 dX3_reopen_30 (by decide) ?_
          exact ih σ v3 h _ _ hw ls (lv_sub hl [1, 2, 0] rfl)
        · have h := ite_t c2 h
          refine lv_aload_n C.1 C.2.1 dX3_reopen_20 rfl (lv_at hl 0 rfl) ?_
          refine r_get (v := .ref (X.2.1 30)) C hw l_24 vc_3 kX3 6 rfl (by decide) gw_280 rfl dX3_reopen_21 ?_
          refine lv_iload_n C.1 C.2.1 dX3_reopen_24 rfl (lv_at hl 2 rfl) ?_
          refine lv_iconst (v := 0) C.1 C.2.1 dX3_reopen_25 (by decide) ?_
          obtain ⟨σ4, eσ4, h⟩ := bnd h
          refine r_zast C hw l_30 eσ4 dX3_reopen_26 (fun H locs hw => ?_)
          obtain ⟨v5, ev5, h⟩ := nm_d h
          refine lv_iinc (v := v5) (lv' := [(3, .int v5), (0, .ref (X.2.1 24)), (1, .long a1)]) C.1 C.2.1 dX3_reopen_27 hl (k := 2) rfl (by rw [ev5]; rfl) (by decide) rfl (fun ls hl => ?_)
          refine lv_goto (tgt := 2) C.1 C.2.1 dX3_reopen_30 (by decide) ?_
          exact ih σ4 v5 h _ _ hw ls (lv_sub hl [1, 2, 0] rfl)
  rw [f_X3_reopen] at h
  refine lv_iconst (v := 0) C.1 C.2.1 dX3_reopen_0 (by decide) ?_
  refine lv_istore_n (lv' := [(3, .int 0), (0, .ref (X.2.1 24)), (1, .long a1)]) C.1 C.2.1 dX3_reopen_1 rfl hl (by decide) rfl (fun ls hl => ?_)
  exact b2 10000 σ 0 h _ _ hw ls (lv_sub hl [1, 2, 0] rfl)
def f_X8_takeBack (σ : St) (ac1 : Nat) : Option St :=
  if (σ.1 ac1 0) = 0 then ((f_X4_removeLastMove σ (σ.2.2.1)).bind fun q16 => some q16) else (if (σ.1 ac1 0) = 1 then ((f_X4_removeLeg σ (σ.2.2.1) (σ.1 ac1 1)).bind fun q14 => some q14) else (if (σ.1 ac1 0) = 2 then ((f_X4_setSpan σ (σ.2.2.1) (σ.1 ac1 1) (σ.1 ac1 2) (σ.1 ac1 3)).bind fun q12 => some q12) else (if (σ.1 ac1 0) = 3 then ((f_X3_remove σ (σ.1 ac1 1)).bind fun q10 => some q10) else (if (σ.1 ac1 0) = 4 then ((f_X1_removeLast σ).bind fun q8 => (f_X3_reopen q8 (q8.2.1 ac1)).bind fun q9 => some q9) else (if (σ.1 ac1 0) = 5 then ((f_X3_insert σ (σ.1 ac1 1) (σ.1 ac1 4) (σ.1 ac1 5) (σ.1 ac1 6) (σ.1 ac1 7) (σ.1 ac1 8)).bind fun q7 => some q7) else (some σ))))))
set_option maxRecDepth 100000 in
set_option maxHeartbeats 4000000 in
theorem ok_X8_takeBack (X : Xc) (l : Launch) (σ : St) (ac1 : Nat) (ha1 : isA ac1) (σ' : St) (h : f_X8_takeBack σ ac1 = some σ') : Ok X l yX8_takeBack cX8_takeBack 2 none 2 49 [.ref (X.2.1 0), .ref (X.2.1 ac1)] σ none σ' := by
  refine Ok.of (by decide) (Nat.le_of_ble_eq_true rfl) ?_
  intro p e s m args below meth c C hr hlk hw ls hl
  have C : Cx p s m args c X cX8_takeBack 2 "RunningCount" := C
  have hl : lv_has ls 2 [(0, .ref (X.2.1 0)), (1, .ref (X.2.1 ac1))] := hl
  rw [f_X8_takeBack] at h
  refine lv_aload_n C.1 C.2.1 dX8_takeBack_0 rfl (lv_at hl 1 rfl) ?_
  refine r_getN (v := .int (σ.1 ac1 0)) C hw (la_o ha1) vc_0 kX0 0 rfl (by decide) nw_339 rfl dX8_takeBack_1 ?_
  by_cases c1 : (σ.1 ac1 0) = 0
  · have h := ite_t c1 h
    refine lv_tableIn (tgt := 44) C.1 C.2.1 dX8_takeBack_4 (by rw [c1]; decide) (by rw [c1]; decide) (by rw [c1]; rfl) (by decide) ?_
    refine lv_aload_n C.1 C.2.1 dX8_takeBack_44 rfl (lv_at hl 0 rfl) ?_
    have hz15 := hw.2.2.1
    refine r_get (v := .ref (X.2.1 (σ.2.2.1))) C hw l_0 vc_8 kX8 1 rfl (by decide) gw_409 rfl dX8_takeBack_45 ?_
    obtain ⟨q16, eq16, h⟩ := bnd h
    refine r_callVN (As := []) C hw (ok_X4_removeLastMove X l σ (σ.2.2.1) hz15 _ eq16) (lg_0 hz15) vc_4 gw_899 nw_896 gw_898 gw_67 gw_117 hl.1 pd_X4_removeLastMove ⟨Nat.le_of_ble_eq_true rfl, Nat.le_of_ble_eq_true rfl⟩ ⟨Nat.le_refl 0, Nat.le_refl 0⟩ (rest := []) (Nat.le_of_ble_eq_true rfl) dX8_takeBack_48 rfl (fun H locs hw => ?_)
    refine lv_goto (tgt := 159) C.1 C.2.1 dX8_takeBack_51 (by decide) ?_
    exact r_vret C hr hlk hw (Option.some.inj h) dX8_takeBack_159
  · have h := ite_f c1 h
    by_cases c2 : (σ.1 ac1 0) = 1
    · have h := ite_t c2 h
      refine lv_tableIn (tgt := 54) C.1 C.2.1 dX8_takeBack_4 (by rw [c2]; decide) (by rw [c2]; decide) (by rw [c2]; rfl) (by decide) ?_
      refine lv_aload_n C.1 C.2.1 dX8_takeBack_54 rfl (lv_at hl 0 rfl) ?_
      have hz13 := hw.2.2.1
      refine r_get (v := .ref (X.2.1 (σ.2.2.1))) C hw l_0 vc_8 kX8 1 rfl (by decide) gw_409 rfl dX8_takeBack_55 ?_
      refine lv_aload_n C.1 C.2.1 dX8_takeBack_58 rfl (lv_at hl 1 rfl) ?_
      refine r_getN (v := .int (σ.1 ac1 1)) C hw (la_o ha1) vc_0 kX0 1 rfl (by decide) nw_341 rfl dX8_takeBack_59 ?_
      obtain ⟨q14, eq14, h⟩ := bnd h
      refine r_callVN (As := [.int (σ.1 ac1 1)]) C hw (ok_X4_removeLeg X l σ (σ.2.2.1) (σ.1 ac1 1) hz13 _ eq14) (lg_0 hz13) vc_4 gw_636 nw_900 gw_635 gw_29 gw_117 hl.1 pd_X4_removeLeg ⟨Nat.le_of_ble_eq_true rfl, Nat.le_of_ble_eq_true rfl⟩ ⟨Nat.le_refl 0, Nat.le_refl 0⟩ (rest := []) (Nat.le_of_ble_eq_true rfl) dX8_takeBack_62 rfl (fun H locs hw => ?_)
      refine lv_goto (tgt := 159) C.1 C.2.1 dX8_takeBack_65 (by decide) ?_
      exact r_vret C hr hlk hw (Option.some.inj h) dX8_takeBack_159
    · have h := ite_f c2 h
      by_cases c3 : (σ.1 ac1 0) = 2
      · have h := ite_t c3 h
        refine lv_tableIn (tgt := 68) C.1 C.2.1 dX8_takeBack_4 (by rw [c3]; decide) (by rw [c3]; decide) (by rw [c3]; rfl) (by decide) ?_
        refine lv_aload_n C.1 C.2.1 dX8_takeBack_68 rfl (lv_at hl 0 rfl) ?_
        have hz11 := hw.2.2.1
        refine r_get (v := .ref (X.2.1 (σ.2.2.1))) C hw l_0 vc_8 kX8 1 rfl (by decide) gw_409 rfl dX8_takeBack_69 ?_
        refine lv_aload_n C.1 C.2.1 dX8_takeBack_72 rfl (lv_at hl 1 rfl) ?_
        refine r_getN (v := .int (σ.1 ac1 1)) C hw (la_o ha1) vc_0 kX0 1 rfl (by decide) nw_341 rfl dX8_takeBack_73 ?_
        refine lv_aload_n C.1 C.2.1 dX8_takeBack_76 rfl (lv_at hl 1 rfl) ?_
        refine r_getN (v := .int (σ.1 ac1 2)) C hw (la_o ha1) vc_0 kX0 2 rfl (by decide) nw_342 rfl dX8_takeBack_77 ?_
        refine lv_aload_n C.1 C.2.1 dX8_takeBack_80 rfl (lv_at hl 1 rfl) ?_
        refine r_getN (v := .int (σ.1 ac1 3)) C hw (la_o ha1) vc_0 kX0 3 rfl (by decide) nw_343 rfl dX8_takeBack_81 ?_
        obtain ⟨q12, eq12, h⟩ := bnd h
        refine r_callVN (As := [.int (σ.1 ac1 1), .int (σ.1 ac1 2), .int (σ.1 ac1 3)]) C hw (ok_X4_setSpan X l σ (σ.2.2.1) (σ.1 ac1 1) (σ.1 ac1 2) (σ.1 ac1 3) hz11 _ eq12) (lg_0 hz11) vc_4 gw_841 nw_838 gw_840 gw_57 gw_117 hl.1 pd_X4_setSpan ⟨Nat.le_of_ble_eq_true rfl, Nat.le_of_ble_eq_true rfl⟩ ⟨Nat.le_refl 0, Nat.le_refl 0⟩ (rest := []) (Nat.le_of_ble_eq_true rfl) dX8_takeBack_84 rfl (fun H locs hw => ?_)
        refine lv_goto (tgt := 159) C.1 C.2.1 dX8_takeBack_87 (by decide) ?_
        exact r_vret C hr hlk hw (Option.some.inj h) dX8_takeBack_159
      · have h := ite_f c3 h
        by_cases c4 : (σ.1 ac1 0) = 3
        · have h := ite_t c4 h
          refine lv_tableIn (tgt := 90) C.1 C.2.1 dX8_takeBack_4 (by rw [c4]; decide) (by rw [c4]; decide) (by rw [c4]; rfl) (by decide) ?_
          refine lv_aload_n C.1 C.2.1 dX8_takeBack_90 rfl (lv_at hl 0 rfl) ?_
          refine r_get (v := .ref (X.2.1 24)) C hw l_0 vc_8 kX8 3 rfl (by decide) gw_411 rfl dX8_takeBack_91 ?_
          refine lv_aload_n C.1 C.2.1 dX8_takeBack_94 rfl (lv_at hl 1 rfl) ?_
          refine r_getN (v := .int (σ.1 ac1 1)) C hw (la_o ha1) vc_0 kX0 1 rfl (by decide) nw_341 rfl dX8_takeBack_95 ?_
          obtain ⟨q10, eq10, h⟩ := bnd h
          refine r_callVN (As := [.int (σ.1 ac1 1)]) C hw (ok_X3_remove X l σ (σ.1 ac1 1) _ eq10) l_24 vc_3 gw_881 nw_878 gw_880 gw_64 gw_118 hl.1 pd_X3_remove ⟨Nat.le_of_ble_eq_true rfl, Nat.le_of_ble_eq_true rfl⟩ ⟨Nat.le_refl 0, Nat.le_refl 0⟩ (rest := []) (Nat.le_of_ble_eq_true rfl) dX8_takeBack_98 rfl (fun H locs hw => ?_)
          refine lv_goto (tgt := 159) C.1 C.2.1 dX8_takeBack_101 (by decide) ?_
          exact r_vret C hr hlk hw (Option.some.inj h) dX8_takeBack_159
        · have h := ite_f c4 h
          by_cases c5 : (σ.1 ac1 0) = 4
          · have h := ite_t c5 h
            refine lv_tableIn (tgt := 104) C.1 C.2.1 dX8_takeBack_4 (by rw [c5]; decide) (by rw [c5]; decide) (by rw [c5]; rfl) (by decide) ?_
            refine lv_aload_n C.1 C.2.1 dX8_takeBack_104 rfl (lv_at hl 0 rfl) ?_
            refine r_get (v := .ref (X.2.1 31)) C hw l_0 vc_8 kX8 4 rfl (by decide) gw_412 rfl dX8_takeBack_105 ?_
            obtain ⟨q8, eq8, h⟩ := bnd h
            refine r_callVN (As := []) C hw (ok_X1_removeLast X l σ _ eq8) l_31 vc_1 gw_904 nw_901 gw_903 gw_68 gw_119 hl.1 pd_X1_removeLast ⟨Nat.le_of_ble_eq_true rfl, Nat.le_of_ble_eq_true rfl⟩ ⟨Nat.le_refl 0, Nat.le_refl 0⟩ (rest := []) (Nat.le_of_ble_eq_true rfl) dX8_takeBack_108 rfl (fun H locs hw => ?_)
            refine lv_aload_n C.1 C.2.1 dX8_takeBack_111 rfl (lv_at hl 0 rfl) ?_
            refine r_get (v := .ref (X.2.1 24)) C hw l_0 vc_8 kX8 3 rfl (by decide) gw_411 rfl dX8_takeBack_112 ?_
            refine lv_aload_n C.1 C.2.1 dX8_takeBack_115 rfl (lv_at hl 1 rfl) ?_
            refine r_getN (v := .long (q8.2.1 ac1)) C hw (la_o ha1) vc_0 kX0 9 rfl (by decide) nw_349 rfl dX8_takeBack_116 ?_
            obtain ⟨q9, eq9, h⟩ := bnd h
            refine r_callVN (As := [.long (q8.2.1 ac1)]) C hw (ok_X3_reopen X l q8 (q8.2.1 ac1) _ eq9) l_24 vc_3 gw_908 nw_905 gw_907 gw_69 gw_118 hl.1 pd_X3_reopen ⟨Nat.le_of_ble_eq_true rfl, Nat.le_of_ble_eq_true rfl⟩ ⟨Nat.le_refl 0, Nat.le_refl 0⟩ (rest := []) (Nat.le_of_ble_eq_true rfl) dX8_takeBack_119 rfl (fun H locs hw => ?_)
            refine lv_goto (tgt := 159) C.1 C.2.1 dX8_takeBack_122 (by decide) ?_
            exact r_vret C hr hlk hw (Option.some.inj h) dX8_takeBack_159
          · have h := ite_f c5 h
            by_cases c6 : (σ.1 ac1 0) = 5
            · have h := ite_t c6 h
              refine lv_tableIn (tgt := 125) C.1 C.2.1 dX8_takeBack_4 (by rw [c6]; decide) (by rw [c6]; decide) (by rw [c6]; rfl) (by decide) ?_
              refine lv_aload_n C.1 C.2.1 dX8_takeBack_125 rfl (lv_at hl 0 rfl) ?_
              refine r_get (v := .ref (X.2.1 24)) C hw l_0 vc_8 kX8 3 rfl (by decide) gw_411 rfl dX8_takeBack_126 ?_
              refine lv_aload_n C.1 C.2.1 dX8_takeBack_129 rfl (lv_at hl 1 rfl) ?_
              refine r_getN (v := .int (σ.1 ac1 1)) C hw (la_o ha1) vc_0 kX0 1 rfl (by decide) nw_341 rfl dX8_takeBack_130 ?_
              refine lv_aload_n C.1 C.2.1 dX8_takeBack_133 rfl (lv_at hl 1 rfl) ?_
              refine r_getN (v := .int (σ.1 ac1 4)) C hw (la_o ha1) vc_0 kX0 4 rfl (by decide) nw_344 rfl dX8_takeBack_134 ?_
              refine lv_aload_n C.1 C.2.1 dX8_takeBack_137 rfl (lv_at hl 1 rfl) ?_
              refine r_getN (v := .int (σ.1 ac1 5)) C hw (la_o ha1) vc_0 kX0 5 rfl (by decide) nw_345 rfl dX8_takeBack_138 ?_
              refine lv_aload_n C.1 C.2.1 dX8_takeBack_141 rfl (lv_at hl 1 rfl) ?_
              refine r_getN (v := .int (σ.1 ac1 6)) C hw (la_o ha1) vc_0 kX0 6 rfl (by decide) nw_346 rfl dX8_takeBack_142 ?_
              refine lv_aload_n C.1 C.2.1 dX8_takeBack_145 rfl (lv_at hl 1 rfl) ?_
              refine r_getN (v := .int (σ.1 ac1 7)) C hw (la_o ha1) vc_0 kX0 7 rfl (by decide) nw_347 rfl dX8_takeBack_146 ?_
              refine lv_aload_n C.1 C.2.1 dX8_takeBack_149 rfl (lv_at hl 1 rfl) ?_
              refine r_getN (v := .int (σ.1 ac1 8)) C hw (la_o ha1) vc_0 kX0 8 rfl (by decide) nw_348 rfl dX8_takeBack_150 ?_
              obtain ⟨q7, eq7, h⟩ := bnd h
              refine r_callVN (As := [.int (σ.1 ac1 1), .int (σ.1 ac1 4), .int (σ.1 ac1 5), .int (σ.1 ac1 6), .int (σ.1 ac1 7), .int (σ.1 ac1 8)]) C hw (ok_X3_insert X l σ (σ.1 ac1 1) (σ.1 ac1 4) (σ.1 ac1 5) (σ.1 ac1 6) (σ.1 ac1 7) (σ.1 ac1 8) _ eq7) l_24 vc_3 gw_857 nw_854 gw_856 gw_60 gw_118 hl.1 pd_X3_insert ⟨Nat.le_of_ble_eq_true rfl, Nat.le_of_ble_eq_true rfl⟩ ⟨Nat.le_refl 0, Nat.le_refl 0⟩ (rest := []) (Nat.le_of_ble_eq_true rfl) dX8_takeBack_153 rfl (fun H locs hw => ?_)
              refine lv_goto (tgt := 159) C.1 C.2.1 dX8_takeBack_156 (by decide) ?_
              exact r_vret C hr hlk hw (Option.some.inj h) dX8_takeBack_159
            · have h := ite_f c6 h
              refine sw_out (ts := 159) C.1 C.2.1 dX8_takeBack_4 [0, 1, 2, 3, 4, 5] (by decide) (by decide) (List.forall_mem_cons.mpr ⟨c1, (List.forall_mem_cons.mpr ⟨c2, (List.forall_mem_cons.mpr ⟨c3, (List.forall_mem_cons.mpr ⟨c4, (List.forall_mem_cons.mpr ⟨c5, (List.forall_mem_cons.mpr ⟨c6, fun _ h => absurd h List.not_mem_nil⟩)⟩)⟩)⟩)⟩)⟩) (by decide) ?_
              exact r_vret C hr hlk hw (Option.some.inj h) dX8_takeBack_159
def f_X8_undo (σ : St) : Option (Int32 × St) :=
  if 0 < (σ.1 36 0) then ((f_X5_takeLatest σ).bind fun q2 => (f_X8_takeBack q2.2 q2.1).bind fun q4 => some (q4.1 36 0, q4)) else (some ((-1), σ))
set_option maxRecDepth 100000 in
set_option maxHeartbeats 4000000 in
theorem ok_X8_undo (X : Xc) (l : Launch) (σ : St) (r : Int32) (σ' : St) (h : f_X8_undo σ = some (r, σ')) : Ok X l yX8_undo cX8_undo 1 (some .int) 3 70 [.ref (X.2.1 0)] σ (some (.int r)) σ' := by
  refine Ok.of (by decide) (Nat.le_of_ble_eq_true rfl) ?_
  intro p e s m args below meth c C hr hlk hw ls hl
  have C : Cx p s m args c X cX8_undo 1 "RunningCount" := C
  have hl : lv_has ls 1 [(0, .ref (X.2.1 0))] := hl
  rw [f_X8_undo] at h
  refine lv_aload_n C.1 C.2.1 dX8_undo_0 rfl (lv_at hl 0 rfl) ?_
  refine r_get (v := .ref (X.2.1 36)) C hw l_0 vc_8 kX8 5 rfl (by decide) gw_413 rfl dX8_undo_1 ?_
  refine r_getN (v := .int (σ.1 36 0)) C hw l_36 vc_5 kX5 0 rfl (by decide) nw_372 rfl dX8_undo_4 ?_
  refine lv_if_gt (tgt := 12) C.1 C.2.1 dX8_undo_7 (by decide) (fun c1 => ?_) (fun c1 => ?_)
  · have h := ite_t c1 h
    refine lv_aload_n C.1 C.2.1 dX8_undo_12 rfl (lv_at hl 0 rfl) ?_
    refine lv_aload_n C.1 C.2.1 dX8_undo_13 rfl (lv_at hl 0 rfl) ?_
    refine r_get (v := .ref (X.2.1 36)) C hw l_0 vc_8 kX8 5 rfl (by decide) gw_413 rfl dX8_undo_14 ?_
    obtain ⟨q2, eq2, h⟩ := bnd h
    refine r_callVN (As := []) C hw (ok_X5_takeLatest X l σ _ _ eq2) l_36 vc_5 gw_890 nw_887 gw_889 gw_65 gw_120 hl.1 pd_X5_takeLatest ⟨Nat.le_of_ble_eq_true rfl, Nat.le_of_ble_eq_true rfl⟩ ⟨Nat.le_refl 0, Nat.le_refl 0⟩ (rest := [.ref (X.2.1 0)]) (Nat.le_of_ble_eq_true rfl) dX8_undo_17 rfl (fun H locs hw => ?_)
    have hA3 : isA q2.1 := isA_X5_takeLatest eq2
    obtain ⟨q4, eq4, h⟩ := bnd h
    refine r_callV (As := [.ref (X.2.1 q2.1)]) C hw (ok_X8_takeBack X l q2.2 q2.1 hA3 _ eq4) l_0 vc_8 gw_895 gw_892 gw_894 gw_66 gw_114 hl.1 pd_X8_takeBack ⟨Nat.le_of_ble_eq_true rfl, Nat.le_of_ble_eq_true rfl⟩ ⟨Nat.le_refl 0, Nat.le_refl 0⟩ (rest := []) (Nat.le_of_ble_eq_true rfl) dX8_undo_20 rfl (fun H locs hw => ?_)
    refine lv_aload_n C.1 C.2.1 dX8_undo_23 rfl (lv_at hl 0 rfl) ?_
    refine r_get (v := .ref (X.2.1 36)) C hw l_0 vc_8 kX8 5 rfl (by decide) gw_413 rfl dX8_undo_24 ?_
    refine r_getN (v := .int (q4.1 36 0)) C hw l_36 vc_5 kX5 0 rfl (by decide) nw_372 rfl dX8_undo_27 ?_
    exact r_iret C hr hlk hw (Prod.mk.inj (Option.some.inj h)).1 (Prod.mk.inj (Option.some.inj h)).2 dX8_undo_30
  · have h := ite_f c1 h
    refine lv_iconst (v := (-1)) C.1 C.2.1 dX8_undo_10 (by decide) ?_
    exact r_iret C hr hlk hw (Prod.mk.inj (Option.some.inj h)).1 (Prod.mk.inj (Option.some.inj h)).2 dX8_undo_11
