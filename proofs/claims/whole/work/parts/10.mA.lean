def f_X6_hasRoom (σ : St) : Bool :=
  if 620 < (σ.1 2 0) then (false) else (true)
set_option maxRecDepth 100000 in
set_option maxHeartbeats 4000000 in
theorem ok_X6_hasRoom (X : Xc) (l : Launch) (σ : St) (r : Bool) (h : f_X6_hasRoom σ = r) : Ok X l yX6_hasRoom cX6_hasRoom 1 (some .boolean) 0 0 [.ref (X.2.1 2)] σ (some (.int (b2i r))) σ := by
  refine Ok.of (by decide) (Nat.le_of_ble_eq_true rfl) ?_
  intro p e s m args below meth c C hr hlk hw ls hl
  have C : Cx p s m args c X cX6_hasRoom 1 "RunningCount$Tape" := C
  have hl : lv_has ls 1 [(0, .ref (X.2.1 2))] := hl
  rw [f_X6_hasRoom] at h
  refine lv_aload_n C.1 C.2.1 dX6_hasRoom_0 rfl (lv_at hl 0 rfl) ?_
  refine r_get (v := .int (σ.1 2 0)) C hw l_2 vc_6 kX6 0 rfl (by decide) gw_153 rfl dX6_hasRoom_1 ?_
  refine lv_sipush (v := 620) C.1 C.2.1 dX6_hasRoom_4 (by decide) ?_
  refine lv_icmp_gt (tgt := 14) C.1 C.2.1 dX6_hasRoom_7 (by decide) (fun c1 => ?_) (fun c1 => ?_)
  · have h := ite_t c1 h
    refine lv_iconst (v := 0) C.1 C.2.1 dX6_hasRoom_14 (by decide) ?_
    exact r_zret C hr hlk hw rfl h rfl dX6_hasRoom_15
  · have h := ite_f c1 h
    refine lv_iconst (v := 1) C.1 C.2.1 dX6_hasRoom_10 (by decide) ?_
    refine lv_goto (tgt := 15) C.1 C.2.1 dX6_hasRoom_11 (by decide) ?_
    exact r_zret C hr hlk hw rfl h rfl dX6_hasRoom_15
def f_X6_append_b3 (a1 : Int32) : Nat → St → Int32 → Option St
  | 0, _, _ => none
  | n + 1, σ, x2 => if x2 < 0 then (some σ) else (if 640 ≤ (σ.1 2 0) then (nm (x2 + (-8)) fun v3 => f_X6_append_b3 a1 n σ v3) else ((wr σ 3 640 (σ.1 2 0) (vp_nar .byte ((a1 >>> (x2 &&& 31)).toInt8.toInt32))).bind fun σ4 => nm (upI σ4 2 0 ((σ4.1 2 0) + 1)) fun σ5 => nm (x2 + (-8)) fun v6 => f_X6_append_b3 a1 n σ5 v6))
def f_X6_append (σ : St) (a1 : Int32) : Option St :=
  f_X6_append_b3 a1 10000 σ 24
set_option maxRecDepth 100000 in
set_option maxHeartbeats 4000000 in
theorem ok_X6_append (X : Xc) (l : Launch) (σ : St) (a1 : Int32) (σ' : St) (h : f_X6_append σ a1 = some σ') : Ok X l yX6_append cX6_append 3 none 0 0 [.ref (X.2.1 2), .int a1] σ none σ' := by
  refine Ok.of (by decide) (Nat.le_of_ble_eq_true rfl) ?_
  intro p e s m args below meth c C hr hlk hw ls hl
  have C : Cx p s m args c X cX6_append 3 "RunningCount$Tape" := C
  have hl : lv_has ls 3 [(0, .ref (X.2.1 2)), (1, .int a1)] := hl
  have b3 : ∀ (n : Nat), ∀ (σ : St) (x2 : Int32), f_X6_append_b3 a1 n σ x2 = some σ' → ∀ (H : Heap) (locs : List Loc), At X σ s.heap H locs → ∀ ls : Array Slot, lv_has ls 3 [(0, .ref (X.2.1 2)), (1, .int a1), (2, .int x2)] → W p l e (rmX 0 0) s m args below meth c H locs 0 0 (Zq X below s args none σ') (F0 m 3 ls []) := by
    intro n
    induction n with
    | zero =>
      intro σ x2 h
      exact no_some h
    | succ n ih =>
      intro σ x2 h H locs hw ls hl
      rw [f_X6_append_b3] at h
      refine lv_iload_n C.1 C.2.1 dX6_append_3 rfl (lv_at hl 2 rfl) ?_
      refine lv_if_lt (tgt := 46) C.1 C.2.1 dX6_append_4 (by decide) (fun c1 => ?_) (fun c1 => ?_)
      · have h := ite_t c1 h
        exact r_vret C hr hlk hw (Option.some.inj h) dX6_append_46
      · have h := ite_f c1 h
        refine lv_aload_n C.1 C.2.1 dX6_append_7 rfl (lv_at hl 0 rfl) ?_
        refine r_get (v := .int (σ.1 2 0)) C hw l_2 vc_6 kX6 0 rfl (by decide) gw_153 rfl dX6_append_8 ?_
        refine lv_sipush (v := 640) C.1 C.2.1 dX6_append_11 (by decide) ?_
        refine lv_icmp_ge (tgt := 40) C.1 C.2.1 dX6_append_14 (by decide) (fun c2 => ?_) (fun c2 => ?_)
        · have h := ite_t c2 h
          obtain ⟨v3, ev3, h⟩ := nm_d h
          refine lv_iinc (v := v3) (lv' := [(2, .int v3), (0, .ref (X.2.1 2)), (1, .int a1)]) C.1 C.2.1 dX6_append_40 hl (k := 2) rfl (by rw [ev3]; rfl) (by decide) rfl (fun ls hl => ?_)
          refine lv_goto (tgt := 3) C.1 C.2.1 dX6_append_43 (by decide) ?_
          exact ih σ v3 h _ _ hw ls (lv_sub hl [1, 2, 0] rfl)
        · have h := ite_f c2 h
          refine lv_aload_n C.1 C.2.1 dX6_append_17 rfl (lv_at hl 0 rfl) ?_
          refine r_get (v := .ref (X.2.1 3)) C hw l_2 vc_6 kX6 1 rfl (by decide) gw_156 rfl dX6_append_18 ?_
          refine lv_aload_n C.1 C.2.1 dX6_append_21 rfl (lv_at hl 0 rfl) ?_
          refine r_get (v := .int (σ.1 2 0)) C hw l_2 vc_6 kX6 0 rfl (by decide) gw_153 rfl dX6_append_22 ?_
          refine lv_iload_n C.1 C.2.1 dX6_append_25 rfl (lv_at hl 1 rfl) ?_
          refine lv_iload_n C.1 C.2.1 dX6_append_26 rfl (lv_at hl 2 rfl) ?_
          refine lv_ishr C.1 C.2.1 dX6_append_27 ?_
          refine lv_i2b (v := (a1 >>> (x2 &&& 31)).toInt8.toInt32) C.1 C.2.1 dX6_append_28 rfl ?_
          obtain ⟨σ4, eσ4, h⟩ := bnd h
          refine r_bast C hw l_3 eσ4 dX6_append_29 (fun H locs hw => ?_)
          refine lv_aload_n C.1 C.2.1 dX6_append_30 rfl (lv_at hl 0 rfl) ?_
          refine lv_dup C.1 C.2.1 dX6_append_31 rfl ?_
          refine r_get (v := .int (σ4.1 2 0)) C hw l_2 vc_6 kX6 0 rfl (by decide) gw_153 rfl dX6_append_32 ?_
          refine lv_iconst (v := 1) C.1 C.2.1 dX6_append_35 (by decide) ?_
          refine lv_iadd C.1 C.2.1 dX6_append_36 ?_
          obtain ⟨σ5, eσ5, h⟩ := nm_d h
          refine r_put C hw l_2 vc_6 kX6 tyX6 tyX6_ok nmX6 0 (by decide) (by decide) gw_153 rfl rfl rfl (put_i l_2 rfl eσ5) dX6_append_37 (fun H locs hw => ?_)
          obtain ⟨v6, ev6, h⟩ := nm_d h
          refine lv_iinc (v := v6) (lv' := [(2, .int v6), (0, .ref (X.2.1 2)), (1, .int a1)]) C.1 C.2.1 dX6_append_40 hl (k := 2) rfl (by rw [ev6]; rfl) (by decide) rfl (fun ls hl => ?_)
          refine lv_goto (tgt := 3) C.1 C.2.1 dX6_append_43 (by decide) ?_
          exact ih σ5 v6 h _ _ hw ls (lv_sub hl [1, 2, 0] rfl)
  rw [f_X6_append] at h
  refine lv_bipush (v := 24) C.1 C.2.1 dX6_append_0 (by decide) ?_
  refine lv_istore_n (lv' := [(2, .int 24), (0, .ref (X.2.1 2)), (1, .int a1)]) C.1 C.2.1 dX6_append_2 rfl hl (by decide) rfl (fun ls hl => ?_)
  exact b3 10000 σ 24 h _ _ hw ls (lv_sub hl [1, 2, 0] rfl)
def f_X8_feed (σ : St) (a1 : Int32) (a2 : Int32) (a3 : Int32) (a4 : Int32) (a5 : Int32) : Option (Int32 × St) :=
  if (b2i (f_X6_hasRoom σ)) = 0 then (some ((-1), σ)) else ((f_X6_append σ a1).bind fun q3 => (f_X6_append q3 a2).bind fun q4 => (f_X6_append q4 a3).bind fun q5 => (f_X6_append q5 a4).bind fun q6 => (f_X6_append q6 a5).bind fun q7 => some (q7.1 2 0, q7))
set_option maxRecDepth 100000 in
set_option maxHeartbeats 4000000 in
theorem ok_X8_feed (X : Xc) (l : Launch) (σ : St) (a1 : Int32) (a2 : Int32) (a3 : Int32) (a4 : Int32) (a5 : Int32) (r : Int32) (σ' : St) (h : f_X8_feed σ a1 a2 a3 a4 a5 = some (r, σ')) : Ok X l yX8_feed cX8_feed 7 (some .int) 1 22 [.ref (X.2.1 0), .int a1, .int a2, .int a3, .int a4, .int a5] σ (some (.int r)) σ' := by
  refine Ok.of (by decide) (Nat.le_of_ble_eq_true rfl) ?_
  intro p e s m args below meth c C hr hlk hw ls hl
  have C : Cx p s m args c X cX8_feed 7 "RunningCount" := C
  have hl : lv_has ls 7 [(0, .ref (X.2.1 0)), (1, .int a1), (2, .int a2), (3, .int a3), (4, .int a4), (5, .int a5)] := hl
  rw [f_X8_feed] at h
  refine lv_aload_n C.1 C.2.1 dX8_feed_0 rfl (lv_at hl 0 rfl) ?_
  refine r_get (v := .ref (X.2.1 1)) C hw l_0 vc_8 kX8 0 rfl (by decide) gw_408 rfl dX8_feed_1 ?_
  refine r_getN (v := .ref (X.2.1 2)) C hw l_1 vc_7 kX7 0 rfl (by decide) nw_177 rfl dX8_feed_4 ?_
  refine lv_astore (lv' := [(6, .ref (X.2.1 2)), (0, .ref (X.2.1 0)), (1, .int a1), (2, .int a2), (3, .int a3), (4, .int a4), (5, .int a5)]) C.1 C.2.1 dX8_feed_7 hl (by decide) rfl (fun ls hl => ?_)
  refine lv_aload C.1 C.2.1 dX8_feed_9 (lv_at hl 0 rfl) ?_
  refine r_callVN (As := []) C hw (ok_X6_hasRoom X l σ _ rfl) l_2 vc_6 gw_437 nw_434 gw_436 gw_0 gw_116 hl.1 pd_X6_hasRoom ⟨Nat.le_of_ble_eq_true rfl, Nat.le_of_ble_eq_true rfl⟩ ⟨Nat.le_refl 0, Nat.le_refl 0⟩ (rest := []) (Nat.le_of_ble_eq_true rfl) dX8_feed_11 rfl (fun H locs hw => ?_)
  refine lv_if_ne (tgt := 19) C.1 C.2.1 dX8_feed_14 (by decide) (fun c2 => ?_) (fun c2 => ?_)
  · have h := ite_f c2 h
    refine lv_aload C.1 C.2.1 dX8_feed_19 (lv_at hl 0 rfl) ?_
    refine lv_iload_n C.1 C.2.1 dX8_feed_21 rfl (lv_at hl 2 rfl) ?_
    obtain ⟨q3, eq3, h⟩ := bnd h
    refine r_callVN (As := [.int a1]) C hw (ok_X6_append X l σ a1 _ eq3) l_2 vc_6 gw_441 nw_438 gw_440 gw_1 gw_116 hl.1 pd_X6_append ⟨Nat.le_of_ble_eq_true rfl, Nat.le_of_ble_eq_true rfl⟩ ⟨Nat.le_refl 0, Nat.le_refl 0⟩ (rest := []) (Nat.le_of_ble_eq_true rfl) dX8_feed_22 rfl (fun H locs hw => ?_)
    refine lv_aload C.1 C.2.1 dX8_feed_25 (lv_at hl 0 rfl) ?_
    refine lv_iload_n C.1 C.2.1 dX8_feed_27 rfl (lv_at hl 3 rfl) ?_
    obtain ⟨q4, eq4, h⟩ := bnd h
    refine r_callVN (As := [.int a2]) C hw (ok_X6_append X l q3 a2 _ eq4) l_2 vc_6 gw_441 nw_438 gw_440 gw_1 gw_116 hl.1 pd_X6_append ⟨Nat.le_of_ble_eq_true rfl, Nat.le_of_ble_eq_true rfl⟩ ⟨Nat.le_refl 0, Nat.le_refl 0⟩ (rest := []) (Nat.le_of_ble_eq_true rfl) dX8_feed_28 rfl (fun H locs hw => ?_)
    refine lv_aload C.1 C.2.1 dX8_feed_31 (lv_at hl 0 rfl) ?_
    refine lv_iload_n C.1 C.2.1 dX8_feed_33 rfl (lv_at hl 4 rfl) ?_
    obtain ⟨q5, eq5, h⟩ := bnd h
    refine r_callVN (As := [.int a3]) C hw (ok_X6_append X l q4 a3 _ eq5) l_2 vc_6 gw_441 nw_438 gw_440 gw_1 gw_116 hl.1 pd_X6_append ⟨Nat.le_of_ble_eq_true rfl, Nat.le_of_ble_eq_true rfl⟩ ⟨Nat.le_refl 0, Nat.le_refl 0⟩ (rest := []) (Nat.le_of_ble_eq_true rfl) dX8_feed_34 rfl (fun H locs hw => ?_)
    refine lv_aload C.1 C.2.1 dX8_feed_37 (lv_at hl 0 rfl) ?_
    refine lv_iload C.1 C.2.1 dX8_feed_39 (lv_at hl 5 rfl) ?_
    obtain ⟨q6, eq6, h⟩ := bnd h
    refine r_callVN (As := [.int a4]) C hw (ok_X6_append X l q5 a4 _ eq6) l_2 vc_6 gw_441 nw_438 gw_440 gw_1 gw_116 hl.1 pd_X6_append ⟨Nat.le_of_ble_eq_true rfl, Nat.le_of_ble_eq_true rfl⟩ ⟨Nat.le_refl 0, Nat.le_refl 0⟩ (rest := []) (Nat.le_of_ble_eq_true rfl) dX8_feed_41 rfl (fun H locs hw => ?_)
    refine lv_aload C.1 C.2.1 dX8_feed_44 (lv_at hl 0 rfl) ?_
    refine lv_iload C.1 C.2.1 dX8_feed_46 (lv_at hl 6 rfl) ?_
    obtain ⟨q7, eq7, h⟩ := bnd h
    refine r_callVN (As := [.int a5]) C hw (ok_X6_append X l q6 a5 _ eq7) l_2 vc_6 gw_441 nw_438 gw_440 gw_1 gw_116 hl.1 pd_X6_append ⟨Nat.le_of_ble_eq_true rfl, Nat.le_of_ble_eq_true rfl⟩ ⟨Nat.le_refl 0, Nat.le_refl 0⟩ (rest := []) (Nat.le_of_ble_eq_true rfl) dX8_feed_48 rfl (fun H locs hw => ?_)
    refine lv_aload C.1 C.2.1 dX8_feed_51 (lv_at hl 0 rfl) ?_
    refine r_getN (v := .int (q7.1 2 0)) C hw l_2 vc_6 kX6 0 rfl (by decide) nw_154 rfl dX8_feed_53 ?_
    exact r_iret C hr hlk hw (Prod.mk.inj (Option.some.inj h)).1 (Prod.mk.inj (Option.some.inj h)).2 dX8_feed_56
  · have h := ite_t c2 h
    refine lv_iconst (v := (-1)) C.1 C.2.1 dX8_feed_17 (by decide) ?_
    exact r_iret C hr hlk hw (Prod.mk.inj (Option.some.inj h)).1 (Prod.mk.inj (Option.some.inj h)).2 dX8_feed_18
def f_X8_end (σ : St) (a1 : Int32) : Option (Bool × St) :=
  if a1 < 0 then (some (false, σ)) else (if a1 ≤ (σ.1 2 0) then (nm (upI σ 2 0 a1) fun σ3 => some (true, σ3)) else (some (false, σ)))
set_option maxRecDepth 100000 in
set_option maxHeartbeats 4000000 in
theorem ok_X8_end (X : Xc) (l : Launch) (σ : St) (a1 : Int32) (r : Bool) (σ' : St) (h : f_X8_end σ a1 = some (r, σ')) : Ok X l yX8_end cX8_end 2 (some .boolean) 0 0 [.ref (X.2.1 0), .int a1] σ (some (.int (b2i r))) σ' := by
  refine Ok.of (by decide) (Nat.le_of_ble_eq_true rfl) ?_
  intro p e s m args below meth c C hr hlk hw ls hl
  have C : Cx p s m args c X cX8_end 2 "RunningCount" := C
  have hl : lv_has ls 2 [(0, .ref (X.2.1 0)), (1, .int a1)] := hl
  rw [f_X8_end] at h
  refine lv_iload_n C.1 C.2.1 dX8_end_0 rfl (lv_at hl 1 rfl) ?_
  refine lv_if_lt (tgt := 18) C.1 C.2.1 dX8_end_1 (by decide) (fun c1 => ?_) (fun c1 => ?_)
  · have h := ite_t c1 h
    refine lv_iconst (v := 0) C.1 C.2.1 dX8_end_18 (by decide) ?_
    exact r_zret C hr hlk hw rfl (Prod.mk.inj (Option.some.inj h)).1 (Prod.mk.inj (Option.some.inj h)).2 dX8_end_19
  · have h := ite_f c1 h
    refine lv_iload_n C.1 C.2.1 dX8_end_4 rfl (lv_at hl 1 rfl) ?_
    refine lv_aload_n C.1 C.2.1 dX8_end_5 rfl (lv_at hl 0 rfl) ?_
    refine r_get (v := .ref (X.2.1 1)) C hw l_0 vc_8 kX8 0 rfl (by decide) gw_408 rfl dX8_end_6 ?_
    refine r_getN (v := .ref (X.2.1 2)) C hw l_1 vc_7 kX7 0 rfl (by decide) nw_177 rfl dX8_end_9 ?_
    refine r_getN (v := .int (σ.1 2 0)) C hw l_2 vc_6 kX6 0 rfl (by decide) nw_154 rfl dX8_end_12 ?_
    refine lv_icmp_le (tgt := 20) C.1 C.2.1 dX8_end_15 (by decide) (fun c2 => ?_) (fun c2 => ?_)
    · have h := ite_t c2 h
      refine lv_aload_n C.1 C.2.1 dX8_end_20 rfl (lv_at hl 0 rfl) ?_
      refine r_get (v := .ref (X.2.1 1)) C hw l_0 vc_8 kX8 0 rfl (by decide) gw_408 rfl dX8_end_21 ?_
      refine r_getN (v := .ref (X.2.1 2)) C hw l_1 vc_7 kX7 0 rfl (by decide) nw_177 rfl dX8_end_24 ?_
      refine lv_iload_n C.1 C.2.1 dX8_end_27 rfl (lv_at hl 1 rfl) ?_
      obtain ⟨σ3, eσ3, h⟩ := nm_d h
      refine r_putN C hw l_2 vc_6 kX6 tyX6 tyX6_ok nmX6 0 (by decide) (by decide) nw_154 rfl rfl rfl (put_i l_2 rfl eσ3) dX8_end_28 (fun H locs hw => ?_)
      refine lv_iconst (v := 1) C.1 C.2.1 dX8_end_31 (by decide) ?_
      exact r_zret C hr hlk hw rfl (Prod.mk.inj (Option.some.inj h)).1 (Prod.mk.inj (Option.some.inj h)).2 dX8_end_32
    · have h := ite_f c2 h
      refine lv_iconst (v := 0) C.1 C.2.1 dX8_end_18 (by decide) ?_
      exact r_zret C hr hlk hw rfl (Prod.mk.inj (Option.some.inj h)).1 (Prod.mk.inj (Option.some.inj h)).2 dX8_end_19
def f_X6_isBlank (σ : St) (a0 : Int32) : Bool :=
  if a0 = 32 then (true) else (if a0 = 10 then (true) else (false))
set_option maxRecDepth 100000 in
set_option maxHeartbeats 4000000 in
theorem ok_X6_isBlank (X : Xc) (l : Launch) (σ : St) (a0 : Int32) (r : Bool) (h : f_X6_isBlank σ a0 = r) : Ok X l yX6_isBlank cX6_isBlank 1 (some .boolean) 0 0 [.int a0] σ (some (.int (b2i r))) σ := by
  refine Ok.of (by decide) (Nat.le_of_ble_eq_true rfl) ?_
  intro p e s m args below meth c C hr hlk hw ls hl
  have C : Cx p s m args c X cX6_isBlank 1 "RunningCount$Tape" := C
  have hl : lv_has ls 1 [(0, .int a0)] := hl
  rw [f_X6_isBlank] at h
  refine lv_iload_n C.1 C.2.1 dX6_isBlank_0 rfl (lv_at hl 0 rfl) ?_
  refine lv_bipush (v := 32) C.1 C.2.1 dX6_isBlank_1 (by decide) ?_
  refine lv_icmp_eq (tgt := 12) C.1 C.2.1 dX6_isBlank_3 (by decide) (fun c1 => ?_) (fun c1 => ?_)
  · have h := ite_t c1 h
    refine lv_iconst (v := 1) C.1 C.2.1 dX6_isBlank_12 (by decide) ?_
    refine lv_goto (tgt := 17) C.1 C.2.1 dX6_isBlank_13 (by decide) ?_
    exact r_zret C hr hlk hw rfl h rfl dX6_isBlank_17
  · have h := ite_f c1 h
    refine lv_iload_n C.1 C.2.1 dX6_isBlank_6 rfl (lv_at hl 0 rfl) ?_
    refine lv_bipush (v := 10) C.1 C.2.1 dX6_isBlank_7 (by decide) ?_
    refine lv_icmp_ne (tgt := 16) C.1 C.2.1 dX6_isBlank_9 (by decide) (fun c2 => ?_) (fun c2 => ?_)
    · have h := ite_f c2 h
      refine lv_iconst (v := 0) C.1 C.2.1 dX6_isBlank_16 (by decide) ?_
      exact r_zret C hr hlk hw rfl h rfl dX6_isBlank_17
    · have h := ite_t c2 h
      refine lv_iconst (v := 1) C.1 C.2.1 dX6_isBlank_12 (by decide) ?_
      refine lv_goto (tgt := 17) C.1 C.2.1 dX6_isBlank_13 (by decide) ?_
      exact r_zret C hr hlk hw rfl h rfl dX6_isBlank_17
def f_X6_isLetter (σ : St) (a0 : Int32) : Bool :=
  if a0 < 97 then (false) else (if 122 < a0 then (false) else (true))
set_option maxRecDepth 100000 in
set_option maxHeartbeats 4000000 in
theorem ok_X6_isLetter (X : Xc) (l : Launch) (σ : St) (a0 : Int32) (r : Bool) (h : f_X6_isLetter σ a0 = r) : Ok X l yX6_isLetter cX6_isLetter 1 (some .boolean) 0 0 [.int a0] σ (some (.int (b2i r))) σ := by
  refine Ok.of (by decide) (Nat.le_of_ble_eq_true rfl) ?_
  intro p e s m args below meth c C hr hlk hw ls hl
  have C : Cx p s m args c X cX6_isLetter 1 "RunningCount$Tape" := C
  have hl : lv_has ls 1 [(0, .int a0)] := hl
  rw [f_X6_isLetter] at h
  refine lv_iload_n C.1 C.2.1 dX6_isLetter_0 rfl (lv_at hl 0 rfl) ?_
  refine lv_bipush (v := 97) C.1 C.2.1 dX6_isLetter_1 (by decide) ?_
  refine lv_icmp_lt (tgt := 16) C.1 C.2.1 dX6_isLetter_3 (by decide) (fun c1 => ?_) (fun c1 => ?_)
  · have h := ite_t c1 h
    refine lv_iconst (v := 0) C.1 C.2.1 dX6_isLetter_16 (by decide) ?_
    exact r_zret C hr hlk hw rfl h rfl dX6_isLetter_17
  · have h := ite_f c1 h
    refine lv_iload_n C.1 C.2.1 dX6_isLetter_6 rfl (lv_at hl 0 rfl) ?_
    refine lv_bipush (v := 122) C.1 C.2.1 dX6_isLetter_7 (by decide) ?_
    refine lv_icmp_gt (tgt := 16) C.1 C.2.1 dX6_isLetter_9 (by decide) (fun c2 => ?_) (fun c2 => ?_)
    · have h := ite_t c2 h
      refine lv_iconst (v := 0) C.1 C.2.1 dX6_isLetter_16 (by decide) ?_
      exact r_zret C hr hlk hw rfl h rfl dX6_isLetter_17
    · have h := ite_f c2 h
      refine lv_iconst (v := 1) C.1 C.2.1 dX6_isLetter_12 (by decide) ?_
      refine lv_goto (tgt := 17) C.1 C.2.1 dX6_isLetter_13 (by decide) ?_
      exact r_zret C hr hlk hw rfl h rfl dX6_isLetter_17
def f_X6_isDigit (σ : St) (a0 : Int32) : Bool :=
  if a0 < 48 then (false) else (if 57 < a0 then (false) else (true))
set_option maxRecDepth 100000 in
set_option maxHeartbeats 4000000 in
theorem ok_X6_isDigit (X : Xc) (l : Launch) (σ : St) (a0 : Int32) (r : Bool) (h : f_X6_isDigit σ a0 = r) : Ok X l yX6_isDigit cX6_isDigit 1 (some .boolean) 0 0 [.int a0] σ (some (.int (b2i r))) σ := by
  refine Ok.of (by decide) (Nat.le_of_ble_eq_true rfl) ?_
  intro p e s m args below meth c C hr hlk hw ls hl
  have C : Cx p s m args c X cX6_isDigit 1 "RunningCount$Tape" := C
  have hl : lv_has ls 1 [(0, .int a0)] := hl
  rw [f_X6_isDigit] at h
  refine lv_iload_n C.1 C.2.1 dX6_isDigit_0 rfl (lv_at hl 0 rfl) ?_
  refine lv_bipush (v := 48) C.1 C.2.1 dX6_isDigit_1 (by decide) ?_
  refine lv_icmp_lt (tgt := 16) C.1 C.2.1 dX6_isDigit_3 (by decide) (fun c1 => ?_) (fun c1 => ?_)
  · have h := ite_t c1 h
    refine lv_iconst (v := 0) C.1 C.2.1 dX6_isDigit_16 (by decide) ?_
    exact r_zret C hr hlk hw rfl h rfl dX6_isDigit_17
  · have h := ite_f c1 h
    refine lv_iload_n C.1 C.2.1 dX6_isDigit_6 rfl (lv_at hl 0 rfl) ?_
    refine lv_bipush (v := 57) C.1 C.2.1 dX6_isDigit_7 (by decide) ?_
    refine lv_icmp_gt (tgt := 16) C.1 C.2.1 dX6_isDigit_9 (by decide) (fun c2 => ?_) (fun c2 => ?_)
    · have h := ite_t c2 h
      refine lv_iconst (v := 0) C.1 C.2.1 dX6_isDigit_16 (by decide) ?_
      exact r_zret C hr hlk hw rfl h rfl dX6_isDigit_17
    · have h := ite_f c2 h
      refine lv_iconst (v := 1) C.1 C.2.1 dX6_isDigit_12 (by decide) ?_
      refine lv_goto (tgt := 17) C.1 C.2.1 dX6_isDigit_13 (by decide) ?_
      exact r_zret C hr hlk hw rfl h rfl dX6_isDigit_17
def f_X6_behindRun_b2 (σ : St) (a1 : Int32) : Nat → Int32 → Option Int32
  | 0, _ => none
  | n + 1, x2 => if (σ.1 2 0) ≤ x2 then (some (if x2 < (a1 + 1) then (a1 + 1) else x2)) else ((rd σ 3 640 x2).bind fun v2 => if (b2i (f_X6_isLetter σ v2)) = 0 then ((rd σ 3 640 x2).bind fun v6 => if (b2i (f_X6_isDigit σ v6)) = 0 then (some (if x2 < (a1 + 1) then (a1 + 1) else x2)) else (nm (x2 + 1) fun v9 => f_X6_behindRun_b2 σ a1 n v9)) else (nm (x2 + 1) fun v5 => f_X6_behindRun_b2 σ a1 n v5))
def f_X6_behindRun (σ : St) (a1 : Int32) : Option Int32 :=
  f_X6_behindRun_b2 σ a1 10000 a1
set_option maxRecDepth 100000 in
set_option maxHeartbeats 4000000 in
theorem ok_X6_behindRun (X : Xc) (l : Launch) (σ : St) (a1 : Int32) (r : Int32) (h : f_X6_behindRun σ a1 = some r) : Ok X l yX6_behindRun cX6_behindRun 3 (some .int) 1 20 [.ref (X.2.1 2), .int a1] σ (some (.int r)) σ := by
  refine Ok.of (by decide) (Nat.le_of_ble_eq_true rfl) ?_
  intro p e s m args below meth c C hr hlk hw ls hl
  have C : Cx p s m args c X cX6_behindRun 3 "RunningCount$Tape" := C
  have hl : lv_has ls 3 [(0, .ref (X.2.1 2)), (1, .int a1)] := hl
  have b2 : ∀ (n : Nat), ∀ (x2 : Int32), f_X6_behindRun_b2 σ a1 n x2 = some r → ∀ (H : Heap) (locs : List Loc), At X σ s.heap H locs → ∀ ls : Array Slot, lv_has ls 3 [(0, .ref (X.2.1 2)), (1, .int a1), (2, .int x2)] → W p l e (rmX 1 20) s m args below meth c H locs 0 0 (Zq X below s args (some (.int r)) σ) (F0 m 2 ls []) := by
    intro n
    induction n with
    | zero =>
      intro x2 h
      exact no_some h
    | succ n ih =>
      intro x2 h H locs hw ls hl
      rw [f_X6_behindRun_b2] at h
      refine lv_iload_n C.1 C.2.1 dX6_behindRun_2 rfl (lv_at hl 2 rfl) ?_
      refine lv_aload_n C.1 C.2.1 dX6_behindRun_3 rfl (lv_at hl 0 rfl) ?_
      refine r_get (v := .int (σ.1 2 0)) C hw l_2 vc_6 kX6 0 rfl (by decide) gw_153 rfl dX6_behindRun_4 ?_
      refine lv_icmp_ge (tgt := 40) C.1 C.2.1 dX6_behindRun_7 (by decide) (fun c1 => ?_) (fun c1 => ?_)
      · have h := ite_t c1 h
        refine lv_iload_n C.1 C.2.1 dX6_behindRun_40 rfl (lv_at hl 2 rfl) ?_
        refine lv_iload_n C.1 C.2.1 dX6_behindRun_41 rfl (lv_at hl 1 rfl) ?_
        refine lv_iconst (v := 1) C.1 C.2.1 dX6_behindRun_42 (by decide) ?_
        refine lv_iadd C.1 C.2.1 dX6_behindRun_43 ?_
        refine va_mmax C.1 C.2.1 (C.2.2.1.trans hl.1.symm) C.2.2.2.1 (C.2.2.2.2.1 _ gw_474) (C.2.2.2.2.1 _ gw_475) (C.2.2.2.2.1 _ gw_124) (C.2.2.2.2.1 _ gw_476) (Nat.le_of_ble_eq_true rfl) (Nat.le_of_ble_eq_true rfl) (Nat.le_refl 0) (Nat.le_refl 0) dX6_behindRun_44 ?_
        exact r_iret C hr hlk hw (Option.some.inj h) rfl dX6_behindRun_47
      · have h := ite_f c1 h
        refine lv_aload_n C.1 C.2.1 dX6_behindRun_10 rfl (lv_at hl 0 rfl) ?_
        refine r_get (v := .ref (X.2.1 3)) C hw l_2 vc_6 kX6 1 rfl (by decide) gw_156 rfl dX6_behindRun_11 ?_
        refine lv_iload_n C.1 C.2.1 dX6_behindRun_14 rfl (lv_at hl 2 rfl) ?_
        obtain ⟨v2, ev2, h⟩ := bnd h
        refine r_bald C hw l_3 ev2 dX6_behindRun_15 ?_
        refine r_callS (As := [.int v2]) C hw (ok_X6_isLetter X l σ v2 _ rfl) gw_470 gw_468 gw_469 gw_116 hl.1 pd_X6_isLetter ⟨Nat.le_of_ble_eq_true rfl, Nat.le_of_ble_eq_true rfl⟩ ⟨Nat.le_refl 0, Nat.le_refl 0⟩ (rest := []) (Nat.le_of_ble_eq_true rfl) dX6_behindRun_16 rfl (fun H locs hw => ?_)
        refine lv_if_ne (tgt := 34) C.1 C.2.1 dX6_behindRun_19 (by decide) (fun c4 => ?_) (fun c4 => ?_)
        · have h := ite_f c4 h
          obtain ⟨v5, ev5, h⟩ := nm_d h
          refine lv_iinc (v := v5) (lv' := [(2, .int v5), (0, .ref (X.2.1 2)), (1, .int a1)]) C.1 C.2.1 dX6_behindRun_34 hl (k := 2) rfl (by rw [ev5]; rfl) (by decide) rfl (fun ls hl => ?_)
          refine lv_goto (tgt := 2) C.1 C.2.1 dX6_behindRun_37 (by decide) ?_
          exact ih v5 h _ _ hw ls (lv_sub hl [1, 2, 0] rfl)
        · have h := ite_t c4 h
          refine lv_aload_n C.1 C.2.1 dX6_behindRun_22 rfl (lv_at hl 0 rfl) ?_
          refine r_get (v := .ref (X.2.1 3)) C hw l_2 vc_6 kX6 1 rfl (by decide) gw_156 rfl dX6_behindRun_23 ?_
          refine lv_iload_n C.1 C.2.1 dX6_behindRun_26 rfl (lv_at hl 2 rfl) ?_
          obtain ⟨v6, ev6, h⟩ := bnd h
          refine r_bald C hw l_3 ev6 dX6_behindRun_27 ?_
          refine r_callS (As := [.int v6]) C hw (ok_X6_isDigit X l σ v6 _ rfl) gw_473 gw_471 gw_472 gw_116 hl.1 pd_X6_isDigit ⟨Nat.le_of_ble_eq_true rfl, Nat.le_of_ble_eq_true rfl⟩ ⟨Nat.le_refl 0, Nat.le_refl 0⟩ (rest := []) (Nat.le_of_ble_eq_true rfl) dX6_behindRun_28 rfl (fun H locs hw => ?_)
          refine lv_if_eq (tgt := 40) C.1 C.2.1 dX6_behindRun_31 (by decide) (fun c8 => ?_) (fun c8 => ?_)
          · have h := ite_t c8 h
            refine lv_iload_n C.1 C.2.1 dX6_behindRun_40 rfl (lv_at hl 2 rfl) ?_
            refine lv_iload_n C.1 C.2.1 dX6_behindRun_41 rfl (lv_at hl 1 rfl) ?_
            refine lv_iconst (v := 1) C.1 C.2.1 dX6_behindRun_42 (by decide) ?_
            refine lv_iadd C.1 C.2.1 dX6_behindRun_43 ?_
            refine va_mmax C.1 C.2.1 (C.2.2.1.trans hl.1.symm) C.2.2.2.1 (C.2.2.2.2.1 _ gw_474) (C.2.2.2.2.1 _ gw_475) (C.2.2.2.2.1 _ gw_124) (C.2.2.2.2.1 _ gw_476) (Nat.le_of_ble_eq_true rfl) (Nat.le_of_ble_eq_true rfl) (Nat.le_refl 0) (Nat.le_refl 0) dX6_behindRun_44 ?_
            exact r_iret C hr hlk hw (Option.some.inj h) rfl dX6_behindRun_47
          · have h := ite_f c8 h
            obtain ⟨v9, ev9, h⟩ := nm_d h
            refine lv_iinc (v := v9) (lv' := [(2, .int v9), (0, .ref (X.2.1 2)), (1, .int a1)]) C.1 C.2.1 dX6_behindRun_34 hl (k := 2) rfl (by rw [ev9]; rfl) (by decide) rfl (fun ls hl => ?_)
            refine lv_goto (tgt := 2) C.1 C.2.1 dX6_behindRun_37 (by decide) ?_
            exact ih v9 h _ _ hw ls (lv_sub hl [1, 2, 0] rfl)
  rw [f_X6_behindRun] at h
  refine lv_iload_n C.1 C.2.1 dX6_behindRun_0 rfl (lv_at hl 1 rfl) ?_
  refine lv_istore_n (lv' := [(2, .int a1), (0, .ref (X.2.1 2)), (1, .int a1)]) C.1 C.2.1 dX6_behindRun_1 rfl hl (by decide) rfl (fun ls hl => ?_)
  exact b2 10000 a1 h _ _ hw ls (lv_sub hl [1, 2, 0] rfl)
def f_X6_isWord_b13 (σ : St) (a1 : Int32) (a2 : Int32) (w3 : Nat) : Nat → Int32 → Option Bool
  | 0, _ => none
  | n + 1, x4 => if a2 ≤ x4 then (some true) else ((rd σ 3 640 (a1 + x4)).bind fun v3 => (chA w3 x4).bind fun v4 => if v3 = v4 then (nm (x4 + 1) fun v6 => f_X6_isWord_b13 σ a1 a2 w3 n v6) else (some false))
def f_X6_isWord (σ : St) (a1 : Int32) (a2 : Int32) (w3 : Nat) : Option Bool :=
  if a2 = (nI (lenS.getD w3 0)) then (f_X6_isWord_b13 σ a1 a2 w3 10000 0) else (some false)
set_option maxRecDepth 100000 in
set_option maxHeartbeats 4000000 in
theorem ok_X6_isWord (X : Xc) (l : Launch) (σ : St) (a1 : Int32) (a2 : Int32) (w3 : Nat) (hs3 : w3 < 10) (r : Bool) (h : f_X6_isWord σ a1 a2 w3 = some r) : Ok X l yX6_isWord cX6_isWord 5 (some .boolean) 4 85 [.ref (X.2.1 2), .int a1, .int a2, .ref (X.2.1 (60 + w3))] σ (some (.int (b2i r))) σ := by
  refine Ok.of (by decide) (Nat.le_of_ble_eq_true rfl) ?_
  intro p e s m args below meth c C hr hlk hw ls hl
  have C : Cx p s m args c X cX6_isWord 5 "RunningCount$Tape" := C
  have hl : lv_has ls 5 [(0, .ref (X.2.1 2)), (1, .int a1), (2, .int a2), (3, .ref (X.2.1 (60 + w3)))] := hl
  have b13 : ∀ (n : Nat), ∀ (x4 : Int32), f_X6_isWord_b13 σ a1 a2 w3 n x4 = some r → ∀ (H : Heap) (locs : List Loc), At X σ s.heap H locs → ∀ ls : Array Slot, lv_has ls 5 [(0, .ref (X.2.1 2)), (1, .int a1), (2, .int a2), (3, .ref (X.2.1 (60 + w3))), (4, .int x4)] → W p l e (rmX 4 85) s m args below meth c H locs 0 0 (Zq X below s args (some (.int (b2i r))) σ) (F0 m 13 ls []) := by
    intro n
    induction n with
    | zero =>
      intro x4 h
      exact no_some h
    | succ n ih =>
      intro x4 h H locs hw ls hl
      rw [f_X6_isWord_b13] at h
      refine lv_iload C.1 C.2.1 dX6_isWord_13 (lv_at hl 4 rfl) ?_
      refine lv_iload_n C.1 C.2.1 dX6_isWord_15 rfl (lv_at hl 2 rfl) ?_
      refine lv_icmp_ge (tgt := 45) C.1 C.2.1 dX6_isWord_16 (by decide) (fun c2 => ?_) (fun c2 => ?_)
      · have h := ite_t c2 h
        refine lv_iconst (v := 1) C.1 C.2.1 dX6_isWord_45 (by decide) ?_
        exact r_zret C hr hlk hw rfl (Option.some.inj h) rfl dX6_isWord_46
      · have h := ite_f c2 h
        refine lv_aload_n C.1 C.2.1 dX6_isWord_19 rfl (lv_at hl 0 rfl) ?_
        refine r_get (v := .ref (X.2.1 3)) C hw l_2 vc_6 kX6 1 rfl (by decide) gw_156 rfl dX6_isWord_20 ?_
        refine lv_iload_n C.1 C.2.1 dX6_isWord_23 rfl (lv_at hl 1 rfl) ?_
        refine lv_iload C.1 C.2.1 dX6_isWord_24 (lv_at hl 4 rfl) ?_
        refine lv_iadd C.1 C.2.1 dX6_isWord_26 ?_
        obtain ⟨v3, ev3, h⟩ := bnd h
        refine r_bald C hw l_3 ev3 dX6_isWord_27 ?_
        refine lv_aload_n C.1 C.2.1 dX6_isWord_28 rfl (lv_at hl 3 rfl) ?_
        refine lv_iload C.1 C.2.1 dX6_isWord_29 (lv_at hl 4 rfl) ?_
        obtain ⟨v4, ev4, h⟩ := bnd h
        refine r_callVg (As := [.int x4]) C hw (ok_J0ca X l σ w3 hs3 x4 v4 ev4) (str_rec C hw hs3) gw_503 gw_500 gw_501 gw_502 gw_125 hl.1 pd_J0ca ⟨Nat.le_of_ble_eq_true rfl, Nat.le_of_ble_eq_true rfl⟩ ⟨Nat.le_refl 0, Nat.le_refl 0⟩ (rest := [.int v3]) (Nat.le_of_ble_eq_true rfl) dX6_isWord_31 rfl (fun H locs hw => ?_)
        refine lv_icmp_eq (tgt := 39) C.1 C.2.1 dX6_isWord_34 (by decide) (fun c5 => ?_) (fun c5 => ?_)
        · have h := ite_t c5 h
          obtain ⟨v6, ev6, h⟩ := nm_d h
          refine lv_iinc (v := v6) (lv' := [(4, .int v6), (0, .ref (X.2.1 2)), (1, .int a1), (2, .int a2), (3, .ref (X.2.1 (60 + w3)))]) C.1 C.2.1 dX6_isWord_39 hl (k := 4) rfl (by rw [ev6]; rfl) (by decide) rfl (fun ls hl => ?_)
          refine lv_goto (tgt := 13) C.1 C.2.1 dX6_isWord_42 (by decide) ?_
          exact ih v6 h _ _ hw ls (lv_sub hl [1, 2, 3, 4, 0] rfl)
        · have h := ite_f c5 h
          refine lv_iconst (v := 0) C.1 C.2.1 dX6_isWord_37 (by decide) ?_
          exact r_zret C hr hlk hw rfl (Option.some.inj h) rfl dX6_isWord_38
  rw [f_X6_isWord] at h
  refine lv_iload_n C.1 C.2.1 dX6_isWord_0 rfl (lv_at hl 2 rfl) ?_
  refine lv_aload_n C.1 C.2.1 dX6_isWord_1 rfl (lv_at hl 3 rfl) ?_
  refine r_callVg (As := []) C hw (ok_J0le X l σ w3 hs3) (str_rec C hw hs3) gw_493 gw_490 gw_491 gw_492 gw_125 hl.1 pd_J0le ⟨Nat.le_of_ble_eq_true rfl, Nat.le_of_ble_eq_true rfl⟩ ⟨Nat.le_refl 0, Nat.le_refl 0⟩ (rest := [.int a2]) (Nat.le_of_ble_eq_true rfl) dX6_isWord_2 rfl (fun H locs hw => ?_)
  refine lv_icmp_eq (tgt := 10) C.1 C.2.1 dX6_isWord_5 (by decide) (fun c1 => ?_) (fun c1 => ?_)
  · have h := ite_t c1 h
    refine lv_iconst (v := 0) C.1 C.2.1 dX6_isWord_10 (by decide) ?_
    refine lv_istore (lv' := [(4, .int 0), (0, .ref (X.2.1 2)), (1, .int a1), (2, .int a2), (3, .ref (X.2.1 (60 + w3)))]) C.1 C.2.1 dX6_isWord_11 hl (by decide) rfl (fun ls hl => ?_)
    exact b13 10000 0 h _ _ hw ls (lv_sub hl [1, 2, 3, 4, 0] rfl)
  · have h := ite_f c1 h
    refine lv_iconst (v := 0) C.1 C.2.1 dX6_isWord_8 (by decide) ?_
    exact r_zret C hr hlk hw rfl (Option.some.inj h) rfl dX6_isWord_9
def f_X6_kindOfWord (σ : St) (a1 : Int32) (a2 : Int32) : Option Int32 :=
  (f_X6_isWord σ a1 a2 0).bind fun q1 => if (b2i q1) = 0 then ((f_X6_isWord σ a1 a2 1).bind fun q3 => if (b2i q3) = 0 then ((f_X6_isWord σ a1 a2 2).bind fun q5 => if (b2i q5) = 0 then ((f_X6_isWord σ a1 a2 3).bind fun q7 => if (b2i q7) = 0 then ((f_X6_isWord σ a1 a2 4).bind fun q9 => if (b2i q9) = 0 then ((f_X6_isWord σ a1 a2 5).bind fun q11 => if (b2i q11) = 0 then (some (-4)) else (some (-10))) else (some (-9))) else (some (-8))) else (some (-7))) else (some (-6))) else (some (-5))
set_option maxRecDepth 100000 in
set_option maxHeartbeats 4000000 in
theorem ok_X6_kindOfWord (X : Xc) (l : Launch) (σ : St) (a1 : Int32) (a2 : Int32) (r : Int32) (h : f_X6_kindOfWord σ a1 a2 = some r) : Ok X l yX6_kindOfWord cX6_kindOfWord 3 (some .int) 5 109 [.ref (X.2.1 2), .int a1, .int a2] σ (some (.int r)) σ := by
  refine Ok.of (by decide) (Nat.le_of_ble_eq_true rfl) ?_
  intro p e s m args below meth c C hr hlk hw ls hl
  have C : Cx p s m args c X cX6_kindOfWord 3 "RunningCount$Tape" := C
  have hl : lv_has ls 3 [(0, .ref (X.2.1 2)), (1, .int a1), (2, .int a2)] := hl
  rw [f_X6_kindOfWord] at h
  refine lv_aload_n C.1 C.2.1 dX6_kindOfWord_0 rfl (lv_at hl 0 rfl) ?_
  refine lv_iload_n C.1 C.2.1 dX6_kindOfWord_1 rfl (lv_at hl 1 rfl) ?_
  refine lv_iload_n C.1 C.2.1 dX6_kindOfWord_2 rfl (lv_at hl 2 rfl) ?_
  refine va_ldcS C.1 C.2.1 C.2.2.2.1 (C.2.2.2.2.2.2.2.2.2.1 _ (List.mem_of_getElem? (i := 0) rfl)) dX6_kindOfWord_3 ?_
  obtain ⟨q1, eq1, h⟩ := bnd h
  refine r_callV (As := [.int a1, .int a2, .ref (X.2.1 (60 + 0))]) C hw (ok_X6_isWord X l σ a1 a2 0 (by decide) _ eq1) l_2 vc_6 gw_489 gw_486 gw_488 gw_7 gw_116 hl.1 pd_X6_isWord ⟨Nat.le_of_ble_eq_true rfl, Nat.le_of_ble_eq_true rfl⟩ ⟨Nat.le_refl 0, Nat.le_refl 0⟩ (rest := []) (Nat.le_of_ble_eq_true rfl) dX6_kindOfWord_5 rfl (fun H locs hw => ?_)
  refine lv_if_eq (tgt := 14) C.1 C.2.1 dX6_kindOfWord_8 (by decide) (fun c2 => ?_) (fun c2 => ?_)
  · have h := ite_t c2 h
    refine lv_aload_n C.1 C.2.1 dX6_kindOfWord_14 rfl (lv_at hl 0 rfl) ?_
    refine lv_iload_n C.1 C.2.1 dX6_kindOfWord_15 rfl (lv_at hl 1 rfl) ?_
    refine lv_iload_n C.1 C.2.1 dX6_kindOfWord_16 rfl (lv_at hl 2 rfl) ?_
    refine va_ldcS C.1 C.2.1 C.2.2.2.1 (C.2.2.2.2.2.2.2.2.2.1 _ (List.mem_of_getElem? (i := 1) rfl)) dX6_kindOfWord_17 ?_
    obtain ⟨q3, eq3, h⟩ := bnd h
    refine r_callV (As := [.int a1, .int a2, .ref (X.2.1 (60 + 1))]) C hw (ok_X6_isWord X l σ a1 a2 1 (by decide) _ eq3) l_2 vc_6 gw_489 gw_486 gw_488 gw_7 gw_116 hl.1 pd_X6_isWord ⟨Nat.le_of_ble_eq_true rfl, Nat.le_of_ble_eq_true rfl⟩ ⟨Nat.le_refl 0, Nat.le_refl 0⟩ (rest := []) (Nat.le_of_ble_eq_true rfl) dX6_kindOfWord_19 rfl (fun H locs hw => ?_)
    refine lv_if_eq (tgt := 28) C.1 C.2.1 dX6_kindOfWord_22 (by decide) (fun c4 => ?_) (fun c4 => ?_)
    · have h := ite_t c4 h
      refine lv_aload_n C.1 C.2.1 dX6_kindOfWord_28 rfl (lv_at hl 0 rfl) ?_
      refine lv_iload_n C.1 C.2.1 dX6_kindOfWord_29 rfl (lv_at hl 1 rfl) ?_
      refine lv_iload_n C.1 C.2.1 dX6_kindOfWord_30 rfl (lv_at hl 2 rfl) ?_
      refine va_ldcS C.1 C.2.1 C.2.2.2.1 (C.2.2.2.2.2.2.2.2.2.1 _ (List.mem_of_getElem? (i := 2) rfl)) dX6_kindOfWord_31 ?_
      obtain ⟨q5, eq5, h⟩ := bnd h
      refine r_callV (As := [.int a1, .int a2, .ref (X.2.1 (60 + 2))]) C hw (ok_X6_isWord X l σ a1 a2 2 (by decide) _ eq5) l_2 vc_6 gw_489 gw_486 gw_488 gw_7 gw_116 hl.1 pd_X6_isWord ⟨Nat.le_of_ble_eq_true rfl, Nat.le_of_ble_eq_true rfl⟩ ⟨Nat.le_refl 0, Nat.le_refl 0⟩ (rest := []) (Nat.le_of_ble_eq_true rfl) dX6_kindOfWord_33 rfl (fun H locs hw => ?_)
      refine lv_if_eq (tgt := 42) C.1 C.2.1 dX6_kindOfWord_36 (by decide) (fun c6 => ?_) (fun c6 => ?_)
      · have h := ite_t c6 h
        refine lv_aload_n C.1 C.2.1 dX6_kindOfWord_42 rfl (lv_at hl 0 rfl) ?_
        refine lv_iload_n C.1 C.2.1 dX6_kindOfWord_43 rfl (lv_at hl 1 rfl) ?_
        refine lv_iload_n C.1 C.2.1 dX6_kindOfWord_44 rfl (lv_at hl 2 rfl) ?_
        refine va_ldcS C.1 C.2.1 C.2.2.2.1 (C.2.2.2.2.2.2.2.2.2.1 _ (List.mem_of_getElem? (i := 3) rfl)) dX6_kindOfWord_45 ?_
        obtain ⟨q7, eq7, h⟩ := bnd h
        refine r_callV (As := [.int a1, .int a2, .ref (X.2.1 (60 + 3))]) C hw (ok_X6_isWord X l σ a1 a2 3 (by decide) _ eq7) l_2 vc_6 gw_489 gw_486 gw_488 gw_7 gw_116 hl.1 pd_X6_isWord ⟨Nat.le_of_ble_eq_true rfl, Nat.le_of_ble_eq_true rfl⟩ ⟨Nat.le_refl 0, Nat.le_refl 0⟩ (rest := []) (Nat.le_of_ble_eq_true rfl) dX6_kindOfWord_47 rfl (fun H locs hw => ?_)
        refine lv_if_eq (tgt := 56) C.1 C.2.1 dX6_kindOfWord_50 (by decide) (fun c8 => ?_) (fun c8 => ?_)
        · have h := ite_t c8 h
          refine lv_aload_n C.1 C.2.1 dX6_kindOfWord_56 rfl (lv_at hl 0 rfl) ?_
          refine lv_iload_n C.1 C.2.1 dX6_kindOfWord_57 rfl (lv_at hl 1 rfl) ?_
          refine lv_iload_n C.1 C.2.1 dX6_kindOfWord_58 rfl (lv_at hl 2 rfl) ?_
          refine va_ldcS C.1 C.2.1 C.2.2.2.1 (C.2.2.2.2.2.2.2.2.2.1 _ (List.mem_of_getElem? (i := 4) rfl)) dX6_kindOfWord_59 ?_
          obtain ⟨q9, eq9, h⟩ := bnd h
          refine r_callV (As := [.int a1, .int a2, .ref (X.2.1 (60 + 4))]) C hw (ok_X6_isWord X l σ a1 a2 4 (by decide) _ eq9) l_2 vc_6 gw_489 gw_486 gw_488 gw_7 gw_116 hl.1 pd_X6_isWord ⟨Nat.le_of_ble_eq_true rfl, Nat.le_of_ble_eq_true rfl⟩ ⟨Nat.le_refl 0, Nat.le_refl 0⟩ (rest := []) (Nat.le_of_ble_eq_true rfl) dX6_kindOfWord_61 rfl (fun H locs hw => ?_)
          refine lv_if_eq (tgt := 70) C.1 C.2.1 dX6_kindOfWord_64 (by decide) (fun c10 => ?_) (fun c10 => ?_)
          · have h := ite_t c10 h
            refine lv_aload_n C.1 C.2.1 dX6_kindOfWord_70 rfl (lv_at hl 0 rfl) ?_
            refine lv_iload_n C.1 C.2.1 dX6_kindOfWord_71 rfl (lv_at hl 1 rfl) ?_
            refine lv_iload_n C.1 C.2.1 dX6_kindOfWord_72 rfl (lv_at hl 2 rfl) ?_
            refine va_ldcS C.1 C.2.1 C.2.2.2.1 (C.2.2.2.2.2.2.2.2.2.1 _ (List.mem_of_getElem? (i := 5) rfl)) dX6_kindOfWord_73 ?_
            obtain ⟨q11, eq11, h⟩ := bnd h
            refine r_callV (As := [.int a1, .int a2, .ref (X.2.1 (60 + 5))]) C hw (ok_X6_isWord X l σ a1 a2 5 (by decide) _ eq11) l_2 vc_6 gw_489 gw_486 gw_488 gw_7 gw_116 hl.1 pd_X6_isWord ⟨Nat.le_of_ble_eq_true rfl, Nat.le_of_ble_eq_true rfl⟩ ⟨Nat.le_refl 0, Nat.le_refl 0⟩ (rest := []) (Nat.le_of_ble_eq_true rfl) dX6_kindOfWord_75 rfl (fun H locs hw => ?_)
            refine lv_if_eq (tgt := 86) C.1 C.2.1 dX6_kindOfWord_78 (by decide) (fun c12 => ?_) (fun c12 => ?_)
            · have h := ite_t c12 h
              refine lv_bipush (v := (-4)) C.1 C.2.1 dX6_kindOfWord_86 (by decide) ?_
              exact r_iret C hr hlk hw (Option.some.inj h) rfl dX6_kindOfWord_88
            · have h := ite_f c12 h
              refine lv_bipush (v := (-10)) C.1 C.2.1 dX6_kindOfWord_81 (by decide) ?_
              refine lv_goto (tgt := 88) C.1 C.2.1 dX6_kindOfWord_83 (by decide) ?_
              exact r_iret C hr hlk hw (Option.some.inj h) rfl dX6_kindOfWord_88
          · have h := ite_f c10 h
            refine lv_bipush (v := (-9)) C.1 C.2.1 dX6_kindOfWord_67 (by decide) ?_
            exact r_iret C hr hlk hw (Option.some.inj h) rfl dX6_kindOfWord_69
        · have h := ite_f c8 h
          refine lv_bipush (v := (-8)) C.1 C.2.1 dX6_kindOfWord_53 (by decide) ?_
          exact r_iret C hr hlk hw (Option.some.inj h) rfl dX6_kindOfWord_55
      · have h := ite_f c6 h
        refine lv_bipush (v := (-7)) C.1 C.2.1 dX6_kindOfWord_39 (by decide) ?_
        exact r_iret C hr hlk hw (Option.some.inj h) rfl dX6_kindOfWord_41
    · have h := ite_f c4 h
      refine lv_bipush (v := (-6)) C.1 C.2.1 dX6_kindOfWord_25 (by decide) ?_
      exact r_iret C hr hlk hw (Option.some.inj h) rfl dX6_kindOfWord_27
  · have h := ite_f c2 h
    refine lv_bipush (v := (-5)) C.1 C.2.1 dX6_kindOfWord_11 (by decide) ?_
    exact r_iret C hr hlk hw (Option.some.inj h) rfl dX6_kindOfWord_13
def f_X6_kindOf_b11 (σ : St) (a1 : Int32) (a2 : Int32) : Nat → Int32 → Int32 → Int32 → Int32 → Option Int32
  | 0, _, _, _, _ => none
  | n + 1, x3, x4, x5, x6 => if a2 ≤ x6 then (if x3 = (a2 - a1) then ((f_X6_kindOfWord σ a1 x3).bind fun q9 => some q9) else (if x4 = (a2 - a1) then (if 3 < x4 then ((rd σ 3 640 a1).bind fun v7 => if v7 = 59 then (some (-3)) else (some (-1))) else (some x5)) else ((rd σ 3 640 a1).bind fun v4 => if v4 = 59 then (some (-3)) else (some (-1))))) else ((rd σ 3 640 x6).bind fun v10 => if (b2i (f_X6_isLetter σ v10)) = 0 then ((rd σ 3 640 x6).bind fun v13 => if (b2i (f_X6_isDigit σ v13)) = 0 then (nm (x6 + 1) fun v16 => f_X6_kindOf_b11 σ a1 a2 n x3 x4 x5 v16) else (nm (x4 + 1) fun v17 => (rd σ 3 640 x6).bind fun v18 => nm (((10 * x5) + v18) - 48) fun v19 => nm (x6 + 1) fun v20 => f_X6_kindOf_b11 σ a1 a2 n x3 v17 v19 v20)) else (nm (x3 + 1) fun v21 => nm (x6 + 1) fun v22 => f_X6_kindOf_b11 σ a1 a2 n v21 x4 x5 v22))
def f_X6_kindOf (σ : St) (a1 : Int32) (a2 : Int32) : Option Int32 :=
  f_X6_kindOf_b11 σ a1 a2 10000 0 0 0 a1
set_option maxRecDepth 100000 in
set_option maxHeartbeats 4000000 in
theorem ok_X6_kindOf (X : Xc) (l : Launch) (σ : St) (a1 : Int32) (a2 : Int32) (r : Int32) (h : f_X6_kindOf σ a1 a2 = some r) : Ok X l yX6_kindOf cX6_kindOf 7 (some .int) 6 131 [.ref (X.2.1 2), .int a1, .int a2] σ (some (.int r)) σ := by
  refine Ok.of (by decide) (Nat.le_of_ble_eq_true rfl) ?_
  intro p e s m args below meth c C hr hlk hw ls hl
  have C : Cx p s m args c X cX6_kindOf 7 "RunningCount$Tape" := C
  have hl : lv_has ls 7 [(0, .ref (X.2.1 2)), (1, .int a1), (2, .int a2)] := hl
  have b11 : ∀ (n : Nat), ∀ (x3 : Int32) (x4 : Int32) (x5 : Int32) (x6 : Int32), f_X6_kindOf_b11 σ a1 a2 n x3 x4 x5 x6 = some r → ∀ (H : Heap) (locs : List Loc), At X σ s.heap H locs → ∀ ls : Array Slot, lv_has ls 7 [(0, .ref (X.2.1 2)), (1, .int a1), (2, .int a2), (3, .int x3), (4, .int x4), (5, .int x5), (6, .int x6)] → W p l e (rmX 6 131) s m args below meth c H locs 0 0 (Zq X below s args (some (.int r)) σ) (F0 m 11 ls []) := by
    intro n
    induction n with
    | zero =>
      intro x3 x4 x5 x6 h
      exact no_some h
    | succ n ih =>
      intro x3 x4 x5 x6 h H locs hw ls hl
      rw [f_X6_kindOf_b11] at h
      refine lv_iload C.1 C.2.1 dX6_kindOf_11 (lv_at hl 6 rfl) ?_
      refine lv_iload_n C.1 C.2.1 dX6_kindOf_13 rfl (lv_at hl 2 rfl) ?_
      refine lv_icmp_ge (tgt := 76) C.1 C.2.1 dX6_kindOf_14 (by decide) (fun c1 => ?_) (fun c1 => ?_)
      · have h := ite_t c1 h
        refine lv_iload_n C.1 C.2.1 dX6_kindOf_76 rfl (lv_at hl 3 rfl) ?_
        refine lv_iload_n C.1 C.2.1 dX6_kindOf_77 rfl (lv_at hl 2 rfl) ?_
        refine lv_iload_n C.1 C.2.1 dX6_kindOf_78 rfl (lv_at hl 1 rfl) ?_
        refine lv_isub C.1 C.2.1 dX6_kindOf_79 ?_
        refine lv_icmp_ne (tgt := 90) C.1 C.2.1 dX6_kindOf_80 (by decide) (fun c2 => ?_) (fun c2 => ?_)
        · have h := ite_f c2 h
          refine lv_iload C.1 C.2.1 dX6_kindOf_90 (lv_at hl 4 rfl) ?_
          refine lv_iload_n C.1 C.2.1 dX6_kindOf_92 rfl (lv_at hl 2 rfl) ?_
          refine lv_iload_n C.1 C.2.1 dX6_kindOf_93 rfl (lv_at hl 1 rfl) ?_
          refine lv_isub C.1 C.2.1 dX6_kindOf_94 ?_
          refine lv_icmp_ne (tgt := 107) C.1 C.2.1 dX6_kindOf_95 (by decide) (fun c3 => ?_) (fun c3 => ?_)
          · have h := ite_f c3 h
            refine lv_aload_n C.1 C.2.1 dX6_kindOf_107 rfl (lv_at hl 0 rfl) ?_
            refine r_get (v := .ref (X.2.1 3)) C hw l_2 vc_6 kX6 1 rfl (by decide) gw_156 rfl dX6_kindOf_108 ?_
            refine lv_iload_n C.1 C.2.1 dX6_kindOf_111 rfl (lv_at hl 1 rfl) ?_
            obtain ⟨v4, ev4, h⟩ := bnd h
            refine r_bald C hw l_3 ev4 dX6_kindOf_112 ?_
            refine lv_bipush (v := 59) C.1 C.2.1 dX6_kindOf_113 (by decide) ?_
            refine lv_icmp_ne (tgt := 123) C.1 C.2.1 dX6_kindOf_115 (by decide) (fun c5 => ?_) (fun c5 => ?_)
            · have h := ite_f c5 h
              refine lv_iconst (v := (-1)) C.1 C.2.1 dX6_kindOf_123 (by decide) ?_
              exact r_iret C hr hlk hw (Option.some.inj h) rfl dX6_kindOf_124
            · have h := ite_t c5 h
              refine lv_bipush (v := (-3)) C.1 C.2.1 dX6_kindOf_118 (by decide) ?_
              refine lv_goto (tgt := 124) C.1 C.2.1 dX6_kindOf_120 (by decide) ?_
              exact r_iret C hr hlk hw (Option.some.inj h) rfl dX6_kindOf_124
          · have h := ite_t c3 h
            refine lv_iload C.1 C.2.1 dX6_kindOf_98 (lv_at hl 4 rfl) ?_
            refine lv_iconst (v := 3) C.1 C.2.1 dX6_kindOf_100 (by decide) ?_
            refine lv_icmp_gt (tgt := 107) C.1 C.2.1 dX6_kindOf_101 (by decide) (fun c6 => ?_) (fun c6 => ?_)
            · have h := ite_t c6 h
              refine lv_aload_n C.1 C.2.1 dX6_kindOf_107 rfl (lv_at hl 0 rfl) ?_
              refine r_get (v := .ref (X.2.1 3)) C hw l_2 vc_6 kX6 1 rfl (by decide) gw_156 rfl dX6_kindOf_108 ?_
              refine lv_iload_n C.1 C.2.1 dX6_kindOf_111 rfl (lv_at hl 1 rfl) ?_
              obtain ⟨v7, ev7, h⟩ := bnd h
              refine r_bald C hw l_3 ev7 dX6_kindOf_112 ?_
              refine lv_bipush (v := 59) C.1 C.2.1 dX6_kindOf_113 (by decide) ?_
              refine lv_icmp_ne (tgt := 123) C.1 C.2.1 dX6_kindOf_115 (by decide) (fun c8 => ?_) (fun c8 => ?_)
              · have h := ite_f c8 h
                refine lv_iconst (v := (-1)) C.1 C.2.1 dX6_kindOf_123 (by decide) ?_
                exact r_iret C hr hlk hw (Option.some.inj h) rfl dX6_kindOf_124
              · have h := ite_t c8 h
                refine lv_bipush (v := (-3)) C.1 C.2.1 dX6_kindOf_118 (by decide) ?_
                refine lv_goto (tgt := 124) C.1 C.2.1 dX6_kindOf_120 (by decide) ?_
                exact r_iret C hr hlk hw (Option.some.inj h) rfl dX6_kindOf_124
            · have h := ite_f c6 h
              refine lv_iload C.1 C.2.1 dX6_kindOf_104 (lv_at hl 5 rfl) ?_
              exact r_iret C hr hlk hw (Option.some.inj h) rfl dX6_kindOf_106
        · have h := ite_t c2 h
          refine lv_aload_n C.1 C.2.1 dX6_kindOf_83 rfl (lv_at hl 0 rfl) ?_
          refine lv_iload_n C.1 C.2.1 dX6_kindOf_84 rfl (lv_at hl 1 rfl) ?_
          refine lv_iload_n C.1 C.2.1 dX6_kindOf_85 rfl (lv_at hl 3 rfl) ?_
          obtain ⟨q9, eq9, h⟩ := bnd h
          refine r_callV (As := [.int a1, .int x3]) C hw (ok_X6_kindOfWord X l σ a1 x3 _ eq9) l_2 vc_6 gw_484 gw_481 gw_483 gw_6 gw_116 hl.1 pd_X6_kindOfWord ⟨Nat.le_of_ble_eq_true rfl, Nat.le_of_ble_eq_true rfl⟩ ⟨Nat.le_refl 0, Nat.le_refl 0⟩ (rest := []) (Nat.le_of_ble_eq_true rfl) dX6_kindOf_86 rfl (fun H locs hw => ?_)
          exact r_iret C hr hlk hw (Option.some.inj h) rfl dX6_kindOf_89
      · have h := ite_f c1 h
        refine lv_aload_n C.1 C.2.1 dX6_kindOf_17 rfl (lv_at hl 0 rfl) ?_
        refine r_get (v := .ref (X.2.1 3)) C hw l_2 vc_6 kX6 1 rfl (by decide) gw_156 rfl dX6_kindOf_18 ?_
        refine lv_iload C.1 C.2.1 dX6_kindOf_21 (lv_at hl 6 rfl) ?_
        obtain ⟨v10, ev10, h⟩ := bnd h
        refine r_bald C hw l_3 ev10 dX6_kindOf_23 ?_
        refine r_callS (As := [.int v10]) C hw (ok_X6_isLetter X l σ v10 _ rfl) gw_470 gw_468 gw_469 gw_116 hl.1 pd_X6_isLetter ⟨Nat.le_of_ble_eq_true rfl, Nat.le_of_ble_eq_true rfl⟩ ⟨Nat.le_refl 0, Nat.le_refl 0⟩ (rest := []) (Nat.le_of_ble_eq_true rfl) dX6_kindOf_24 rfl (fun H locs hw => ?_)
        refine lv_if_eq (tgt := 36) C.1 C.2.1 dX6_kindOf_27 (by decide) (fun c12 => ?_) (fun c12 => ?_)
        · have h := ite_t c12 h
          refine lv_aload_n C.1 C.2.1 dX6_kindOf_36 rfl (lv_at hl 0 rfl) ?_
          refine r_get (v := .ref (X.2.1 3)) C hw l_2 vc_6 kX6 1 rfl (by decide) gw_156 rfl dX6_kindOf_37 ?_
          refine lv_iload C.1 C.2.1 dX6_kindOf_40 (lv_at hl 6 rfl) ?_
          obtain ⟨v13, ev13, h⟩ := bnd h
          refine r_bald C hw l_3 ev13 dX6_kindOf_42 ?_
          refine r_callS (As := [.int v13]) C hw (ok_X6_isDigit X l σ v13 _ rfl) gw_473 gw_471 gw_472 gw_116 hl.1 pd_X6_isDigit ⟨Nat.le_of_ble_eq_true rfl, Nat.le_of_ble_eq_true rfl⟩ ⟨Nat.le_refl 0, Nat.le_refl 0⟩ (rest := []) (Nat.le_of_ble_eq_true rfl) dX6_kindOf_43 rfl (fun H locs hw => ?_)
          refine lv_if_eq (tgt := 70) C.1 C.2.1 dX6_kindOf_46 (by decide) (fun c15 => ?_) (fun c15 => ?_)
          · have h := ite_t c15 h
            obtain ⟨v16, ev16, h⟩ := nm_d h
            refine lv_iinc (v := v16) (lv' := [(6, .int v16), (0, .ref (X.2.1 2)), (1, .int a1), (2, .int a2), (3, .int x3), (4, .int x4), (5, .int x5)]) C.1 C.2.1 dX6_kindOf_70 hl (k := 6) rfl (by rw [ev16]; rfl) (by decide) rfl (fun ls hl => ?_)
            refine lv_goto (tgt := 11) C.1 C.2.1 dX6_kindOf_73 (by decide) ?_
            exact ih x3 x4 x5 v16 h _ _ hw ls (lv_sub hl [1, 2, 3, 4, 5, 6, 0] rfl)
          · have h := ite_f c15 h
            obtain ⟨v17, ev17, h⟩ := nm_d h
            refine lv_iinc (v := v17) (lv' := [(4, .int v17), (0, .ref (X.2.1 2)), (1, .int a1), (2, .int a2), (3, .int x3), (5, .int x5), (6, .int x6)]) C.1 C.2.1 dX6_kindOf_49 hl (k := 4) rfl (by rw [ev17]; rfl) (by decide) rfl (fun ls hl => ?_)
            refine lv_bipush (v := 10) C.1 C.2.1 dX6_kindOf_52 (by decide) ?_
            refine lv_iload C.1 C.2.1 dX6_kindOf_54 (lv_at hl 5 rfl) ?_
            refine lv_imul C.1 C.2.1 dX6_kindOf_56 ?_
            refine lv_aload_n C.1 C.2.1 dX6_kindOf_57 rfl (lv_at hl 1 rfl) ?_
            refine r_get (v := .ref (X.2.1 3)) C hw l_2 vc_6 kX6 1 rfl (by decide) gw_156 rfl dX6_kindOf_58 ?_
            refine lv_iload C.1 C.2.1 dX6_kindOf_61 (lv_at hl 6 rfl) ?_
            obtain ⟨v18, ev18, h⟩ := bnd h
            refine r_bald C hw l_3 ev18 dX6_kindOf_63 ?_
            refine lv_iadd C.1 C.2.1 dX6_kindOf_64 ?_
            refine lv_bipush (v := 48) C.1 C.2.1 dX6_kindOf_65 (by decide) ?_
            refine lv_isub C.1 C.2.1 dX6_kindOf_67 ?_
            obtain ⟨v19, ev19, h⟩ := nm_d h
            refine lv_nm ev19 ?_
            refine lv_istore (lv' := [(5, .int v19), (4, .int v17), (0, .ref (X.2.1 2)), (1, .int a1), (2, .int a2), (3, .int x3), (6, .int x6)]) C.1 C.2.1 dX6_kindOf_68 hl (by decide) rfl (fun ls hl => ?_)
            obtain ⟨v20, ev20, h⟩ := nm_d h
            refine lv_iinc (v := v20) (lv' := [(6, .int v20), (5, .int v19), (4, .int v17), (0, .ref (X.2.1 2)), (1, .int a1), (2, .int a2), (3, .int x3)]) C.1 C.2.1 dX6_kindOf_70 hl (k := 6) rfl (by rw [ev20]; rfl) (by decide) rfl (fun ls hl => ?_)
            refine lv_goto (tgt := 11) C.1 C.2.1 dX6_kindOf_73 (by decide) ?_
            exact ih x3 v17 v19 v20 h _ _ hw ls (lv_sub hl [3, 4, 5, 6, 2, 1, 0] rfl)
        · have h := ite_f c12 h
          obtain ⟨v21, ev21, h⟩ := nm_d h
          refine lv_iinc (v := v21) (lv' := [(3, .int v21), (0, .ref (X.2.1 2)), (1, .int a1), (2, .int a2), (4, .int x4), (5, .int x5), (6, .int x6)]) C.1 C.2.1 dX6_kindOf_30 hl (k := 3) rfl (by rw [ev21]; rfl) (by decide) rfl (fun ls hl => ?_)
          refine lv_goto (tgt := 70) C.1 C.2.1 dX6_kindOf_33 (by decide) ?_
          obtain ⟨v22, ev22, h⟩ := nm_d h
          refine lv_iinc (v := v22) (lv' := [(6, .int v22), (3, .int v21), (0, .ref (X.2.1 2)), (1, .int a1), (2, .int a2), (4, .int x4), (5, .int x5)]) C.1 C.2.1 dX6_kindOf_70 hl (k := 6) rfl (by rw [ev22]; rfl) (by decide) rfl (fun ls hl => ?_)
          refine lv_goto (tgt := 11) C.1 C.2.1 dX6_kindOf_73 (by decide) ?_
          exact ih v21 x4 x5 v22 h _ _ hw ls (lv_sub hl [2, 3, 4, 1, 5, 6, 0] rfl)
  rw [f_X6_kindOf] at h
  refine lv_iconst (v := 0) C.1 C.2.1 dX6_kindOf_0 (by decide) ?_
  refine lv_istore_n (lv' := [(3, .int 0), (0, .ref (X.2.1 2)), (1, .int a1), (2, .int a2)]) C.1 C.2.1 dX6_kindOf_1 rfl hl (by decide) rfl (fun ls hl => ?_)
  refine lv_iconst (v := 0) C.1 C.2.1 dX6_kindOf_2 (by decide) ?_
  refine lv_istore (lv' := [(4, .int 0), (3, .int 0), (0, .ref (X.2.1 2)), (1, .int a1), (2, .int a2)]) C.1 C.2.1 dX6_kindOf_3 hl (by decide) rfl (fun ls hl => ?_)
  refine lv_iconst (v := 0) C.1 C.2.1 dX6_kindOf_5 (by decide) ?_
  refine lv_istore (lv' := [(5, .int 0), (4, .int 0), (3, .int 0), (0, .ref (X.2.1 2)), (1, .int a1), (2, .int a2)]) C.1 C.2.1 dX6_kindOf_6 hl (by decide) rfl (fun ls hl => ?_)
  refine lv_iload_n C.1 C.2.1 dX6_kindOf_8 rfl (lv_at hl 4 rfl) ?_
  refine lv_istore (lv' := [(6, .int a1), (5, .int 0), (4, .int 0), (3, .int 0), (0, .ref (X.2.1 2)), (1, .int a1), (2, .int a2)]) C.1 C.2.1 dX6_kindOf_9 hl (by decide) rfl (fun ls hl => ?_)
  exact b11 10000 0 0 0 a1 h _ _ hw ls (lv_sub hl [4, 5, 6, 3, 2, 1, 0] rfl)
def f_X6_addToken (σ : St) (a1 : Int32) (a2 : Int32) : Option St :=
  if 601 ≤ (σ.1 2 2) then (some σ) else ((wr σ 4 601 (σ.1 2 2) a1).bind fun σ2 => (wr σ2 5 601 (σ2.1 2 2) a2).bind fun σ3 => nm (upI σ3 2 2 ((σ3.1 2 2) + 1)) fun σ4 => some σ4)
set_option maxRecDepth 100000 in
set_option maxHeartbeats 4000000 in
theorem ok_X6_addToken (X : Xc) (l : Launch) (σ : St) (a1 : Int32) (a2 : Int32) (σ' : St) (h : f_X6_addToken σ a1 a2 = some σ') : Ok X l yX6_addToken cX6_addToken 3 none 0 0 [.ref (X.2.1 2), .int a1, .int a2] σ none σ' := by
  refine Ok.of (by decide) (Nat.le_of_ble_eq_true rfl) ?_
  intro p e s m args below meth c C hr hlk hw ls hl
  have C : Cx p s m args c X cX6_addToken 3 "RunningCount$Tape" := C
  have hl : lv_has ls 3 [(0, .ref (X.2.1 2)), (1, .int a1), (2, .int a2)] := hl
  rw [f_X6_addToken] at h
  refine lv_aload_n C.1 C.2.1 dX6_addToken_0 rfl (lv_at hl 0 rfl) ?_
  refine r_get (v := .int (σ.1 2 2)) C hw l_2 vc_6 kX6 2 rfl (by decide) gw_157 rfl dX6_addToken_1 ?_
  refine lv_aload_n C.1 C.2.1 dX6_addToken_4 rfl (lv_at hl 0 rfl) ?_
  refine r_get (v := .ref (X.2.1 4)) C hw l_2 vc_6 kX6 3 rfl (by decide) gw_159 rfl dX6_addToken_5 ?_
  refine r_alen (v := 601) C hw l_4 (by decide) (by decide) dX6_addToken_8 ?_
  refine lv_icmp_ge (tgt := 42) C.1 C.2.1 dX6_addToken_9 (by decide) (fun c1 => ?_) (fun c1 => ?_)
  · have h := ite_t c1 h
    exact r_vret C hr hlk hw (Option.some.inj h) dX6_addToken_42
  · have h := ite_f c1 h
    refine lv_aload_n C.1 C.2.1 dX6_addToken_12 rfl (lv_at hl 0 rfl) ?_
    refine r_get (v := .ref (X.2.1 4)) C hw l_2 vc_6 kX6 3 rfl (by decide) gw_159 rfl dX6_addToken_13 ?_
    refine lv_aload_n C.1 C.2.1 dX6_addToken_16 rfl (lv_at hl 0 rfl) ?_
    refine r_get (v := .int (σ.1 2 2)) C hw l_2 vc_6 kX6 2 rfl (by decide) gw_157 rfl dX6_addToken_17 ?_
    refine lv_iload_n C.1 C.2.1 dX6_addToken_20 rfl (lv_at hl 1 rfl) ?_
    obtain ⟨σ2, eσ2, h⟩ := bnd h
    refine r_ast C hw l_4 eσ2 dX6_addToken_21 (fun H locs hw => ?_)
    refine lv_aload_n C.1 C.2.1 dX6_addToken_22 rfl (lv_at hl 0 rfl) ?_
    refine r_get (v := .ref (X.2.1 5)) C hw l_2 vc_6 kX6 4 rfl (by decide) gw_161 rfl dX6_addToken_23 ?_
    refine lv_aload_n C.1 C.2.1 dX6_addToken_26 rfl (lv_at hl 0 rfl) ?_
    refine r_get (v := .int (σ2.1 2 2)) C hw l_2 vc_6 kX6 2 rfl (by decide) gw_157 rfl dX6_addToken_27 ?_
    refine lv_iload_n C.1 C.2.1 dX6_addToken_30 rfl (lv_at hl 2 rfl) ?_
    obtain ⟨σ3, eσ3, h⟩ := bnd h
    refine r_ast C hw l_5 eσ3 dX6_addToken_31 (fun H locs hw => ?_)
    refine lv_aload_n C.1 C.2.1 dX6_addToken_32 rfl (lv_at hl 0 rfl) ?_
    refine lv_dup C.1 C.2.1 dX6_addToken_33 rfl ?_
    refine r_get (v := .int (σ3.1 2 2)) C hw l_2 vc_6 kX6 2 rfl (by decide) gw_157 rfl dX6_addToken_34 ?_
    refine lv_iconst (v := 1) C.1 C.2.1 dX6_addToken_37 (by decide) ?_
    refine lv_iadd C.1 C.2.1 dX6_addToken_38 ?_
    obtain ⟨σ4, eσ4, h⟩ := nm_d h
    refine r_put C hw l_2 vc_6 kX6 tyX6 tyX6_ok nmX6 2 (by decide) (by decide) gw_157 rfl rfl rfl (put_i l_2 rfl eσ4) dX6_addToken_39 (fun H locs hw => ?_)
    exact r_vret C hr hlk hw (Option.some.inj h) dX6_addToken_42
def f_X6_scan_b20 : Nat → St → Int32 → Int32 → Int32 → Option St
  | 0, _, _, _, _ => none
  | n + 1, σ, x1, x2, x3 => if 600 ≤ x3 then ((f_X6_addToken σ (-2) x1).bind fun q4 => some q4) else (if x1 ≤ x2 then ((f_X6_addToken σ (-2) x1).bind fun q6 => some q6) else ((rd σ 3 640 x2).bind fun v7 => if (b2i (f_X6_isBlank σ v7)) = 0 then ((f_X6_behindRun σ x2).bind fun q10 => (f_X6_kindOf σ x2 q10).bind fun q11 => (f_X6_addToken σ q11 x2).bind fun q12 => nm (x3 + 1) fun v13 => f_X6_scan_b20 n q12 x1 q10 v13) else (nm (x2 + 1) fun v14 => nm (x3 + 1) fun v15 => f_X6_scan_b20 n σ x1 v14 v15)))
def f_X6_scan (σ : St) : Option St :=
  nm (if 600 < (σ.1 2 0) then 600 else (σ.1 2 0)) fun v1 => nm (upI σ 2 2 0) fun σ2 => f_X6_scan_b20 10000 σ2 v1 0 0
set_option maxRecDepth 100000 in
set_option maxHeartbeats 4000000 in
theorem ok_X6_scan (X : Xc) (l : Launch) (σ : St) (σ' : St) (h : f_X6_scan σ = some σ') : Ok X l yX6_scan cX6_scan 5 none 7 157 [.ref (X.2.1 2)] σ none σ' := by
  refine Ok.of (by decide) (Nat.le_of_ble_eq_true rfl) ?_
  intro p e s m args below meth c C hr hlk hw ls hl
  have C : Cx p s m args c X cX6_scan 5 "RunningCount$Tape" := C
  have hl : lv_has ls 5 [(0, .ref (X.2.1 2))] := hl
  have b20 : ∀ (n : Nat), ∀ (σ : St) (x1 : Int32) (x2 : Int32) (x3 : Int32), f_X6_scan_b20 n σ x1 x2 x3 = some σ' → ∀ (H : Heap) (locs : List Loc), At X σ s.heap H locs → ∀ ls : Array Slot, lv_has ls 5 [(0, .ref (X.2.1 2)), (1, .int x1), (2, .int x2), (3, .int x3)] → W p l e (rmX 7 157) s m args below meth c H locs 0 0 (Zq X below s args none σ') (F0 m 20 ls []) := by
    intro n
    induction n with
    | zero =>
      intro σ x1 x2 x3 h
      exact no_some h
    | succ n ih =>
      intro σ x1 x2 x3 h H locs hw ls hl
      rw [f_X6_scan_b20] at h
      refine lv_iload_n C.1 C.2.1 dX6_scan_20 rfl (lv_at hl 3 rfl) ?_
      refine lv_sipush (v := 600) C.1 C.2.1 dX6_scan_21 (by decide) ?_
      refine lv_icmp_ge (tgt := 78) C.1 C.2.1 dX6_scan_24 (by decide) (fun c3 => ?_) (fun c3 => ?_)
      · have h := ite_t c3 h
        refine lv_aload_n C.1 C.2.1 dX6_scan_78 rfl (lv_at hl 0 rfl) ?_
        refine lv_bipush (v := (-2)) C.1 C.2.1 dX6_scan_79 (by decide) ?_
        refine lv_iload_n C.1 C.2.1 dX6_scan_81 rfl (lv_at hl 1 rfl) ?_
        obtain ⟨q4, eq4, h⟩ := bnd h
        refine r_callV (As := [.int (-2), .int x1]) C hw (ok_X6_addToken X l σ (-2) x1 _ eq4) l_2 vc_6 gw_546 gw_543 gw_545 gw_8 gw_116 hl.1 pd_X6_addToken ⟨Nat.le_of_ble_eq_true rfl, Nat.le_of_ble_eq_true rfl⟩ ⟨Nat.le_refl 0, Nat.le_refl 0⟩ (rest := []) (Nat.le_of_ble_eq_true rfl) dX6_scan_82 rfl (fun H locs hw => ?_)
        exact r_vret C hr hlk hw (Option.some.inj h) dX6_scan_85
      · have h := ite_f c3 h
        refine lv_iload_n C.1 C.2.1 dX6_scan_27 rfl (lv_at hl 2 rfl) ?_
        refine lv_iload_n C.1 C.2.1 dX6_scan_28 rfl (lv_at hl 1 rfl) ?_
        refine lv_icmp_ge (tgt := 78) C.1 C.2.1 dX6_scan_29 (by decide) (fun c5 => ?_) (fun c5 => ?_)
        · have h := ite_t c5 h
          refine lv_aload_n C.1 C.2.1 dX6_scan_78 rfl (lv_at hl 0 rfl) ?_
          refine lv_bipush (v := (-2)) C.1 C.2.1 dX6_scan_79 (by decide) ?_
          refine lv_iload_n C.1 C.2.1 dX6_scan_81 rfl (lv_at hl 1 rfl) ?_
          obtain ⟨q6, eq6, h⟩ := bnd h
          refine r_callV (As := [.int (-2), .int x1]) C hw (ok_X6_addToken X l σ (-2) x1 _ eq6) l_2 vc_6 gw_546 gw_543 gw_545 gw_8 gw_116 hl.1 pd_X6_addToken ⟨Nat.le_of_ble_eq_true rfl, Nat.le_of_ble_eq_true rfl⟩ ⟨Nat.le_refl 0, Nat.le_refl 0⟩ (rest := []) (Nat.le_of_ble_eq_true rfl) dX6_scan_82 rfl (fun H locs hw => ?_)
          exact r_vret C hr hlk hw (Option.some.inj h) dX6_scan_85
        · have h := ite_f c5 h
          refine lv_aload_n C.1 C.2.1 dX6_scan_32 rfl (lv_at hl 0 rfl) ?_
          refine r_get (v := .ref (X.2.1 3)) C hw l_2 vc_6 kX6 1 rfl (by decide) gw_156 rfl dX6_scan_33 ?_
          refine lv_iload_n C.1 C.2.1 dX6_scan_36 rfl (lv_at hl 2 rfl) ?_
          obtain ⟨v7, ev7, h⟩ := bnd h
          refine r_bald C hw l_3 ev7 dX6_scan_37 ?_
          refine r_callS (As := [.int v7]) C hw (ok_X6_isBlank X l σ v7 _ rfl) gw_463 gw_461 gw_462 gw_116 hl.1 pd_X6_isBlank ⟨Nat.le_of_ble_eq_true rfl, Nat.le_of_ble_eq_true rfl⟩ ⟨Nat.le_refl 0, Nat.le_refl 0⟩ (rest := []) (Nat.le_of_ble_eq_true rfl) dX6_scan_38 rfl (fun H locs hw => ?_)
          refine lv_if_eq (tgt := 50) C.1 C.2.1 dX6_scan_41 (by decide) (fun c9 => ?_) (fun c9 => ?_)
          · have h := ite_t c9 h
            refine lv_aload_n C.1 C.2.1 dX6_scan_50 rfl (lv_at hl 0 rfl) ?_
            refine lv_iload_n C.1 C.2.1 dX6_scan_51 rfl (lv_at hl 2 rfl) ?_
            obtain ⟨q10, eq10, h⟩ := bnd h
            refine r_callV (As := [.int x2]) C hw (ok_X6_behindRun X l σ x2 _ eq10) l_2 vc_6 gw_467 gw_464 gw_466 gw_4 gw_116 hl.1 pd_X6_behindRun ⟨Nat.le_of_ble_eq_true rfl, Nat.le_of_ble_eq_true rfl⟩ ⟨Nat.le_refl 0, Nat.le_refl 0⟩ (rest := []) (Nat.le_of_ble_eq_true rfl) dX6_scan_52 rfl (fun H locs hw => ?_)
            refine lv_istore (lv' := [(4, .int q10), (0, .ref (X.2.1 2)), (1, .int x1), (2, .int x2), (3, .int x3)]) C.1 C.2.1 dX6_scan_55 hl (by decide) rfl (fun ls hl => ?_)
            refine lv_aload_n C.1 C.2.1 dX6_scan_57 rfl (lv_at hl 1 rfl) ?_
            refine lv_aload_n C.1 C.2.1 dX6_scan_58 rfl (lv_at hl 1 rfl) ?_
            refine lv_iload_n C.1 C.2.1 dX6_scan_59 rfl (lv_at hl 3 rfl) ?_
            refine lv_iload C.1 C.2.1 dX6_scan_60 (lv_at hl 0 rfl) ?_
            obtain ⟨q11, eq11, h⟩ := bnd h
            refine r_callV (As := [.int x2, .int q10]) C hw (ok_X6_kindOf X l σ x2 q10 _ eq11) l_2 vc_6 gw_480 gw_477 gw_479 gw_5 gw_116 hl.1 pd_X6_kindOf ⟨Nat.le_of_ble_eq_true rfl, Nat.le_of_ble_eq_true rfl⟩ ⟨Nat.le_refl 0, Nat.le_refl 0⟩ (rest := [.ref (X.2.1 2)]) (Nat.le_of_ble_eq_true rfl) dX6_scan_62 rfl (fun H locs hw => ?_)
            refine lv_iload_n C.1 C.2.1 dX6_scan_65 rfl (lv_at hl 3 rfl) ?_
            obtain ⟨q12, eq12, h⟩ := bnd h
            refine r_callV (As := [.int q11, .int x2]) C hw (ok_X6_addToken X l σ q11 x2 _ eq12) l_2 vc_6 gw_546 gw_543 gw_545 gw_8 gw_116 hl.1 pd_X6_addToken ⟨Nat.le_of_ble_eq_true rfl, Nat.le_of_ble_eq_true rfl⟩ ⟨Nat.le_refl 0, Nat.le_refl 0⟩ (rest := []) (Nat.le_of_ble_eq_true rfl) dX6_scan_66 rfl (fun H locs hw => ?_)
            refine lv_iload C.1 C.2.1 dX6_scan_69 (lv_at hl 0 rfl) ?_
            refine lv_istore_n (lv' := [(2, .int q10), (4, .int q10), (0, .ref (X.2.1 2)), (1, .int x1), (3, .int x3)]) C.1 C.2.1 dX6_scan_71 rfl hl (by decide) rfl (fun ls hl => ?_)
            obtain ⟨v13, ev13, h⟩ := nm_d h
            refine lv_iinc (v := v13) (lv' := [(3, .int v13), (2, .int q10), (4, .int q10), (0, .ref (X.2.1 2)), (1, .int x1)]) C.1 C.2.1 dX6_scan_72 hl (k := 4) rfl (by rw [ev13]; rfl) (by decide) rfl (fun ls hl => ?_)
            refine lv_goto (tgt := 20) C.1 C.2.1 dX6_scan_75 (by decide) ?_
            exact ih q12 x1 q10 v13 h _ _ hw ls (lv_sub hl [3, 4, 1, 0] rfl)
          · have h := ite_f c9 h
            obtain ⟨v14, ev14, h⟩ := nm_d h
            refine lv_iinc (v := v14) (lv' := [(2, .int v14), (0, .ref (X.2.1 2)), (1, .int x1), (3, .int x3)]) C.1 C.2.1 dX6_scan_44 hl (k := 2) rfl (by rw [ev14]; rfl) (by decide) rfl (fun ls hl => ?_)
            refine lv_goto (tgt := 72) C.1 C.2.1 dX6_scan_47 (by decide) ?_
            obtain ⟨v15, ev15, h⟩ := nm_d h
            refine lv_iinc (v := v15) (lv' := [(3, .int v15), (2, .int v14), (0, .ref (X.2.1 2)), (1, .int x1)]) C.1 C.2.1 dX6_scan_72 hl (k := 3) rfl (by rw [ev15]; rfl) (by decide) rfl (fun ls hl => ?_)
            refine lv_goto (tgt := 20) C.1 C.2.1 dX6_scan_75 (by decide) ?_
            exact ih σ x1 v14 v15 h _ _ hw ls (lv_sub hl [2, 3, 1, 0] rfl)
  rw [f_X6_scan] at h
  refine lv_aload_n C.1 C.2.1 dX6_scan_0 rfl (lv_at hl 0 rfl) ?_
  refine r_get (v := .int (σ.1 2 0)) C hw l_2 vc_6 kX6 0 rfl (by decide) gw_153 rfl dX6_scan_1 ?_
  refine lv_sipush (v := 600) C.1 C.2.1 dX6_scan_4 (by decide) ?_
  refine va_mmin C.1 C.2.1 (C.2.2.1.trans hl.1.symm) C.2.2.2.1 (C.2.2.2.2.1 _ gw_458) (C.2.2.2.2.1 _ gw_459) (C.2.2.2.2.1 _ gw_124) (C.2.2.2.2.1 _ gw_460) (Nat.le_of_ble_eq_true rfl) (Nat.le_of_ble_eq_true rfl) (Nat.le_refl 0) (Nat.le_refl 0) dX6_scan_7 ?_
  obtain ⟨v1, ev1, h⟩ := nm_d h
  refine lv_nm ev1 ?_
  refine lv_istore_n (lv' := [(1, .int v1), (0, .ref (X.2.1 2))]) C.1 C.2.1 dX6_scan_10 rfl hl (by decide) rfl (fun ls hl => ?_)
  refine lv_iconst (v := 0) C.1 C.2.1 dX6_scan_11 (by decide) ?_
  refine lv_istore_n (lv' := [(2, .int 0), (1, .int v1), (0, .ref (X.2.1 2))]) C.1 C.2.1 dX6_scan_12 rfl hl (by decide) rfl (fun ls hl => ?_)
  refine lv_aload_n C.1 C.2.1 dX6_scan_13 rfl (lv_at hl 2 rfl) ?_
  refine lv_iconst (v := 0) C.1 C.2.1 dX6_scan_14 (by decide) ?_
  obtain ⟨σ2, eσ2, h⟩ := nm_d h
  refine r_put C hw l_2 vc_6 kX6 tyX6 tyX6_ok nmX6 2 (by decide) (by decide) gw_157 rfl rfl rfl (put_i l_2 rfl eσ2) dX6_scan_15 (fun H locs hw => ?_)
  refine lv_iconst (v := 0) C.1 C.2.1 dX6_scan_18 (by decide) ?_
  refine lv_istore_n (lv' := [(3, .int 0), (2, .int 0), (1, .int v1), (0, .ref (X.2.1 2))]) C.1 C.2.1 dX6_scan_19 rfl hl (by decide) rfl (fun ls hl => ?_)
  exact b20 10000 σ2 v1 0 0 h _ _ hw ls (lv_sub hl [3, 2, 1, 0] rfl)
def f_X4_clear_b17 (g0 : Nat) : Nat → St → Int32 → Option St
  | 0, _, _ => none
  | n + 1, σ, x1 => if 30 ≤ x1 then (some σ) else ((wr σ (g0 + 3) 30 x1 (-1)).bind fun σ5 => nm (x1 + 1) fun v6 => f_X4_clear_b17 g0 n σ5 v6)
def f_X4_clear (σ : St) (g0 : Nat) : Option St :=
  nm (upI σ g0 0 1) fun σ1 => nm (upI σ1 g0 1 0) fun σ2 => nm (upI σ2 g0 2 0) fun σ3 => f_X4_clear_b17 g0 10000 σ3 0
set_option maxRecDepth 100000 in
set_option maxHeartbeats 4000000 in
theorem ok_X4_clear (X : Xc) (l : Launch) (σ : St) (g0 : Nat) (hg0 : isG g0) (σ' : St) (h : f_X4_clear σ g0 = some σ') : Ok X l yX4_clear cX4_clear 2 none 0 0 [.ref (X.2.1 g0)] σ none σ' := by
  refine Ok.of (by decide) (Nat.le_of_ble_eq_true rfl) ?_
  intro p e s m args below meth c C hr hlk hw ls hl
  have C : Cx p s m args c X cX4_clear 2 "RunningCount$Goods" := C
  have hl : lv_has ls 2 [(0, .ref (X.2.1 g0))] := hl
  have b17 : ∀ (n : Nat), ∀ (σ : St) (x1 : Int32), f_X4_clear_b17 g0 n σ x1 = some σ' → ∀ (H : Heap) (locs : List Loc), At X σ s.heap H locs → ∀ ls : Array Slot, lv_has ls 2 [(0, .ref (X.2.1 g0)), (1, .int x1)] → W p l e (rmX 0 0) s m args below meth c H locs 0 0 (Zq X below s args none σ') (F0 m 17 ls []) := by
    intro n
    induction n with
    | zero =>
      intro σ x1 h
      exact no_some h
    | succ n ih =>
      intro σ x1 h H locs hw ls hl
      rw [f_X4_clear_b17] at h
      refine lv_iload_n C.1 C.2.1 dX4_clear_17 rfl (lv_at hl 1 rfl) ?_
      refine lv_aload_n C.1 C.2.1 dX4_clear_18 rfl (lv_at hl 0 rfl) ?_
      refine r_get (v := .ref (X.2.1 (g0 + 3))) C hw (lg_0 hg0) vc_4 kX4 5 rfl (by decide) gw_225 rfl dX4_clear_19 ?_
      refine r_alen (v := 30) C hw (lg_3 hg0) (by decide) (by decide) dX4_clear_22 ?_
      refine lv_icmp_ge (tgt := 39) C.1 C.2.1 dX4_clear_23 (by decide) (fun c4 => ?_) (fun c4 => ?_)
      · have h := ite_t c4 h
        exact r_vret C hr hlk hw (Option.some.inj h) dX4_clear_39
      · have h := ite_f c4 h
        refine lv_aload_n C.1 C.2.1 dX4_clear_26 rfl (lv_at hl 0 rfl) ?_
        refine r_get (v := .ref (X.2.1 (g0 + 3))) C hw (lg_0 hg0) vc_4 kX4 5 rfl (by decide) gw_225 rfl dX4_clear_27 ?_
        refine lv_iload_n C.1 C.2.1 dX4_clear_30 rfl (lv_at hl 1 rfl) ?_
        refine lv_iconst (v := (-1)) C.1 C.2.1 dX4_clear_31 (by decide) ?_
        obtain ⟨σ5, eσ5, h⟩ := bnd h
        refine r_ast C hw (lg_3 hg0) eσ5 dX4_clear_32 (fun H locs hw => ?_)
        obtain ⟨v6, ev6, h⟩ := nm_d h
        refine lv_iinc (v := v6) (lv' := [(1, .int v6), (0, .ref (X.2.1 g0))]) C.1 C.2.1 dX4_clear_33 hl (k := 1) rfl (by rw [ev6]; rfl) (by decide) rfl (fun ls hl => ?_)
        refine lv_goto (tgt := 17) C.1 C.2.1 dX4_clear_36 (by decide) ?_
        exact ih σ5 v6 h _ _ hw ls (lv_sub hl [1, 0] rfl)
  rw [f_X4_clear] at h
  refine lv_aload_n C.1 C.2.1 dX4_clear_0 rfl (lv_at hl 0 rfl) ?_
  refine lv_iconst (v := 1) C.1 C.2.1 dX4_clear_1 (by decide) ?_
  obtain ⟨σ1, eσ1, h⟩ := nm_d h
  refine r_put C hw (lg_0 hg0) vc_4 kX4 tyX4 tyX4_ok nmX4 0 (by decide) (by decide) gw_211 rfl rfl rfl (put_i (lg_0 hg0) rfl eσ1) dX4_clear_2 (fun H locs hw => ?_)
  refine lv_aload_n C.1 C.2.1 dX4_clear_5 rfl (lv_at hl 0 rfl) ?_
  refine lv_iconst (v := 0) C.1 C.2.1 dX4_clear_6 (by decide) ?_
  obtain ⟨σ2, eσ2, h⟩ := nm_d h
  refine r_put C hw (lg_0 hg0) vc_4 kX4 tyX4 tyX4_ok nmX4 1 (by decide) (by decide) gw_214 rfl rfl rfl (put_i (lg_0 hg0) rfl eσ2) dX4_clear_7 (fun H locs hw => ?_)
  refine lv_aload_n C.1 C.2.1 dX4_clear_10 rfl (lv_at hl 0 rfl) ?_
  refine lv_iconst (v := 0) C.1 C.2.1 dX4_clear_11 (by decide) ?_
  obtain ⟨σ3, eσ3, h⟩ := nm_d h
  refine r_put C hw (lg_0 hg0) vc_4 kX4 tyX4 tyX4_ok nmX4 2 (by decide) (by decide) gw_217 rfl rfl rfl (put_i (lg_0 hg0) rfl eσ3) dX4_clear_12 (fun H locs hw => ?_)
  refine lv_iconst (v := 0) C.1 C.2.1 dX4_clear_15 (by decide) ?_
  refine lv_istore_n (lv' := [(1, .int 0), (0, .ref (X.2.1 g0))]) C.1 C.2.1 dX4_clear_16 rfl hl (by decide) rfl (fun ls hl => ?_)
  exact b17 10000 σ3 0 h _ _ hw ls (lv_sub hl [1, 0] rfl)
def f_X7_advance (σ : St) : Option St :=
  if (σ.1 2 2) ≤ (σ.1 1 1) then (some σ) else (if 601 ≤ (σ.1 1 1) then (some σ) else ((rd σ 4 601 (σ.1 1 1)).bind fun v3 => nm (upI σ 1 2 v3) fun σ4 => (rd σ4 5 601 (σ4.1 1 1)).bind fun v5 => nm (upI σ4 1 3 v5) fun σ6 => nm (upI σ6 1 1 ((σ6.1 1 1) + 1)) fun σ7 => some σ7))
set_option maxRecDepth 100000 in
set_option maxHeartbeats 4000000 in
theorem ok_X7_advance (X : Xc) (l : Launch) (σ : St) (σ' : St) (h : f_X7_advance σ = some σ') : Ok X l yX7_advance cX7_advance 1 none 0 0 [.ref (X.2.1 1)] σ none σ' := by
  refine Ok.of (by decide) (Nat.le_of_ble_eq_true rfl) ?_
  intro p e s m args below meth c C hr hlk hw ls hl
  have C : Cx p s m args c X cX7_advance 1 "RunningCount$TextReader" := C
  have hl : lv_has ls 1 [(0, .ref (X.2.1 1))] := hl
  rw [f_X7_advance] at h
  refine lv_aload_n C.1 C.2.1 dX7_advance_0 rfl (lv_at hl 0 rfl) ?_
  refine r_get (v := .int (σ.1 1 1)) C hw l_1 vc_7 kX7 1 rfl (by decide) gw_178 rfl dX7_advance_1 ?_
  refine lv_aload_n C.1 C.2.1 dX7_advance_4 rfl (lv_at hl 0 rfl) ?_
  refine r_get (v := .ref (X.2.1 2)) C hw l_1 vc_7 kX7 0 rfl (by decide) gw_176 rfl dX7_advance_5 ?_
  refine r_getN (v := .int (σ.1 2 2)) C hw l_2 vc_6 kX6 2 rfl (by decide) nw_158 rfl dX7_advance_8 ?_
  refine lv_icmp_ge (tgt := 71) C.1 C.2.1 dX7_advance_11 (by decide) (fun c1 => ?_) (fun c1 => ?_)
  · have h := ite_t c1 h
    exact r_vret C hr hlk hw (Option.some.inj h) dX7_advance_71
  · have h := ite_f c1 h
    refine lv_aload_n C.1 C.2.1 dX7_advance_14 rfl (lv_at hl 0 rfl) ?_
    refine r_get (v := .int (σ.1 1 1)) C hw l_1 vc_7 kX7 1 rfl (by decide) gw_178 rfl dX7_advance_15 ?_
    refine lv_aload_n C.1 C.2.1 dX7_advance_18 rfl (lv_at hl 0 rfl) ?_
    refine r_get (v := .ref (X.2.1 2)) C hw l_1 vc_7 kX7 0 rfl (by decide) gw_176 rfl dX7_advance_19 ?_
    refine r_getN (v := .ref (X.2.1 4)) C hw l_2 vc_6 kX6 3 rfl (by decide) nw_160 rfl dX7_advance_22 ?_
    refine r_alen (v := 601) C hw l_4 (by decide) (by decide) dX7_advance_25 ?_
    refine lv_icmp_ge (tgt := 71) C.1 C.2.1 dX7_advance_26 (by decide) (fun c2 => ?_) (fun c2 => ?_)
    · have h := ite_t c2 h
      exact r_vret C hr hlk hw (Option.some.inj h) dX7_advance_71
    · have h := ite_f c2 h
      refine lv_aload_n C.1 C.2.1 dX7_advance_29 rfl (lv_at hl 0 rfl) ?_
      refine lv_aload_n C.1 C.2.1 dX7_advance_30 rfl (lv_at hl 0 rfl) ?_
      refine r_get (v := .ref (X.2.1 2)) C hw l_1 vc_7 kX7 0 rfl (by decide) gw_176 rfl dX7_advance_31 ?_
      refine r_getN (v := .ref (X.2.1 4)) C hw l_2 vc_6 kX6 3 rfl (by decide) nw_160 rfl dX7_advance_34 ?_
      refine lv_aload_n C.1 C.2.1 dX7_advance_37 rfl (lv_at hl 0 rfl) ?_
      refine r_get (v := .int (σ.1 1 1)) C hw l_1 vc_7 kX7 1 rfl (by decide) gw_178 rfl dX7_advance_38 ?_
      obtain ⟨v3, ev3, h⟩ := bnd h
      refine r_ald C hw l_4 ev3 dX7_advance_41 ?_
      obtain ⟨σ4, eσ4, h⟩ := nm_d h
      refine r_put C hw l_1 vc_7 kX7 tyX7 tyX7_ok nmX7 2 (by decide) (by decide) gw_179 rfl rfl rfl (put_i l_1 rfl eσ4) dX7_advance_42 (fun H locs hw => ?_)
      refine lv_aload_n C.1 C.2.1 dX7_advance_45 rfl (lv_at hl 0 rfl) ?_
      refine lv_aload_n C.1 C.2.1 dX7_advance_46 rfl (lv_at hl 0 rfl) ?_
      refine r_get (v := .ref (X.2.1 2)) C hw l_1 vc_7 kX7 0 rfl (by decide) gw_176 rfl dX7_advance_47 ?_
      refine r_getN (v := .ref (X.2.1 5)) C hw l_2 vc_6 kX6 4 rfl (by decide) nw_162 rfl dX7_advance_50 ?_
      refine lv_aload_n C.1 C.2.1 dX7_advance_53 rfl (lv_at hl 0 rfl) ?_
      refine r_get (v := .int (σ4.1 1 1)) C hw l_1 vc_7 kX7 1 rfl (by decide) gw_178 rfl dX7_advance_54 ?_
      obtain ⟨v5, ev5, h⟩ := bnd h
      refine r_ald C hw l_5 ev5 dX7_advance_57 ?_
      obtain ⟨σ6, eσ6, h⟩ := nm_d h
      refine r_put C hw l_1 vc_7 kX7 tyX7 tyX7_ok nmX7 3 (by decide) (by decide) gw_180 rfl rfl rfl (put_i l_1 rfl eσ6) dX7_advance_58 (fun H locs hw => ?_)
      refine lv_aload_n C.1 C.2.1 dX7_advance_61 rfl (lv_at hl 0 rfl) ?_
      refine lv_dup C.1 C.2.1 dX7_advance_62 rfl ?_
      refine r_get (v := .int (σ6.1 1 1)) C hw l_1 vc_7 kX7 1 rfl (by decide) gw_178 rfl dX7_advance_63 ?_
      refine lv_iconst (v := 1) C.1 C.2.1 dX7_advance_66 (by decide) ?_
      refine lv_iadd C.1 C.2.1 dX7_advance_67 ?_
      obtain ⟨σ7, eσ7, h⟩ := nm_d h
      refine r_put C hw l_1 vc_7 kX7 tyX7 tyX7_ok nmX7 1 (by decide) (by decide) gw_178 rfl rfl rfl (put_i l_1 rfl eσ7) dX7_advance_68 (fun H locs hw => ?_)
      exact r_vret C hr hlk hw (Option.some.inj h) dX7_advance_71
def f_X7_fail (σ : St) (a1 : Int32) : Option (Bool × St) :=
  nm (upI σ 1 6 a1) fun σ1 => nm (upI σ1 1 7 (σ1.1 1 3)) fun σ2 => some (false, σ2)
set_option maxRecDepth 100000 in
set_option maxHeartbeats 4000000 in
theorem ok_X7_fail (X : Xc) (l : Launch) (σ : St) (a1 : Int32) (r : Bool) (σ' : St) (h : f_X7_fail σ a1 = some (r, σ')) : Ok X l yX7_fail cX7_fail 2 (some .boolean) 0 0 [.ref (X.2.1 1), .int a1] σ (some (.int (b2i r))) σ' := by
  refine Ok.of (by decide) (Nat.le_of_ble_eq_true rfl) ?_
  intro p e s m args below meth c C hr hlk hw ls hl
  have C : Cx p s m args c X cX7_fail 2 "RunningCount$TextReader" := C
  have hl : lv_has ls 2 [(0, .ref (X.2.1 1)), (1, .int a1)] := hl
  rw [f_X7_fail] at h
  refine lv_aload_n C.1 C.2.1 dX7_fail_0 rfl (lv_at hl 0 rfl) ?_
  refine lv_iload_n C.1 C.2.1 dX7_fail_1 rfl (lv_at hl 1 rfl) ?_
  obtain ⟨σ1, eσ1, h⟩ := nm_d h
  refine r_put C hw l_1 vc_7 kX7 tyX7 tyX7_ok nmX7 6 (by decide) (by decide) gw_184 rfl rfl rfl (put_i l_1 rfl eσ1) dX7_fail_2 (fun H locs hw => ?_)
  refine lv_aload_n C.1 C.2.1 dX7_fail_5 rfl (lv_at hl 0 rfl) ?_
  refine lv_aload_n C.1 C.2.1 dX7_fail_6 rfl (lv_at hl 0 rfl) ?_
  refine r_get (v := .int (σ1.1 1 3)) C hw l_1 vc_7 kX7 3 rfl (by decide) gw_180 rfl dX7_fail_7 ?_
  obtain ⟨σ2, eσ2, h⟩ := nm_d h
  refine r_put C hw l_1 vc_7 kX7 tyX7 tyX7_ok nmX7 7 (by decide) (by decide) gw_186 rfl rfl rfl (put_i l_1 rfl eσ2) dX7_fail_10 (fun H locs hw => ?_)
  refine lv_iconst (v := 0) C.1 C.2.1 dX7_fail_13 (by decide) ?_
  exact r_zret C hr hlk hw rfl (Prod.mk.inj (Option.some.inj h)).1 (Prod.mk.inj (Option.some.inj h)).2 dX7_fail_14
def f_X7_take (σ : St) (a1 : Int32) : Option (Bool × St) :=
  if (σ.1 1 2) = a1 then ((f_X7_advance σ).bind fun q2 => some (true, q2)) else ((f_X7_fail σ 1).bind fun q3 => some (q3.1, q3.2))
set_option maxRecDepth 100000 in
set_option maxHeartbeats 4000000 in
theorem ok_X7_take (X : Xc) (l : Launch) (σ : St) (a1 : Int32) (r : Bool) (σ' : St) (h : f_X7_take σ a1 = some (r, σ')) : Ok X l yX7_take cX7_take 2 (some .boolean) 1 21 [.ref (X.2.1 1), .int a1] σ (some (.int (b2i r))) σ' := by
  refine Ok.of (by decide) (Nat.le_of_ble_eq_true rfl) ?_
  intro p e s m args below meth c C hr hlk hw ls hl
  have C : Cx p s m args c X cX7_take 2 "RunningCount$TextReader" := C
  have hl : lv_has ls 2 [(0, .ref (X.2.1 1)), (1, .int a1)] := hl
  rw [f_X7_take] at h
  refine lv_aload_n C.1 C.2.1 dX7_take_0 rfl (lv_at hl 0 rfl) ?_
  refine r_get (v := .int (σ.1 1 2)) C hw l_1 vc_7 kX7 2 rfl (by decide) gw_179 rfl dX7_take_1 ?_
  refine lv_iload_n C.1 C.2.1 dX7_take_4 rfl (lv_at hl 1 rfl) ?_
  refine lv_icmp_eq (tgt := 14) C.1 C.2.1 dX7_take_5 (by decide) (fun c1 => ?_) (fun c1 => ?_)
  · have h := ite_t c1 h
    refine lv_aload_n C.1 C.2.1 dX7_take_14 rfl (lv_at hl 0 rfl) ?_
    obtain ⟨q2, eq2, h⟩ := bnd h
    refine r_callV (As := []) C hw (ok_X7_advance X l σ _ eq2) l_1 vc_7 gw_554 gw_551 gw_553 gw_10 gw_115 hl.1 pd_X7_advance ⟨Nat.le_of_ble_eq_true rfl, Nat.le_of_ble_eq_true rfl⟩ ⟨Nat.le_refl 0, Nat.le_refl 0⟩ (rest := []) (Nat.le_of_ble_eq_true rfl) dX7_take_15 rfl (fun H locs hw => ?_)
    refine lv_iconst (v := 1) C.1 C.2.1 dX7_take_18 (by decide) ?_
    exact r_zret C hr hlk hw rfl (Prod.mk.inj (Option.some.inj h)).1 (Prod.mk.inj (Option.some.inj h)).2 dX7_take_19
  · have h := ite_f c1 h
    refine lv_aload_n C.1 C.2.1 dX7_take_8 rfl (lv_at hl 0 rfl) ?_
    refine lv_iconst (v := 1) C.1 C.2.1 dX7_take_9 (by decide) ?_
    obtain ⟨q3, eq3, h⟩ := bnd h
    refine r_callV (As := [.int 1]) C hw (ok_X7_fail X l σ 1 _ _ eq3) l_1 vc_7 gw_566 gw_563 gw_565 gw_13 gw_115 hl.1 pd_X7_fail ⟨Nat.le_of_ble_eq_true rfl, Nat.le_of_ble_eq_true rfl⟩ ⟨Nat.le_refl 0, Nat.le_refl 0⟩ (rest := []) (Nat.le_of_ble_eq_true rfl) dX7_take_10 rfl (fun H locs hw => ?_)
    exact r_zret C hr hlk hw rfl (Prod.mk.inj (Option.some.inj h)).1 (Prod.mk.inj (Option.some.inj h)).2 dX7_take_13
def f_X7_takeNumber (σ : St) (a1 : Int32) (a2 : Int32) : Option (Bool × St) :=
  if 0 ≤ (σ.1 1 2) then (if (σ.1 1 2) < a1 then ((f_X7_fail σ 2).bind fun q3 => some (q3.1, q3.2)) else (if (σ.1 1 2) ≤ a2 then (nm (upI σ 1 4 (σ.1 1 2)) fun σ5 => (f_X7_advance σ5).bind fun q6 => some (true, q6)) else ((f_X7_fail σ 2).bind fun q7 => some (q7.1, q7.2)))) else ((f_X7_fail σ 1).bind fun q8 => some (q8.1, q8.2))
set_option maxRecDepth 100000 in
set_option maxHeartbeats 4000000 in
theorem ok_X7_takeNumber (X : Xc) (l : Launch) (σ : St) (a1 : Int32) (a2 : Int32) (r : Bool) (σ' : St) (h : f_X7_takeNumber σ a1 a2 = some (r, σ')) : Ok X l yX7_takeNumber cX7_takeNumber 3 (some .boolean) 1 21 [.ref (X.2.1 1), .int a1, .int a2] σ (some (.int (b2i r))) σ' := by
  refine Ok.of (by decide) (Nat.le_of_ble_eq_true rfl) ?_
  intro p e s m args below meth c C hr hlk hw ls hl
  have C : Cx p s m args c X cX7_takeNumber 3 "RunningCount$TextReader" := C
  have hl : lv_has ls 3 [(0, .ref (X.2.1 1)), (1, .int a1), (2, .int a2)] := hl
  rw [f_X7_takeNumber] at h
  refine lv_aload_n C.1 C.2.1 dX7_takeNumber_0 rfl (lv_at hl 0 rfl) ?_
  refine r_get (v := .int (σ.1 1 2)) C hw l_1 vc_7 kX7 2 rfl (by decide) gw_179 rfl dX7_takeNumber_1 ?_
  refine lv_if_ge (tgt := 13) C.1 C.2.1 dX7_takeNumber_4 (by decide) (fun c1 => ?_) (fun c1 => ?_)
  · have h := ite_t c1 h
    refine lv_aload_n C.1 C.2.1 dX7_takeNumber_13 rfl (lv_at hl 0 rfl) ?_
    refine r_get (v := .int (σ.1 1 2)) C hw l_1 vc_7 kX7 2 rfl (by decide) gw_179 rfl dX7_takeNumber_14 ?_
    refine lv_iload_n C.1 C.2.1 dX7_takeNumber_17 rfl (lv_at hl 1 rfl) ?_
    refine lv_icmp_lt (tgt := 29) C.1 C.2.1 dX7_takeNumber_18 (by decide) (fun c2 => ?_) (fun c2 => ?_)
    · have h := ite_t c2 h
      refine lv_aload_n C.1 C.2.1 dX7_takeNumber_29 rfl (lv_at hl 0 rfl) ?_
      refine lv_iconst (v := 2) C.1 C.2.1 dX7_takeNumber_30 (by decide) ?_
      obtain ⟨q3, eq3, h⟩ := bnd h
      refine r_callV (As := [.int 2]) C hw (ok_X7_fail X l σ 2 _ _ eq3) l_1 vc_7 gw_566 gw_563 gw_565 gw_13 gw_115 hl.1 pd_X7_fail ⟨Nat.le_of_ble_eq_true rfl, Nat.le_of_ble_eq_true rfl⟩ ⟨Nat.le_refl 0, Nat.le_refl 0⟩ (rest := []) (Nat.le_of_ble_eq_true rfl) dX7_takeNumber_31 rfl (fun H locs hw => ?_)
      exact r_zret C hr hlk hw rfl (Prod.mk.inj (Option.some.inj h)).1 (Prod.mk.inj (Option.some.inj h)).2 dX7_takeNumber_34
    · have h := ite_f c2 h
      refine lv_aload_n C.1 C.2.1 dX7_takeNumber_21 rfl (lv_at hl 0 rfl) ?_
      refine r_get (v := .int (σ.1 1 2)) C hw l_1 vc_7 kX7 2 rfl (by decide) gw_179 rfl dX7_takeNumber_22 ?_
      refine lv_iload_n C.1 C.2.1 dX7_takeNumber_25 rfl (lv_at hl 2 rfl) ?_
      refine lv_icmp_le (tgt := 35) C.1 C.2.1 dX7_takeNumber_26 (by decide) (fun c4 => ?_) (fun c4 => ?_)
      · have h := ite_t c4 h
        refine lv_aload_n C.1 C.2.1 dX7_takeNumber_35 rfl (lv_at hl 0 rfl) ?_
        refine lv_aload_n C.1 C.2.1 dX7_takeNumber_36 rfl (lv_at hl 0 rfl) ?_
        refine r_get (v := .int (σ.1 1 2)) C hw l_1 vc_7 kX7 2 rfl (by decide) gw_179 rfl dX7_takeNumber_37 ?_
        obtain ⟨σ5, eσ5, h⟩ := nm_d h
        refine r_put C hw l_1 vc_7 kX7 tyX7 tyX7_ok nmX7 4 (by decide) (by decide) gw_181 rfl rfl rfl (put_i l_1 rfl eσ5) dX7_takeNumber_40 (fun H locs hw => ?_)
        refine lv_aload_n C.1 C.2.1 dX7_takeNumber_43 rfl (lv_at hl 0 rfl) ?_
        obtain ⟨q6, eq6, h⟩ := bnd h
        refine r_callV (As := []) C hw (ok_X7_advance X l σ5 _ eq6) l_1 vc_7 gw_554 gw_551 gw_553 gw_10 gw_115 hl.1 pd_X7_advance ⟨Nat.le_of_ble_eq_true rfl, Nat.le_of_ble_eq_true rfl⟩ ⟨Nat.le_refl 0, Nat.le_refl 0⟩ (rest := []) (Nat.le_of_ble_eq_true rfl) dX7_takeNumber_44 rfl (fun H locs hw => ?_)
        refine lv_iconst (v := 1) C.1 C.2.1 dX7_takeNumber_47 (by decide) ?_
        exact r_zret C hr hlk hw rfl (Prod.mk.inj (Option.some.inj h)).1 (Prod.mk.inj (Option.some.inj h)).2 dX7_takeNumber_48
      · have h := ite_f c4 h
        refine lv_aload_n C.1 C.2.1 dX7_takeNumber_29 rfl (lv_at hl 0 rfl) ?_
        refine lv_iconst (v := 2) C.1 C.2.1 dX7_takeNumber_30 (by decide) ?_
        obtain ⟨q7, eq7, h⟩ := bnd h
        refine r_callV (As := [.int 2]) C hw (ok_X7_fail X l σ 2 _ _ eq7) l_1 vc_7 gw_566 gw_563 gw_565 gw_13 gw_115 hl.1 pd_X7_fail ⟨Nat.le_of_ble_eq_true rfl, Nat.le_of_ble_eq_true rfl⟩ ⟨Nat.le_refl 0, Nat.le_refl 0⟩ (rest := []) (Nat.le_of_ble_eq_true rfl) dX7_takeNumber_31 rfl (fun H locs hw => ?_)
        exact r_zret C hr hlk hw rfl (Prod.mk.inj (Option.some.inj h)).1 (Prod.mk.inj (Option.some.inj h)).2 dX7_takeNumber_34
  · have h := ite_f c1 h
    refine lv_aload_n C.1 C.2.1 dX7_takeNumber_7 rfl (lv_at hl 0 rfl) ?_
    refine lv_iconst (v := 1) C.1 C.2.1 dX7_takeNumber_8 (by decide) ?_
    obtain ⟨q8, eq8, h⟩ := bnd h
    refine r_callV (As := [.int 1]) C hw (ok_X7_fail X l σ 1 _ _ eq8) l_1 vc_7 gw_566 gw_563 gw_565 gw_13 gw_115 hl.1 pd_X7_fail ⟨Nat.le_of_ble_eq_true rfl, Nat.le_of_ble_eq_true rfl⟩ ⟨Nat.le_refl 0, Nat.le_refl 0⟩ (rest := []) (Nat.le_of_ble_eq_true rfl) dX7_takeNumber_9 rfl (fun H locs hw => ?_)
    exact r_zret C hr hlk hw rfl (Prod.mk.inj (Option.some.inj h)).1 (Prod.mk.inj (Option.some.inj h)).2 dX7_takeNumber_12
def f_X7_takeLineEnd (σ : St) : Option (Bool × St) :=
  nm (upI σ 1 5 ((σ.1 1 5) + 1)) fun σ1 => (f_X7_take σ1 (-3)).bind fun q2 => some (q2.1, q2.2)
set_option maxRecDepth 100000 in
set_option maxHeartbeats 4000000 in
theorem ok_X7_takeLineEnd (X : Xc) (l : Launch) (σ : St) (r : Bool) (σ' : St) (h : f_X7_takeLineEnd σ = some (r, σ')) : Ok X l yX7_takeLineEnd cX7_takeLineEnd 1 (some .boolean) 2 42 [.ref (X.2.1 1)] σ (some (.int (b2i r))) σ' := by
  refine Ok.of (by decide) (Nat.le_of_ble_eq_true rfl) ?_
  intro p e s m args below meth c C hr hlk hw ls hl
  have C : Cx p s m args c X cX7_takeLineEnd 1 "RunningCount$TextReader" := C
  have hl : lv_has ls 1 [(0, .ref (X.2.1 1))] := hl
  rw [f_X7_takeLineEnd] at h
  refine lv_aload_n C.1 C.2.1 dX7_takeLineEnd_0 rfl (lv_at hl 0 rfl) ?_
  refine lv_dup C.1 C.2.1 dX7_takeLineEnd_1 rfl ?_
  refine r_get (v := .int (σ.1 1 5)) C hw l_1 vc_7 kX7 5 rfl (by decide) gw_182 rfl dX7_takeLineEnd_2 ?_
  refine lv_iconst (v := 1) C.1 C.2.1 dX7_takeLineEnd_5 (by decide) ?_
  refine lv_iadd C.1 C.2.1 dX7_takeLineEnd_6 ?_
  obtain ⟨σ1, eσ1, h⟩ := nm_d h
  refine r_put C hw l_1 vc_7 kX7 tyX7 tyX7_ok nmX7 5 (by decide) (by decide) gw_182 rfl rfl rfl (put_i l_1 rfl eσ1) dX7_takeLineEnd_7 (fun H locs hw => ?_)
  refine lv_aload_n C.1 C.2.1 dX7_takeLineEnd_10 rfl (lv_at hl 0 rfl) ?_
  refine lv_bipush (v := (-3)) C.1 C.2.1 dX7_takeLineEnd_11 (by decide) ?_
  obtain ⟨q2, eq2, h⟩ := bnd h
  refine r_callV (As := [.int (-3)]) C hw (ok_X7_take X l σ1 (-3) _ _ eq2) l_1 vc_7 gw_562 gw_559 gw_561 gw_12 gw_115 hl.1 pd_X7_take ⟨Nat.le_of_ble_eq_true rfl, Nat.le_of_ble_eq_true rfl⟩ ⟨Nat.le_refl 0, Nat.le_refl 0⟩ (rest := []) (Nat.le_of_ble_eq_true rfl) dX7_takeLineEnd_13 rfl (fun H locs hw => ?_)
  exact r_zret C hr hlk hw rfl (Prod.mk.inj (Option.some.inj h)).1 (Prod.mk.inj (Option.some.inj h)).2 dX7_takeLineEnd_16
def f_X7_readShelves (σ : St) (g1 : Nat) : Option (Bool × St) :=
  (f_X7_take σ (-5)).bind fun q1 => if (b2i q1.1) = 0 then (some (false, q1.2)) else ((f_X7_takeNumber q1.2 1 6).bind fun q3 => if (b2i q3.1) = 0 then (some (false, q3.2)) else (nm (upI q3.2 g1 0 (q3.2.1 1 4)) fun σ5 => (f_X7_takeLineEnd σ5).bind fun q6 => some (q6.1, q6.2)))
set_option maxRecDepth 100000 in
set_option maxHeartbeats 4000000 in
theorem ok_X7_readShelves (X : Xc) (l : Launch) (σ : St) (g1 : Nat) (hg1 : isG g1) (r : Bool) (σ' : St) (h : f_X7_readShelves σ g1 = some (r, σ')) : Ok X l yX7_readShelves cX7_readShelves 2 (some .boolean) 3 62 [.ref (X.2.1 1), .ref (X.2.1 g1)] σ (some (.int (b2i r))) σ' := by
  refine Ok.of (by decide) (Nat.le_of_ble_eq_true rfl) ?_
  intro p e s m args below meth c C hr hlk hw ls hl
  have C : Cx p s m args c X cX7_readShelves 2 "RunningCount$TextReader" := C
  have hl : lv_has ls 2 [(0, .ref (X.2.1 1)), (1, .ref (X.2.1 g1))] := hl
  rw [f_X7_readShelves] at h
  refine lv_aload_n C.1 C.2.1 dX7_readShelves_0 rfl (lv_at hl 0 rfl) ?_
  refine lv_bipush (v := (-5)) C.1 C.2.1 dX7_readShelves_1 (by decide) ?_
  obtain ⟨q1, eq1, h⟩ := bnd h
  refine r_callV (As := [.int (-5)]) C hw (ok_X7_take X l σ (-5) _ _ eq1) l_1 vc_7 gw_562 gw_559 gw_561 gw_12 gw_115 hl.1 pd_X7_take ⟨Nat.le_of_ble_eq_true rfl, Nat.le_of_ble_eq_true rfl⟩ ⟨Nat.le_refl 0, Nat.le_refl 0⟩ (rest := []) (Nat.le_of_ble_eq_true rfl) dX7_readShelves_3 rfl (fun H locs hw => ?_)
  refine lv_if_eq (tgt := 19) C.1 C.2.1 dX7_readShelves_6 (by decide) (fun c2 => ?_) (fun c2 => ?_)
  · have h := ite_t c2 h
    refine lv_iconst (v := 0) C.1 C.2.1 dX7_readShelves_19 (by decide) ?_
    exact r_zret C hr hlk hw rfl (Prod.mk.inj (Option.some.inj h)).1 (Prod.mk.inj (Option.some.inj h)).2 dX7_readShelves_20
  · have h := ite_f c2 h
    refine lv_aload_n C.1 C.2.1 dX7_readShelves_9 rfl (lv_at hl 0 rfl) ?_
    refine lv_iconst (v := 1) C.1 C.2.1 dX7_readShelves_10 (by decide) ?_
    refine lv_bipush (v := 6) C.1 C.2.1 dX7_readShelves_11 (by decide) ?_
    obtain ⟨q3, eq3, h⟩ := bnd h
    refine r_callV (As := [.int 1, .int 6]) C hw (ok_X7_takeNumber X l q1.2 1 6 _ _ eq3) l_1 vc_7 gw_570 gw_567 gw_569 gw_14 gw_115 hl.1 pd_X7_takeNumber ⟨Nat.le_of_ble_eq_true rfl, Nat.le_of_ble_eq_true rfl⟩ ⟨Nat.le_refl 0, Nat.le_refl 0⟩ (rest := []) (Nat.le_of_ble_eq_true rfl) dX7_readShelves_13 rfl (fun H locs hw => ?_)
    refine lv_if_ne (tgt := 21) C.1 C.2.1 dX7_readShelves_16 (by decide) (fun c4 => ?_) (fun c4 => ?_)
    · have h := ite_f c4 h
      refine lv_aload_n C.1 C.2.1 dX7_readShelves_21 rfl (lv_at hl 1 rfl) ?_
      refine lv_aload_n C.1 C.2.1 dX7_readShelves_22 rfl (lv_at hl 0 rfl) ?_
      refine r_get (v := .int (q3.2.1 1 4)) C hw l_1 vc_7 kX7 4 rfl (by decide) gw_181 rfl dX7_readShelves_23 ?_
      obtain ⟨σ5, eσ5, h⟩ := nm_d h
      refine r_putN C hw (lg_0 hg1) vc_4 kX4 tyX4 tyX4_ok nmX4 0 (by decide) (by decide) nw_212 rfl rfl rfl (put_i (lg_0 hg1) rfl eσ5) dX7_readShelves_26 (fun H locs hw => ?_)
      refine lv_aload_n C.1 C.2.1 dX7_readShelves_29 rfl (lv_at hl 0 rfl) ?_
      obtain ⟨q6, eq6, h⟩ := bnd h
      refine r_callV (As := []) C hw (ok_X7_takeLineEnd X l σ5 _ _ eq6) l_1 vc_7 gw_574 gw_571 gw_573 gw_15 gw_115 hl.1 pd_X7_takeLineEnd ⟨Nat.le_of_ble_eq_true rfl, Nat.le_of_ble_eq_true rfl⟩ ⟨Nat.le_refl 0, Nat.le_refl 0⟩ (rest := []) (Nat.le_of_ble_eq_true rfl) dX7_readShelves_30 rfl (fun H locs hw => ?_)
      exact r_zret C hr hlk hw rfl (Prod.mk.inj (Option.some.inj h)).1 (Prod.mk.inj (Option.some.inj h)).2 dX7_readShelves_33
    · have h := ite_t c4 h
      refine lv_iconst (v := 0) C.1 C.2.1 dX7_readShelves_19 (by decide) ?_
      exact r_zret C hr hlk hw rfl (Prod.mk.inj (Option.some.inj h)).1 (Prod.mk.inj (Option.some.inj h)).2 dX7_readShelves_20
def f_X4_addItem (σ : St) (g0 : Nat) (a1 : Int32) (a2 : Int32) : Option St :=
  if 5 ≤ (σ.1 g0 1) then (some σ) else ((wr σ (g0 + 1) 5 (σ.1 g0 1) a1).bind fun σ2 => (wr σ2 (g0 + 2) 5 (σ2.1 g0 1) a2).bind fun σ3 => nm (upI σ3 g0 1 ((σ3.1 g0 1) + 1)) fun σ4 => some σ4)
set_option maxRecDepth 100000 in
set_option maxHeartbeats 4000000 in
theorem ok_X4_addItem (X : Xc) (l : Launch) (σ : St) (g0 : Nat) (a1 : Int32) (a2 : Int32) (hg0 : isG g0) (σ' : St) (h : f_X4_addItem σ g0 a1 a2 = some σ') : Ok X l yX4_addItem cX4_addItem 3 none 0 0 [.ref (X.2.1 g0), .int a1, .int a2] σ none σ' := by
  refine Ok.of (by decide) (Nat.le_of_ble_eq_true rfl) ?_
  intro p e s m args below meth c C hr hlk hw ls hl
  have C : Cx p s m args c X cX4_addItem 3 "RunningCount$Goods" := C
  have hl : lv_has ls 3 [(0, .ref (X.2.1 g0)), (1, .int a1), (2, .int a2)] := hl
  rw [f_X4_addItem] at h
  refine lv_aload_n C.1 C.2.1 dX4_addItem_0 rfl (lv_at hl 0 rfl) ?_
  refine r_get (v := .int (σ.1 g0 1)) C hw (lg_0 hg0) vc_4 kX4 1 rfl (by decide) gw_214 rfl dX4_addItem_1 ?_
  refine lv_iconst (v := 5) C.1 C.2.1 dX4_addItem_4 (by decide) ?_
  refine lv_icmp_ge (tgt := 38) C.1 C.2.1 dX4_addItem_5 (by decide) (fun c1 => ?_) (fun c1 => ?_)
  · have h := ite_t c1 h
    exact r_vret C hr hlk hw (Option.some.inj h) dX4_addItem_38
  · have h := ite_f c1 h
    refine lv_aload_n C.1 C.2.1 dX4_addItem_8 rfl (lv_at hl 0 rfl) ?_
    refine r_get (v := .ref (X.2.1 (g0 + 1))) C hw (lg_0 hg0) vc_4 kX4 3 rfl (by decide) gw_221 rfl dX4_addItem_9 ?_
    refine lv_aload_n C.1 C.2.1 dX4_addItem_12 rfl (lv_at hl 0 rfl) ?_
    refine r_get (v := .int (σ.1 g0 1)) C hw (lg_0 hg0) vc_4 kX4 1 rfl (by decide) gw_214 rfl dX4_addItem_13 ?_
    refine lv_iload_n C.1 C.2.1 dX4_addItem_16 rfl (lv_at hl 1 rfl) ?_
    obtain ⟨σ2, eσ2, h⟩ := bnd h
    refine r_ast C hw (lg_1 hg0) eσ2 dX4_addItem_17 (fun H locs hw => ?_)
    refine lv_aload_n C.1 C.2.1 dX4_addItem_18 rfl (lv_at hl 0 rfl) ?_
    refine r_get (v := .ref (X.2.1 (g0 + 2))) C hw (lg_0 hg0) vc_4 kX4 4 rfl (by decide) gw_223 rfl dX4_addItem_19 ?_
    refine lv_aload_n C.1 C.2.1 dX4_addItem_22 rfl (lv_at hl 0 rfl) ?_
    refine r_get (v := .int (σ2.1 g0 1)) C hw (lg_0 hg0) vc_4 kX4 1 rfl (by decide) gw_214 rfl dX4_addItem_23 ?_
    refine lv_iload_n C.1 C.2.1 dX4_addItem_26 rfl (lv_at hl 2 rfl) ?_
    obtain ⟨σ3, eσ3, h⟩ := bnd h
    refine r_ast C hw (lg_2 hg0) eσ3 dX4_addItem_27 (fun H locs hw => ?_)
    refine lv_aload_n C.1 C.2.1 dX4_addItem_28 rfl (lv_at hl 0 rfl) ?_
    refine lv_dup C.1 C.2.1 dX4_addItem_29 rfl ?_
    refine r_get (v := .int (σ3.1 g0 1)) C hw (lg_0 hg0) vc_4 kX4 1 rfl (by decide) gw_214 rfl dX4_addItem_30 ?_
    refine lv_iconst (v := 1) C.1 C.2.1 dX4_addItem_33 (by decide) ?_
    refine lv_iadd C.1 C.2.1 dX4_addItem_34 ?_
    obtain ⟨σ4, eσ4, h⟩ := nm_d h
    refine r_put C hw (lg_0 hg0) vc_4 kX4 tyX4 tyX4_ok nmX4 1 (by decide) (by decide) gw_214 rfl rfl rfl (put_i (lg_0 hg0) rfl eσ4) dX4_addItem_35 (fun H locs hw => ?_)
    exact r_vret C hr hlk hw (Option.some.inj h) dX4_addItem_38
def f_X7_readItem (σ : St) (g1 : Nat) : Option (Bool × St) :=
  (f_X7_take σ (-6)).bind fun q1 => if (b2i q1.1) = 0 then (some (false, q1.2)) else ((f_X7_takeNumber q1.2 0 99).bind fun q3 => if (b2i q3.1) = 0 then (some (false, q3.2)) else (nm (q3.2.1 1 4) fun v5 => (f_X7_takeNumber q3.2 0 99).bind fun q6 => if (b2i q6.1) = 0 then (some (false, q6.2)) else ((f_X4_addItem q6.2 g1 v5 (q6.2.1 1 4)).bind fun q8 => (f_X7_takeLineEnd q8).bind fun q9 => some (q9.1, q9.2))))
set_option maxRecDepth 100000 in
set_option maxHeartbeats 4000000 in
theorem ok_X7_readItem (X : Xc) (l : Launch) (σ : St) (g1 : Nat) (hg1 : isG g1) (r : Bool) (σ' : St) (h : f_X7_readItem σ g1 = some (r, σ')) : Ok X l yX7_readItem cX7_readItem 3 (some .boolean) 3 62 [.ref (X.2.1 1), .ref (X.2.1 g1)] σ (some (.int (b2i r))) σ' := by
  refine Ok.of (by decide) (Nat.le_of_ble_eq_true rfl) ?_
  intro p e s m args below meth c C hr hlk hw ls hl
  have C : Cx p s m args c X cX7_readItem 3 "RunningCount$TextReader" := C
  have hl : lv_has ls 3 [(0, .ref (X.2.1 1)), (1, .ref (X.2.1 g1))] := hl
  rw [f_X7_readItem] at h
  refine lv_aload_n C.1 C.2.1 dX7_readItem_0 rfl (lv_at hl 0 rfl) ?_
  refine lv_bipush (v := (-6)) C.1 C.2.1 dX7_readItem_1 (by decide) ?_
  obtain ⟨q1, eq1, h⟩ := bnd h
  refine r_callV (As := [.int (-6)]) C hw (ok_X7_take X l σ (-6) _ _ eq1) l_1 vc_7 gw_562 gw_559 gw_561 gw_12 gw_115 hl.1 pd_X7_take ⟨Nat.le_of_ble_eq_true rfl, Nat.le_of_ble_eq_true rfl⟩ ⟨Nat.le_refl 0, Nat.le_refl 0⟩ (rest := []) (Nat.le_of_ble_eq_true rfl) dX7_readItem_3 rfl (fun H locs hw => ?_)
  refine lv_if_eq (tgt := 19) C.1 C.2.1 dX7_readItem_6 (by decide) (fun c2 => ?_) (fun c2 => ?_)
  · have h := ite_t c2 h
    refine lv_iconst (v := 0) C.1 C.2.1 dX7_readItem_19 (by decide) ?_
    exact r_zret C hr hlk hw rfl (Prod.mk.inj (Option.some.inj h)).1 (Prod.mk.inj (Option.some.inj h)).2 dX7_readItem_20
  · have h := ite_f c2 h
    refine lv_aload_n C.1 C.2.1 dX7_readItem_9 rfl (lv_at hl 0 rfl) ?_
    refine lv_iconst (v := 0) C.1 C.2.1 dX7_readItem_10 (by decide) ?_
    refine lv_bipush (v := 99) C.1 C.2.1 dX7_readItem_11 (by decide) ?_
    obtain ⟨q3, eq3, h⟩ := bnd h
    refine r_callV (As := [.int 0, .int 99]) C hw (ok_X7_takeNumber X l q1.2 0 99 _ _ eq3) l_1 vc_7 gw_570 gw_567 gw_569 gw_14 gw_115 hl.1 pd_X7_takeNumber ⟨Nat.le_of_ble_eq_true rfl, Nat.le_of_ble_eq_true rfl⟩ ⟨Nat.le_refl 0, Nat.le_refl 0⟩ (rest := []) (Nat.le_of_ble_eq_true rfl) dX7_readItem_13 rfl (fun H locs hw => ?_)
    refine lv_if_ne (tgt := 21) C.1 C.2.1 dX7_readItem_16 (by decide) (fun c4 => ?_) (fun c4 => ?_)
    · have h := ite_f c4 h
      refine lv_aload_n C.1 C.2.1 dX7_readItem_21 rfl (lv_at hl 0 rfl) ?_
      refine r_get (v := .int (q3.2.1 1 4)) C hw l_1 vc_7 kX7 4 rfl (by decide) gw_181 rfl dX7_readItem_22 ?_
      obtain ⟨v5, ev5, h⟩ := nm_d h
      refine lv_nm ev5 ?_
      refine lv_istore_n (lv' := [(2, .int v5), (0, .ref (X.2.1 1)), (1, .ref (X.2.1 g1))]) C.1 C.2.1 dX7_readItem_25 rfl hl (by decide) rfl (fun ls hl => ?_)
      refine lv_aload_n C.1 C.2.1 dX7_readItem_26 rfl (lv_at hl 1 rfl) ?_
      refine lv_iconst (v := 0) C.1 C.2.1 dX7_readItem_27 (by decide) ?_
      refine lv_bipush (v := 99) C.1 C.2.1 dX7_readItem_28 (by decide) ?_
      obtain ⟨q6, eq6, h⟩ := bnd h
      refine r_callV (As := [.int 0, .int 99]) C hw (ok_X7_takeNumber X l q3.2 0 99 _ _ eq6) l_1 vc_7 gw_570 gw_567 gw_569 gw_14 gw_115 hl.1 pd_X7_takeNumber ⟨Nat.le_of_ble_eq_true rfl, Nat.le_of_ble_eq_true rfl⟩ ⟨Nat.le_refl 0, Nat.le_refl 0⟩ (rest := []) (Nat.le_of_ble_eq_true rfl) dX7_readItem_30 rfl (fun H locs hw => ?_)
      refine lv_if_ne (tgt := 38) C.1 C.2.1 dX7_readItem_33 (by decide) (fun c7 => ?_) (fun c7 => ?_)
      · have h := ite_f c7 h
        refine lv_aload_n C.1 C.2.1 dX7_readItem_38 rfl (lv_at hl 2 rfl) ?_
        refine lv_iload_n C.1 C.2.1 dX7_readItem_39 rfl (lv_at hl 0 rfl) ?_
        refine lv_aload_n C.1 C.2.1 dX7_readItem_40 rfl (lv_at hl 1 rfl) ?_
        refine r_get (v := .int (q6.2.1 1 4)) C hw l_1 vc_7 kX7 4 rfl (by decide) gw_181 rfl dX7_readItem_41 ?_
        obtain ⟨q8, eq8, h⟩ := bnd h
        refine r_callVN (As := [.int v5, .int (q6.2.1 1 4)]) C hw (ok_X4_addItem X l q6.2 g1 v5 (q6.2.1 1 4) hg1 _ eq8) (lg_0 hg1) vc_4 gw_586 nw_583 gw_585 gw_18 gw_117 hl.1 pd_X4_addItem ⟨Nat.le_of_ble_eq_true rfl, Nat.le_of_ble_eq_true rfl⟩ ⟨Nat.le_refl 0, Nat.le_refl 0⟩ (rest := []) (Nat.le_of_ble_eq_true rfl) dX7_readItem_44 rfl (fun H locs hw => ?_)
        refine lv_aload_n C.1 C.2.1 dX7_readItem_47 rfl (lv_at hl 1 rfl) ?_
        obtain ⟨q9, eq9, h⟩ := bnd h
        refine r_callV (As := []) C hw (ok_X7_takeLineEnd X l q8 _ _ eq9) l_1 vc_7 gw_574 gw_571 gw_573 gw_15 gw_115 hl.1 pd_X7_takeLineEnd ⟨Nat.le_of_ble_eq_true rfl, Nat.le_of_ble_eq_true rfl⟩ ⟨Nat.le_refl 0, Nat.le_refl 0⟩ (rest := []) (Nat.le_of_ble_eq_true rfl) dX7_readItem_48 rfl (fun H locs hw => ?_)
        exact r_zret C hr hlk hw rfl (Prod.mk.inj (Option.some.inj h)).1 (Prod.mk.inj (Option.some.inj h)).2 dX7_readItem_51
      · have h := ite_t c7 h
        refine lv_iconst (v := 0) C.1 C.2.1 dX7_readItem_36 (by decide) ?_
        exact r_zret C hr hlk hw rfl (Prod.mk.inj (Option.some.inj h)).1 (Prod.mk.inj (Option.some.inj h)).2 dX7_readItem_37
    · have h := ite_t c4 h
      refine lv_iconst (v := 0) C.1 C.2.1 dX7_readItem_19 (by decide) ?_
      exact r_zret C hr hlk hw rfl (Prod.mk.inj (Option.some.inj h)).1 (Prod.mk.inj (Option.some.inj h)).2 dX7_readItem_20
def f_X7_readItems_b2 (g1 : Nat) : Nat → St → Int32 → Option (Bool × St)
  | 0, _, _ => none
  | n + 1, σ, x2 => if 5 < x2 then (some (true, σ)) else (if (σ.1 1 2) = (-6) then (if (σ.1 g1 1) < 5 then ((f_X7_readItem σ g1).bind fun q4 => if (b2i q4.1) = 0 then (some (false, q4.2)) else (nm (x2 + 1) fun v6 => f_X7_readItems_b2 g1 n q4.2 v6)) else ((f_X7_fail σ 3).bind fun q7 => some (q7.1, q7.2))) else (some (true, σ)))
def f_X7_readItems (σ : St) (g1 : Nat) : Option (Bool × St) :=
  f_X7_readItems_b2 g1 10000 σ 0
set_option maxRecDepth 100000 in
set_option maxHeartbeats 4000000 in
theorem ok_X7_readItems (X : Xc) (l : Launch) (σ : St) (g1 : Nat) (hg1 : isG g1) (r : Bool) (σ' : St) (h : f_X7_readItems σ g1 = some (r, σ')) : Ok X l yX7_readItems cX7_readItems 3 (some .boolean) 4 84 [.ref (X.2.1 1), .ref (X.2.1 g1)] σ (some (.int (b2i r))) σ' := by
  refine Ok.of (by decide) (Nat.le_of_ble_eq_true rfl) ?_
  intro p e s m args below meth c C hr hlk hw ls hl
  have C : Cx p s m args c X cX7_readItems 3 "RunningCount$TextReader" := C
  have hl : lv_has ls 3 [(0, .ref (X.2.1 1)), (1, .ref (X.2.1 g1))] := hl
  have b2 : ∀ (n : Nat), ∀ (σ : St) (x2 : Int32), f_X7_readItems_b2 g1 n σ x2 = some (r, σ') → ∀ (H : Heap) (locs : List Loc), At X σ s.heap H locs → ∀ ls : Array Slot, lv_has ls 3 [(0, .ref (X.2.1 1)), (1, .ref (X.2.1 g1)), (2, .int x2)] → W p l e (rmX 4 84) s m args below meth c H locs 0 0 (Zq X below s args (some (.int (b2i r))) σ') (F0 m 2 ls []) := by
    intro n
    induction n with
    | zero =>
      intro σ x2 h
      exact no_some h
    | succ n ih =>
      intro σ x2 h H locs hw ls hl
      rw [f_X7_readItems_b2] at h
      refine lv_iload_n C.1 C.2.1 dX7_readItems_2 rfl (lv_at hl 2 rfl) ?_
      refine lv_iconst (v := 5) C.1 C.2.1 dX7_readItems_3 (by decide) ?_
      refine lv_icmp_gt (tgt := 46) C.1 C.2.1 dX7_readItems_4 (by decide) (fun c1 => ?_) (fun c1 => ?_)
      · have h := ite_t c1 h
        refine lv_iconst (v := 1) C.1 C.2.1 dX7_readItems_46 (by decide) ?_
        exact r_zret C hr hlk hw rfl (Prod.mk.inj (Option.some.inj h)).1 (Prod.mk.inj (Option.some.inj h)).2 dX7_readItems_47
      · have h := ite_f c1 h
        refine lv_aload_n C.1 C.2.1 dX7_readItems_7 rfl (lv_at hl 0 rfl) ?_
        refine r_get (v := .int (σ.1 1 2)) C hw l_1 vc_7 kX7 2 rfl (by decide) gw_179 rfl dX7_readItems_8 ?_
        refine lv_bipush (v := (-6)) C.1 C.2.1 dX7_readItems_11 (by decide) ?_
        refine lv_icmp_ne (tgt := 46) C.1 C.2.1 dX7_readItems_13 (by decide) (fun c2 => ?_) (fun c2 => ?_)
        · have h := ite_f c2 h
          refine lv_iconst (v := 1) C.1 C.2.1 dX7_readItems_46 (by decide) ?_
          exact r_zret C hr hlk hw rfl (Prod.mk.inj (Option.some.inj h)).1 (Prod.mk.inj (Option.some.inj h)).2 dX7_readItems_47
        · have h := ite_t c2 h
          refine lv_aload_n C.1 C.2.1 dX7_readItems_16 rfl (lv_at hl 1 rfl) ?_
          refine r_getN (v := .int (σ.1 g1 1)) C hw (lg_0 hg1) vc_4 kX4 1 rfl (by decide) nw_215 rfl dX7_readItems_17 ?_
          refine lv_iconst (v := 5) C.1 C.2.1 dX7_readItems_20 (by decide) ?_
          refine lv_icmp_lt (tgt := 30) C.1 C.2.1 dX7_readItems_21 (by decide) (fun c3 => ?_) (fun c3 => ?_)
          · have h := ite_t c3 h
            refine lv_aload_n C.1 C.2.1 dX7_readItems_30 rfl (lv_at hl 0 rfl) ?_
            refine lv_aload_n C.1 C.2.1 dX7_readItems_31 rfl (lv_at hl 1 rfl) ?_
            obtain ⟨q4, eq4, h⟩ := bnd h
            refine r_callV (As := [.ref (X.2.1 g1)]) C hw (ok_X7_readItem X l σ g1 hg1 _ _ eq4) l_1 vc_7 gw_582 gw_579 gw_581 gw_17 gw_115 hl.1 pd_X7_readItem ⟨Nat.le_of_ble_eq_true rfl, Nat.le_of_ble_eq_true rfl⟩ ⟨Nat.le_refl 0, Nat.le_refl 0⟩ (rest := []) (Nat.le_of_ble_eq_true rfl) dX7_readItems_32 rfl (fun H locs hw => ?_)
            refine lv_if_ne (tgt := 40) C.1 C.2.1 dX7_readItems_35 (by decide) (fun c5 => ?_) (fun c5 => ?_)
            · have h := ite_f c5 h
              obtain ⟨v6, ev6, h⟩ := nm_d h
              refine lv_iinc (v := v6) (lv' := [(2, .int v6), (0, .ref (X.2.1 1)), (1, .ref (X.2.1 g1))]) C.1 C.2.1 dX7_readItems_40 hl (k := 2) rfl (by rw [ev6]; rfl) (by decide) rfl (fun ls hl => ?_)
              refine lv_goto (tgt := 2) C.1 C.2.1 dX7_readItems_43 (by decide) ?_
              exact ih q4.2 v6 h _ _ hw ls (lv_sub hl [1, 2, 0] rfl)
            · have h := ite_t c5 h
              refine lv_iconst (v := 0) C.1 C.2.1 dX7_readItems_38 (by decide) ?_
              exact r_zret C hr hlk hw rfl (Prod.mk.inj (Option.some.inj h)).1 (Prod.mk.inj (Option.some.inj h)).2 dX7_readItems_39
          · have h := ite_f c3 h
            refine lv_aload_n C.1 C.2.1 dX7_readItems_24 rfl (lv_at hl 0 rfl) ?_
            refine lv_iconst (v := 3) C.1 C.2.1 dX7_readItems_25 (by decide) ?_
            obtain ⟨q7, eq7, h⟩ := bnd h
            refine r_callV (As := [.int 3]) C hw (ok_X7_fail X l σ 3 _ _ eq7) l_1 vc_7 gw_566 gw_563 gw_565 gw_13 gw_115 hl.1 pd_X7_fail ⟨Nat.le_of_ble_eq_true rfl, Nat.le_of_ble_eq_true rfl⟩ ⟨Nat.le_refl 0, Nat.le_refl 0⟩ (rest := []) (Nat.le_of_ble_eq_true rfl) dX7_readItems_26 rfl (fun H locs hw => ?_)
            exact r_zret C hr hlk hw rfl (Prod.mk.inj (Option.some.inj h)).1 (Prod.mk.inj (Option.some.inj h)).2 dX7_readItems_29
  rw [f_X7_readItems] at h
  refine lv_iconst (v := 0) C.1 C.2.1 dX7_readItems_0 (by decide) ?_
  refine lv_istore_n (lv' := [(2, .int 0), (0, .ref (X.2.1 1)), (1, .ref (X.2.1 g1))]) C.1 C.2.1 dX7_readItems_1 rfl hl (by decide) rfl (fun ls hl => ?_)
  exact b2 10000 σ 0 h _ _ hw ls (lv_sub hl [1, 2, 0] rfl)
def f_X4_hasShelf (σ : St) (g0 : Nat) (a1 : Int32) : Bool :=
  if a1 < 0 then (false) else (if (σ.1 g0 0) ≤ a1 then (false) else (true))
set_option maxRecDepth 100000 in
set_option maxHeartbeats 4000000 in
theorem ok_X4_hasShelf (X : Xc) (l : Launch) (σ : St) (g0 : Nat) (a1 : Int32) (hg0 : isG g0) (r : Bool) (h : f_X4_hasShelf σ g0 a1 = r) : Ok X l yX4_hasShelf cX4_hasShelf 2 (some .boolean) 0 0 [.ref (X.2.1 g0), .int a1] σ (some (.int (b2i r))) σ := by
  refine Ok.of (by decide) (Nat.le_of_ble_eq_true rfl) ?_
  intro p e s m args below meth c C hr hlk hw ls hl
  have C : Cx p s m args c X cX4_hasShelf 2 "RunningCount$Goods" := C
  have hl : lv_has ls 2 [(0, .ref (X.2.1 g0)), (1, .int a1)] := hl
  rw [f_X4_hasShelf] at h
  refine lv_iload_n C.1 C.2.1 dX4_hasShelf_0 rfl (lv_at hl 1 rfl) ?_
  refine lv_if_lt (tgt := 16) C.1 C.2.1 dX4_hasShelf_1 (by decide) (fun c1 => ?_) (fun c1 => ?_)
  · have h := ite_t c1 h
    refine lv_iconst (v := 0) C.1 C.2.1 dX4_hasShelf_16 (by decide) ?_
    exact r_zret C hr hlk hw rfl h rfl dX4_hasShelf_17
  · have h := ite_f c1 h
    refine lv_iload_n C.1 C.2.1 dX4_hasShelf_4 rfl (lv_at hl 1 rfl) ?_
    refine lv_aload_n C.1 C.2.1 dX4_hasShelf_5 rfl (lv_at hl 0 rfl) ?_
    refine r_get (v := .int (σ.1 g0 0)) C hw (lg_0 hg0) vc_4 kX4 0 rfl (by decide) gw_211 rfl dX4_hasShelf_6 ?_
    refine lv_icmp_ge (tgt := 16) C.1 C.2.1 dX4_hasShelf_9 (by decide) (fun c2 => ?_) (fun c2 => ?_)
    · have h := ite_t c2 h
      refine lv_iconst (v := 0) C.1 C.2.1 dX4_hasShelf_16 (by decide) ?_
      exact r_zret C hr hlk hw rfl h rfl dX4_hasShelf_17
    · have h := ite_f c2 h
      refine lv_iconst (v := 1) C.1 C.2.1 dX4_hasShelf_12 (by decide) ?_
      refine lv_goto (tgt := 17) C.1 C.2.1 dX4_hasShelf_13 (by decide) ?_
      exact r_zret C hr hlk hw rfl h rfl dX4_hasShelf_17
def f_X4_hasItem (σ : St) (g0 : Nat) (a1 : Int32) : Bool :=
  if a1 < 0 then (false) else (if (σ.1 g0 1) ≤ a1 then (false) else (true))
set_option maxRecDepth 100000 in
set_option maxHeartbeats 4000000 in
theorem ok_X4_hasItem (X : Xc) (l : Launch) (σ : St) (g0 : Nat) (a1 : Int32) (hg0 : isG g0) (r : Bool) (h : f_X4_hasItem σ g0 a1 = r) : Ok X l yX4_hasItem cX4_hasItem 2 (some .boolean) 0 0 [.ref (X.2.1 g0), .int a1] σ (some (.int (b2i r))) σ := by
  refine Ok.of (by decide) (Nat.le_of_ble_eq_true rfl) ?_
  intro p e s m args below meth c C hr hlk hw ls hl
  have C : Cx p s m args c X cX4_hasItem 2 "RunningCount$Goods" := C
  have hl : lv_has ls 2 [(0, .ref (X.2.1 g0)), (1, .int a1)] := hl
  rw [f_X4_hasItem] at h
  refine lv_iload_n C.1 C.2.1 dX4_hasItem_0 rfl (lv_at hl 1 rfl) ?_
  refine lv_if_lt (tgt := 16) C.1 C.2.1 dX4_hasItem_1 (by decide) (fun c1 => ?_) (fun c1 => ?_)
  · have h := ite_t c1 h
    refine lv_iconst (v := 0) C.1 C.2.1 dX4_hasItem_16 (by decide) ?_
    exact r_zret C hr hlk hw rfl h rfl dX4_hasItem_17
  · have h := ite_f c1 h
    refine lv_iload_n C.1 C.2.1 dX4_hasItem_4 rfl (lv_at hl 1 rfl) ?_
    refine lv_aload_n C.1 C.2.1 dX4_hasItem_5 rfl (lv_at hl 0 rfl) ?_
    refine r_get (v := .int (σ.1 g0 1)) C hw (lg_0 hg0) vc_4 kX4 1 rfl (by decide) gw_214 rfl dX4_hasItem_6 ?_
    refine lv_icmp_ge (tgt := 16) C.1 C.2.1 dX4_hasItem_9 (by decide) (fun c2 => ?_) (fun c2 => ?_)
    · have h := ite_t c2 h
      refine lv_iconst (v := 0) C.1 C.2.1 dX4_hasItem_16 (by decide) ?_
      exact r_zret C hr hlk hw rfl h rfl dX4_hasItem_17
    · have h := ite_f c2 h
      refine lv_iconst (v := 1) C.1 C.2.1 dX4_hasItem_12 (by decide) ?_
      refine lv_goto (tgt := 17) C.1 C.2.1 dX4_hasItem_13 (by decide) ?_
      exact r_zret C hr hlk hw rfl h rfl dX4_hasItem_17
def f_X4_hasCouple (σ : St) (g0 : Nat) (a1 : Int32) (a2 : Int32) : Bool :=
  if (b2i (f_X4_hasShelf σ g0 a1)) = 0 then (false) else (if (b2i (f_X4_hasItem σ g0 a2)) = 0 then (false) else (true))
set_option maxRecDepth 100000 in
set_option maxHeartbeats 4000000 in
theorem ok_X4_hasCouple (X : Xc) (l : Launch) (σ : St) (g0 : Nat) (a1 : Int32) (a2 : Int32) (hg0 : isG g0) (r : Bool) (h : f_X4_hasCouple σ g0 a1 a2 = r) : Ok X l yX4_hasCouple cX4_hasCouple 3 (some .boolean) 1 21 [.ref (X.2.1 g0), .int a1, .int a2] σ (some (.int (b2i r))) σ := by
  refine Ok.of (by decide) (Nat.le_of_ble_eq_true rfl) ?_
  intro p e s m args below meth c C hr hlk hw ls hl
  have C : Cx p s m args c X cX4_hasCouple 3 "RunningCount$Goods" := C
  have hl : lv_has ls 3 [(0, .ref (X.2.1 g0)), (1, .int a1), (2, .int a2)] := hl
  rw [f_X4_hasCouple] at h
  refine lv_aload_n C.1 C.2.1 dX4_hasCouple_0 rfl (lv_at hl 0 rfl) ?_
  refine lv_iload_n C.1 C.2.1 dX4_hasCouple_1 rfl (lv_at hl 1 rfl) ?_
  refine r_callV (As := [.int a1]) C hw (ok_X4_hasShelf X l σ g0 a1 hg0 _ rfl) (lg_0 hg0) vc_4 gw_606 gw_603 gw_605 gw_23 gw_117 hl.1 pd_X4_hasShelf ⟨Nat.le_of_ble_eq_true rfl, Nat.le_of_ble_eq_true rfl⟩ ⟨Nat.le_refl 0, Nat.le_refl 0⟩ (rest := []) (Nat.le_of_ble_eq_true rfl) dX4_hasCouple_2 rfl (fun H locs hw => ?_)
  refine lv_if_eq (tgt := 20) C.1 C.2.1 dX4_hasCouple_5 (by decide) (fun c2 => ?_) (fun c2 => ?_)
  · have h := ite_t c2 h
    refine lv_iconst (v := 0) C.1 C.2.1 dX4_hasCouple_20 (by decide) ?_
    exact r_zret C hr hlk hw rfl h rfl dX4_hasCouple_21
  · have h := ite_f c2 h
    refine lv_aload_n C.1 C.2.1 dX4_hasCouple_8 rfl (lv_at hl 0 rfl) ?_
    refine lv_iload_n C.1 C.2.1 dX4_hasCouple_9 rfl (lv_at hl 2 rfl) ?_
    refine r_callV (As := [.int a2]) C hw (ok_X4_hasItem X l σ g0 a2 hg0 _ rfl) (lg_0 hg0) vc_4 gw_610 gw_607 gw_609 gw_24 gw_117 hl.1 pd_X4_hasItem ⟨Nat.le_of_ble_eq_true rfl, Nat.le_of_ble_eq_true rfl⟩ ⟨Nat.le_refl 0, Nat.le_refl 0⟩ (rest := []) (Nat.le_of_ble_eq_true rfl) dX4_hasCouple_10 rfl (fun H locs hw => ?_)
    refine lv_if_eq (tgt := 20) C.1 C.2.1 dX4_hasCouple_13 (by decide) (fun c4 => ?_) (fun c4 => ?_)
    · have h := ite_t c4 h
      refine lv_iconst (v := 0) C.1 C.2.1 dX4_hasCouple_20 (by decide) ?_
      exact r_zret C hr hlk hw rfl h rfl dX4_hasCouple_21
    · have h := ite_f c4 h
      refine lv_iconst (v := 1) C.1 C.2.1 dX4_hasCouple_16 (by decide) ?_
      refine lv_goto (tgt := 21) C.1 C.2.1 dX4_hasCouple_17 (by decide) ?_
      exact r_zret C hr hlk hw rfl h rfl dX4_hasCouple_21
def f_X4_placeOf (σ : St) (a0 : Int32) (a1 : Int32) : Int32 :=
  (a0 * 5) + a1
set_option maxRecDepth 100000 in
set_option maxHeartbeats 4000000 in
theorem ok_X4_placeOf (X : Xc) (l : Launch) (σ : St) (a0 : Int32) (a1 : Int32) (r : Int32) (h : f_X4_placeOf σ a0 a1 = r) : Ok X l yX4_placeOf cX4_placeOf 2 (some .int) 0 0 [.int a0, .int a1] σ (some (.int r)) σ := by
  refine Ok.of (by decide) (Nat.le_of_ble_eq_true rfl) ?_
  intro p e s m args below meth c C hr hlk hw ls hl
  have C : Cx p s m args c X cX4_placeOf 2 "RunningCount$Goods" := C
  have hl : lv_has ls 2 [(0, .int a0), (1, .int a1)] := hl
  rw [f_X4_placeOf] at h
  refine lv_iload_n C.1 C.2.1 dX4_placeOf_0 rfl (lv_at hl 0 rfl) ?_
  refine lv_iconst (v := 5) C.1 C.2.1 dX4_placeOf_1 (by decide) ?_
  refine lv_imul C.1 C.2.1 dX4_placeOf_2 ?_
  refine lv_iload_n C.1 C.2.1 dX4_placeOf_3 rfl (lv_at hl 1 rfl) ?_
  refine lv_iadd C.1 C.2.1 dX4_placeOf_4 ?_
  exact r_iret C hr hlk hw h rfl dX4_placeOf_5
def f_X4_isStockTold (σ : St) (g0 : Nat) (a1 : Int32) (a2 : Int32) : Option Bool :=
  if (b2i (f_X4_hasCouple σ g0 a1 a2)) = 0 then (some false) else ((rd σ (g0 + 3) 30 (f_X4_placeOf σ a1 a2)).bind fun v4 => if v4 = (-1) then (some false) else (some true))
set_option maxRecDepth 100000 in
set_option maxHeartbeats 4000000 in
theorem ok_X4_isStockTold (X : Xc) (l : Launch) (σ : St) (g0 : Nat) (a1 : Int32) (a2 : Int32) (hg0 : isG g0) (r : Bool) (h : f_X4_isStockTold σ g0 a1 a2 = some r) : Ok X l yX4_isStockTold cX4_isStockTold 3 (some .boolean) 2 43 [.ref (X.2.1 g0), .int a1, .int a2] σ (some (.int (b2i r))) σ := by
  refine Ok.of (by decide) (Nat.le_of_ble_eq_true rfl) ?_
  intro p e s m args below meth c C hr hlk hw ls hl
  have C : Cx p s m args c X cX4_isStockTold 3 "RunningCount$Goods" := C
  have hl : lv_has ls 3 [(0, .ref (X.2.1 g0)), (1, .int a1), (2, .int a2)] := hl
  rw [f_X4_isStockTold] at h
  refine lv_aload_n C.1 C.2.1 dX4_isStockTold_0 rfl (lv_at hl 0 rfl) ?_
  refine lv_iload_n C.1 C.2.1 dX4_isStockTold_1 rfl (lv_at hl 1 rfl) ?_
  refine lv_iload_n C.1 C.2.1 dX4_isStockTold_2 rfl (lv_at hl 2 rfl) ?_
  refine r_callV (As := [.int a1, .int a2]) C hw (ok_X4_hasCouple X l σ g0 a1 a2 hg0 _ rfl) (lg_0 hg0) vc_4 gw_602 gw_599 gw_601 gw_22 gw_117 hl.1 pd_X4_hasCouple ⟨Nat.le_of_ble_eq_true rfl, Nat.le_of_ble_eq_true rfl⟩ ⟨Nat.le_refl 0, Nat.le_refl 0⟩ (rest := []) (Nat.le_of_ble_eq_true rfl) dX4_isStockTold_3 rfl (fun H locs hw => ?_)
  refine lv_if_eq (tgt := 27) C.1 C.2.1 dX4_isStockTold_6 (by decide) (fun c2 => ?_) (fun c2 => ?_)
  · have h := ite_t c2 h
    refine lv_iconst (v := 0) C.1 C.2.1 dX4_isStockTold_27 (by decide) ?_
    exact r_zret C hr hlk hw rfl (Option.some.inj h) rfl dX4_isStockTold_28
  · have h := ite_f c2 h
    refine lv_aload_n C.1 C.2.1 dX4_isStockTold_9 rfl (lv_at hl 0 rfl) ?_
    refine r_get (v := .ref (X.2.1 (g0 + 3))) C hw (lg_0 hg0) vc_4 kX4 5 rfl (by decide) gw_225 rfl dX4_isStockTold_10 ?_
    refine lv_iload_n C.1 C.2.1 dX4_isStockTold_13 rfl (lv_at hl 1 rfl) ?_
    refine lv_iload_n C.1 C.2.1 dX4_isStockTold_14 rfl (lv_at hl 2 rfl) ?_
    refine r_callS (As := [.int a1, .int a2]) C hw (ok_X4_placeOf X l σ a1 a2 _ rfl) gw_613 gw_611 gw_612 gw_117 hl.1 pd_X4_placeOf ⟨Nat.le_of_ble_eq_true rfl, Nat.le_of_ble_eq_true rfl⟩ ⟨Nat.le_refl 0, Nat.le_refl 0⟩ (rest := [.ref (X.2.1 (g0 + 3))]) (Nat.le_of_ble_eq_true rfl) dX4_isStockTold_15 rfl (fun H locs hw => ?_)
    obtain ⟨v4, ev4, h⟩ := bnd h
    refine r_ald C hw (lg_3 hg0) ev4 dX4_isStockTold_18 ?_
    refine lv_iconst (v := (-1)) C.1 C.2.1 dX4_isStockTold_19 (by decide) ?_
    refine lv_icmp_eq (tgt := 27) C.1 C.2.1 dX4_isStockTold_20 (by decide) (fun c5 => ?_) (fun c5 => ?_)
    · have h := ite_t c5 h
      refine lv_iconst (v := 0) C.1 C.2.1 dX4_isStockTold_27 (by decide) ?_
      exact r_zret C hr hlk hw rfl (Option.some.inj h) rfl dX4_isStockTold_28
    · have h := ite_f c5 h
      refine lv_iconst (v := 1) C.1 C.2.1 dX4_isStockTold_23 (by decide) ?_
      refine lv_goto (tgt := 28) C.1 C.2.1 dX4_isStockTold_24 (by decide) ?_
      exact r_zret C hr hlk hw rfl (Option.some.inj h) rfl dX4_isStockTold_28
def f_X4_tellStock (σ : St) (g0 : Nat) (a1 : Int32) (a2 : Int32) (a3 : Int32) : Option St :=
  if (b2i (f_X4_hasCouple σ g0 a1 a2)) = 0 then (some σ) else ((wr σ (g0 + 3) 30 (f_X4_placeOf σ a1 a2) a3).bind fun σ4 => some σ4)
set_option maxRecDepth 100000 in
set_option maxHeartbeats 4000000 in
theorem ok_X4_tellStock (X : Xc) (l : Launch) (σ : St) (g0 : Nat) (a1 : Int32) (a2 : Int32) (a3 : Int32) (hg0 : isG g0) (σ' : St) (h : f_X4_tellStock σ g0 a1 a2 a3 = some σ') : Ok X l yX4_tellStock cX4_tellStock 4 none 2 43 [.ref (X.2.1 g0), .int a1, .int a2, .int a3] σ none σ' := by
  refine Ok.of (by decide) (Nat.le_of_ble_eq_true rfl) ?_
  intro p e s m args below meth c C hr hlk hw ls hl
  have C : Cx p s m args c X cX4_tellStock 4 "RunningCount$Goods" := C
  have hl : lv_has ls 4 [(0, .ref (X.2.1 g0)), (1, .int a1), (2, .int a2), (3, .int a3)] := hl
  rw [f_X4_tellStock] at h
  refine lv_aload_n C.1 C.2.1 dX4_tellStock_0 rfl (lv_at hl 0 rfl) ?_
  refine lv_iload_n C.1 C.2.1 dX4_tellStock_1 rfl (lv_at hl 1 rfl) ?_
  refine lv_iload_n C.1 C.2.1 dX4_tellStock_2 rfl (lv_at hl 2 rfl) ?_
  refine r_callV (As := [.int a1, .int a2]) C hw (ok_X4_hasCouple X l σ g0 a1 a2 hg0 _ rfl) (lg_0 hg0) vc_4 gw_602 gw_599 gw_601 gw_22 gw_117 hl.1 pd_X4_hasCouple ⟨Nat.le_of_ble_eq_true rfl, Nat.le_of_ble_eq_true rfl⟩ ⟨Nat.le_refl 0, Nat.le_refl 0⟩ (rest := []) (Nat.le_of_ble_eq_true rfl) dX4_tellStock_3 rfl (fun H locs hw => ?_)
  refine lv_if_eq (tgt := 20) C.1 C.2.1 dX4_tellStock_6 (by decide) (fun c2 => ?_) (fun c2 => ?_)
  · have h := ite_t c2 h
    exact r_vret C hr hlk hw (Option.some.inj h) dX4_tellStock_20
  · have h := ite_f c2 h
    refine lv_aload_n C.1 C.2.1 dX4_tellStock_9 rfl (lv_at hl 0 rfl) ?_
    refine r_get (v := .ref (X.2.1 (g0 + 3))) C hw (lg_0 hg0) vc_4 kX4 5 rfl (by decide) gw_225 rfl dX4_tellStock_10 ?_
    refine lv_iload_n C.1 C.2.1 dX4_tellStock_13 rfl (lv_at hl 1 rfl) ?_
    refine lv_iload_n C.1 C.2.1 dX4_tellStock_14 rfl (lv_at hl 2 rfl) ?_
    refine r_callS (As := [.int a1, .int a2]) C hw (ok_X4_placeOf X l σ a1 a2 _ rfl) gw_613 gw_611 gw_612 gw_117 hl.1 pd_X4_placeOf ⟨Nat.le_of_ble_eq_true rfl, Nat.le_of_ble_eq_true rfl⟩ ⟨Nat.le_refl 0, Nat.le_refl 0⟩ (rest := [.ref (X.2.1 (g0 + 3))]) (Nat.le_of_ble_eq_true rfl) dX4_tellStock_15 rfl (fun H locs hw => ?_)
    refine lv_iload_n C.1 C.2.1 dX4_tellStock_18 rfl (lv_at hl 3 rfl) ?_
    obtain ⟨σ4, eσ4, h⟩ := bnd h
    refine r_ast C hw (lg_3 hg0) eσ4 dX4_tellStock_19 (fun H locs hw => ?_)
    exact r_vret C hr hlk hw (Option.some.inj h) dX4_tellStock_20
def f_X7_readStock (σ : St) (g1 : Nat) : Option (Bool × St) :=
  (f_X7_take σ (-7)).bind fun q1 => if (b2i q1.1) = 0 then (some (false, q1.2)) else ((f_X7_takeNumber q1.2 0 ((q1.2.1 g1 0) - 1)).bind fun q3 => if (b2i q3.1) = 0 then (some (false, q3.2)) else (nm (q3.2.1 1 4) fun v5 => (f_X4_isStockTold q3.2 g1 v5 (q3.2.1 1 2)).bind fun q6 => if (b2i q6) = 0 then ((f_X7_takeNumber q3.2 0 ((q3.2.1 g1 1) - 1)).bind fun q8 => if (b2i q8.1) = 0 then (some (false, q8.2)) else (nm (q8.2.1 1 4) fun v10 => (f_X7_takeNumber q8.2 0 999).bind fun q11 => if (b2i q11.1) = 0 then (some (false, q11.2)) else ((f_X4_tellStock q11.2 g1 v5 v10 (q11.2.1 1 4)).bind fun q13 => (f_X7_takeLineEnd q13).bind fun q14 => some (q14.1, q14.2)))) else ((f_X7_fail q3.2 2).bind fun q15 => some (q15.1, q15.2))))
set_option maxRecDepth 100000 in
set_option maxHeartbeats 4000000 in
theorem ok_X7_readStock (X : Xc) (l : Launch) (σ : St) (g1 : Nat) (hg1 : isG g1) (r : Bool) (σ' : St) (h : f_X7_readStock σ g1 = some (r, σ')) : Ok X l yX7_readStock cX7_readStock 4 (some .boolean) 3 66 [.ref (X.2.1 1), .ref (X.2.1 g1)] σ (some (.int (b2i r))) σ' := by
  refine Ok.of (by decide) (Nat.le_of_ble_eq_true rfl) ?_
  intro p e s m args below meth c C hr hlk hw ls hl
  have C : Cx p s m args c X cX7_readStock 4 "RunningCount$TextReader" := C
  have hl : lv_has ls 4 [(0, .ref (X.2.1 1)), (1, .ref (X.2.1 g1))] := hl
  rw [f_X7_readStock] at h
  refine lv_aload_n C.1 C.2.1 dX7_readStock_0 rfl (lv_at hl 0 rfl) ?_
  refine lv_bipush (v := (-7)) C.1 C.2.1 dX7_readStock_1 (by decide) ?_
  obtain ⟨q1, eq1, h⟩ := bnd h
  refine r_callV (As := [.int (-7)]) C hw (ok_X7_take X l σ (-7) _ _ eq1) l_1 vc_7 gw_562 gw_559 gw_561 gw_12 gw_115 hl.1 pd_X7_take ⟨Nat.le_of_ble_eq_true rfl, Nat.le_of_ble_eq_true rfl⟩ ⟨Nat.le_refl 0, Nat.le_refl 0⟩ (rest := []) (Nat.le_of_ble_eq_true rfl) dX7_readStock_3 rfl (fun H locs hw => ?_)
  refine lv_if_eq (tgt := 23) C.1 C.2.1 dX7_readStock_6 (by decide) (fun c2 => ?_) (fun c2 => ?_)
  · have h := ite_t c2 h
    refine lv_iconst (v := 0) C.1 C.2.1 dX7_readStock_23 (by decide) ?_
    exact r_zret C hr hlk hw rfl (Prod.mk.inj (Option.some.inj h)).1 (Prod.mk.inj (Option.some.inj h)).2 dX7_readStock_24
  · have h := ite_f c2 h
    refine lv_aload_n C.1 C.2.1 dX7_readStock_9 rfl (lv_at hl 0 rfl) ?_
    refine lv_iconst (v := 0) C.1 C.2.1 dX7_readStock_10 (by decide) ?_
    refine lv_aload_n C.1 C.2.1 dX7_readStock_11 rfl (lv_at hl 1 rfl) ?_
    refine r_getN (v := .int (q1.2.1 g1 0)) C hw (lg_0 hg1) vc_4 kX4 0 rfl (by decide) nw_212 rfl dX7_readStock_12 ?_
    refine lv_iconst (v := 1) C.1 C.2.1 dX7_readStock_15 (by decide) ?_
    refine lv_isub C.1 C.2.1 dX7_readStock_16 ?_
    obtain ⟨q3, eq3, h⟩ := bnd h
    refine r_callV (As := [.int 0, .int ((q1.2.1 g1 0) - 1)]) C hw (ok_X7_takeNumber X l q1.2 0 ((q1.2.1 g1 0) - 1) _ _ eq3) l_1 vc_7 gw_570 gw_567 gw_569 gw_14 gw_115 hl.1 pd_X7_takeNumber ⟨Nat.le_of_ble_eq_true rfl, Nat.le_of_ble_eq_true rfl⟩ ⟨Nat.le_refl 0, Nat.le_refl 0⟩ (rest := []) (Nat.le_of_ble_eq_true rfl) dX7_readStock_17 rfl (fun H locs hw => ?_)
    refine lv_if_ne (tgt := 25) C.1 C.2.1 dX7_readStock_20 (by decide) (fun c4 => ?_) (fun c4 => ?_)
    · have h := ite_f c4 h
      refine lv_aload_n C.1 C.2.1 dX7_readStock_25 rfl (lv_at hl 0 rfl) ?_
      refine r_get (v := .int (q3.2.1 1 4)) C hw l_1 vc_7 kX7 4 rfl (by decide) gw_181 rfl dX7_readStock_26 ?_
      obtain ⟨v5, ev5, h⟩ := nm_d h
      refine lv_nm ev5 ?_
      refine lv_istore_n (lv' := [(2, .int v5), (0, .ref (X.2.1 1)), (1, .ref (X.2.1 g1))]) C.1 C.2.1 dX7_readStock_29 rfl hl (by decide) rfl (fun ls hl => ?_)
      refine lv_aload_n C.1 C.2.1 dX7_readStock_30 rfl (lv_at hl 2 rfl) ?_
      refine lv_iload_n C.1 C.2.1 dX7_readStock_31 rfl (lv_at hl 0 rfl) ?_
      refine lv_aload_n C.1 C.2.1 dX7_readStock_32 rfl (lv_at hl 1 rfl) ?_
      refine r_get (v := .int (q3.2.1 1 2)) C hw l_1 vc_7 kX7 2 rfl (by decide) gw_179 rfl dX7_readStock_33 ?_
      obtain ⟨q6, eq6, h⟩ := bnd h
      refine r_callVN (As := [.int v5, .int (q3.2.1 1 2)]) C hw (ok_X4_isStockTold X l q3.2 g1 v5 (q3.2.1 1 2) hg1 _ eq6) (lg_0 hg1) vc_4 gw_598 nw_595 gw_597 gw_21 gw_117 hl.1 pd_X4_isStockTold ⟨Nat.le_of_ble_eq_true rfl, Nat.le_of_ble_eq_true rfl⟩ ⟨Nat.le_refl 0, Nat.le_refl 0⟩ (rest := []) (Nat.le_of_ble_eq_true rfl) dX7_readStock_36 rfl (fun H locs hw => ?_)
      refine lv_if_eq (tgt := 48) C.1 C.2.1 dX7_readStock_39 (by decide) (fun c7 => ?_) (fun c7 => ?_)
      · have h := ite_t c7 h
        refine lv_aload_n C.1 C.2.1 dX7_readStock_48 rfl (lv_at hl 1 rfl) ?_
        refine lv_iconst (v := 0) C.1 C.2.1 dX7_readStock_49 (by decide) ?_
        refine lv_aload_n C.1 C.2.1 dX7_readStock_50 rfl (lv_at hl 2 rfl) ?_
        refine r_getN (v := .int (q3.2.1 g1 1)) C hw (lg_0 hg1) vc_4 kX4 1 rfl (by decide) nw_215 rfl dX7_readStock_51 ?_
        refine lv_iconst (v := 1) C.1 C.2.1 dX7_readStock_54 (by decide) ?_
        refine lv_isub C.1 C.2.1 dX7_readStock_55 ?_
        obtain ⟨q8, eq8, h⟩ := bnd h
        refine r_callV (As := [.int 0, .int ((q3.2.1 g1 1) - 1)]) C hw (ok_X7_takeNumber X l q3.2 0 ((q3.2.1 g1 1) - 1) _ _ eq8) l_1 vc_7 gw_570 gw_567 gw_569 gw_14 gw_115 hl.1 pd_X7_takeNumber ⟨Nat.le_of_ble_eq_true rfl, Nat.le_of_ble_eq_true rfl⟩ ⟨Nat.le_refl 0, Nat.le_refl 0⟩ (rest := []) (Nat.le_of_ble_eq_true rfl) dX7_readStock_56 rfl (fun H locs hw => ?_)
        refine lv_if_ne (tgt := 64) C.1 C.2.1 dX7_readStock_59 (by decide) (fun c9 => ?_) (fun c9 => ?_)
        · have h := ite_f c9 h
          refine lv_aload_n C.1 C.2.1 dX7_readStock_64 rfl (lv_at hl 1 rfl) ?_
          refine r_get (v := .int (q8.2.1 1 4)) C hw l_1 vc_7 kX7 4 rfl (by decide) gw_181 rfl dX7_readStock_65 ?_
          obtain ⟨v10, ev10, h⟩ := nm_d h
          refine lv_nm ev10 ?_
          refine lv_istore_n (lv' := [(3, .int v10), (2, .int v5), (0, .ref (X.2.1 1)), (1, .ref (X.2.1 g1))]) C.1 C.2.1 dX7_readStock_68 rfl hl (by decide) rfl (fun ls hl => ?_)
          refine lv_aload_n C.1 C.2.1 dX7_readStock_69 rfl (lv_at hl 2 rfl) ?_
          refine lv_iconst (v := 0) C.1 C.2.1 dX7_readStock_70 (by decide) ?_
          refine lv_sipush (v := 999) C.1 C.2.1 dX7_readStock_71 (by decide) ?_
          obtain ⟨q11, eq11, h⟩ := bnd h
          refine r_callV (As := [.int 0, .int 999]) C hw (ok_X7_takeNumber X l q8.2 0 999 _ _ eq11) l_1 vc_7 gw_570 gw_567 gw_569 gw_14 gw_115 hl.1 pd_X7_takeNumber ⟨Nat.le_of_ble_eq_true rfl, Nat.le_of_ble_eq_true rfl⟩ ⟨Nat.le_refl 0, Nat.le_refl 0⟩ (rest := []) (Nat.le_of_ble_eq_true rfl) dX7_readStock_74 rfl (fun H locs hw => ?_)
          refine lv_if_ne (tgt := 82) C.1 C.2.1 dX7_readStock_77 (by decide) (fun c12 => ?_) (fun c12 => ?_)
          · have h := ite_f c12 h
            refine lv_aload_n C.1 C.2.1 dX7_readStock_82 rfl (lv_at hl 3 rfl) ?_
            refine lv_iload_n C.1 C.2.1 dX7_readStock_83 rfl (lv_at hl 1 rfl) ?_
            refine lv_iload_n C.1 C.2.1 dX7_readStock_84 rfl (lv_at hl 0 rfl) ?_
            refine lv_aload_n C.1 C.2.1 dX7_readStock_85 rfl (lv_at hl 2 rfl) ?_
            refine r_get (v := .int (q11.2.1 1 4)) C hw l_1 vc_7 kX7 4 rfl (by decide) gw_181 rfl dX7_readStock_86 ?_
            obtain ⟨q13, eq13, h⟩ := bnd h
            refine r_callVN (As := [.int v5, .int v10, .int (q11.2.1 1 4)]) C hw (ok_X4_tellStock X l q11.2 g1 v5 v10 (q11.2.1 1 4) hg1 _ eq13) (lg_0 hg1) vc_4 gw_617 nw_614 gw_616 gw_25 gw_117 hl.1 pd_X4_tellStock ⟨Nat.le_of_ble_eq_true rfl, Nat.le_of_ble_eq_true rfl⟩ ⟨Nat.le_refl 0, Nat.le_refl 0⟩ (rest := []) (Nat.le_of_ble_eq_true rfl) dX7_readStock_89 rfl (fun H locs hw => ?_)
            refine lv_aload_n C.1 C.2.1 dX7_readStock_92 rfl (lv_at hl 2 rfl) ?_
            obtain ⟨q14, eq14, h⟩ := bnd h
            refine r_callV (As := []) C hw (ok_X7_takeLineEnd X l q13 _ _ eq14) l_1 vc_7 gw_574 gw_571 gw_573 gw_15 gw_115 hl.1 pd_X7_takeLineEnd ⟨Nat.le_of_ble_eq_true rfl, Nat.le_of_ble_eq_true rfl⟩ ⟨Nat.le_refl 0, Nat.le_refl 0⟩ (rest := []) (Nat.le_of_ble_eq_true rfl) dX7_readStock_93 rfl (fun H locs hw => ?_)
            exact r_zret C hr hlk hw rfl (Prod.mk.inj (Option.some.inj h)).1 (Prod.mk.inj (Option.some.inj h)).2 dX7_readStock_96
          · have h := ite_t c12 h
            refine lv_iconst (v := 0) C.1 C.2.1 dX7_readStock_80 (by decide) ?_
            exact r_zret C hr hlk hw rfl (Prod.mk.inj (Option.some.inj h)).1 (Prod.mk.inj (Option.some.inj h)).2 dX7_readStock_81
        · have h := ite_t c9 h
          refine lv_iconst (v := 0) C.1 C.2.1 dX7_readStock_62 (by decide) ?_
          exact r_zret C hr hlk hw rfl (Prod.mk.inj (Option.some.inj h)).1 (Prod.mk.inj (Option.some.inj h)).2 dX7_readStock_63
      · have h := ite_f c7 h
        refine lv_aload_n C.1 C.2.1 dX7_readStock_42 rfl (lv_at hl 1 rfl) ?_
        refine lv_iconst (v := 2) C.1 C.2.1 dX7_readStock_43 (by decide) ?_
        obtain ⟨q15, eq15, h⟩ := bnd h
        refine r_callV (As := [.int 2]) C hw (ok_X7_fail X l q3.2 2 _ _ eq15) l_1 vc_7 gw_566 gw_563 gw_565 gw_13 gw_115 hl.1 pd_X7_fail ⟨Nat.le_of_ble_eq_true rfl, Nat.le_of_ble_eq_true rfl⟩ ⟨Nat.le_refl 0, Nat.le_refl 0⟩ (rest := []) (Nat.le_of_ble_eq_true rfl) dX7_readStock_44 rfl (fun H locs hw => ?_)
        exact r_zret C hr hlk hw rfl (Prod.mk.inj (Option.some.inj h)).1 (Prod.mk.inj (Option.some.inj h)).2 dX7_readStock_47
    · have h := ite_t c4 h
      refine lv_iconst (v := 0) C.1 C.2.1 dX7_readStock_23 (by decide) ?_
      exact r_zret C hr hlk hw rfl (Prod.mk.inj (Option.some.inj h)).1 (Prod.mk.inj (Option.some.inj h)).2 dX7_readStock_24
def f_X7_readStocks_b2 (g1 : Nat) : Nat → St → Int32 → Option (Bool × St)
  | 0, _, _ => none
  | n + 1, σ, x2 => if 30 < x2 then (some (true, σ)) else (if (σ.1 1 2) = (-7) then ((f_X7_readStock σ g1).bind fun q3 => if (b2i q3.1) = 0 then (some (false, q3.2)) else (nm (x2 + 1) fun v5 => f_X7_readStocks_b2 g1 n q3.2 v5)) else (some (true, σ)))
def f_X7_readStocks (σ : St) (g1 : Nat) : Option (Bool × St) :=
  f_X7_readStocks_b2 g1 10000 σ 0
set_option maxRecDepth 100000 in
set_option maxHeartbeats 4000000 in
theorem ok_X7_readStocks (X : Xc) (l : Launch) (σ : St) (g1 : Nat) (hg1 : isG g1) (r : Bool) (σ' : St) (h : f_X7_readStocks σ g1 = some (r, σ')) : Ok X l yX7_readStocks cX7_readStocks 3 (some .boolean) 4 89 [.ref (X.2.1 1), .ref (X.2.1 g1)] σ (some (.int (b2i r))) σ' := by
  refine Ok.of (by decide) (Nat.le_of_ble_eq_true rfl) ?_
  intro p e s m args below meth c C hr hlk hw ls hl
  have C : Cx p s m args c X cX7_readStocks 3 "RunningCount$TextReader" := C
  have hl : lv_has ls 3 [(0, .ref (X.2.1 1)), (1, .ref (X.2.1 g1))] := hl
  have b2 : ∀ (n : Nat), ∀ (σ : St) (x2 : Int32), f_X7_readStocks_b2 g1 n σ x2 = some (r, σ') → ∀ (H : Heap) (locs : List Loc), At X σ s.heap H locs → ∀ ls : Array Slot, lv_has ls 3 [(0, .ref (X.2.1 1)), (1, .ref (X.2.1 g1)), (2, .int x2)] → W p l e (rmX 4 89) s m args below meth c H locs 0 0 (Zq X below s args (some (.int (b2i r))) σ') (F0 m 2 ls []) := by
    intro n
    induction n with
    | zero =>
      intro σ x2 h
      exact no_some h
    | succ n ih =>
      intro σ x2 h H locs hw ls hl
      rw [f_X7_readStocks_b2] at h
      refine lv_iload_n C.1 C.2.1 dX7_readStocks_2 rfl (lv_at hl 2 rfl) ?_
      refine lv_bipush (v := 30) C.1 C.2.1 dX7_readStocks_3 (by decide) ?_
      refine lv_icmp_gt (tgt := 33) C.1 C.2.1 dX7_readStocks_5 (by decide) (fun c1 => ?_) (fun c1 => ?_)
      · have h := ite_t c1 h
        refine lv_iconst (v := 1) C.1 C.2.1 dX7_readStocks_33 (by decide) ?_
        exact r_zret C hr hlk hw rfl (Prod.mk.inj (Option.some.inj h)).1 (Prod.mk.inj (Option.some.inj h)).2 dX7_readStocks_34
      · have h := ite_f c1 h
        refine lv_aload_n C.1 C.2.1 dX7_readStocks_8 rfl (lv_at hl 0 rfl) ?_
        refine r_get (v := .int (σ.1 1 2)) C hw l_1 vc_7 kX7 2 rfl (by decide) gw_179 rfl dX7_readStocks_9 ?_
        refine lv_bipush (v := (-7)) C.1 C.2.1 dX7_readStocks_12 (by decide) ?_
        refine lv_icmp_ne (tgt := 33) C.1 C.2.1 dX7_readStocks_14 (by decide) (fun c2 => ?_) (fun c2 => ?_)
        · have h := ite_f c2 h
          refine lv_iconst (v := 1) C.1 C.2.1 dX7_readStocks_33 (by decide) ?_
          exact r_zret C hr hlk hw rfl (Prod.mk.inj (Option.some.inj h)).1 (Prod.mk.inj (Option.some.inj h)).2 dX7_readStocks_34
        · have h := ite_t c2 h
          refine lv_aload_n C.1 C.2.1 dX7_readStocks_17 rfl (lv_at hl 0 rfl) ?_
          refine lv_aload_n C.1 C.2.1 dX7_readStocks_18 rfl (lv_at hl 1 rfl) ?_
          obtain ⟨q3, eq3, h⟩ := bnd h
          refine r_callV (As := [.ref (X.2.1 g1)]) C hw (ok_X7_readStock X l σ g1 hg1 _ _ eq3) l_1 vc_7 gw_594 gw_591 gw_593 gw_20 gw_115 hl.1 pd_X7_readStock ⟨Nat.le_of_ble_eq_true rfl, Nat.le_of_ble_eq_true rfl⟩ ⟨Nat.le_refl 0, Nat.le_refl 0⟩ (rest := []) (Nat.le_of_ble_eq_true rfl) dX7_readStocks_19 rfl (fun H locs hw => ?_)
          refine lv_if_ne (tgt := 27) C.1 C.2.1 dX7_readStocks_22 (by decide) (fun c4 => ?_) (fun c4 => ?_)
          · have h := ite_f c4 h
            obtain ⟨v5, ev5, h⟩ := nm_d h
            refine lv_iinc (v := v5) (lv' := [(2, .int v5), (0, .ref (X.2.1 1)), (1, .ref (X.2.1 g1))]) C.1 C.2.1 dX7_readStocks_27 hl (k := 2) rfl (by rw [ev5]; rfl) (by decide) rfl (fun ls hl => ?_)
            refine lv_goto (tgt := 2) C.1 C.2.1 dX7_readStocks_30 (by decide) ?_
            exact ih q3.2 v5 h _ _ hw ls (lv_sub hl [1, 2, 0] rfl)
          · have h := ite_t c4 h
            refine lv_iconst (v := 0) C.1 C.2.1 dX7_readStocks_25 (by decide) ?_
            exact r_zret C hr hlk hw rfl (Prod.mk.inj (Option.some.inj h)).1 (Prod.mk.inj (Option.some.inj h)).2 dX7_readStocks_26
  rw [f_X7_readStocks] at h
  refine lv_iconst (v := 0) C.1 C.2.1 dX7_readStocks_0 (by decide) ?_
  refine lv_istore_n (lv' := [(2, .int 0), (0, .ref (X.2.1 1)), (1, .ref (X.2.1 g1))]) C.1 C.2.1 dX7_readStocks_1 rfl hl (by decide) rfl (fun ls hl => ?_)
  exact b2 10000 σ 0 h _ _ hw ls (lv_sub hl [1, 2, 0] rfl)
def f_X8_legOf (σ : St) (a0 : Int32) (a1 : Int32) : Int32 :=
  (2 * a0) + a1
set_option maxRecDepth 100000 in
set_option maxHeartbeats 4000000 in
theorem ok_X8_legOf (X : Xc) (l : Launch) (σ : St) (a0 : Int32) (a1 : Int32) (r : Int32) (h : f_X8_legOf σ a0 a1 = r) : Ok X l yX8_legOf cX8_legOf 2 (some .int) 0 0 [.int a0, .int a1] σ (some (.int r)) σ := by
  refine Ok.of (by decide) (Nat.le_of_ble_eq_true rfl) ?_
  intro p e s m args below meth c C hr hlk hw ls hl
  have C : Cx p s m args c X cX8_legOf 2 "RunningCount" := C
  have hl : lv_has ls 2 [(0, .int a0), (1, .int a1)] := hl
  rw [f_X8_legOf] at h
  refine lv_iconst (v := 2) C.1 C.2.1 dX8_legOf_0 (by decide) ?_
  refine lv_iload_n C.1 C.2.1 dX8_legOf_1 rfl (lv_at hl 0 rfl) ?_
  refine lv_imul C.1 C.2.1 dX8_legOf_2 ?_
  refine lv_iload_n C.1 C.2.1 dX8_legOf_3 rfl (lv_at hl 1 rfl) ?_
  refine lv_iadd C.1 C.2.1 dX8_legOf_4 ?_
  exact r_iret C hr hlk hw h rfl dX8_legOf_5
def f_X4_setLeg (σ : St) (g0 : Nat) (a1 : Int32) (a2 : Int32) (a3 : Int32) (a4 : Int32) : Option St :=
  if a1 < 0 then (some σ) else (if 80 ≤ a1 then (some σ) else ((wr σ (g0 + 6) 80 a1 a2).bind fun σ3 => (wr σ3 (g0 + 7) 80 a1 a3).bind fun σ4 => (wr σ4 (g0 + 8) 80 a1 a4).bind fun σ5 => some σ5))
set_option maxRecDepth 100000 in
set_option maxHeartbeats 4000000 in
theorem ok_X4_setLeg (X : Xc) (l : Launch) (σ : St) (g0 : Nat) (a1 : Int32) (a2 : Int32) (a3 : Int32) (a4 : Int32) (hg0 : isG g0) (σ' : St) (h : f_X4_setLeg σ g0 a1 a2 a3 a4 = some σ') : Ok X l yX4_setLeg cX4_setLeg 5 none 0 0 [.ref (X.2.1 g0), .int a1, .int a2, .int a3, .int a4] σ none σ' := by
  refine Ok.of (by decide) (Nat.le_of_ble_eq_true rfl) ?_
  intro p e s m args below meth c C hr hlk hw ls hl
  have C : Cx p s m args c X cX4_setLeg 5 "RunningCount$Goods" := C
  have hl : lv_has ls 5 [(0, .ref (X.2.1 g0)), (1, .int a1), (2, .int a2), (3, .int a3), (4, .int a4)] := hl
  rw [f_X4_setLeg] at h
  refine lv_iload_n C.1 C.2.1 dX4_setLeg_0 rfl (lv_at hl 1 rfl) ?_
  refine lv_if_lt (tgt := 32) C.1 C.2.1 dX4_setLeg_1 (by decide) (fun c1 => ?_) (fun c1 => ?_)
  · have h := ite_t c1 h
    exact r_vret C hr hlk hw (Option.some.inj h) dX4_setLeg_32
  · have h := ite_f c1 h
    refine lv_iload_n C.1 C.2.1 dX4_setLeg_4 rfl (lv_at hl 1 rfl) ?_
    refine lv_bipush (v := 80) C.1 C.2.1 dX4_setLeg_5 (by decide) ?_
    refine lv_icmp_ge (tgt := 32) C.1 C.2.1 dX4_setLeg_7 (by decide) (fun c2 => ?_) (fun c2 => ?_)
    · have h := ite_t c2 h
      exact r_vret C hr hlk hw (Option.some.inj h) dX4_setLeg_32
    · have h := ite_f c2 h
      refine lv_aload_n C.1 C.2.1 dX4_setLeg_10 rfl (lv_at hl 0 rfl) ?_
      refine r_get (v := .ref (X.2.1 (g0 + 6))) C hw (lg_0 hg0) vc_4 kX4 8 rfl (by decide) gw_232 rfl dX4_setLeg_11 ?_
      refine lv_iload_n C.1 C.2.1 dX4_setLeg_14 rfl (lv_at hl 1 rfl) ?_
      refine lv_iload_n C.1 C.2.1 dX4_setLeg_15 rfl (lv_at hl 2 rfl) ?_
      obtain ⟨σ3, eσ3, h⟩ := bnd h
      refine r_ast C hw (lg_6 hg0) eσ3 dX4_setLeg_16 (fun H locs hw => ?_)
      refine lv_aload_n C.1 C.2.1 dX4_setLeg_17 rfl (lv_at hl 0 rfl) ?_
      refine r_get (v := .ref (X.2.1 (g0 + 7))) C hw (lg_0 hg0) vc_4 kX4 9 rfl (by decide) gw_235 rfl dX4_setLeg_18 ?_
      refine lv_iload_n C.1 C.2.1 dX4_setLeg_21 rfl (lv_at hl 1 rfl) ?_
      refine lv_iload_n C.1 C.2.1 dX4_setLeg_22 rfl (lv_at hl 3 rfl) ?_
      obtain ⟨σ4, eσ4, h⟩ := bnd h
      refine r_ast C hw (lg_7 hg0) eσ4 dX4_setLeg_23 (fun H locs hw => ?_)
      refine lv_aload_n C.1 C.2.1 dX4_setLeg_24 rfl (lv_at hl 0 rfl) ?_
      refine r_get (v := .ref (X.2.1 (g0 + 8))) C hw (lg_0 hg0) vc_4 kX4 10 rfl (by decide) gw_237 rfl dX4_setLeg_25 ?_
      refine lv_iload_n C.1 C.2.1 dX4_setLeg_28 rfl (lv_at hl 1 rfl) ?_
      refine lv_iload C.1 C.2.1 dX4_setLeg_29 (lv_at hl 4 rfl) ?_
      obtain ⟨σ5, eσ5, h⟩ := bnd h
      refine r_ast C hw (lg_8 hg0) eσ5 dX4_setLeg_31 (fun H locs hw => ?_)
      exact r_vret C hr hlk hw (Option.some.inj h) dX4_setLeg_32
def f_X4_removeLeg (σ : St) (g0 : Nat) (a1 : Int32) : Option St :=
  (f_X4_setLeg σ g0 a1 (-1) (-1) (-1)).bind fun q1 => some q1
set_option maxRecDepth 100000 in
set_option maxHeartbeats 4000000 in
theorem ok_X4_removeLeg (X : Xc) (l : Launch) (σ : St) (g0 : Nat) (a1 : Int32) (hg0 : isG g0) (σ' : St) (h : f_X4_removeLeg σ g0 a1 = some σ') : Ok X l yX4_removeLeg cX4_removeLeg 2 none 1 24 [.ref (X.2.1 g0), .int a1] σ none σ' := by
  refine Ok.of (by decide) (Nat.le_of_ble_eq_true rfl) ?_
  intro p e s m args below meth c C hr hlk hw ls hl
  have C : Cx p s m args c X cX4_removeLeg 2 "RunningCount$Goods" := C
  have hl : lv_has ls 2 [(0, .ref (X.2.1 g0)), (1, .int a1)] := hl
  rw [f_X4_removeLeg] at h
  refine lv_aload_n C.1 C.2.1 dX4_removeLeg_0 rfl (lv_at hl 0 rfl) ?_
  refine lv_iload_n C.1 C.2.1 dX4_removeLeg_1 rfl (lv_at hl 1 rfl) ?_
  refine lv_iconst (v := (-1)) C.1 C.2.1 dX4_removeLeg_2 (by decide) ?_
  refine lv_iconst (v := (-1)) C.1 C.2.1 dX4_removeLeg_3 (by decide) ?_
  refine lv_iconst (v := (-1)) C.1 C.2.1 dX4_removeLeg_4 (by decide) ?_
  obtain ⟨q1, eq1, h⟩ := bnd h
  refine r_callV (As := [.int a1, .int (-1), .int (-1), .int (-1)]) C hw (ok_X4_setLeg X l σ g0 a1 (-1) (-1) (-1) hg0 _ eq1) (lg_0 hg0) vc_4 gw_640 gw_637 gw_639 gw_30 gw_117 hl.1 pd_X4_setLeg ⟨Nat.le_of_ble_eq_true rfl, Nat.le_of_ble_eq_true rfl⟩ ⟨Nat.le_refl 0, Nat.le_refl 0⟩ (rest := []) (Nat.le_of_ble_eq_true rfl) dX4_removeLeg_5 rfl (fun H locs hw => ?_)
  exact r_vret C hr hlk hw (Option.some.inj h) dX4_removeLeg_8
def f_X4_addMove (σ : St) (g0 : Nat) (a1 : Int32) (a2 : Int32) : Option (Int32 × St) :=
  if (σ.1 g0 2) < 40 then (nm (σ.1 g0 2) fun v2 => (wr σ (g0 + 4) 40 v2 a1).bind fun σ3 => (wr σ3 (g0 + 5) 40 v2 a2).bind fun σ4 => (f_X4_removeLeg σ4 g0 (f_X8_legOf σ4 v2 0)).bind fun q6 => (f_X4_removeLeg q6 g0 (f_X8_legOf q6 v2 1)).bind fun q8 => nm (upI q8 g0 2 ((q8.1 g0 2) + 1)) fun σ9 => some (v2, σ9)) else (some ((-1), σ))
set_option maxRecDepth 100000 in
set_option maxHeartbeats 4000000 in
theorem ok_X4_addMove (X : Xc) (l : Launch) (σ : St) (g0 : Nat) (a1 : Int32) (a2 : Int32) (hg0 : isG g0) (r : Int32) (σ' : St) (h : f_X4_addMove σ g0 a1 a2 = some (r, σ')) : Ok X l yX4_addMove cX4_addMove 4 (some .int) 2 45 [.ref (X.2.1 g0), .int a1, .int a2] σ (some (.int r)) σ' := by
  refine Ok.of (by decide) (Nat.le_of_ble_eq_true rfl) ?_
  intro p e s m args below meth c C hr hlk hw ls hl
  have C : Cx p s m args c X cX4_addMove 4 "RunningCount$Goods" := C
  have hl : lv_has ls 4 [(0, .ref (X.2.1 g0)), (1, .int a1), (2, .int a2)] := hl
  rw [f_X4_addMove] at h
  refine lv_aload_n C.1 C.2.1 dX4_addMove_0 rfl (lv_at hl 0 rfl) ?_
  refine r_get (v := .int (σ.1 g0 2)) C hw (lg_0 hg0) vc_4 kX4 2 rfl (by decide) gw_217 rfl dX4_addMove_1 ?_
  refine lv_bipush (v := 40) C.1 C.2.1 dX4_addMove_4 (by decide) ?_
  refine lv_icmp_lt (tgt := 11) C.1 C.2.1 dX4_addMove_6 (by decide) (fun c1 => ?_) (fun c1 => ?_)
  · have h := ite_t c1 h
    refine lv_aload_n C.1 C.2.1 dX4_addMove_11 rfl (lv_at hl 0 rfl) ?_
    refine r_get (v := .int (σ.1 g0 2)) C hw (lg_0 hg0) vc_4 kX4 2 rfl (by decide) gw_217 rfl dX4_addMove_12 ?_
    obtain ⟨v2, ev2, h⟩ := nm_d h
    refine lv_nm ev2 ?_
    refine lv_istore_n (lv' := [(3, .int v2), (0, .ref (X.2.1 g0)), (1, .int a1), (2, .int a2)]) C.1 C.2.1 dX4_addMove_15 rfl hl (by decide) rfl (fun ls hl => ?_)
    refine lv_aload_n C.1 C.2.1 dX4_addMove_16 rfl (lv_at hl 1 rfl) ?_
    refine r_get (v := .ref (X.2.1 (g0 + 4))) C hw (lg_0 hg0) vc_4 kX4 6 rfl (by decide) gw_226 rfl dX4_addMove_17 ?_
    refine lv_iload_n C.1 C.2.1 dX4_addMove_20 rfl (lv_at hl 0 rfl) ?_
    refine lv_iload_n C.1 C.2.1 dX4_addMove_21 rfl (lv_at hl 2 rfl) ?_
    obtain ⟨σ3, eσ3, h⟩ := bnd h
    refine r_ast C hw (lg_4 hg0) eσ3 dX4_addMove_22 (fun H locs hw => ?_)
    refine lv_aload_n C.1 C.2.1 dX4_addMove_23 rfl (lv_at hl 1 rfl) ?_
    refine r_get (v := .ref (X.2.1 (g0 + 5))) C hw (lg_0 hg0) vc_4 kX4 7 rfl (by decide) gw_229 rfl dX4_addMove_24 ?_
    refine lv_iload_n C.1 C.2.1 dX4_addMove_27 rfl (lv_at hl 0 rfl) ?_
    refine lv_iload_n C.1 C.2.1 dX4_addMove_28 rfl (lv_at hl 3 rfl) ?_
    obtain ⟨σ4, eσ4, h⟩ := bnd h
    refine r_ast C hw (lg_5 hg0) eσ4 dX4_addMove_29 (fun H locs hw => ?_)
    refine lv_aload_n C.1 C.2.1 dX4_addMove_30 rfl (lv_at hl 1 rfl) ?_
    refine lv_iload_n C.1 C.2.1 dX4_addMove_31 rfl (lv_at hl 0 rfl) ?_
    refine lv_iconst (v := 0) C.1 C.2.1 dX4_addMove_32 (by decide) ?_
    refine r_callSN (As := [.int v2, .int 0]) C hw (ok_X8_legOf X l σ4 v2 0 _ rfl) gw_632 nw_630 gw_631 gw_114 hl.1 pd_X8_legOf ⟨Nat.le_of_ble_eq_true rfl, Nat.le_of_ble_eq_true rfl⟩ ⟨Nat.le_refl 0, Nat.le_refl 0⟩ (rest := [.ref (X.2.1 g0)]) (Nat.le_of_ble_eq_true rfl) dX4_addMove_33 rfl (fun H locs hw => ?_)
    obtain ⟨q6, eq6, h⟩ := bnd h
    refine r_callV (As := [.int (f_X8_legOf σ4 v2 0)]) C hw (ok_X4_removeLeg X l σ4 g0 (f_X8_legOf σ4 v2 0) hg0 _ eq6) (lg_0 hg0) vc_4 gw_636 gw_633 gw_635 gw_29 gw_117 hl.1 pd_X4_removeLeg ⟨Nat.le_of_ble_eq_true rfl, Nat.le_of_ble_eq_true rfl⟩ ⟨Nat.le_refl 0, Nat.le_refl 0⟩ (rest := []) (Nat.le_of_ble_eq_true rfl) dX4_addMove_36 rfl (fun H locs hw => ?_)
    refine lv_aload_n C.1 C.2.1 dX4_addMove_39 rfl (lv_at hl 1 rfl) ?_
    refine lv_iload_n C.1 C.2.1 dX4_addMove_40 rfl (lv_at hl 0 rfl) ?_
    refine lv_iconst (v := 1) C.1 C.2.1 dX4_addMove_41 (by decide) ?_
    refine r_callSN (As := [.int v2, .int 1]) C hw (ok_X8_legOf X l q6 v2 1 _ rfl) gw_632 nw_630 gw_631 gw_114 hl.1 pd_X8_legOf ⟨Nat.le_of_ble_eq_true rfl, Nat.le_of_ble_eq_true rfl⟩ ⟨Nat.le_refl 0, Nat.le_refl 0⟩ (rest := [.ref (X.2.1 g0)]) (Nat.le_of_ble_eq_true rfl) dX4_addMove_42 rfl (fun H locs hw => ?_)
    obtain ⟨q8, eq8, h⟩ := bnd h
    refine r_callV (As := [.int (f_X8_legOf q6 v2 1)]) C hw (ok_X4_removeLeg X l q6 g0 (f_X8_legOf q6 v2 1) hg0 _ eq8) (lg_0 hg0) vc_4 gw_636 gw_633 gw_635 gw_29 gw_117 hl.1 pd_X4_removeLeg ⟨Nat.le_of_ble_eq_true rfl, Nat.le_of_ble_eq_true rfl⟩ ⟨Nat.le_refl 0, Nat.le_refl 0⟩ (rest := []) (Nat.le_of_ble_eq_true rfl) dX4_addMove_45 rfl (fun H locs hw => ?_)
    refine lv_aload_n C.1 C.2.1 dX4_addMove_48 rfl (lv_at hl 1 rfl) ?_
    refine lv_dup C.1 C.2.1 dX4_addMove_49 rfl ?_
    refine r_get (v := .int (q8.1 g0 2)) C hw (lg_0 hg0) vc_4 kX4 2 rfl (by decide) gw_217 rfl dX4_addMove_50 ?_
    refine lv_iconst (v := 1) C.1 C.2.1 dX4_addMove_53 (by decide) ?_
    refine lv_iadd C.1 C.2.1 dX4_addMove_54 ?_
    obtain ⟨σ9, eσ9, h⟩ := nm_d h
    refine r_put C hw (lg_0 hg0) vc_4 kX4 tyX4 tyX4_ok nmX4 2 (by decide) (by decide) gw_217 rfl rfl rfl (put_i (lg_0 hg0) rfl eσ9) dX4_addMove_55 (fun H locs hw => ?_)
    refine lv_iload_n C.1 C.2.1 dX4_addMove_58 rfl (lv_at hl 0 rfl) ?_
    exact r_iret C hr hlk hw (Prod.mk.inj (Option.some.inj h)).1 (Prod.mk.inj (Option.some.inj h)).2 dX4_addMove_59
  · have h := ite_f c1 h
    refine lv_iconst (v := (-1)) C.1 C.2.1 dX4_addMove_9 (by decide) ?_
    exact r_iret C hr hlk hw (Prod.mk.inj (Option.some.inj h)).1 (Prod.mk.inj (Option.some.inj h)).2 dX4_addMove_10
def f_X7_readLeg (σ : St) (g1 : Nat) (a2 : Int32) (a3 : Int32) : Option (Bool × St) :=
  (f_X7_take σ a2).bind fun q1 => if (b2i q1.1) = 0 then (some (false, q1.2)) else ((f_X7_takeNumber q1.2 0 ((q1.2.1 g1 0) - 1)).bind fun q3 => if (b2i q3.1) = 0 then (some (false, q3.2)) else (nm (q3.2.1 1 4) fun v5 => (f_X7_takeNumber q3.2 0 999).bind fun q6 => if (b2i q6.1) = 0 then (some (false, q6.2)) else (nm (q6.2.1 1 4) fun v8 => (f_X7_takeNumber q6.2 v8 999).bind fun q9 => if (b2i q9.1) = 0 then (some (false, q9.2)) else ((f_X4_setLeg q9.2 g1 a3 v5 v8 (q9.2.1 1 4)).bind fun q11 => some (true, q11)))))
set_option maxRecDepth 100000 in
set_option maxHeartbeats 4000000 in
theorem ok_X7_readLeg (X : Xc) (l : Launch) (σ : St) (g1 : Nat) (a2 : Int32) (a3 : Int32) (hg1 : isG g1) (r : Bool) (σ' : St) (h : f_X7_readLeg σ g1 a2 a3 = some (r, σ')) : Ok X l yX7_readLeg cX7_readLeg 6 (some .boolean) 2 43 [.ref (X.2.1 1), .ref (X.2.1 g1), .int a2, .int a3] σ (some (.int (b2i r))) σ' := by
  refine Ok.of (by decide) (Nat.le_of_ble_eq_true rfl) ?_
  intro p e s m args below meth c C hr hlk hw ls hl
  have C : Cx p s m args c X cX7_readLeg 6 "RunningCount$TextReader" := C
  have hl : lv_has ls 6 [(0, .ref (X.2.1 1)), (1, .ref (X.2.1 g1)), (2, .int a2), (3, .int a3)] := hl
  rw [f_X7_readLeg] at h
  refine lv_aload_n C.1 C.2.1 dX7_readLeg_0 rfl (lv_at hl 0 rfl) ?_
  refine lv_iload_n C.1 C.2.1 dX7_readLeg_1 rfl (lv_at hl 2 rfl) ?_
  obtain ⟨q1, eq1, h⟩ := bnd h
  refine r_callV (As := [.int a2]) C hw (ok_X7_take X l σ a2 _ _ eq1) l_1 vc_7 gw_562 gw_559 gw_561 gw_12 gw_115 hl.1 pd_X7_take ⟨Nat.le_of_ble_eq_true rfl, Nat.le_of_ble_eq_true rfl⟩ ⟨Nat.le_refl 0, Nat.le_refl 0⟩ (rest := []) (Nat.le_of_ble_eq_true rfl) dX7_readLeg_2 rfl (fun H locs hw => ?_)
  refine lv_if_eq (tgt := 22) C.1 C.2.1 dX7_readLeg_5 (by decide) (fun c2 => ?_) (fun c2 => ?_)
  · have h := ite_t c2 h
    refine lv_iconst (v := 0) C.1 C.2.1 dX7_readLeg_22 (by decide) ?_
    exact r_zret C hr hlk hw rfl (Prod.mk.inj (Option.some.inj h)).1 (Prod.mk.inj (Option.some.inj h)).2 dX7_readLeg_23
  · have h := ite_f c2 h
    refine lv_aload_n C.1 C.2.1 dX7_readLeg_8 rfl (lv_at hl 0 rfl) ?_
    refine lv_iconst (v := 0) C.1 C.2.1 dX7_readLeg_9 (by decide) ?_
    refine lv_aload_n C.1 C.2.1 dX7_readLeg_10 rfl (lv_at hl 1 rfl) ?_
    refine r_getN (v := .int (q1.2.1 g1 0)) C hw (lg_0 hg1) vc_4 kX4 0 rfl (by decide) nw_212 rfl dX7_readLeg_11 ?_
    refine lv_iconst (v := 1) C.1 C.2.1 dX7_readLeg_14 (by decide) ?_
    refine lv_isub C.1 C.2.1 dX7_readLeg_15 ?_
    obtain ⟨q3, eq3, h⟩ := bnd h
    refine r_callV (As := [.int 0, .int ((q1.2.1 g1 0) - 1)]) C hw (ok_X7_takeNumber X l q1.2 0 ((q1.2.1 g1 0) - 1) _ _ eq3) l_1 vc_7 gw_570 gw_567 gw_569 gw_14 gw_115 hl.1 pd_X7_takeNumber ⟨Nat.le_of_ble_eq_true rfl, Nat.le_of_ble_eq_true rfl⟩ ⟨Nat.le_refl 0, Nat.le_refl 0⟩ (rest := []) (Nat.le_of_ble_eq_true rfl) dX7_readLeg_16 rfl (fun H locs hw => ?_)
    refine lv_if_ne (tgt := 24) C.1 C.2.1 dX7_readLeg_19 (by decide) (fun c4 => ?_) (fun c4 => ?_)
    · have h := ite_f c4 h
      refine lv_aload_n C.1 C.2.1 dX7_readLeg_24 rfl (lv_at hl 0 rfl) ?_
      refine r_get (v := .int (q3.2.1 1 4)) C hw l_1 vc_7 kX7 4 rfl (by decide) gw_181 rfl dX7_readLeg_25 ?_
      obtain ⟨v5, ev5, h⟩ := nm_d h
      refine lv_nm ev5 ?_
      refine lv_istore (lv' := [(4, .int v5), (0, .ref (X.2.1 1)), (1, .ref (X.2.1 g1)), (2, .int a2), (3, .int a3)]) C.1 C.2.1 dX7_readLeg_28 hl (by decide) rfl (fun ls hl => ?_)
      refine lv_aload_n C.1 C.2.1 dX7_readLeg_30 rfl (lv_at hl 1 rfl) ?_
      refine lv_iconst (v := 0) C.1 C.2.1 dX7_readLeg_31 (by decide) ?_
      refine lv_sipush (v := 999) C.1 C.2.1 dX7_readLeg_32 (by decide) ?_
      obtain ⟨q6, eq6, h⟩ := bnd h
      refine r_callV (As := [.int 0, .int 999]) C hw (ok_X7_takeNumber X l q3.2 0 999 _ _ eq6) l_1 vc_7 gw_570 gw_567 gw_569 gw_14 gw_115 hl.1 pd_X7_takeNumber ⟨Nat.le_of_ble_eq_true rfl, Nat.le_of_ble_eq_true rfl⟩ ⟨Nat.le_refl 0, Nat.le_refl 0⟩ (rest := []) (Nat.le_of_ble_eq_true rfl) dX7_readLeg_35 rfl (fun H locs hw => ?_)
      refine lv_if_ne (tgt := 43) C.1 C.2.1 dX7_readLeg_38 (by decide) (fun c7 => ?_) (fun c7 => ?_)
      · have h := ite_f c7 h
        refine lv_aload_n C.1 C.2.1 dX7_readLeg_43 rfl (lv_at hl 1 rfl) ?_
        refine r_get (v := .int (q6.2.1 1 4)) C hw l_1 vc_7 kX7 4 rfl (by decide) gw_181 rfl dX7_readLeg_44 ?_
        obtain ⟨v8, ev8, h⟩ := nm_d h
        refine lv_nm ev8 ?_
        refine lv_istore (lv' := [(5, .int v8), (4, .int v5), (0, .ref (X.2.1 1)), (1, .ref (X.2.1 g1)), (2, .int a2), (3, .int a3)]) C.1 C.2.1 dX7_readLeg_47 hl (by decide) rfl (fun ls hl => ?_)
        refine lv_aload_n C.1 C.2.1 dX7_readLeg_49 rfl (lv_at hl 2 rfl) ?_
        refine lv_iload C.1 C.2.1 dX7_readLeg_50 (lv_at hl 0 rfl) ?_
        refine lv_sipush (v := 999) C.1 C.2.1 dX7_readLeg_52 (by decide) ?_
        obtain ⟨q9, eq9, h⟩ := bnd h
        refine r_callV (As := [.int v8, .int 999]) C hw (ok_X7_takeNumber X l q6.2 v8 999 _ _ eq9) l_1 vc_7 gw_570 gw_567 gw_569 gw_14 gw_115 hl.1 pd_X7_takeNumber ⟨Nat.le_of_ble_eq_true rfl, Nat.le_of_ble_eq_true rfl⟩ ⟨Nat.le_refl 0, Nat.le_refl 0⟩ (rest := []) (Nat.le_of_ble_eq_true rfl) dX7_readLeg_55 rfl (fun H locs hw => ?_)
        refine lv_if_ne (tgt := 63) C.1 C.2.1 dX7_readLeg_58 (by decide) (fun c10 => ?_) (fun c10 => ?_)
        · have h := ite_f c10 h
          refine lv_aload_n C.1 C.2.1 dX7_readLeg_63 rfl (lv_at hl 3 rfl) ?_
          refine lv_iload_n C.1 C.2.1 dX7_readLeg_64 rfl (lv_at hl 5 rfl) ?_
          refine lv_iload C.1 C.2.1 dX7_readLeg_65 (lv_at hl 1 rfl) ?_
          refine lv_iload C.1 C.2.1 dX7_readLeg_67 (lv_at hl 0 rfl) ?_
          refine lv_aload_n C.1 C.2.1 dX7_readLeg_69 rfl (lv_at hl 2 rfl) ?_
          refine r_get (v := .int (q9.2.1 1 4)) C hw l_1 vc_7 kX7 4 rfl (by decide) gw_181 rfl dX7_readLeg_70 ?_
          obtain ⟨q11, eq11, h⟩ := bnd h
          refine r_callVN (As := [.int a3, .int v5, .int v8, .int (q9.2.1 1 4)]) C hw (ok_X4_setLeg X l q9.2 g1 a3 v5 v8 (q9.2.1 1 4) hg1 _ eq11) (lg_0 hg1) vc_4 gw_640 nw_646 gw_639 gw_30 gw_117 hl.1 pd_X4_setLeg ⟨Nat.le_of_ble_eq_true rfl, Nat.le_of_ble_eq_true rfl⟩ ⟨Nat.le_refl 0, Nat.le_refl 0⟩ (rest := []) (Nat.le_of_ble_eq_true rfl) dX7_readLeg_73 rfl (fun H locs hw => ?_)
          refine lv_iconst (v := 1) C.1 C.2.1 dX7_readLeg_76 (by decide) ?_
          exact r_zret C hr hlk hw rfl (Prod.mk.inj (Option.some.inj h)).1 (Prod.mk.inj (Option.some.inj h)).2 dX7_readLeg_77
        · have h := ite_t c10 h
          refine lv_iconst (v := 0) C.1 C.2.1 dX7_readLeg_61 (by decide) ?_
          exact r_zret C hr hlk hw rfl (Prod.mk.inj (Option.some.inj h)).1 (Prod.mk.inj (Option.some.inj h)).2 dX7_readLeg_62
      · have h := ite_t c7 h
        refine lv_iconst (v := 0) C.1 C.2.1 dX7_readLeg_41 (by decide) ?_
        exact r_zret C hr hlk hw rfl (Prod.mk.inj (Option.some.inj h)).1 (Prod.mk.inj (Option.some.inj h)).2 dX7_readLeg_42
    · have h := ite_t c4 h
      refine lv_iconst (v := 0) C.1 C.2.1 dX7_readLeg_22 (by decide) ?_
      exact r_zret C hr hlk hw rfl (Prod.mk.inj (Option.some.inj h)).1 (Prod.mk.inj (Option.some.inj h)).2 dX7_readLeg_23
def f_X7_readMove_b78 (g1 : Nat) (σ : St) (x3 : Int32) : Option (Bool × St) :=
  if (σ.1 1 2) = (-10) then ((f_X7_readLeg σ g1 (-10) (f_X8_legOf σ x3 1)).bind fun q13 => if (b2i q13.1) = 0 then (some (false, q13.2)) else ((f_X7_takeLineEnd q13.2).bind fun q15 => some (q15.1, q15.2))) else ((f_X7_takeLineEnd σ).bind fun q11 => some (q11.1, q11.2))
def f_X7_readMove (σ : St) (g1 : Nat) : Option (Bool × St) :=
  (f_X7_take σ (-8)).bind fun q1 => if (b2i q1.1) = 0 then (some (false, q1.2)) else ((f_X7_takeNumber q1.2 0 ((q1.2.1 g1 1) - 1)).bind fun q3 => if (b2i q3.1) = 0 then (some (false, q3.2)) else (nm (q3.2.1 1 4) fun v5 => (f_X7_takeNumber q3.2 1 99).bind fun q6 => if (b2i q6.1) = 0 then (some (false, q6.2)) else ((f_X4_addMove q6.2 g1 v5 (q6.2.1 1 4)).bind fun q8 => if (q8.2.1 1 2) = (-9) then ((f_X7_readLeg q8.2 g1 (-9) (f_X8_legOf q8.2 q8.1 0)).bind fun q17 => if (b2i q17.1) = 0 then (some (false, q17.2)) else (f_X7_readMove_b78 g1 q17.2 q8.1)) else (f_X7_readMove_b78 g1 q8.2 q8.1))))
set_option maxRecDepth 100000 in
set_option maxHeartbeats 4000000 in
theorem ok_X7_readMove (X : Xc) (l : Launch) (σ : St) (g1 : Nat) (hg1 : isG g1) (r : Bool) (σ' : St) (h : f_X7_readMove σ g1 = some (r, σ')) : Ok X l yX7_readMove cX7_readMove 4 (some .boolean) 3 68 [.ref (X.2.1 1), .ref (X.2.1 g1)] σ (some (.int (b2i r))) σ' := by
  refine Ok.of (by decide) (Nat.le_of_ble_eq_true rfl) ?_
  intro p e s m args below meth c C hr hlk hw ls hl
  have C : Cx p s m args c X cX7_readMove 4 "RunningCount$TextReader" := C
  have hl : lv_has ls 4 [(0, .ref (X.2.1 1)), (1, .ref (X.2.1 g1))] := hl
  have b78 : ∀ (σ : St) (x3 : Int32), f_X7_readMove_b78 g1 σ x3 = some (r, σ') → ∀ (H : Heap) (locs : List Loc), At X σ s.heap H locs → ∀ ls : Array Slot, lv_has ls 4 [(0, .ref (X.2.1 1)), (1, .ref (X.2.1 g1)), (3, .int x3)] → W p l e (rmX 3 68) s m args below meth c H locs 0 0 (Zq X below s args (some (.int (b2i r))) σ') (F0 m 78 ls []) := by
    intro σ x3 h H locs hw ls hl
    rw [f_X7_readMove_b78] at h
    refine lv_aload_n C.1 C.2.1 dX7_readMove_78 rfl (lv_at hl 0 rfl) ?_
    refine r_get (v := .int (σ.1 1 2)) C hw l_1 vc_7 kX7 2 rfl (by decide) gw_179 rfl dX7_readMove_79 ?_
    refine lv_bipush (v := (-10)) C.1 C.2.1 dX7_readMove_82 (by decide) ?_
    refine lv_icmp_ne (tgt := 104) C.1 C.2.1 dX7_readMove_84 (by decide) (fun c10 => ?_) (fun c10 => ?_)
    · have h := ite_f c10 h
      refine lv_aload_n C.1 C.2.1 dX7_readMove_104 rfl (lv_at hl 0 rfl) ?_
      obtain ⟨q11, eq11, h⟩ := bnd h
      refine r_callV (As := []) C hw (ok_X7_takeLineEnd X l σ _ _ eq11) l_1 vc_7 gw_574 gw_571 gw_573 gw_15 gw_115 hl.1 pd_X7_takeLineEnd ⟨Nat.le_of_ble_eq_true rfl, Nat.le_of_ble_eq_true rfl⟩ ⟨Nat.le_refl 0, Nat.le_refl 0⟩ (rest := []) (Nat.le_of_ble_eq_true rfl) dX7_readMove_105 rfl (fun H locs hw => ?_)
      exact r_zret C hr hlk hw rfl (Prod.mk.inj (Option.some.inj h)).1 (Prod.mk.inj (Option.some.inj h)).2 dX7_readMove_108
    · have h := ite_t c10 h
      refine lv_aload_n C.1 C.2.1 dX7_readMove_87 rfl (lv_at hl 0 rfl) ?_
      refine lv_aload_n C.1 C.2.1 dX7_readMove_88 rfl (lv_at hl 1 rfl) ?_
      refine lv_bipush (v := (-10)) C.1 C.2.1 dX7_readMove_89 (by decide) ?_
      refine lv_iload_n C.1 C.2.1 dX7_readMove_91 rfl (lv_at hl 2 rfl) ?_
      refine lv_iconst (v := 1) C.1 C.2.1 dX7_readMove_92 (by decide) ?_
      refine r_callSN (As := [.int x3, .int 1]) C hw (ok_X8_legOf X l σ x3 1 _ rfl) gw_632 nw_641 gw_631 gw_114 hl.1 pd_X8_legOf ⟨Nat.le_of_ble_eq_true rfl, Nat.le_of_ble_eq_true rfl⟩ ⟨Nat.le_refl 0, Nat.le_refl 0⟩ (rest := [.int (-10), .ref (X.2.1 g1), .ref (X.2.1 1)]) (Nat.le_of_ble_eq_true rfl) dX7_readMove_93 rfl (fun H locs hw => ?_)
      obtain ⟨q13, eq13, h⟩ := bnd h
      refine r_callV (As := [.ref (X.2.1 g1), .int (-10), .int (f_X8_legOf σ x3 1)]) C hw (ok_X7_readLeg X l σ g1 (-10) (f_X8_legOf σ x3 1) hg1 _ _ eq13) l_1 vc_7 gw_645 gw_642 gw_644 gw_31 gw_115 hl.1 pd_X7_readLeg ⟨Nat.le_of_ble_eq_true rfl, Nat.le_of_ble_eq_true rfl⟩ ⟨Nat.le_refl 0, Nat.le_refl 0⟩ (rest := []) (Nat.le_of_ble_eq_true rfl) dX7_readMove_96 rfl (fun H locs hw => ?_)
      refine lv_if_ne (tgt := 104) C.1 C.2.1 dX7_readMove_99 (by decide) (fun c14 => ?_) (fun c14 => ?_)
      · have h := ite_f c14 h
        refine lv_aload_n C.1 C.2.1 dX7_readMove_104 rfl (lv_at hl 0 rfl) ?_
        obtain ⟨q15, eq15, h⟩ := bnd h
        refine r_callV (As := []) C hw (ok_X7_takeLineEnd X l q13.2 _ _ eq15) l_1 vc_7 gw_574 gw_571 gw_573 gw_15 gw_115 hl.1 pd_X7_takeLineEnd ⟨Nat.le_of_ble_eq_true rfl, Nat.le_of_ble_eq_true rfl⟩ ⟨Nat.le_refl 0, Nat.le_refl 0⟩ (rest := []) (Nat.le_of_ble_eq_true rfl) dX7_readMove_105 rfl (fun H locs hw => ?_)
        exact r_zret C hr hlk hw rfl (Prod.mk.inj (Option.some.inj h)).1 (Prod.mk.inj (Option.some.inj h)).2 dX7_readMove_108
      · have h := ite_t c14 h
        refine lv_iconst (v := 0) C.1 C.2.1 dX7_readMove_102 (by decide) ?_
        exact r_zret C hr hlk hw rfl (Prod.mk.inj (Option.some.inj h)).1 (Prod.mk.inj (Option.some.inj h)).2 dX7_readMove_103
  rw [f_X7_readMove] at h
  refine lv_aload_n C.1 C.2.1 dX7_readMove_0 rfl (lv_at hl 0 rfl) ?_
  refine lv_bipush (v := (-8)) C.1 C.2.1 dX7_readMove_1 (by decide) ?_
  obtain ⟨q1, eq1, h⟩ := bnd h
  refine r_callV (As := [.int (-8)]) C hw (ok_X7_take X l σ (-8) _ _ eq1) l_1 vc_7 gw_562 gw_559 gw_561 gw_12 gw_115 hl.1 pd_X7_take ⟨Nat.le_of_ble_eq_true rfl, Nat.le_of_ble_eq_true rfl⟩ ⟨Nat.le_refl 0, Nat.le_refl 0⟩ (rest := []) (Nat.le_of_ble_eq_true rfl) dX7_readMove_3 rfl (fun H locs hw => ?_)
  refine lv_if_eq (tgt := 23) C.1 C.2.1 dX7_readMove_6 (by decide) (fun c2 => ?_) (fun c2 => ?_)
  · have h := ite_t c2 h
    refine lv_iconst (v := 0) C.1 C.2.1 dX7_readMove_23 (by decide) ?_
    exact r_zret C hr hlk hw rfl (Prod.mk.inj (Option.some.inj h)).1 (Prod.mk.inj (Option.some.inj h)).2 dX7_readMove_24
  · have h := ite_f c2 h
    refine lv_aload_n C.1 C.2.1 dX7_readMove_9 rfl (lv_at hl 0 rfl) ?_
    refine lv_iconst (v := 0) C.1 C.2.1 dX7_readMove_10 (by decide) ?_
    refine lv_aload_n C.1 C.2.1 dX7_readMove_11 rfl (lv_at hl 1 rfl) ?_
    refine r_getN (v := .int (q1.2.1 g1 1)) C hw (lg_0 hg1) vc_4 kX4 1 rfl (by decide) nw_215 rfl dX7_readMove_12 ?_
    refine lv_iconst (v := 1) C.1 C.2.1 dX7_readMove_15 (by decide) ?_
    refine lv_isub C.1 C.2.1 dX7_readMove_16 ?_
    obtain ⟨q3, eq3, h⟩ := bnd h
    refine r_callV (As := [.int 0, .int ((q1.2.1 g1 1) - 1)]) C hw (ok_X7_takeNumber X l q1.2 0 ((q1.2.1 g1 1) - 1) _ _ eq3) l_1 vc_7 gw_570 gw_567 gw_569 gw_14 gw_115 hl.1 pd_X7_takeNumber ⟨Nat.le_of_ble_eq_true rfl, Nat.le_of_ble_eq_true rfl⟩ ⟨Nat.le_refl 0, Nat.le_refl 0⟩ (rest := []) (Nat.le_of_ble_eq_true rfl) dX7_readMove_17 rfl (fun H locs hw => ?_)
    refine lv_if_ne (tgt := 25) C.1 C.2.1 dX7_readMove_20 (by decide) (fun c4 => ?_) (fun c4 => ?_)
    · have h := ite_f c4 h
      refine lv_aload_n C.1 C.2.1 dX7_readMove_25 rfl (lv_at hl 0 rfl) ?_
      refine r_get (v := .int (q3.2.1 1 4)) C hw l_1 vc_7 kX7 4 rfl (by decide) gw_181 rfl dX7_readMove_26 ?_
      obtain ⟨v5, ev5, h⟩ := nm_d h
      refine lv_nm ev5 ?_
      refine lv_istore_n (lv' := [(2, .int v5), (0, .ref (X.2.1 1)), (1, .ref (X.2.1 g1))]) C.1 C.2.1 dX7_readMove_29 rfl hl (by decide) rfl (fun ls hl => ?_)
      refine lv_aload_n C.1 C.2.1 dX7_readMove_30 rfl (lv_at hl 1 rfl) ?_
      refine lv_iconst (v := 1) C.1 C.2.1 dX7_readMove_31 (by decide) ?_
      refine lv_bipush (v := 99) C.1 C.2.1 dX7_readMove_32 (by decide) ?_
      obtain ⟨q6, eq6, h⟩ := bnd h
      refine r_callV (As := [.int 1, .int 99]) C hw (ok_X7_takeNumber X l q3.2 1 99 _ _ eq6) l_1 vc_7 gw_570 gw_567 gw_569 gw_14 gw_115 hl.1 pd_X7_takeNumber ⟨Nat.le_of_ble_eq_true rfl, Nat.le_of_ble_eq_true rfl⟩ ⟨Nat.le_refl 0, Nat.le_refl 0⟩ (rest := []) (Nat.le_of_ble_eq_true rfl) dX7_readMove_34 rfl (fun H locs hw => ?_)
      refine lv_if_ne (tgt := 42) C.1 C.2.1 dX7_readMove_37 (by decide) (fun c7 => ?_) (fun c7 => ?_)
      · have h := ite_f c7 h
        refine lv_aload_n C.1 C.2.1 dX7_readMove_42 rfl (lv_at hl 2 rfl) ?_
        refine lv_iload_n C.1 C.2.1 dX7_readMove_43 rfl (lv_at hl 0 rfl) ?_
        refine lv_aload_n C.1 C.2.1 dX7_readMove_44 rfl (lv_at hl 1 rfl) ?_
        refine r_get (v := .int (q6.2.1 1 4)) C hw l_1 vc_7 kX7 4 rfl (by decide) gw_181 rfl dX7_readMove_45 ?_
        obtain ⟨q8, eq8, h⟩ := bnd h
        refine r_callVN (As := [.int v5, .int (q6.2.1 1 4)]) C hw (ok_X4_addMove X l q6.2 g1 v5 (q6.2.1 1 4) hg1 _ _ eq8) (lg_0 hg1) vc_4 gw_629 nw_626 gw_628 gw_28 gw_117 hl.1 pd_X4_addMove ⟨Nat.le_of_ble_eq_true rfl, Nat.le_of_ble_eq_true rfl⟩ ⟨Nat.le_refl 0, Nat.le_refl 0⟩ (rest := []) (Nat.le_of_ble_eq_true rfl) dX7_readMove_48 rfl (fun H locs hw => ?_)
        refine lv_istore_n (lv' := [(3, .int q8.1), (2, .int v5), (0, .ref (X.2.1 1)), (1, .ref (X.2.1 g1))]) C.1 C.2.1 dX7_readMove_51 rfl hl (by decide) rfl (fun ls hl => ?_)
        refine lv_aload_n C.1 C.2.1 dX7_readMove_52 rfl (lv_at hl 2 rfl) ?_
        refine r_get (v := .int (q8.2.1 1 2)) C hw l_1 vc_7 kX7 2 rfl (by decide) gw_179 rfl dX7_readMove_53 ?_
        refine lv_bipush (v := (-9)) C.1 C.2.1 dX7_readMove_56 (by decide) ?_
        refine lv_icmp_ne (tgt := 78) C.1 C.2.1 dX7_readMove_58 (by decide) (fun c9 => ?_) (fun c9 => ?_)
        · have h := ite_f c9 h
          exact b78 q8.2 q8.1 h _ _ hw ls (lv_sub hl [2, 3, 0] rfl)
        · have h := ite_t c9 h
          refine lv_aload_n C.1 C.2.1 dX7_readMove_61 rfl (lv_at hl 2 rfl) ?_
          refine lv_aload_n C.1 C.2.1 dX7_readMove_62 rfl (lv_at hl 3 rfl) ?_
          refine lv_bipush (v := (-9)) C.1 C.2.1 dX7_readMove_63 (by decide) ?_
          refine lv_iload_n C.1 C.2.1 dX7_readMove_65 rfl (lv_at hl 0 rfl) ?_
          refine lv_iconst (v := 0) C.1 C.2.1 dX7_readMove_66 (by decide) ?_
          refine r_callSN (As := [.int q8.1, .int 0]) C hw (ok_X8_legOf X l q8.2 q8.1 0 _ rfl) gw_632 nw_641 gw_631 gw_114 hl.1 pd_X8_legOf ⟨Nat.le_of_ble_eq_true rfl, Nat.le_of_ble_eq_true rfl⟩ ⟨Nat.le_refl 0, Nat.le_refl 0⟩ (rest := [.int (-9), .ref (X.2.1 g1), .ref (X.2.1 1)]) (Nat.le_of_ble_eq_true rfl) dX7_readMove_67 rfl (fun H locs hw => ?_)
          obtain ⟨q17, eq17, h⟩ := bnd h
          refine r_callV (As := [.ref (X.2.1 g1), .int (-9), .int (f_X8_legOf q8.2 q8.1 0)]) C hw (ok_X7_readLeg X l q8.2 g1 (-9) (f_X8_legOf q8.2 q8.1 0) hg1 _ _ eq17) l_1 vc_7 gw_645 gw_642 gw_644 gw_31 gw_115 hl.1 pd_X7_readLeg ⟨Nat.le_of_ble_eq_true rfl, Nat.le_of_ble_eq_true rfl⟩ ⟨Nat.le_refl 0, Nat.le_refl 0⟩ (rest := []) (Nat.le_of_ble_eq_true rfl) dX7_readMove_70 rfl (fun H locs hw => ?_)
          refine lv_if_ne (tgt := 78) C.1 C.2.1 dX7_readMove_73 (by decide) (fun c18 => ?_) (fun c18 => ?_)
          · have h := ite_f c18 h
            exact b78 q17.2 q8.1 h _ _ hw ls (lv_sub hl [2, 3, 0] rfl)
          · have h := ite_t c18 h
            refine lv_iconst (v := 0) C.1 C.2.1 dX7_readMove_76 (by decide) ?_
            exact r_zret C hr hlk hw rfl (Prod.mk.inj (Option.some.inj h)).1 (Prod.mk.inj (Option.some.inj h)).2 dX7_readMove_77
      · have h := ite_t c7 h
        refine lv_iconst (v := 0) C.1 C.2.1 dX7_readMove_40 (by decide) ?_
        exact r_zret C hr hlk hw rfl (Prod.mk.inj (Option.some.inj h)).1 (Prod.mk.inj (Option.some.inj h)).2 dX7_readMove_41
    · have h := ite_t c4 h
      refine lv_iconst (v := 0) C.1 C.2.1 dX7_readMove_23 (by decide) ?_
      exact r_zret C hr hlk hw rfl (Prod.mk.inj (Option.some.inj h)).1 (Prod.mk.inj (Option.some.inj h)).2 dX7_readMove_24
def f_X7_readMoves_b2 (g1 : Nat) : Nat → St → Int32 → Option (Bool × St)
  | 0, _, _ => none
  | n + 1, σ, x2 => if 16 < x2 then (some (true, σ)) else (if (σ.1 1 2) = (-8) then (if (σ.1 g1 2) < 16 then ((f_X7_readMove σ g1).bind fun q4 => if (b2i q4.1) = 0 then (some (false, q4.2)) else (nm (x2 + 1) fun v6 => f_X7_readMoves_b2 g1 n q4.2 v6)) else ((f_X7_fail σ 3).bind fun q7 => some (q7.1, q7.2))) else (some (true, σ)))
def f_X7_readMoves (σ : St) (g1 : Nat) : Option (Bool × St) :=
  f_X7_readMoves_b2 g1 10000 σ 0
set_option maxRecDepth 100000 in
set_option maxHeartbeats 4000000 in
theorem ok_X7_readMoves (X : Xc) (l : Launch) (σ : St) (g1 : Nat) (hg1 : isG g1) (r : Bool) (σ' : St) (h : f_X7_readMoves σ g1 = some (r, σ')) : Ok X l yX7_readMoves cX7_readMoves 3 (some .boolean) 4 91 [.ref (X.2.1 1), .ref (X.2.1 g1)] σ (some (.int (b2i r))) σ' := by
  refine Ok.of (by decide) (Nat.le_of_ble_eq_true rfl) ?_
  intro p e s m args below meth c C hr hlk hw ls hl
  have C : Cx p s m args c X cX7_readMoves 3 "RunningCount$TextReader" := C
  have hl : lv_has ls 3 [(0, .ref (X.2.1 1)), (1, .ref (X.2.1 g1))] := hl
  have b2 : ∀ (n : Nat), ∀ (σ : St) (x2 : Int32), f_X7_readMoves_b2 g1 n σ x2 = some (r, σ') → ∀ (H : Heap) (locs : List Loc), At X σ s.heap H locs → ∀ ls : Array Slot, lv_has ls 3 [(0, .ref (X.2.1 1)), (1, .ref (X.2.1 g1)), (2, .int x2)] → W p l e (rmX 4 91) s m args below meth c H locs 0 0 (Zq X below s args (some (.int (b2i r))) σ') (F0 m 2 ls []) := by
    intro n
    induction n with
    | zero =>
      intro σ x2 h
      exact no_some h
    | succ n ih =>
      intro σ x2 h H locs hw ls hl
      rw [f_X7_readMoves_b2] at h
      refine lv_iload_n C.1 C.2.1 dX7_readMoves_2 rfl (lv_at hl 2 rfl) ?_
      refine lv_bipush (v := 16) C.1 C.2.1 dX7_readMoves_3 (by decide) ?_
      refine lv_icmp_gt (tgt := 48) C.1 C.2.1 dX7_readMoves_5 (by decide) (fun c1 => ?_) (fun c1 => ?_)
      · have h := ite_t c1 h
        refine lv_iconst (v := 1) C.1 C.2.1 dX7_readMoves_48 (by decide) ?_
        exact r_zret C hr hlk hw rfl (Prod.mk.inj (Option.some.inj h)).1 (Prod.mk.inj (Option.some.inj h)).2 dX7_readMoves_49
      · have h := ite_f c1 h
        refine lv_aload_n C.1 C.2.1 dX7_readMoves_8 rfl (lv_at hl 0 rfl) ?_
        refine r_get (v := .int (σ.1 1 2)) C hw l_1 vc_7 kX7 2 rfl (by decide) gw_179 rfl dX7_readMoves_9 ?_
        refine lv_bipush (v := (-8)) C.1 C.2.1 dX7_readMoves_12 (by decide) ?_
        refine lv_icmp_ne (tgt := 48) C.1 C.2.1 dX7_readMoves_14 (by decide) (fun c2 => ?_) (fun c2 => ?_)
        · have h := ite_f c2 h
          refine lv_iconst (v := 1) C.1 C.2.1 dX7_readMoves_48 (by decide) ?_
          exact r_zret C hr hlk hw rfl (Prod.mk.inj (Option.some.inj h)).1 (Prod.mk.inj (Option.some.inj h)).2 dX7_readMoves_49
        · have h := ite_t c2 h
          refine lv_aload_n C.1 C.2.1 dX7_readMoves_17 rfl (lv_at hl 1 rfl) ?_
          refine r_getN (v := .int (σ.1 g1 2)) C hw (lg_0 hg1) vc_4 kX4 2 rfl (by decide) nw_220 rfl dX7_readMoves_18 ?_
          refine lv_bipush (v := 16) C.1 C.2.1 dX7_readMoves_21 (by decide) ?_
          refine lv_icmp_lt (tgt := 32) C.1 C.2.1 dX7_readMoves_23 (by decide) (fun c3 => ?_) (fun c3 => ?_)
          · have h := ite_t c3 h
            refine lv_aload_n C.1 C.2.1 dX7_readMoves_32 rfl (lv_at hl 0 rfl) ?_
            refine lv_aload_n C.1 C.2.1 dX7_readMoves_33 rfl (lv_at hl 1 rfl) ?_
            obtain ⟨q4, eq4, h⟩ := bnd h
            refine r_callV (As := [.ref (X.2.1 g1)]) C hw (ok_X7_readMove X l σ g1 hg1 _ _ eq4) l_1 vc_7 gw_625 gw_622 gw_624 gw_27 gw_115 hl.1 pd_X7_readMove ⟨Nat.le_of_ble_eq_true rfl, Nat.le_of_ble_eq_true rfl⟩ ⟨Nat.le_refl 0, Nat.le_refl 0⟩ (rest := []) (Nat.le_of_ble_eq_true rfl) dX7_readMoves_34 rfl (fun H locs hw => ?_)
            refine lv_if_ne (tgt := 42) C.1 C.2.1 dX7_readMoves_37 (by decide) (fun c5 => ?_) (fun c5 => ?_)
            · have h := ite_f c5 h
              obtain ⟨v6, ev6, h⟩ := nm_d h
              refine lv_iinc (v := v6) (lv' := [(2, .int v6), (0, .ref (X.2.1 1)), (1, .ref (X.2.1 g1))]) C.1 C.2.1 dX7_readMoves_42 hl (k := 2) rfl (by rw [ev6]; rfl) (by decide) rfl (fun ls hl => ?_)
              refine lv_goto (tgt := 2) C.1 C.2.1 dX7_readMoves_45 (by decide) ?_
              exact ih q4.2 v6 h _ _ hw ls (lv_sub hl [1, 2, 0] rfl)
            · have h := ite_t c5 h
              refine lv_iconst (v := 0) C.1 C.2.1 dX7_readMoves_40 (by decide) ?_
              exact r_zret C hr hlk hw rfl (Prod.mk.inj (Option.some.inj h)).1 (Prod.mk.inj (Option.some.inj h)).2 dX7_readMoves_41
          · have h := ite_f c3 h
            refine lv_aload_n C.1 C.2.1 dX7_readMoves_26 rfl (lv_at hl 0 rfl) ?_
            refine lv_iconst (v := 3) C.1 C.2.1 dX7_readMoves_27 (by decide) ?_
            obtain ⟨q7, eq7, h⟩ := bnd h
            refine r_callV (As := [.int 3]) C hw (ok_X7_fail X l σ 3 _ _ eq7) l_1 vc_7 gw_566 gw_563 gw_565 gw_13 gw_115 hl.1 pd_X7_fail ⟨Nat.le_of_ble_eq_true rfl, Nat.le_of_ble_eq_true rfl⟩ ⟨Nat.le_refl 0, Nat.le_refl 0⟩ (rest := []) (Nat.le_of_ble_eq_true rfl) dX7_readMoves_28 rfl (fun H locs hw => ?_)
            exact r_zret C hr hlk hw rfl (Prod.mk.inj (Option.some.inj h)).1 (Prod.mk.inj (Option.some.inj h)).2 dX7_readMoves_31
  rw [f_X7_readMoves] at h
  refine lv_iconst (v := 0) C.1 C.2.1 dX7_readMoves_0 (by decide) ?_
  refine lv_istore_n (lv' := [(2, .int 0), (0, .ref (X.2.1 1)), (1, .ref (X.2.1 g1))]) C.1 C.2.1 dX7_readMoves_1 rfl hl (by decide) rfl (fun ls hl => ?_)
  exact b2 10000 σ 0 h _ _ hw ls (lv_sub hl [1, 2, 0] rfl)
def f_X7_readEnd_b22 (σ : St) : Option (Bool × St) :=
  (f_X7_fail σ 1).bind fun q2 => if (b2i q2.1) = 0 then (some (false, q2.2)) else (some (true, q2.2))
def f_X7_readEnd (σ : St) : Option (Bool × St) :=
  if (σ.1 1 2) = (-2) then (if (σ.1 2 0) ≤ 600 then (some (true, σ)) else (f_X7_readEnd_b22 σ)) else (f_X7_readEnd_b22 σ)
set_option maxRecDepth 100000 in
set_option maxHeartbeats 4000000 in
theorem ok_X7_readEnd (X : Xc) (l : Launch) (σ : St) (r : Bool) (σ' : St) (h : f_X7_readEnd σ = some (r, σ')) : Ok X l yX7_readEnd cX7_readEnd 1 (some .boolean) 1 21 [.ref (X.2.1 1)] σ (some (.int (b2i r))) σ' := by
  refine Ok.of (by decide) (Nat.le_of_ble_eq_true rfl) ?_
  intro p e s m args below meth c C hr hlk hw ls hl
  have C : Cx p s m args c X cX7_readEnd 1 "RunningCount$TextReader" := C
  have hl : lv_has ls 1 [(0, .ref (X.2.1 1))] := hl
  have b22 : ∀ (σ : St), f_X7_readEnd_b22 σ = some (r, σ') → ∀ (H : Heap) (locs : List Loc), At X σ s.heap H locs → ∀ ls : Array Slot, lv_has ls 1 [(0, .ref (X.2.1 1))] → W p l e (rmX 1 21) s m args below meth c H locs 0 0 (Zq X below s args (some (.int (b2i r))) σ') (F0 m 22 ls []) := by
    intro σ h H locs hw ls hl
    rw [f_X7_readEnd_b22] at h
    refine lv_aload_n C.1 C.2.1 dX7_readEnd_22 rfl (lv_at hl 0 rfl) ?_
    refine lv_iconst (v := 1) C.1 C.2.1 dX7_readEnd_23 (by decide) ?_
    obtain ⟨q2, eq2, h⟩ := bnd h
    refine r_callV (As := [.int 1]) C hw (ok_X7_fail X l σ 1 _ _ eq2) l_1 vc_7 gw_566 gw_563 gw_565 gw_13 gw_115 hl.1 pd_X7_fail ⟨Nat.le_of_ble_eq_true rfl, Nat.le_of_ble_eq_true rfl⟩ ⟨Nat.le_refl 0, Nat.le_refl 0⟩ (rest := []) (Nat.le_of_ble_eq_true rfl) dX7_readEnd_24 rfl (fun H locs hw => ?_)
    refine lv_if_eq (tgt := 34) C.1 C.2.1 dX7_readEnd_27 (by decide) (fun c3 => ?_) (fun c3 => ?_)
    · have h := ite_t c3 h
      refine lv_iconst (v := 0) C.1 C.2.1 dX7_readEnd_34 (by decide) ?_
      exact r_zret C hr hlk hw rfl (Prod.mk.inj (Option.some.inj h)).1 (Prod.mk.inj (Option.some.inj h)).2 dX7_readEnd_35
    · have h := ite_f c3 h
      refine lv_iconst (v := 1) C.1 C.2.1 dX7_readEnd_30 (by decide) ?_
      refine lv_goto (tgt := 35) C.1 C.2.1 dX7_readEnd_31 (by decide) ?_
      exact r_zret C hr hlk hw rfl (Prod.mk.inj (Option.some.inj h)).1 (Prod.mk.inj (Option.some.inj h)).2 dX7_readEnd_35
  rw [f_X7_readEnd] at h
  refine lv_aload_n C.1 C.2.1 dX7_readEnd_0 rfl (lv_at hl 0 rfl) ?_
  refine r_get (v := .int (σ.1 1 2)) C hw l_1 vc_7 kX7 2 rfl (by decide) gw_179 rfl dX7_readEnd_1 ?_
  refine lv_bipush (v := (-2)) C.1 C.2.1 dX7_readEnd_4 (by decide) ?_
  refine lv_icmp_ne (tgt := 22) C.1 C.2.1 dX7_readEnd_6 (by decide) (fun c1 => ?_) (fun c1 => ?_)
  · have h := ite_f c1 h
    exact b22 σ h _ _ hw ls (lv_sub hl [0] rfl)
  · have h := ite_t c1 h
    refine lv_aload_n C.1 C.2.1 dX7_readEnd_9 rfl (lv_at hl 0 rfl) ?_
    refine r_get (v := .ref (X.2.1 2)) C hw l_1 vc_7 kX7 0 rfl (by decide) gw_176 rfl dX7_readEnd_10 ?_
    refine r_getN (v := .int (σ.1 2 0)) C hw l_2 vc_6 kX6 0 rfl (by decide) nw_155 rfl dX7_readEnd_13 ?_
    refine lv_sipush (v := 600) C.1 C.2.1 dX7_readEnd_16 (by decide) ?_
    refine lv_icmp_le (tgt := 30) C.1 C.2.1 dX7_readEnd_19 (by decide) (fun c4 => ?_) (fun c4 => ?_)
    · have h := ite_t c4 h
      refine lv_iconst (v := 1) C.1 C.2.1 dX7_readEnd_30 (by decide) ?_
      refine lv_goto (tgt := 35) C.1 C.2.1 dX7_readEnd_31 (by decide) ?_
      exact r_zret C hr hlk hw rfl (Prod.mk.inj (Option.some.inj h)).1 (Prod.mk.inj (Option.some.inj h)).2 dX7_readEnd_35
    · have h := ite_f c4 h
      exact b22 σ h _ _ hw ls (lv_sub hl [0] rfl)
def f_X7_readText (σ : St) (g1 : Nat) : Option (Bool × St) :=
  (f_X6_scan σ).bind fun q1 => (f_X4_clear q1 g1).bind fun q2 => nm (upI q2 1 1 0) fun σ3 => nm (upI σ3 1 5 0) fun σ4 => nm (upI σ4 1 6 0) fun σ5 => (f_X7_advance σ5).bind fun q6 => (f_X7_readShelves q6 g1).bind fun q7 => if (b2i q7.1) = 0 then (some (false, q7.2)) else ((f_X7_readItems q7.2 g1).bind fun q9 => if (b2i q9.1) = 0 then (some (false, q9.2)) else ((f_X7_readStocks q9.2 g1).bind fun q11 => if (b2i q11.1) = 0 then (some (false, q11.2)) else ((f_X7_readMoves q11.2 g1).bind fun q13 => if (b2i q13.1) = 0 then (some (false, q13.2)) else ((f_X7_readEnd q13.2).bind fun q15 => if (b2i q15.1) = 0 then (some (false, q15.2)) else (some (true, q15.2))))))
set_option maxRecDepth 100000 in
set_option maxHeartbeats 4000000 in
theorem ok_X7_readText (X : Xc) (l : Launch) (σ : St) (g1 : Nat) (hg1 : isG g1) (r : Bool) (σ' : St) (h : f_X7_readText σ g1 = some (r, σ')) : Ok X l yX7_readText cX7_readText 2 (some .boolean) 8 181 [.ref (X.2.1 1), .ref (X.2.1 g1)] σ (some (.int (b2i r))) σ' := by
  refine Ok.of (by decide) (Nat.le_of_ble_eq_true rfl) ?_
  intro p e s m args below meth c C hr hlk hw ls hl
  have C : Cx p s m args c X cX7_readText 2 "RunningCount$TextReader" := C
  have hl : lv_has ls 2 [(0, .ref (X.2.1 1)), (1, .ref (X.2.1 g1))] := hl
  rw [f_X7_readText] at h
  refine lv_aload_n C.1 C.2.1 dX7_readText_0 rfl (lv_at hl 0 rfl) ?_
  refine r_get (v := .ref (X.2.1 2)) C hw l_1 vc_7 kX7 0 rfl (by decide) gw_176 rfl dX7_readText_1 ?_
  obtain ⟨q1, eq1, h⟩ := bnd h
  refine r_callVN (As := []) C hw (ok_X6_scan X l σ _ eq1) l_2 vc_6 gw_457 nw_454 gw_456 gw_3 gw_116 hl.1 pd_X6_scan ⟨Nat.le_of_ble_eq_true rfl, Nat.le_of_ble_eq_true rfl⟩ ⟨Nat.le_refl 0, Nat.le_refl 0⟩ (rest := []) (Nat.le_of_ble_eq_true rfl) dX7_readText_4 rfl (fun H locs hw => ?_)
  refine lv_aload_n C.1 C.2.1 dX7_readText_7 rfl (lv_at hl 1 rfl) ?_
  obtain ⟨q2, eq2, h⟩ := bnd h
  refine r_callVN (As := []) C hw (ok_X4_clear X l q1 g1 hg1 _ eq2) (lg_0 hg1) vc_4 gw_550 nw_547 gw_549 gw_9 gw_117 hl.1 pd_X4_clear ⟨Nat.le_of_ble_eq_true rfl, Nat.le_of_ble_eq_true rfl⟩ ⟨Nat.le_refl 0, Nat.le_refl 0⟩ (rest := []) (Nat.le_of_ble_eq_true rfl) dX7_readText_8 rfl (fun H locs hw => ?_)
  refine lv_aload_n C.1 C.2.1 dX7_readText_11 rfl (lv_at hl 0 rfl) ?_
  refine lv_iconst (v := 0) C.1 C.2.1 dX7_readText_12 (by decide) ?_
  obtain ⟨σ3, eσ3, h⟩ := nm_d h
  refine r_put C hw l_1 vc_7 kX7 tyX7 tyX7_ok nmX7 1 (by decide) (by decide) gw_178 rfl rfl rfl (put_i l_1 rfl eσ3) dX7_readText_13 (fun H locs hw => ?_)
  refine lv_aload_n C.1 C.2.1 dX7_readText_16 rfl (lv_at hl 0 rfl) ?_
  refine lv_iconst (v := 0) C.1 C.2.1 dX7_readText_17 (by decide) ?_
  obtain ⟨σ4, eσ4, h⟩ := nm_d h
  refine r_put C hw l_1 vc_7 kX7 tyX7 tyX7_ok nmX7 5 (by decide) (by decide) gw_182 rfl rfl rfl (put_i l_1 rfl eσ4) dX7_readText_18 (fun H locs hw => ?_)
  refine lv_aload_n C.1 C.2.1 dX7_readText_21 rfl (lv_at hl 0 rfl) ?_
  refine lv_iconst (v := 0) C.1 C.2.1 dX7_readText_22 (by decide) ?_
  obtain ⟨σ5, eσ5, h⟩ := nm_d h
  refine r_put C hw l_1 vc_7 kX7 tyX7 tyX7_ok nmX7 6 (by decide) (by decide) gw_184 rfl rfl rfl (put_i l_1 rfl eσ5) dX7_readText_23 (fun H locs hw => ?_)
  refine lv_aload_n C.1 C.2.1 dX7_readText_26 rfl (lv_at hl 0 rfl) ?_
  obtain ⟨q6, eq6, h⟩ := bnd h
  refine r_callV (As := []) C hw (ok_X7_advance X l σ5 _ eq6) l_1 vc_7 gw_554 gw_551 gw_553 gw_10 gw_115 hl.1 pd_X7_advance ⟨Nat.le_of_ble_eq_true rfl, Nat.le_of_ble_eq_true rfl⟩ ⟨Nat.le_refl 0, Nat.le_refl 0⟩ (rest := []) (Nat.le_of_ble_eq_true rfl) dX7_readText_27 rfl (fun H locs hw => ?_)
  refine lv_aload_n C.1 C.2.1 dX7_readText_30 rfl (lv_at hl 0 rfl) ?_
  refine lv_aload_n C.1 C.2.1 dX7_readText_31 rfl (lv_at hl 1 rfl) ?_
  obtain ⟨q7, eq7, h⟩ := bnd h
  refine r_callV (As := [.ref (X.2.1 g1)]) C hw (ok_X7_readShelves X l q6 g1 hg1 _ _ eq7) l_1 vc_7 gw_558 gw_555 gw_557 gw_11 gw_115 hl.1 pd_X7_readShelves ⟨Nat.le_of_ble_eq_true rfl, Nat.le_of_ble_eq_true rfl⟩ ⟨Nat.le_refl 0, Nat.le_refl 0⟩ (rest := []) (Nat.le_of_ble_eq_true rfl) dX7_readText_32 rfl (fun H locs hw => ?_)
  refine lv_if_eq (tgt := 73) C.1 C.2.1 dX7_readText_35 (by decide) (fun c8 => ?_) (fun c8 => ?_)
  · have h := ite_t c8 h
    refine lv_iconst (v := 0) C.1 C.2.1 dX7_readText_73 (by decide) ?_
    exact r_zret C hr hlk hw rfl (Prod.mk.inj (Option.some.inj h)).1 (Prod.mk.inj (Option.some.inj h)).2 dX7_readText_74
  · have h := ite_f c8 h
    refine lv_aload_n C.1 C.2.1 dX7_readText_38 rfl (lv_at hl 0 rfl) ?_
    refine lv_aload_n C.1 C.2.1 dX7_readText_39 rfl (lv_at hl 1 rfl) ?_
    obtain ⟨q9, eq9, h⟩ := bnd h
    refine r_callV (As := [.ref (X.2.1 g1)]) C hw (ok_X7_readItems X l q7.2 g1 hg1 _ _ eq9) l_1 vc_7 gw_578 gw_575 gw_577 gw_16 gw_115 hl.1 pd_X7_readItems ⟨Nat.le_of_ble_eq_true rfl, Nat.le_of_ble_eq_true rfl⟩ ⟨Nat.le_refl 0, Nat.le_refl 0⟩ (rest := []) (Nat.le_of_ble_eq_true rfl) dX7_readText_40 rfl (fun H locs hw => ?_)
    refine lv_if_eq (tgt := 73) C.1 C.2.1 dX7_readText_43 (by decide) (fun c10 => ?_) (fun c10 => ?_)
    · have h := ite_t c10 h
      refine lv_iconst (v := 0) C.1 C.2.1 dX7_readText_73 (by decide) ?_
      exact r_zret C hr hlk hw rfl (Prod.mk.inj (Option.some.inj h)).1 (Prod.mk.inj (Option.some.inj h)).2 dX7_readText_74
    · have h := ite_f c10 h
      refine lv_aload_n C.1 C.2.1 dX7_readText_46 rfl (lv_at hl 0 rfl) ?_
      refine lv_aload_n C.1 C.2.1 dX7_readText_47 rfl (lv_at hl 1 rfl) ?_
      obtain ⟨q11, eq11, h⟩ := bnd h
      refine r_callV (As := [.ref (X.2.1 g1)]) C hw (ok_X7_readStocks X l q9.2 g1 hg1 _ _ eq11) l_1 vc_7 gw_590 gw_587 gw_589 gw_19 gw_115 hl.1 pd_X7_readStocks ⟨Nat.le_of_ble_eq_true rfl, Nat.le_of_ble_eq_true rfl⟩ ⟨Nat.le_refl 0, Nat.le_refl 0⟩ (rest := []) (Nat.le_of_ble_eq_true rfl) dX7_readText_48 rfl (fun H locs hw => ?_)
      refine lv_if_eq (tgt := 73) C.1 C.2.1 dX7_readText_51 (by decide) (fun c12 => ?_) (fun c12 => ?_)
      · have h := ite_t c12 h
        refine lv_iconst (v := 0) C.1 C.2.1 dX7_readText_73 (by decide) ?_
        exact r_zret C hr hlk hw rfl (Prod.mk.inj (Option.some.inj h)).1 (Prod.mk.inj (Option.some.inj h)).2 dX7_readText_74
      · have h := ite_f c12 h
        refine lv_aload_n C.1 C.2.1 dX7_readText_54 rfl (lv_at hl 0 rfl) ?_
        refine lv_aload_n C.1 C.2.1 dX7_readText_55 rfl (lv_at hl 1 rfl) ?_
        obtain ⟨q13, eq13, h⟩ := bnd h
        refine r_callV (As := [.ref (X.2.1 g1)]) C hw (ok_X7_readMoves X l q11.2 g1 hg1 _ _ eq13) l_1 vc_7 gw_621 gw_618 gw_620 gw_26 gw_115 hl.1 pd_X7_readMoves ⟨Nat.le_of_ble_eq_true rfl, Nat.le_of_ble_eq_true rfl⟩ ⟨Nat.le_refl 0, Nat.le_refl 0⟩ (rest := []) (Nat.le_of_ble_eq_true rfl) dX7_readText_56 rfl (fun H locs hw => ?_)
        refine lv_if_eq (tgt := 73) C.1 C.2.1 dX7_readText_59 (by decide) (fun c14 => ?_) (fun c14 => ?_)
        · have h := ite_t c14 h
          refine lv_iconst (v := 0) C.1 C.2.1 dX7_readText_73 (by decide) ?_
          exact r_zret C hr hlk hw rfl (Prod.mk.inj (Option.some.inj h)).1 (Prod.mk.inj (Option.some.inj h)).2 dX7_readText_74
        · have h := ite_f c14 h
          refine lv_aload_n C.1 C.2.1 dX7_readText_62 rfl (lv_at hl 0 rfl) ?_
          obtain ⟨q15, eq15, h⟩ := bnd h
          refine r_callV (As := []) C hw (ok_X7_readEnd X l q13.2 _ _ eq15) l_1 vc_7 gw_650 gw_647 gw_649 gw_32 gw_115 hl.1 pd_X7_readEnd ⟨Nat.le_of_ble_eq_true rfl, Nat.le_of_ble_eq_true rfl⟩ ⟨Nat.le_refl 0, Nat.le_refl 0⟩ (rest := []) (Nat.le_of_ble_eq_true rfl) dX7_readText_63 rfl (fun H locs hw => ?_)
          refine lv_if_eq (tgt := 73) C.1 C.2.1 dX7_readText_66 (by decide) (fun c16 => ?_) (fun c16 => ?_)
          · have h := ite_t c16 h
            refine lv_iconst (v := 0) C.1 C.2.1 dX7_readText_73 (by decide) ?_
            exact r_zret C hr hlk hw rfl (Prod.mk.inj (Option.some.inj h)).1 (Prod.mk.inj (Option.some.inj h)).2 dX7_readText_74
          · have h := ite_f c16 h
            refine lv_iconst (v := 1) C.1 C.2.1 dX7_readText_69 (by decide) ?_
            refine lv_goto (tgt := 74) C.1 C.2.1 dX7_readText_70 (by decide) ?_
            exact r_zret C hr hlk hw rfl (Prod.mk.inj (Option.some.inj h)).1 (Prod.mk.inj (Option.some.inj h)).2 dX7_readText_74
def f_X8_text (σ : St) : Option (Int32 × St) :=
  (f_X7_readText σ (σ.2.2.2)).bind fun q2 => nm (b2i q2.1) fun v3 => nm (upI q2.2 2 0 0) fun σ4 => if v3 = 0 then (some ((-1) - (σ4.1 1 7), σ4)) else (nm (upS σ4 (σ4.2.2.1)) fun σ8 => nm (upG σ8 (σ4.2.2.2)) fun σ9 => nm (upI σ9 24 0 0) fun σ10 => nm (upI σ10 31 0 0) fun σ11 => nm (upI σ11 36 0 0) fun σ12 => some (σ12.1 1 5, σ12))
set_option maxRecDepth 100000 in
set_option maxHeartbeats 4000000 in
theorem ok_X8_text (X : Xc) (l : Launch) (σ : St) (r : Int32) (σ' : St) (h : f_X8_text σ = some (r, σ')) : Ok X l yX8_text cX8_text 3 (some .int) 9 202 [.ref (X.2.1 0)] σ (some (.int r)) σ' := by
  refine Ok.of (by decide) (Nat.le_of_ble_eq_true rfl) ?_
  intro p e s m args below meth c C hr hlk hw ls hl
  have C : Cx p s m args c X cX8_text 3 "RunningCount" := C
  have hl : lv_has ls 3 [(0, .ref (X.2.1 0))] := hl
  rw [f_X8_text] at h
  refine lv_aload_n C.1 C.2.1 dX8_text_0 rfl (lv_at hl 0 rfl) ?_
  refine r_get (v := .ref (X.2.1 1)) C hw l_0 vc_8 kX8 0 rfl (by decide) gw_408 rfl dX8_text_1 ?_
  refine lv_aload_n C.1 C.2.1 dX8_text_4 rfl (lv_at hl 0 rfl) ?_
  have hz1 := hw.2.2.2
  refine r_get (v := .ref (X.2.1 (σ.2.2.2))) C hw l_0 vc_8 kX8 2 rfl (by decide) gw_410 rfl dX8_text_5 ?_
  obtain ⟨q2, eq2, h⟩ := bnd h
  refine r_callVN (As := [.ref (X.2.1 (σ.2.2.2))]) C hw (ok_X7_readText X l σ (σ.2.2.2) hz1 _ _ eq2) l_1 vc_7 gw_453 nw_450 gw_452 gw_2 gw_115 hl.1 pd_X7_readText ⟨Nat.le_of_ble_eq_true rfl, Nat.le_of_ble_eq_true rfl⟩ ⟨Nat.le_refl 0, Nat.le_refl 0⟩ (rest := []) (Nat.le_of_ble_eq_true rfl) dX8_text_8 rfl (fun H locs hw => ?_)
  obtain ⟨v3, ev3, h⟩ := nm_d h
  refine lv_nm ev3 ?_
  refine lv_istore_n (lv' := [(1, .int v3), (0, .ref (X.2.1 0))]) C.1 C.2.1 dX8_text_11 rfl hl (by decide) rfl (fun ls hl => ?_)
  refine lv_aload_n C.1 C.2.1 dX8_text_12 rfl (lv_at hl 1 rfl) ?_
  refine r_get (v := .ref (X.2.1 1)) C hw l_0 vc_8 kX8 0 rfl (by decide) gw_408 rfl dX8_text_13 ?_
  refine r_getN (v := .ref (X.2.1 2)) C hw l_1 vc_7 kX7 0 rfl (by decide) nw_177 rfl dX8_text_16 ?_
  refine lv_iconst (v := 0) C.1 C.2.1 dX8_text_19 (by decide) ?_
  obtain ⟨σ4, eσ4, h⟩ := nm_d h
  refine r_putN C hw l_2 vc_6 kX6 tyX6 tyX6_ok nmX6 0 (by decide) (by decide) nw_154 rfl rfl rfl (put_i l_2 rfl eσ4) dX8_text_20 (fun H locs hw => ?_)
  refine lv_iload_n C.1 C.2.1 dX8_text_23 rfl (lv_at hl 0 rfl) ?_
  refine lv_if_ne (tgt := 37) C.1 C.2.1 dX8_text_24 (by decide) (fun c5 => ?_) (fun c5 => ?_)
  · have h := ite_f c5 h
    refine lv_aload_n C.1 C.2.1 dX8_text_37 rfl (lv_at hl 1 rfl) ?_
    have hz6 := hw.2.2.2
    refine r_get (v := .ref (X.2.1 (σ4.2.2.2))) C hw l_0 vc_8 kX8 2 rfl (by decide) gw_410 rfl dX8_text_38 ?_
    refine lv_astore_n (lv' := [(2, .ref (X.2.1 (σ4.2.2.2))), (1, .int v3), (0, .ref (X.2.1 0))]) C.1 C.2.1 dX8_text_41 rfl hl (by decide) rfl (fun ls hl => ?_)
    refine lv_aload_n C.1 C.2.1 dX8_text_42 rfl (lv_at hl 2 rfl) ?_
    refine lv_aload_n C.1 C.2.1 dX8_text_43 rfl (lv_at hl 2 rfl) ?_
    have hz7 := hw.2.2.1
    refine r_get (v := .ref (X.2.1 (σ4.2.2.1))) C hw l_0 vc_8 kX8 1 rfl (by decide) gw_409 rfl dX8_text_44 ?_
    obtain ⟨σ8, eσ8, h⟩ := nm_d h
    refine r_put C hw l_0 vc_8 kX8 tyX8 tyX8_ok nmX8 2 (by decide) (by decide) gw_410 rfl rfl rfl (put_S hz7 eσ8) dX8_text_47 (fun H locs hw => ?_)
    refine lv_aload_n C.1 C.2.1 dX8_text_50 rfl (lv_at hl 2 rfl) ?_
    refine lv_aload_n C.1 C.2.1 dX8_text_51 rfl (lv_at hl 0 rfl) ?_
    obtain ⟨σ9, eσ9, h⟩ := nm_d h
    refine r_put C hw l_0 vc_8 kX8 tyX8 tyX8_ok nmX8 1 (by decide) (by decide) gw_409 rfl rfl rfl (put_G hz6 eσ9) dX8_text_52 (fun H locs hw => ?_)
    refine lv_aload_n C.1 C.2.1 dX8_text_55 rfl (lv_at hl 2 rfl) ?_
    refine r_get (v := .ref (X.2.1 24)) C hw l_0 vc_8 kX8 3 rfl (by decide) gw_411 rfl dX8_text_56 ?_
    refine lv_iconst (v := 0) C.1 C.2.1 dX8_text_59 (by decide) ?_
    obtain ⟨σ10, eσ10, h⟩ := nm_d h
    refine r_putN C hw l_24 vc_3 kX3 tyX3 tyX3_ok nmX3 0 (by decide) (by decide) nw_269 rfl rfl rfl (put_i l_24 rfl eσ10) dX8_text_60 (fun H locs hw => ?_)
    refine lv_aload_n C.1 C.2.1 dX8_text_63 rfl (lv_at hl 2 rfl) ?_
    refine r_get (v := .ref (X.2.1 31)) C hw l_0 vc_8 kX8 4 rfl (by decide) gw_412 rfl dX8_text_64 ?_
    refine lv_iconst (v := 0) C.1 C.2.1 dX8_text_67 (by decide) ?_
    obtain ⟨σ11, eσ11, h⟩ := nm_d h
    refine r_putN C hw l_31 vc_1 kX1 tyX1 tyX1_ok nmX1 0 (by decide) (by decide) nw_305 rfl rfl rfl (put_i l_31 rfl eσ11) dX8_text_68 (fun H locs hw => ?_)
    refine lv_aload_n C.1 C.2.1 dX8_text_71 rfl (lv_at hl 2 rfl) ?_
    refine r_get (v := .ref (X.2.1 36)) C hw l_0 vc_8 kX8 5 rfl (by decide) gw_413 rfl dX8_text_72 ?_
    refine lv_iconst (v := 0) C.1 C.2.1 dX8_text_75 (by decide) ?_
    obtain ⟨σ12, eσ12, h⟩ := nm_d h
    refine r_putN C hw l_36 vc_5 kX5 tyX5 tyX5_ok nmX5 0 (by decide) (by decide) nw_372 rfl rfl rfl (put_i l_36 rfl eσ12) dX8_text_76 (fun H locs hw => ?_)
    refine lv_aload_n C.1 C.2.1 dX8_text_79 rfl (lv_at hl 2 rfl) ?_
    refine r_get (v := .ref (X.2.1 1)) C hw l_0 vc_8 kX8 0 rfl (by decide) gw_408 rfl dX8_text_80 ?_
    refine r_getN (v := .int (σ12.1 1 5)) C hw l_1 vc_7 kX7 5 rfl (by decide) nw_183 rfl dX8_text_83 ?_
    exact r_iret C hr hlk hw (Prod.mk.inj (Option.some.inj h)).1 (Prod.mk.inj (Option.some.inj h)).2 dX8_text_86
  · have h := ite_t c5 h
    refine lv_iconst (v := (-1)) C.1 C.2.1 dX8_text_27 (by decide) ?_
    refine lv_aload_n C.1 C.2.1 dX8_text_28 rfl (lv_at hl 1 rfl) ?_
    refine r_get (v := .ref (X.2.1 1)) C hw l_0 vc_8 kX8 0 rfl (by decide) gw_408 rfl dX8_text_29 ?_
    refine r_getN (v := .int (σ4.1 1 7)) C hw l_1 vc_7 kX7 7 rfl (by decide) nw_187 rfl dX8_text_32 ?_
    refine lv_isub C.1 C.2.1 dX8_text_35 ?_
    exact r_iret C hr hlk hw (Prod.mk.inj (Option.some.inj h)).1 (Prod.mk.inj (Option.some.inj h)).2 dX8_text_36
def f_X8_fault (σ : St) : Int32 :=
  σ.1 1 6
set_option maxRecDepth 100000 in
set_option maxHeartbeats 4000000 in
theorem ok_X8_fault (X : Xc) (l : Launch) (σ : St) (r : Int32) (h : f_X8_fault σ = r) : Ok X l yX8_fault cX8_fault 1 (some .int) 0 0 [.ref (X.2.1 0)] σ (some (.int r)) σ := by
  refine Ok.of (by decide) (Nat.le_of_ble_eq_true rfl) ?_
  intro p e s m args below meth c C hr hlk hw ls hl
  have C : Cx p s m args c X cX8_fault 1 "RunningCount" := C
  have hl : lv_has ls 1 [(0, .ref (X.2.1 0))] := hl
  rw [f_X8_fault] at h
  refine lv_aload_n C.1 C.2.1 dX8_fault_0 rfl (lv_at hl 0 rfl) ?_
  refine r_get (v := .ref (X.2.1 1)) C hw l_0 vc_8 kX8 0 rfl (by decide) gw_408 rfl dX8_fault_1 ?_
  refine r_getN (v := .int (σ.1 1 6)) C hw l_1 vc_7 kX7 6 rfl (by decide) nw_185 rfl dX8_fault_4 ?_
  exact r_iret C hr hlk hw h rfl dX8_fault_7
def f_X3_openCounts_b4 (σ : St) : Nat → Int32 → Int32 → Option Int32
  | 0, _, _ => none
  | n + 1, x1, x2 => if (σ.1 24 0) ≤ x2 then (some x1) else ((rd σ 30 40 x2).bind fun v2 => if v2 = 0 then (nm (x1 + 1) fun v5 => nm (x2 + 1) fun v6 => f_X3_openCounts_b4 σ n v5 v6) else (nm (x2 + 1) fun v4 => f_X3_openCounts_b4 σ n x1 v4))
def f_X3_openCounts (σ : St) : Option Int32 :=
  f_X3_openCounts_b4 σ 10000 0 0
set_option maxRecDepth 100000 in
set_option maxHeartbeats 4000000 in
theorem ok_X3_openCounts (X : Xc) (l : Launch) (σ : St) (r : Int32) (h : f_X3_openCounts σ = some r) : Ok X l yX3_openCounts cX3_openCounts 3 (some .int) 0 0 [.ref (X.2.1 24)] σ (some (.int r)) σ := by
  refine Ok.of (by decide) (Nat.le_of_ble_eq_true rfl) ?_
  intro p e s m args below meth c C hr hlk hw ls hl
  have C : Cx p s m args c X cX3_openCounts 3 "RunningCount$CountList" := C
  have hl : lv_has ls 3 [(0, .ref (X.2.1 24))] := hl
  have b4 : ∀ (n : Nat), ∀ (x1 : Int32) (x2 : Int32), f_X3_openCounts_b4 σ n x1 x2 = some r → ∀ (H : Heap) (locs : List Loc), At X σ s.heap H locs → ∀ ls : Array Slot, lv_has ls 3 [(0, .ref (X.2.1 24)), (1, .int x1), (2, .int x2)] → W p l e (rmX 0 0) s m args below meth c H locs 0 0 (Zq X below s args (some (.int r)) σ) (F0 m 4 ls []) := by
    intro n
    induction n with
    | zero =>
      intro x1 x2 h
      exact no_some h
    | succ n ih =>
      intro x1 x2 h H locs hw ls hl
      rw [f_X3_openCounts_b4] at h
      refine lv_iload_n C.1 C.2.1 dX3_openCounts_4 rfl (lv_at hl 2 rfl) ?_
      refine lv_aload_n C.1 C.2.1 dX3_openCounts_5 rfl (lv_at hl 0 rfl) ?_
      refine r_get (v := .int (σ.1 24 0)) C hw l_24 vc_3 kX3 0 rfl (by decide) gw_268 rfl dX3_openCounts_6 ?_
      refine lv_icmp_ge (tgt := 30) C.1 C.2.1 dX3_openCounts_9 (by decide) (fun c1 => ?_) (fun c1 => ?_)
      · have h := ite_t c1 h
        refine lv_iload_n C.1 C.2.1 dX3_openCounts_30 rfl (lv_at hl 1 rfl) ?_
        exact r_iret C hr hlk hw (Option.some.inj h) rfl dX3_openCounts_31
      · have h := ite_f c1 h
        refine lv_aload_n C.1 C.2.1 dX3_openCounts_12 rfl (lv_at hl 0 rfl) ?_
        refine r_get (v := .ref (X.2.1 30)) C hw l_24 vc_3 kX3 6 rfl (by decide) gw_280 rfl dX3_openCounts_13 ?_
        refine lv_iload_n C.1 C.2.1 dX3_openCounts_16 rfl (lv_at hl 2 rfl) ?_
        obtain ⟨v2, ev2, h⟩ := bnd h
        refine r_zald C hw l_30 ev2 dX3_openCounts_17 ?_
        refine lv_if_ne (tgt := 24) C.1 C.2.1 dX3_openCounts_18 (by decide) (fun c3 => ?_) (fun c3 => ?_)
        · have h := ite_f c3 h
          obtain ⟨v4, ev4, h⟩ := nm_d h
          refine lv_iinc (v := v4) (lv' := [(2, .int v4), (0, .ref (X.2.1 24)), (1, .int x1)]) C.1 C.2.1 dX3_openCounts_24 hl (k := 2) rfl (by rw [ev4]; rfl) (by decide) rfl (fun ls hl => ?_)
          refine lv_goto (tgt := 4) C.1 C.2.1 dX3_openCounts_27 (by decide) ?_
          exact ih x1 v4 h _ _ hw ls (lv_sub hl [1, 2, 0] rfl)
        · have h := ite_t c3 h
          obtain ⟨v5, ev5, h⟩ := nm_d h
          refine lv_iinc (v := v5) (lv' := [(1, .int v5), (0, .ref (X.2.1 24)), (2, .int x2)]) C.1 C.2.1 dX3_openCounts_21 hl (k := 1) rfl (by rw [ev5]; rfl) (by decide) rfl (fun ls hl => ?_)
          obtain ⟨v6, ev6, h⟩ := nm_d h
          refine lv_iinc (v := v6) (lv' := [(2, .int v6), (1, .int v5), (0, .ref (X.2.1 24))]) C.1 C.2.1 dX3_openCounts_24 hl (k := 2) rfl (by rw [ev6]; rfl) (by decide) rfl (fun ls hl => ?_)
          refine lv_goto (tgt := 4) C.1 C.2.1 dX3_openCounts_27 (by decide) ?_
          exact ih v5 v6 h _ _ hw ls (lv_sub hl [2, 1, 0] rfl)
  rw [f_X3_openCounts] at h
  refine lv_iconst (v := 0) C.1 C.2.1 dX3_openCounts_0 (by decide) ?_
  refine lv_istore_n (lv' := [(1, .int 0), (0, .ref (X.2.1 24))]) C.1 C.2.1 dX3_openCounts_1 rfl hl (by decide) rfl (fun ls hl => ?_)
  refine lv_iconst (v := 0) C.1 C.2.1 dX3_openCounts_2 (by decide) ?_
  refine lv_istore_n (lv' := [(2, .int 0), (1, .int 0), (0, .ref (X.2.1 24))]) C.1 C.2.1 dX3_openCounts_3 rfl hl (by decide) rfl (fun ls hl => ?_)
  exact b4 10000 0 0 h _ _ hw ls (lv_sub hl [2, 1, 0] rfl)
def f_X8_now (σ : St) (a1 : Int32) : Option Int32 :=
  if a1 = 0 then (some (σ.1 (σ.2.2.1) 0)) else (if a1 = 1 then (some (σ.1 (σ.2.2.1) 1)) else (if a1 = 2 then (some (σ.1 (σ.2.2.1) 2)) else (if a1 = 3 then (some (σ.1 24 0)) else (if a1 = 4 then ((f_X3_openCounts σ).bind fun q9 => some q9) else (if a1 = 5 then (some (σ.1 31 0)) else (if a1 = 6 then (some (σ.1 36 0)) else (if a1 = 7 then (some (σ.1 2 0)) else (some (-1)))))))))
set_option maxRecDepth 100000 in
set_option maxHeartbeats 4000000 in
theorem ok_X8_now (X : Xc) (l : Launch) (σ : St) (a1 : Int32) (r : Int32) (h : f_X8_now σ a1 = some r) : Ok X l yX8_now cX8_now 2 (some .int) 1 22 [.ref (X.2.1 0), .int a1] σ (some (.int r)) σ := by
  refine Ok.of (by decide) (Nat.le_of_ble_eq_true rfl) ?_
  intro p e s m args below meth c C hr hlk hw ls hl
  have C : Cx p s m args c X cX8_now 2 "RunningCount" := C
  have hl : lv_has ls 2 [(0, .ref (X.2.1 0)), (1, .int a1)] := hl
  rw [f_X8_now] at h
  refine lv_iload_n C.1 C.2.1 dX8_now_0 rfl (lv_at hl 1 rfl) ?_
  by_cases c1 : a1 = 0
  · have h := ite_t c1 h
    refine lv_tableIn (tgt := 48) C.1 C.2.1 dX8_now_1 (by rw [c1]; decide) (by rw [c1]; decide) (by rw [c1]; rfl) (by decide) ?_
    refine lv_aload_n C.1 C.2.1 dX8_now_48 rfl (lv_at hl 0 rfl) ?_
    have hz12 := hw.2.2.1
    refine r_get (v := .ref (X.2.1 (σ.2.2.1))) C hw l_0 vc_8 kX8 1 rfl (by decide) gw_409 rfl dX8_now_49 ?_
    refine r_getN (v := .int (σ.1 (σ.2.2.1) 0)) C hw (lg_0 hz12) vc_4 kX4 0 rfl (by decide) nw_213 rfl dX8_now_52 ?_
    exact r_iret C hr hlk hw (Option.some.inj h) rfl dX8_now_55
  · have h := ite_f c1 h
    by_cases c2 : a1 = 1
    · have h := ite_t c2 h
      refine lv_tableIn (tgt := 56) C.1 C.2.1 dX8_now_1 (by rw [c2]; decide) (by rw [c2]; decide) (by rw [c2]; rfl) (by decide) ?_
      refine lv_aload_n C.1 C.2.1 dX8_now_56 rfl (lv_at hl 0 rfl) ?_
      have hz11 := hw.2.2.1
      refine r_get (v := .ref (X.2.1 (σ.2.2.1))) C hw l_0 vc_8 kX8 1 rfl (by decide) gw_409 rfl dX8_now_57 ?_
      refine r_getN (v := .int (σ.1 (σ.2.2.1) 1)) C hw (lg_0 hz11) vc_4 kX4 1 rfl (by decide) nw_216 rfl dX8_now_60 ?_
      exact r_iret C hr hlk hw (Option.some.inj h) rfl dX8_now_63
    · have h := ite_f c2 h
      by_cases c3 : a1 = 2
      · have h := ite_t c3 h
        refine lv_tableIn (tgt := 64) C.1 C.2.1 dX8_now_1 (by rw [c3]; decide) (by rw [c3]; decide) (by rw [c3]; rfl) (by decide) ?_
        refine lv_aload_n C.1 C.2.1 dX8_now_64 rfl (lv_at hl 0 rfl) ?_
        have hz10 := hw.2.2.1
        refine r_get (v := .ref (X.2.1 (σ.2.2.1))) C hw l_0 vc_8 kX8 1 rfl (by decide) gw_409 rfl dX8_now_65 ?_
        refine r_getN (v := .int (σ.1 (σ.2.2.1) 2)) C hw (lg_0 hz10) vc_4 kX4 2 rfl (by decide) nw_219 rfl dX8_now_68 ?_
        exact r_iret C hr hlk hw (Option.some.inj h) rfl dX8_now_71
      · have h := ite_f c3 h
        by_cases c4 : a1 = 3
        · have h := ite_t c4 h
          refine lv_tableIn (tgt := 72) C.1 C.2.1 dX8_now_1 (by rw [c4]; decide) (by rw [c4]; decide) (by rw [c4]; rfl) (by decide) ?_
          refine lv_aload_n C.1 C.2.1 dX8_now_72 rfl (lv_at hl 0 rfl) ?_
          refine r_get (v := .ref (X.2.1 24)) C hw l_0 vc_8 kX8 3 rfl (by decide) gw_411 rfl dX8_now_73 ?_
          refine r_getN (v := .int (σ.1 24 0)) C hw l_24 vc_3 kX3 0 rfl (by decide) nw_269 rfl dX8_now_76 ?_
          exact r_iret C hr hlk hw (Option.some.inj h) rfl dX8_now_79
        · have h := ite_f c4 h
          by_cases c5 : a1 = 4
          · have h := ite_t c5 h
            refine lv_tableIn (tgt := 80) C.1 C.2.1 dX8_now_1 (by rw [c5]; decide) (by rw [c5]; decide) (by rw [c5]; rfl) (by decide) ?_
            refine lv_aload_n C.1 C.2.1 dX8_now_80 rfl (lv_at hl 0 rfl) ?_
            refine r_get (v := .ref (X.2.1 24)) C hw l_0 vc_8 kX8 3 rfl (by decide) gw_411 rfl dX8_now_81 ?_
            obtain ⟨q9, eq9, h⟩ := bnd h
            refine r_callVN (As := []) C hw (ok_X3_openCounts X l σ _ eq9) l_24 vc_3 gw_662 nw_659 gw_661 gw_33 gw_118 hl.1 pd_X3_openCounts ⟨Nat.le_of_ble_eq_true rfl, Nat.le_of_ble_eq_true rfl⟩ ⟨Nat.le_refl 0, Nat.le_refl 0⟩ (rest := []) (Nat.le_of_ble_eq_true rfl) dX8_now_84 rfl (fun H locs hw => ?_)
            exact r_iret C hr hlk hw (Option.some.inj h) rfl dX8_now_87
          · have h := ite_f c5 h
            by_cases c6 : a1 = 5
            · have h := ite_t c6 h
              refine lv_tableIn (tgt := 88) C.1 C.2.1 dX8_now_1 (by rw [c6]; decide) (by rw [c6]; decide) (by rw [c6]; rfl) (by decide) ?_
              refine lv_aload_n C.1 C.2.1 dX8_now_88 rfl (lv_at hl 0 rfl) ?_
              refine r_get (v := .ref (X.2.1 31)) C hw l_0 vc_8 kX8 4 rfl (by decide) gw_412 rfl dX8_now_89 ?_
              refine r_getN (v := .int (σ.1 31 0)) C hw l_31 vc_1 kX1 0 rfl (by decide) nw_305 rfl dX8_now_92 ?_
              exact r_iret C hr hlk hw (Option.some.inj h) rfl dX8_now_95
            · have h := ite_f c6 h
              by_cases c7 : a1 = 6
              · have h := ite_t c7 h
                refine lv_tableIn (tgt := 96) C.1 C.2.1 dX8_now_1 (by rw [c7]; decide) (by rw [c7]; decide) (by rw [c7]; rfl) (by decide) ?_
                refine lv_aload_n C.1 C.2.1 dX8_now_96 rfl (lv_at hl 0 rfl) ?_
                refine r_get (v := .ref (X.2.1 36)) C hw l_0 vc_8 kX8 5 rfl (by decide) gw_413 rfl dX8_now_97 ?_
                refine r_getN (v := .int (σ.1 36 0)) C hw l_36 vc_5 kX5 0 rfl (by decide) nw_372 rfl dX8_now_100 ?_
                exact r_iret C hr hlk hw (Option.some.inj h) rfl dX8_now_103
              · have h := ite_f c7 h
                by_cases c8 : a1 = 7
                · have h := ite_t c8 h
                  refine lv_tableIn (tgt := 104) C.1 C.2.1 dX8_now_1 (by rw [c8]; decide) (by rw [c8]; decide) (by rw [c8]; rfl) (by decide) ?_
                  refine lv_aload_n C.1 C.2.1 dX8_now_104 rfl (lv_at hl 0 rfl) ?_
                  refine r_get (v := .ref (X.2.1 1)) C hw l_0 vc_8 kX8 0 rfl (by decide) gw_408 rfl dX8_now_105 ?_
                  refine r_getN (v := .ref (X.2.1 2)) C hw l_1 vc_7 kX7 0 rfl (by decide) nw_177 rfl dX8_now_108 ?_
                  refine r_getN (v := .int (σ.1 2 0)) C hw l_2 vc_6 kX6 0 rfl (by decide) nw_154 rfl dX8_now_111 ?_
                  exact r_iret C hr hlk hw (Option.some.inj h) rfl dX8_now_114
                · have h := ite_f c8 h
                  refine sw_out (ts := 115) C.1 C.2.1 dX8_now_1 [0, 1, 2, 3, 4, 5, 6, 7] (by decide) (by decide) (List.forall_mem_cons.mpr ⟨c1, (List.forall_mem_cons.mpr ⟨c2, (List.forall_mem_cons.mpr ⟨c3, (List.forall_mem_cons.mpr ⟨c4, (List.forall_mem_cons.mpr ⟨c5, (List.forall_mem_cons.mpr ⟨c6, (List.forall_mem_cons.mpr ⟨c7, (List.forall_mem_cons.mpr ⟨c8, fun _ h => absurd h List.not_mem_nil⟩)⟩)⟩)⟩)⟩)⟩)⟩)⟩) (by decide) ?_
                  refine lv_iconst (v := (-1)) C.1 C.2.1 dX8_now_115 (by decide) ?_
                  exact r_iret C hr hlk hw (Option.some.inj h) rfl dX8_now_116
def f_X8_item (σ : St) (a1 : Int32) (a2 : Int32) : Option Int32 :=
  if (b2i (f_X4_hasItem σ (σ.2.2.1) a1)) = 0 then (some (-1)) else (if a2 = 0 then ((rd σ ((σ.2.2.1) + 1) 5 a1).bind fun v9 => some v9) else (if a2 = 1 then ((rd σ ((σ.2.2.1) + 2) 5 a1).bind fun v7 => some v7) else (some (-1))))
set_option maxRecDepth 100000 in
set_option maxHeartbeats 4000000 in
theorem ok_X8_item (X : Xc) (l : Launch) (σ : St) (a1 : Int32) (a2 : Int32) (r : Int32) (h : f_X8_item σ a1 a2 = some r) : Ok X l yX8_item cX8_item 3 (some .int) 1 21 [.ref (X.2.1 0), .int a1, .int a2] σ (some (.int r)) σ := by
  refine Ok.of (by decide) (Nat.le_of_ble_eq_true rfl) ?_
  intro p e s m args below meth c C hr hlk hw ls hl
  have C : Cx p s m args c X cX8_item 3 "RunningCount" := C
  have hl : lv_has ls 3 [(0, .ref (X.2.1 0)), (1, .int a1), (2, .int a2)] := hl
  rw [f_X8_item] at h
  refine lv_aload_n C.1 C.2.1 dX8_item_0 rfl (lv_at hl 0 rfl) ?_
  have hz1 := hw.2.2.1
  refine r_get (v := .ref (X.2.1 (σ.2.2.1))) C hw l_0 vc_8 kX8 1 rfl (by decide) gw_409 rfl dX8_item_1 ?_
  refine lv_iload_n C.1 C.2.1 dX8_item_4 rfl (lv_at hl 1 rfl) ?_
  refine r_callVN (As := [.int a1]) C hw (ok_X4_hasItem X l σ (σ.2.2.1) a1 hz1 _ rfl) (lg_0 hz1) vc_4 gw_610 nw_667 gw_609 gw_24 gw_117 hl.1 pd_X4_hasItem ⟨Nat.le_of_ble_eq_true rfl, Nat.le_of_ble_eq_true rfl⟩ ⟨Nat.le_refl 0, Nat.le_refl 0⟩ (rest := []) (Nat.le_of_ble_eq_true rfl) dX8_item_5 rfl (fun H locs hw => ?_)
  refine lv_if_ne (tgt := 13) C.1 C.2.1 dX8_item_8 (by decide) (fun c3 => ?_) (fun c3 => ?_)
  · have h := ite_f c3 h
    refine lv_iload_n C.1 C.2.1 dX8_item_13 rfl (lv_at hl 2 rfl) ?_
    by_cases c4 : a2 = 0
    · have h := ite_t c4 h
      refine lv_lookup (tgt := 40) C.1 C.2.1 dX8_item_14 (by decide) (by rw [c4]) (by decide) ?_
      refine lv_aload_n C.1 C.2.1 dX8_item_40 rfl (lv_at hl 0 rfl) ?_
      have hz8 := hw.2.2.1
      refine r_get (v := .ref (X.2.1 (σ.2.2.1))) C hw l_0 vc_8 kX8 1 rfl (by decide) gw_409 rfl dX8_item_41 ?_
      refine r_getN (v := .ref (X.2.1 ((σ.2.2.1) + 1))) C hw (lg_0 hz8) vc_4 kX4 3 rfl (by decide) nw_222 rfl dX8_item_44 ?_
      refine lv_iload_n C.1 C.2.1 dX8_item_47 rfl (lv_at hl 1 rfl) ?_
      obtain ⟨v9, ev9, h⟩ := bnd h
      refine r_ald C hw (lg_1 hz8) ev9 dX8_item_48 ?_
      exact r_iret C hr hlk hw (Option.some.inj h) rfl dX8_item_49
    · have h := ite_f c4 h
      by_cases c5 : a2 = 1
      · have h := ite_t c5 h
        refine lv_lookup (tgt := 50) C.1 C.2.1 dX8_item_14 (by decide) (by rw [c5]) (by decide) ?_
        refine lv_aload_n C.1 C.2.1 dX8_item_50 rfl (lv_at hl 0 rfl) ?_
        have hz6 := hw.2.2.1
        refine r_get (v := .ref (X.2.1 (σ.2.2.1))) C hw l_0 vc_8 kX8 1 rfl (by decide) gw_409 rfl dX8_item_51 ?_
        refine r_getN (v := .ref (X.2.1 ((σ.2.2.1) + 2))) C hw (lg_0 hz6) vc_4 kX4 4 rfl (by decide) nw_224 rfl dX8_item_54 ?_
        refine lv_iload_n C.1 C.2.1 dX8_item_57 rfl (lv_at hl 1 rfl) ?_
        obtain ⟨v7, ev7, h⟩ := bnd h
        refine r_ald C hw (lg_2 hz6) ev7 dX8_item_58 ?_
        exact r_iret C hr hlk hw (Option.some.inj h) rfl dX8_item_59
      · have h := ite_f c5 h
        refine lv_lookup (tgt := 60) C.1 C.2.1 dX8_item_14 (by decide) (lk_X8_item c4 c5) (by decide) ?_
        refine lv_iconst (v := (-1)) C.1 C.2.1 dX8_item_60 (by decide) ?_
        exact r_iret C hr hlk hw (Option.some.inj h) rfl dX8_item_61
  · have h := ite_t c3 h
    refine lv_iconst (v := (-1)) C.1 C.2.1 dX8_item_11 (by decide) ?_
    exact r_iret C hr hlk hw (Option.some.inj h) rfl dX8_item_12
def f_X4_hasMove (σ : St) (g0 : Nat) (a1 : Int32) : Bool :=
  if a1 < 0 then (false) else (if (σ.1 g0 2) ≤ a1 then (false) else (true))
set_option maxRecDepth 100000 in
set_option maxHeartbeats 4000000 in
theorem ok_X4_hasMove (X : Xc) (l : Launch) (σ : St) (g0 : Nat) (a1 : Int32) (hg0 : isG g0) (r : Bool) (h : f_X4_hasMove σ g0 a1 = r) : Ok X l yX4_hasMove cX4_hasMove 2 (some .boolean) 0 0 [.ref (X.2.1 g0), .int a1] σ (some (.int (b2i r))) σ := by
  refine Ok.of (by decide) (Nat.le_of_ble_eq_true rfl) ?_
  intro p e s m args below meth c C hr hlk hw ls hl
  have C : Cx p s m args c X cX4_hasMove 2 "RunningCount$Goods" := C
  have hl : lv_has ls 2 [(0, .ref (X.2.1 g0)), (1, .int a1)] := hl
  rw [f_X4_hasMove] at h
  refine lv_iload_n C.1 C.2.1 dX4_hasMove_0 rfl (lv_at hl 1 rfl) ?_
  refine lv_if_lt (tgt := 16) C.1 C.2.1 dX4_hasMove_1 (by decide) (fun c1 => ?_) (fun c1 => ?_)
  · have h := ite_t c1 h
    refine lv_iconst (v := 0) C.1 C.2.1 dX4_hasMove_16 (by decide) ?_
    exact r_zret C hr hlk hw rfl h rfl dX4_hasMove_17
  · have h := ite_f c1 h
    refine lv_iload_n C.1 C.2.1 dX4_hasMove_4 rfl (lv_at hl 1 rfl) ?_
    refine lv_aload_n C.1 C.2.1 dX4_hasMove_5 rfl (lv_at hl 0 rfl) ?_
    refine r_get (v := .int (σ.1 g0 2)) C hw (lg_0 hg0) vc_4 kX4 2 rfl (by decide) gw_217 rfl dX4_hasMove_6 ?_
    refine lv_icmp_ge (tgt := 16) C.1 C.2.1 dX4_hasMove_9 (by decide) (fun c2 => ?_) (fun c2 => ?_)
    · have h := ite_t c2 h
      refine lv_iconst (v := 0) C.1 C.2.1 dX4_hasMove_16 (by decide) ?_
      exact r_zret C hr hlk hw rfl h rfl dX4_hasMove_17
    · have h := ite_f c2 h
      refine lv_iconst (v := 1) C.1 C.2.1 dX4_hasMove_12 (by decide) ?_
      refine lv_goto (tgt := 17) C.1 C.2.1 dX4_hasMove_13 (by decide) ?_
      exact r_zret C hr hlk hw rfl h rfl dX4_hasMove_17
def f_X8_isInstant (σ : St) (a0 : Int32) : Bool :=
  if a0 < 0 then (false) else (if 999 < a0 then (false) else (true))
set_option maxRecDepth 100000 in
set_option maxHeartbeats 4000000 in
theorem ok_X8_isInstant (X : Xc) (l : Launch) (σ : St) (a0 : Int32) (r : Bool) (h : f_X8_isInstant σ a0 = r) : Ok X l yX8_isInstant cX8_isInstant 1 (some .boolean) 0 0 [.int a0] σ (some (.int (b2i r))) σ := by
  refine Ok.of (by decide) (Nat.le_of_ble_eq_true rfl) ?_
  intro p e s m args below meth c C hr hlk hw ls hl
  have C : Cx p s m args c X cX8_isInstant 1 "RunningCount" := C
  have hl : lv_has ls 1 [(0, .int a0)] := hl
  rw [f_X8_isInstant] at h
  refine lv_iload_n C.1 C.2.1 dX8_isInstant_0 rfl (lv_at hl 0 rfl) ?_
  refine lv_if_lt (tgt := 15) C.1 C.2.1 dX8_isInstant_1 (by decide) (fun c1 => ?_) (fun c1 => ?_)
  · have h := ite_t c1 h
    refine lv_iconst (v := 0) C.1 C.2.1 dX8_isInstant_15 (by decide) ?_
    exact r_zret C hr hlk hw rfl h rfl dX8_isInstant_16
  · have h := ite_f c1 h
    refine lv_iload_n C.1 C.2.1 dX8_isInstant_4 rfl (lv_at hl 0 rfl) ?_
    refine lv_sipush (v := 999) C.1 C.2.1 dX8_isInstant_5 (by decide) ?_
    refine lv_icmp_gt (tgt := 15) C.1 C.2.1 dX8_isInstant_8 (by decide) (fun c2 => ?_) (fun c2 => ?_)
    · have h := ite_t c2 h
      refine lv_iconst (v := 0) C.1 C.2.1 dX8_isInstant_15 (by decide) ?_
      exact r_zret C hr hlk hw rfl h rfl dX8_isInstant_16
    · have h := ite_f c2 h
      refine lv_iconst (v := 1) C.1 C.2.1 dX8_isInstant_11 (by decide) ?_
      refine lv_goto (tgt := 16) C.1 C.2.1 dX8_isInstant_12 (by decide) ?_
      exact r_zret C hr hlk hw rfl h rfl dX8_isInstant_16
def f_X4_stockOf (σ : St) (g0 : Nat) (a1 : Int32) (a2 : Int32) : Option Int32 :=
  (rd σ (g0 + 3) 30 (f_X4_placeOf σ a1 a2)).bind fun v2 => some (if v2 < 0 then 0 else v2)
set_option maxRecDepth 100000 in
set_option maxHeartbeats 4000000 in
theorem ok_X4_stockOf (X : Xc) (l : Launch) (σ : St) (g0 : Nat) (a1 : Int32) (a2 : Int32) (hg0 : isG g0) (r : Int32) (h : f_X4_stockOf σ g0 a1 a2 = some r) : Ok X l yX4_stockOf cX4_stockOf 3 (some .int) 1 21 [.ref (X.2.1 g0), .int a1, .int a2] σ (some (.int r)) σ := by
  refine Ok.of (by decide) (Nat.le_of_ble_eq_true rfl) ?_
  intro p e s m args below meth c C hr hlk hw ls hl
  have C : Cx p s m args c X cX4_stockOf 3 "RunningCount$Goods" := C
  have hl : lv_has ls 3 [(0, .ref (X.2.1 g0)), (1, .int a1), (2, .int a2)] := hl
  rw [f_X4_stockOf] at h
  refine lv_aload_n C.1 C.2.1 dX4_stockOf_0 rfl (lv_at hl 0 rfl) ?_
  refine r_get (v := .ref (X.2.1 (g0 + 3))) C hw (lg_0 hg0) vc_4 kX4 5 rfl (by decide) gw_225 rfl dX4_stockOf_1 ?_
  refine lv_iload_n C.1 C.2.1 dX4_stockOf_4 rfl (lv_at hl 1 rfl) ?_
  refine lv_iload_n C.1 C.2.1 dX4_stockOf_5 rfl (lv_at hl 2 rfl) ?_
  refine r_callS (As := [.int a1, .int a2]) C hw (ok_X4_placeOf X l σ a1 a2 _ rfl) gw_613 gw_611 gw_612 gw_117 hl.1 pd_X4_placeOf ⟨Nat.le_of_ble_eq_true rfl, Nat.le_of_ble_eq_true rfl⟩ ⟨Nat.le_refl 0, Nat.le_refl 0⟩ (rest := [.ref (X.2.1 (g0 + 3))]) (Nat.le_of_ble_eq_true rfl) dX4_stockOf_6 rfl (fun H locs hw => ?_)
  obtain ⟨v2, ev2, h⟩ := bnd h
  refine r_ald C hw (lg_3 hg0) ev2 dX4_stockOf_9 ?_
  refine lv_iconst (v := 0) C.1 C.2.1 dX4_stockOf_10 (by decide) ?_
  refine va_mmax C.1 C.2.1 (C.2.2.1.trans hl.1.symm) C.2.2.2.1 (C.2.2.2.2.1 _ gw_685) (C.2.2.2.2.1 _ gw_475) (C.2.2.2.2.1 _ gw_124) (C.2.2.2.2.1 _ gw_476) (Nat.le_of_ble_eq_true rfl) (Nat.le_of_ble_eq_true rfl) (Nat.le_refl 0) (Nat.le_refl 0) dX4_stockOf_11 ?_
  exact r_iret C hr hlk hw (Option.some.inj h) rfl dX4_stockOf_14
def f_X1_isAt (σ : St) (a1 : Int32) (a2 : Int32) (a3 : Int32) : Option Bool :=
  (rd σ 32 40 a1).bind fun v1 => if v1 = a2 then ((rd σ 33 40 a1).bind fun v3 => if v3 = a3 then (some true) else (some false)) else (some false)
set_option maxRecDepth 100000 in
set_option maxHeartbeats 4000000 in
theorem ok_X1_isAt (X : Xc) (l : Launch) (σ : St) (a1 : Int32) (a2 : Int32) (a3 : Int32) (r : Bool) (h : f_X1_isAt σ a1 a2 a3 = some r) : Ok X l yX1_isAt cX1_isAt 4 (some .boolean) 0 0 [.ref (X.2.1 31), .int a1, .int a2, .int a3] σ (some (.int (b2i r))) σ := by
  refine Ok.of (by decide) (Nat.le_of_ble_eq_true rfl) ?_
  intro p e s m args below meth c C hr hlk hw ls hl
  have C : Cx p s m args c X cX1_isAt 4 "RunningCount$AdjustmentList" := C
  have hl : lv_has ls 4 [(0, .ref (X.2.1 31)), (1, .int a1), (2, .int a2), (3, .int a3)] := hl
  rw [f_X1_isAt] at h
  refine lv_aload_n C.1 C.2.1 dX1_isAt_0 rfl (lv_at hl 0 rfl) ?_
  refine r_get (v := .ref (X.2.1 32)) C hw l_31 vc_1 kX1 1 rfl (by decide) gw_306 rfl dX1_isAt_1 ?_
  refine lv_iload_n C.1 C.2.1 dX1_isAt_4 rfl (lv_at hl 1 rfl) ?_
  obtain ⟨v1, ev1, h⟩ := bnd h
  refine r_ald C hw l_32 ev1 dX1_isAt_5 ?_
  refine lv_iload_n C.1 C.2.1 dX1_isAt_6 rfl (lv_at hl 2 rfl) ?_
  refine lv_icmp_ne (tgt := 24) C.1 C.2.1 dX1_isAt_7 (by decide) (fun c2 => ?_) (fun c2 => ?_)
  · have h := ite_f c2 h
    refine lv_iconst (v := 0) C.1 C.2.1 dX1_isAt_24 (by decide) ?_
    exact r_zret C hr hlk hw rfl (Option.some.inj h) rfl dX1_isAt_25
  · have h := ite_t c2 h
    refine lv_aload_n C.1 C.2.1 dX1_isAt_10 rfl (lv_at hl 0 rfl) ?_
    refine r_get (v := .ref (X.2.1 33)) C hw l_31 vc_1 kX1 2 rfl (by decide) gw_308 rfl dX1_isAt_11 ?_
    refine lv_iload_n C.1 C.2.1 dX1_isAt_14 rfl (lv_at hl 1 rfl) ?_
    obtain ⟨v3, ev3, h⟩ := bnd h
    refine r_ald C hw l_33 ev3 dX1_isAt_15 ?_
    refine lv_iload_n C.1 C.2.1 dX1_isAt_16 rfl (lv_at hl 3 rfl) ?_
    refine lv_icmp_ne (tgt := 24) C.1 C.2.1 dX1_isAt_17 (by decide) (fun c4 => ?_) (fun c4 => ?_)
    · have h := ite_f c4 h
      refine lv_iconst (v := 0) C.1 C.2.1 dX1_isAt_24 (by decide) ?_
      exact r_zret C hr hlk hw rfl (Option.some.inj h) rfl dX1_isAt_25
    · have h := ite_t c4 h
      refine lv_iconst (v := 1) C.1 C.2.1 dX1_isAt_20 (by decide) ?_
      refine lv_goto (tgt := 25) C.1 C.2.1 dX1_isAt_21 (by decide) ?_
      exact r_zret C hr hlk hw rfl (Option.some.inj h) rfl dX1_isAt_25
def f_X1_sumUpTo_b6 (σ : St) (a1 : Int32) (a2 : Int32) (a3 : Int32) : Nat → Int32 → Int32 → Option Int32
  | 0, _, _ => none
  | n + 1, x4, x5 => if (σ.1 31 0) ≤ x5 then (some x4) else ((f_X1_isAt σ x5 a1 a2).bind fun q2 => if (b2i q2) = 0 then (nm (x5 + 1) fun v4 => f_X1_sumUpTo_b6 σ a1 a2 a3 n x4 v4) else ((rd σ 34 40 x5).bind fun v5 => if a3 < v5 then (nm (x5 + 1) fun v7 => f_X1_sumUpTo_b6 σ a1 a2 a3 n x4 v7) else ((rd σ 35 40 x5).bind fun v8 => nm (x4 + v8) fun v9 => nm (x5 + 1) fun v10 => f_X1_sumUpTo_b6 σ a1 a2 a3 n v9 v10)))
def f_X1_sumUpTo (σ : St) (a1 : Int32) (a2 : Int32) (a3 : Int32) : Option Int32 :=
  f_X1_sumUpTo_b6 σ a1 a2 a3 10000 0 0
set_option maxRecDepth 100000 in
set_option maxHeartbeats 4000000 in
theorem ok_X1_sumUpTo (X : Xc) (l : Launch) (σ : St) (a1 : Int32) (a2 : Int32) (a3 : Int32) (r : Int32) (h : f_X1_sumUpTo σ a1 a2 a3 = some r) : Ok X l yX1_sumUpTo cX1_sumUpTo 6 (some .int) 1 23 [.ref (X.2.1 31), .int a1, .int a2, .int a3] σ (some (.int r)) σ := by
  refine Ok.of (by decide) (Nat.le_of_ble_eq_true rfl) ?_
  intro p e s m args below meth c C hr hlk hw ls hl
  have C : Cx p s m args c X cX1_sumUpTo 6 "RunningCount$AdjustmentList" := C
  have hl : lv_has ls 6 [(0, .ref (X.2.1 31)), (1, .int a1), (2, .int a2), (3, .int a3)] := hl
  have b6 : ∀ (n : Nat), ∀ (x4 : Int32) (x5 : Int32), f_X1_sumUpTo_b6 σ a1 a2 a3 n x4 x5 = some r → ∀ (H : Heap) (locs : List Loc), At X σ s.heap H locs → ∀ ls : Array Slot, lv_has ls 6 [(0, .ref (X.2.1 31)), (1, .int a1), (2, .int a2), (3, .int a3), (4, .int x4), (5, .int x5)] → W p l e (rmX 1 23) s m args below meth c H locs 0 0 (Zq X below s args (some (.int r)) σ) (F0 m 6 ls []) := by
    intro n
    induction n with
    | zero =>
      intro x4 x5 h
      exact no_some h
    | succ n ih =>
      intro x4 x5 h H locs hw ls hl
      rw [f_X1_sumUpTo_b6] at h
      refine lv_iload C.1 C.2.1 dX1_sumUpTo_6 (lv_at hl 5 rfl) ?_
      refine lv_aload_n C.1 C.2.1 dX1_sumUpTo_8 rfl (lv_at hl 0 rfl) ?_
      refine r_get (v := .int (σ.1 31 0)) C hw l_31 vc_1 kX1 0 rfl (by decide) gw_304 rfl dX1_sumUpTo_9 ?_
      refine lv_icmp_ge (tgt := 55) C.1 C.2.1 dX1_sumUpTo_12 (by decide) (fun c1 => ?_) (fun c1 => ?_)
      · have h := ite_t c1 h
        refine lv_iload C.1 C.2.1 dX1_sumUpTo_55 (lv_at hl 4 rfl) ?_
        exact r_iret C hr hlk hw (Option.some.inj h) rfl dX1_sumUpTo_57
      · have h := ite_f c1 h
        refine lv_aload_n C.1 C.2.1 dX1_sumUpTo_15 rfl (lv_at hl 0 rfl) ?_
        refine lv_iload C.1 C.2.1 dX1_sumUpTo_16 (lv_at hl 5 rfl) ?_
        refine lv_iload_n C.1 C.2.1 dX1_sumUpTo_18 rfl (lv_at hl 1 rfl) ?_
        refine lv_iload_n C.1 C.2.1 dX1_sumUpTo_19 rfl (lv_at hl 2 rfl) ?_
        obtain ⟨q2, eq2, h⟩ := bnd h
        refine r_callV (As := [.int x5, .int a1, .int a2]) C hw (ok_X1_isAt X l σ x5 a1 a2 _ eq2) l_31 vc_1 gw_693 gw_690 gw_692 gw_37 gw_119 hl.1 pd_X1_isAt ⟨Nat.le_of_ble_eq_true rfl, Nat.le_of_ble_eq_true rfl⟩ ⟨Nat.le_refl 0, Nat.le_refl 0⟩ (rest := []) (Nat.le_of_ble_eq_true rfl) dX1_sumUpTo_20 rfl (fun H locs hw => ?_)
        refine lv_if_eq (tgt := 49) C.1 C.2.1 dX1_sumUpTo_23 (by decide) (fun c3 => ?_) (fun c3 => ?_)
        · have h := ite_t c3 h
          obtain ⟨v4, ev4, h⟩ := nm_d h
          refine lv_iinc (v := v4) (lv' := [(5, .int v4), (0, .ref (X.2.1 31)), (1, .int a1), (2, .int a2), (3, .int a3), (4, .int x4)]) C.1 C.2.1 dX1_sumUpTo_49 hl (k := 5) rfl (by rw [ev4]; rfl) (by decide) rfl (fun ls hl => ?_)
          refine lv_goto (tgt := 6) C.1 C.2.1 dX1_sumUpTo_52 (by decide) ?_
          exact ih x4 v4 h _ _ hw ls (lv_sub hl [1, 2, 3, 4, 5, 0] rfl)
        · have h := ite_f c3 h
          refine lv_aload_n C.1 C.2.1 dX1_sumUpTo_26 rfl (lv_at hl 0 rfl) ?_
          refine r_get (v := .ref (X.2.1 34)) C hw l_31 vc_1 kX1 3 rfl (by decide) gw_310 rfl dX1_sumUpTo_27 ?_
          refine lv_iload C.1 C.2.1 dX1_sumUpTo_30 (lv_at hl 5 rfl) ?_
          obtain ⟨v5, ev5, h⟩ := bnd h
          refine r_ald C hw l_34 ev5 dX1_sumUpTo_32 ?_
          refine lv_iload_n C.1 C.2.1 dX1_sumUpTo_33 rfl (lv_at hl 3 rfl) ?_
          refine lv_icmp_gt (tgt := 49) C.1 C.2.1 dX1_sumUpTo_34 (by decide) (fun c6 => ?_) (fun c6 => ?_)
          · have h := ite_t c6 h
            obtain ⟨v7, ev7, h⟩ := nm_d h
            refine lv_iinc (v := v7) (lv' := [(5, .int v7), (0, .ref (X.2.1 31)), (1, .int a1), (2, .int a2), (3, .int a3), (4, .int x4)]) C.1 C.2.1 dX1_sumUpTo_49 hl (k := 5) rfl (by rw [ev7]; rfl) (by decide) rfl (fun ls hl => ?_)
            refine lv_goto (tgt := 6) C.1 C.2.1 dX1_sumUpTo_52 (by decide) ?_
            exact ih x4 v7 h _ _ hw ls (lv_sub hl [1, 2, 3, 4, 5, 0] rfl)
          · have h := ite_f c6 h
            refine lv_iload C.1 C.2.1 dX1_sumUpTo_37 (lv_at hl 4 rfl) ?_
            refine lv_aload_n C.1 C.2.1 dX1_sumUpTo_39 rfl (lv_at hl 0 rfl) ?_
            refine r_get (v := .ref (X.2.1 35)) C hw l_31 vc_1 kX1 4 rfl (by decide) gw_312 rfl dX1_sumUpTo_40 ?_
            refine lv_iload C.1 C.2.1 dX1_sumUpTo_43 (lv_at hl 5 rfl) ?_
            obtain ⟨v8, ev8, h⟩ := bnd h
            refine r_ald C hw l_35 ev8 dX1_sumUpTo_45 ?_
            refine lv_iadd C.1 C.2.1 dX1_sumUpTo_46 ?_
            obtain ⟨v9, ev9, h⟩ := nm_d h
            refine lv_nm ev9 ?_
            refine lv_istore (lv' := [(4, .int v9), (0, .ref (X.2.1 31)), (1, .int a1), (2, .int a2), (3, .int a3), (5, .int x5)]) C.1 C.2.1 dX1_sumUpTo_47 hl (by decide) rfl (fun ls hl => ?_)
            obtain ⟨v10, ev10, h⟩ := nm_d h
            refine lv_iinc (v := v10) (lv' := [(5, .int v10), (4, .int v9), (0, .ref (X.2.1 31)), (1, .int a1), (2, .int a2), (3, .int a3)]) C.1 C.2.1 dX1_sumUpTo_49 hl (k := 5) rfl (by rw [ev10]; rfl) (by decide) rfl (fun ls hl => ?_)
            refine lv_goto (tgt := 6) C.1 C.2.1 dX1_sumUpTo_52 (by decide) ?_
            exact ih v9 v10 h _ _ hw ls (lv_sub hl [2, 3, 4, 5, 1, 0] rfl)
  rw [f_X1_sumUpTo] at h
  refine lv_iconst (v := 0) C.1 C.2.1 dX1_sumUpTo_0 (by decide) ?_
  refine lv_istore (lv' := [(4, .int 0), (0, .ref (X.2.1 31)), (1, .int a1), (2, .int a2), (3, .int a3)]) C.1 C.2.1 dX1_sumUpTo_1 hl (by decide) rfl (fun ls hl => ?_)
  refine lv_iconst (v := 0) C.1 C.2.1 dX1_sumUpTo_3 (by decide) ?_
  refine lv_istore (lv' := [(5, .int 0), (4, .int 0), (0, .ref (X.2.1 31)), (1, .int a1), (2, .int a2), (3, .int a3)]) C.1 C.2.1 dX1_sumUpTo_4 hl (by decide) rfl (fun ls hl => ?_)
  exact b6 10000 0 0 h _ _ hw ls (lv_sub hl [2, 3, 4, 5, 1, 0] rfl)
