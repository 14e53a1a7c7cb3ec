def f_X9_thrown (σ : St) : Int32 :=
  σ.1 50 0
set_option maxRecDepth 100000 in
set_option maxHeartbeats 4000000 in
theorem ok_X9_thrown (X : Xc) (l : Launch) (σ : St) (r : Int32) (h : f_X9_thrown σ = r) : Ok X l yX9_thrown cX9_thrown 1 (some .int) 0 0 [.ref (X.2.1 50)] σ (some (.int r)) σ := by
  refine Ok.of (by decide) (Nat.le_of_ble_eq_true rfl) ?_
  intro p e s m args below meth c C hr hlk hw ls hl
  have C : Cx p s m args c X cX9_thrown 1 "RunningCountModel" := C
  have hl : lv_has ls 1 [(0, .ref (X.2.1 50))] := hl
  rw [f_X9_thrown] at h
  refine lv_aload_n C.1 C.2.1 dX9_thrown_0 rfl (lv_at hl 0 rfl) ?_
  refine r_get (v := .int (σ.1 50 0)) C hw l_50 vc_9 kX9 0 rfl (by decide) gw_1014 rfl dX9_thrown_1 ?_
  exact r_iret C hr hlk hw h rfl dX9_thrown_4
def f_X9_refuse (σ : St) : Option (Int32 × St) :=
  nm (upI σ 50 0 1) fun σ1 => some (0, σ1)
set_option maxRecDepth 100000 in
set_option maxHeartbeats 4000000 in
theorem ok_X9_refuse (X : Xc) (l : Launch) (σ : St) (r : Int32) (σ' : St) (h : f_X9_refuse σ = some (r, σ')) : Ok X l yX9_refuse cX9_refuse 1 (some .int) 0 0 [.ref (X.2.1 50)] σ (some (.int r)) σ' := by
  refine Ok.of (by decide) (Nat.le_of_ble_eq_true rfl) ?_
  intro p e s m args below meth c C hr hlk hw ls hl
  have C : Cx p s m args c X cX9_refuse 1 "RunningCountModel" := C
  have hl : lv_has ls 1 [(0, .ref (X.2.1 50))] := hl
  rw [f_X9_refuse] at h
  refine lv_aload_n C.1 C.2.1 dX9_refuse_0 rfl (lv_at hl 0 rfl) ?_
  refine lv_iconst (v := 1) C.1 C.2.1 dX9_refuse_1 (by decide) ?_
  obtain ⟨σ1, eσ1, h⟩ := nm_d h
  refine r_put C hw l_50 vc_9 kX9 tyX9 tyX9_ok nmX9 0 (by decide) (by decide) gw_1014 rfl rfl rfl (put_i l_50 rfl eσ1) dX9_refuse_2 (fun H locs hw => ?_)
  refine lv_iconst (v := 0) C.1 C.2.1 dX9_refuse_5 (by decide) ?_
  exact r_iret C hr hlk hw (Prod.mk.inj (Option.some.inj h)).1 (Prod.mk.inj (Option.some.inj h)).2 dX9_refuse_6
def f_X9_isIn (σ : St) (a0 : Int32) (a1 : Int32) (a2 : Int32) : Bool :=
  if a0 < a1 then (false) else (if a2 < a0 then (false) else (true))
set_option maxRecDepth 100000 in
set_option maxHeartbeats 4000000 in
theorem ok_X9_isIn (X : Xc) (l : Launch) (σ : St) (a0 : Int32) (a1 : Int32) (a2 : Int32) (r : Bool) (h : f_X9_isIn σ a0 a1 a2 = r) : Ok X l yX9_isIn cX9_isIn 3 (some .boolean) 0 0 [.int a0, .int a1, .int a2] σ (some (.int (b2i r))) σ := by
  refine Ok.of (by decide) (Nat.le_of_ble_eq_true rfl) ?_
  intro p e s m args below meth c C hr hlk hw ls hl
  have C : Cx p s m args c X cX9_isIn 3 "RunningCountModel" := C
  have hl : lv_has ls 3 [(0, .int a0), (1, .int a1), (2, .int a2)] := hl
  rw [f_X9_isIn] at h
  refine lv_iload_n C.1 C.2.1 dX9_isIn_0 rfl (lv_at hl 0 rfl) ?_
  refine lv_iload_n C.1 C.2.1 dX9_isIn_1 rfl (lv_at hl 1 rfl) ?_
  refine lv_icmp_lt (tgt := 14) C.1 C.2.1 dX9_isIn_2 (by decide) (fun c1 => ?_) (fun c1 => ?_)
  · have h := ite_t c1 h
    refine lv_iconst (v := 0) C.1 C.2.1 dX9_isIn_14 (by decide) ?_
    exact r_zret C hr hlk hw rfl h rfl dX9_isIn_15
  · have h := ite_f c1 h
    refine lv_iload_n C.1 C.2.1 dX9_isIn_5 rfl (lv_at hl 0 rfl) ?_
    refine lv_iload_n C.1 C.2.1 dX9_isIn_6 rfl (lv_at hl 2 rfl) ?_
    refine lv_icmp_gt (tgt := 14) C.1 C.2.1 dX9_isIn_7 (by decide) (fun c2 => ?_) (fun c2 => ?_)
    · have h := ite_t c2 h
      refine lv_iconst (v := 0) C.1 C.2.1 dX9_isIn_14 (by decide) ?_
      exact r_zret C hr hlk hw rfl h rfl dX9_isIn_15
    · have h := ite_f c2 h
      refine lv_iconst (v := 1) C.1 C.2.1 dX9_isIn_10 (by decide) ?_
      refine lv_goto (tgt := 15) C.1 C.2.1 dX9_isIn_11 (by decide) ?_
      exact r_zret C hr hlk hw rfl h rfl dX9_isIn_15
def f_X9_lays_b3 (a1 : Int32) : Nat → St → Int32 → Option St
  | 0, _, _ => none
  | n + 1, σ, x2 => if x2 < 0 then (some σ) else ((wr σ 51 640 (σ.1 50 2) (((a1.toUInt32 >>> (x2.toUInt32 &&& Int32.toUInt32 31)).toInt32) &&& 255)).bind fun σ2 => nm (upI σ2 50 2 ((σ2.1 50 2) + 1)) fun σ3 => nm (x2 + (-8)) fun v4 => f_X9_lays_b3 a1 n σ3 v4)
def f_X9_lays (σ : St) (a1 : Int32) : Option St :=
  f_X9_lays_b3 a1 10000 σ 24
set_option maxRecDepth 100000 in
set_option maxHeartbeats 4000000 in
theorem ok_X9_lays (X : Xc) (l : Launch) (σ : St) (a1 : Int32) (σ' : St) (h : f_X9_lays σ a1 = some σ') : Ok X l yX9_lays cX9_lays 3 none 0 0 [.ref (X.2.1 50), .int a1] σ none σ' := by
  refine Ok.of (by decide) (Nat.le_of_ble_eq_true rfl) ?_
  intro p e s m args below meth c C hr hlk hw ls hl
  have C : Cx p s m args c X cX9_lays 3 "RunningCountModel" := C
  have hl : lv_has ls 3 [(0, .ref (X.2.1 50)), (1, .int a1)] := hl
  have b3 : ∀ (n : Nat), ∀ (σ : St) (x2 : Int32), f_X9_lays_b3 a1 n σ x2 = some σ' → ∀ (H : Heap) (locs : List Loc), At X σ s.heap H locs → ∀ ls : Array Slot, lv_has ls 3 [(0, .ref (X.2.1 50)), (1, .int a1), (2, .int x2)] → W p l e (rmX 0 0) s m args below meth c H locs 0 0 (Zq X below s args none σ') (F0 m 3 ls []) := by
    intro n
    induction n with
    | zero =>
      intro σ x2 h
      exact no_some h
    | succ n ih =>
      intro σ x2 h H locs hw ls hl
      rw [f_X9_lays_b3] at h
      refine lv_iload_n C.1 C.2.1 dX9_lays_3 rfl (lv_at hl 2 rfl) ?_
      refine lv_if_lt (tgt := 39) C.1 C.2.1 dX9_lays_4 (by decide) (fun c1 => ?_) (fun c1 => ?_)
      · have h := ite_t c1 h
        exact r_vret C hr hlk hw (Option.some.inj h) dX9_lays_39
      · have h := ite_f c1 h
        refine lv_aload_n C.1 C.2.1 dX9_lays_7 rfl (lv_at hl 0 rfl) ?_
        refine r_get (v := .ref (X.2.1 51)) C hw l_50 vc_9 kX9 1 rfl (by decide) gw_1015 rfl dX9_lays_8 ?_
        refine lv_aload_n C.1 C.2.1 dX9_lays_11 rfl (lv_at hl 0 rfl) ?_
        refine r_get (v := .int (σ.1 50 2)) C hw l_50 vc_9 kX9 2 rfl (by decide) gw_1016 rfl dX9_lays_12 ?_
        refine lv_iload_n C.1 C.2.1 dX9_lays_15 rfl (lv_at hl 1 rfl) ?_
        refine lv_iload_n C.1 C.2.1 dX9_lays_16 rfl (lv_at hl 2 rfl) ?_
        refine lv_iushr (v := (a1.toUInt32 >>> (x2.toUInt32 &&& Int32.toUInt32 31)).toInt32) C.1 C.2.1 dX9_lays_17 rfl ?_
        refine lv_sipush (v := 255) C.1 C.2.1 dX9_lays_18 (by decide) ?_
        refine lv_iand C.1 C.2.1 dX9_lays_21 ?_
        obtain ⟨σ2, eσ2, h⟩ := bnd h
        refine r_ast C hw l_51 eσ2 dX9_lays_22 (fun H locs hw => ?_)
        refine lv_aload_n C.1 C.2.1 dX9_lays_23 rfl (lv_at hl 0 rfl) ?_
        refine lv_dup C.1 C.2.1 dX9_lays_24 rfl ?_
        refine r_get (v := .int (σ2.1 50 2)) C hw l_50 vc_9 kX9 2 rfl (by decide) gw_1016 rfl dX9_lays_25 ?_
        refine lv_iconst (v := 1) C.1 C.2.1 dX9_lays_28 (by decide) ?_
        refine lv_iadd C.1 C.2.1 dX9_lays_29 ?_
        obtain ⟨σ3, eσ3, h⟩ := nm_d h
        refine r_put C hw l_50 vc_9 kX9 tyX9 tyX9_ok nmX9 2 (by decide) (by decide) gw_1016 rfl rfl rfl (put_i l_50 rfl eσ3) dX9_lays_30 (fun H locs hw => ?_)
        obtain ⟨v4, ev4, h⟩ := nm_d h
        refine lv_iinc (v := v4) (lv' := [(2, .int v4), (0, .ref (X.2.1 50)), (1, .int a1)]) C.1 C.2.1 dX9_lays_33 hl (k := 2) rfl (by rw [ev4]; rfl) (by decide) rfl (fun ls hl => ?_)
        refine lv_goto (tgt := 3) C.1 C.2.1 dX9_lays_36 (by decide) ?_
        exact ih σ3 v4 h _ _ hw ls (lv_sub hl [1, 2, 0] rfl)
  rw [f_X9_lays] at h
  refine lv_bipush (v := 24) C.1 C.2.1 dX9_lays_0 (by decide) ?_
  refine lv_istore_n (lv' := [(2, .int 24), (0, .ref (X.2.1 50)), (1, .int a1)]) C.1 C.2.1 dX9_lays_2 rfl hl (by decide) rfl (fun ls hl => ?_)
  exact b3 10000 σ 24 h _ _ hw ls (lv_sub hl [1, 2, 0] rfl)
def f_X9_feed (σ : St) (a1 : Int32) (a2 : Int32) (a3 : Int32) (a4 : Int32) (a5 : Int32) : Option (Int32 × St) :=
  nm (upI σ 50 0 0) fun σ1 => if ((σ1.1 50 2) + 20) ≤ 640 then ((f_X9_lays σ1 a1).bind fun q3 => (f_X9_lays q3 a2).bind fun q4 => (f_X9_lays q4 a3).bind fun q5 => (f_X9_lays q5 a4).bind fun q6 => (f_X9_lays q6 a5).bind fun q7 => some (q7.1 50 2, q7)) else (some ((-1), σ1))
set_option maxRecDepth 100000 in
set_option maxHeartbeats 4000000 in
theorem ok_X9_feed (X : Xc) (l : Launch) (σ : St) (a1 : Int32) (a2 : Int32) (a3 : Int32) (a4 : Int32) (a5 : Int32) (r : Int32) (σ' : St) (h : f_X9_feed σ a1 a2 a3 a4 a5 = some (r, σ')) : Ok X l yX9_feed cX9_feed 6 (some .int) 1 22 [.ref (X.2.1 50), .int a1, .int a2, .int a3, .int a4, .int a5] σ (some (.int r)) σ' := by
  refine Ok.of (by decide) (Nat.le_of_ble_eq_true rfl) ?_
  intro p e s m args below meth c C hr hlk hw ls hl
  have C : Cx p s m args c X cX9_feed 6 "RunningCountModel" := C
  have hl : lv_has ls 6 [(0, .ref (X.2.1 50)), (1, .int a1), (2, .int a2), (3, .int a3), (4, .int a4), (5, .int a5)] := hl
  rw [f_X9_feed] at h
  refine lv_aload_n C.1 C.2.1 dX9_feed_0 rfl (lv_at hl 0 rfl) ?_
  refine lv_iconst (v := 0) C.1 C.2.1 dX9_feed_1 (by decide) ?_
  obtain ⟨σ1, eσ1, h⟩ := nm_d h
  refine r_put C hw l_50 vc_9 kX9 tyX9 tyX9_ok nmX9 0 (by decide) (by decide) gw_1014 rfl rfl rfl (put_i l_50 rfl eσ1) dX9_feed_2 (fun H locs hw => ?_)
  refine lv_aload_n C.1 C.2.1 dX9_feed_5 rfl (lv_at hl 0 rfl) ?_
  refine r_get (v := .int (σ1.1 50 2)) C hw l_50 vc_9 kX9 2 rfl (by decide) gw_1016 rfl dX9_feed_6 ?_
  refine lv_bipush (v := 20) C.1 C.2.1 dX9_feed_9 (by decide) ?_
  refine lv_iadd C.1 C.2.1 dX9_feed_11 ?_
  refine lv_sipush (v := 640) C.1 C.2.1 dX9_feed_12 (by decide) ?_
  refine lv_icmp_le (tgt := 20) C.1 C.2.1 dX9_feed_15 (by decide) (fun c2 => ?_) (fun c2 => ?_)
  · have h := ite_t c2 h
    refine lv_aload_n C.1 C.2.1 dX9_feed_20 rfl (lv_at hl 0 rfl) ?_
    refine lv_iload_n C.1 C.2.1 dX9_feed_21 rfl (lv_at hl 1 rfl) ?_
    obtain ⟨q3, eq3, h⟩ := bnd h
    refine r_callV (As := [.int a1]) C hw (ok_X9_lays X l σ1 a1 _ eq3) l_50 vc_9 gw_1004 gw_1000 gw_1002 gw_71 gw_123 hl.1 pd_X9_lays ⟨Nat.le_of_ble_eq_true rfl, Nat.le_of_ble_eq_true rfl⟩ ⟨Nat.le_refl 0, Nat.le_refl 0⟩ (rest := []) (Nat.le_of_ble_eq_true rfl) dX9_feed_22 rfl (fun H locs hw => ?_)
    refine lv_aload_n C.1 C.2.1 dX9_feed_25 rfl (lv_at hl 0 rfl) ?_
    refine lv_iload_n C.1 C.2.1 dX9_feed_26 rfl (lv_at hl 2 rfl) ?_
    obtain ⟨q4, eq4, h⟩ := bnd h
    refine r_callV (As := [.int a2]) C hw (ok_X9_lays X l q3 a2 _ eq4) l_50 vc_9 gw_1004 gw_1000 gw_1002 gw_71 gw_123 hl.1 pd_X9_lays ⟨Nat.le_of_ble_eq_true rfl, Nat.le_of_ble_eq_true rfl⟩ ⟨Nat.le_refl 0, Nat.le_refl 0⟩ (rest := []) (Nat.le_of_ble_eq_true rfl) dX9_feed_27 rfl (fun H locs hw => ?_)
    refine lv_aload_n C.1 C.2.1 dX9_feed_30 rfl (lv_at hl 0 rfl) ?_
    refine lv_iload_n C.1 C.2.1 dX9_feed_31 rfl (lv_at hl 3 rfl) ?_
    obtain ⟨q5, eq5, h⟩ := bnd h
    refine r_callV (As := [.int a3]) C hw (ok_X9_lays X l q4 a3 _ eq5) l_50 vc_9 gw_1004 gw_1000 gw_1002 gw_71 gw_123 hl.1 pd_X9_lays ⟨Nat.le_of_ble_eq_true rfl, Nat.le_of_ble_eq_true rfl⟩ ⟨Nat.le_refl 0, Nat.le_refl 0⟩ (rest := []) (Nat.le_of_ble_eq_true rfl) dX9_feed_32 rfl (fun H locs hw => ?_)
    refine lv_aload_n C.1 C.2.1 dX9_feed_35 rfl (lv_at hl 0 rfl) ?_
    refine lv_iload C.1 C.2.1 dX9_feed_36 (lv_at hl 4 rfl) ?_
    obtain ⟨q6, eq6, h⟩ := bnd h
    refine r_callV (As := [.int a4]) C hw (ok_X9_lays X l q5 a4 _ eq6) l_50 vc_9 gw_1004 gw_1000 gw_1002 gw_71 gw_123 hl.1 pd_X9_lays ⟨Nat.le_of_ble_eq_true rfl, Nat.le_of_ble_eq_true rfl⟩ ⟨Nat.le_refl 0, Nat.le_refl 0⟩ (rest := []) (Nat.le_of_ble_eq_true rfl) dX9_feed_38 rfl (fun H locs hw => ?_)
    refine lv_aload_n C.1 C.2.1 dX9_feed_41 rfl (lv_at hl 0 rfl) ?_
    refine lv_iload C.1 C.2.1 dX9_feed_42 (lv_at hl 5 rfl) ?_
    obtain ⟨q7, eq7, h⟩ := bnd h
    refine r_callV (As := [.int a5]) C hw (ok_X9_lays X l q6 a5 _ eq7) l_50 vc_9 gw_1004 gw_1000 gw_1002 gw_71 gw_123 hl.1 pd_X9_lays ⟨Nat.le_of_ble_eq_true rfl, Nat.le_of_ble_eq_true rfl⟩ ⟨Nat.le_refl 0, Nat.le_refl 0⟩ (rest := []) (Nat.le_of_ble_eq_true rfl) dX9_feed_44 rfl (fun H locs hw => ?_)
    refine lv_aload_n C.1 C.2.1 dX9_feed_47 rfl (lv_at hl 0 rfl) ?_
    refine r_get (v := .int (q7.1 50 2)) C hw l_50 vc_9 kX9 2 rfl (by decide) gw_1016 rfl dX9_feed_48 ?_
    exact r_iret C hr hlk hw (Prod.mk.inj (Option.some.inj h)).1 (Prod.mk.inj (Option.some.inj h)).2 dX9_feed_51
  · have h := ite_f c2 h
    refine lv_iconst (v := (-1)) C.1 C.2.1 dX9_feed_18 (by decide) ?_
    exact r_iret C hr hlk hw (Prod.mk.inj (Option.some.inj h)).1 (Prod.mk.inj (Option.some.inj h)).2 dX9_feed_19
def f_X9_end (σ : St) (a1 : Int32) : Option (Bool × St) :=
  nm (upI σ 50 0 0) fun σ1 => if a1 < 0 then (some (false, σ1)) else (if a1 ≤ (σ1.1 50 2) then (nm (upI σ1 50 2 a1) fun σ4 => some (true, σ4)) else (some (false, σ1)))
set_option maxRecDepth 100000 in
set_option maxHeartbeats 4000000 in
theorem ok_X9_end (X : Xc) (l : Launch) (σ : St) (a1 : Int32) (r : Bool) (σ' : St) (h : f_X9_end σ a1 = some (r, σ')) : Ok X l yX9_end cX9_end 2 (some .boolean) 0 0 [.ref (X.2.1 50), .int a1] σ (some (.int (b2i r))) σ' := by
  refine Ok.of (by decide) (Nat.le_of_ble_eq_true rfl) ?_
  intro p e s m args below meth c C hr hlk hw ls hl
  have C : Cx p s m args c X cX9_end 2 "RunningCountModel" := C
  have hl : lv_has ls 2 [(0, .ref (X.2.1 50)), (1, .int a1)] := hl
  rw [f_X9_end] at h
  refine lv_aload_n C.1 C.2.1 dX9_end_0 rfl (lv_at hl 0 rfl) ?_
  refine lv_iconst (v := 0) C.1 C.2.1 dX9_end_1 (by decide) ?_
  obtain ⟨σ1, eσ1, h⟩ := nm_d h
  refine r_put C hw l_50 vc_9 kX9 tyX9 tyX9_ok nmX9 0 (by decide) (by decide) gw_1014 rfl rfl rfl (put_i l_50 rfl eσ1) dX9_end_2 (fun H locs hw => ?_)
  refine lv_iload_n C.1 C.2.1 dX9_end_5 rfl (lv_at hl 1 rfl) ?_
  refine lv_if_lt (tgt := 17) C.1 C.2.1 dX9_end_6 (by decide) (fun c2 => ?_) (fun c2 => ?_)
  · have h := ite_t c2 h
    refine lv_iconst (v := 0) C.1 C.2.1 dX9_end_17 (by decide) ?_
    exact r_zret C hr hlk hw rfl (Prod.mk.inj (Option.some.inj h)).1 (Prod.mk.inj (Option.some.inj h)).2 dX9_end_18
  · have h := ite_f c2 h
    refine lv_iload_n C.1 C.2.1 dX9_end_9 rfl (lv_at hl 1 rfl) ?_
    refine lv_aload_n C.1 C.2.1 dX9_end_10 rfl (lv_at hl 0 rfl) ?_
    refine r_get (v := .int (σ1.1 50 2)) C hw l_50 vc_9 kX9 2 rfl (by decide) gw_1016 rfl dX9_end_11 ?_
    refine lv_icmp_le (tgt := 19) C.1 C.2.1 dX9_end_14 (by decide) (fun c3 => ?_) (fun c3 => ?_)
    · have h := ite_t c3 h
      refine lv_aload_n C.1 C.2.1 dX9_end_19 rfl (lv_at hl 0 rfl) ?_
      refine lv_iload_n C.1 C.2.1 dX9_end_20 rfl (lv_at hl 1 rfl) ?_
      obtain ⟨σ4, eσ4, h⟩ := nm_d h
      refine r_put C hw l_50 vc_9 kX9 tyX9 tyX9_ok nmX9 2 (by decide) (by decide) gw_1016 rfl rfl rfl (put_i l_50 rfl eσ4) dX9_end_21 (fun H locs hw => ?_)
      refine lv_iconst (v := 1) C.1 C.2.1 dX9_end_24 (by decide) ?_
      exact r_zret C hr hlk hw rfl (Prod.mk.inj (Option.some.inj h)).1 (Prod.mk.inj (Option.some.inj h)).2 dX9_end_25
    · have h := ite_f c3 h
      refine lv_iconst (v := 0) C.1 C.2.1 dX9_end_17 (by decide) ?_
      exact r_zret C hr hlk hw rfl (Prod.mk.inj (Option.some.inj h)).1 (Prod.mk.inj (Option.some.inj h)).2 dX9_end_18
def f_X9_tapeAt (σ : St) (a1 : Int32) : Option Int32 :=
  if (σ.1 50 3) ≤ a1 then (some 0) else ((rd σ 51 640 a1).bind fun v2 => some v2)
set_option maxRecDepth 100000 in
set_option maxHeartbeats 4000000 in
theorem ok_X9_tapeAt (X : Xc) (l : Launch) (σ : St) (a1 : Int32) (r : Int32) (h : f_X9_tapeAt σ a1 = some r) : Ok X l yX9_tapeAt cX9_tapeAt 2 (some .int) 0 0 [.ref (X.2.1 50), .int a1] σ (some (.int r)) σ := by
  refine Ok.of (by decide) (Nat.le_of_ble_eq_true rfl) ?_
  intro p e s m args below meth c C hr hlk hw ls hl
  have C : Cx p s m args c X cX9_tapeAt 2 "RunningCountModel" := C
  have hl : lv_has ls 2 [(0, .ref (X.2.1 50)), (1, .int a1)] := hl
  rw [f_X9_tapeAt] at h
  refine lv_iload_n C.1 C.2.1 dX9_tapeAt_0 rfl (lv_at hl 1 rfl) ?_
  refine lv_aload_n C.1 C.2.1 dX9_tapeAt_1 rfl (lv_at hl 0 rfl) ?_
  refine r_get (v := .int (σ.1 50 3)) C hw l_50 vc_9 kX9 3 rfl (by decide) gw_1017 rfl dX9_tapeAt_2 ?_
  refine lv_icmp_ge (tgt := 17) C.1 C.2.1 dX9_tapeAt_5 (by decide) (fun c1 => ?_) (fun c1 => ?_)
  · have h := ite_t c1 h
    refine lv_iconst (v := 0) C.1 C.2.1 dX9_tapeAt_17 (by decide) ?_
    exact r_iret C hr hlk hw (Option.some.inj h) rfl dX9_tapeAt_18
  · have h := ite_f c1 h
    refine lv_aload_n C.1 C.2.1 dX9_tapeAt_8 rfl (lv_at hl 0 rfl) ?_
    refine r_get (v := .ref (X.2.1 51)) C hw l_50 vc_9 kX9 1 rfl (by decide) gw_1015 rfl dX9_tapeAt_9 ?_
    refine lv_iload_n C.1 C.2.1 dX9_tapeAt_12 rfl (lv_at hl 1 rfl) ?_
    obtain ⟨v2, ev2, h⟩ := bnd h
    refine r_ald C hw l_51 ev2 dX9_tapeAt_13 ?_
    refine lv_goto (tgt := 18) C.1 C.2.1 dX9_tapeAt_14 (by decide) ?_
    exact r_iret C hr hlk hw (Option.some.inj h) rfl dX9_tapeAt_18
def f_X9_isDigit (σ : St) (a0 : Int32) : Bool :=
  if a0 < 48 then (false) else (if 57 < a0 then (false) else (true))
set_option maxRecDepth 100000 in
set_option maxHeartbeats 4000000 in
theorem ok_X9_isDigit (X : Xc) (l : Launch) (σ : St) (a0 : Int32) (r : Bool) (h : f_X9_isDigit σ a0 = r) : Ok X l yX9_isDigit cX9_isDigit 1 (some .boolean) 0 0 [.int a0] σ (some (.int (b2i r))) σ := by
  refine Ok.of (by decide) (Nat.le_of_ble_eq_true rfl) ?_
  intro p e s m args below meth c C hr hlk hw ls hl
  have C : Cx p s m args c X cX9_isDigit 1 "RunningCountModel" := C
  have hl : lv_has ls 1 [(0, .int a0)] := hl
  rw [f_X9_isDigit] at h
  refine lv_iload_n C.1 C.2.1 dX9_isDigit_0 rfl (lv_at hl 0 rfl) ?_
  refine lv_bipush (v := 48) C.1 C.2.1 dX9_isDigit_1 (by decide) ?_
  refine lv_icmp_lt (tgt := 16) C.1 C.2.1 dX9_isDigit_3 (by decide) (fun c1 => ?_) (fun c1 => ?_)
  · have h := ite_t c1 h
    refine lv_iconst (v := 0) C.1 C.2.1 dX9_isDigit_16 (by decide) ?_
    exact r_zret C hr hlk hw rfl h rfl dX9_isDigit_17
  · have h := ite_f c1 h
    refine lv_iload_n C.1 C.2.1 dX9_isDigit_6 rfl (lv_at hl 0 rfl) ?_
    refine lv_bipush (v := 57) C.1 C.2.1 dX9_isDigit_7 (by decide) ?_
    refine lv_icmp_gt (tgt := 16) C.1 C.2.1 dX9_isDigit_9 (by decide) (fun c2 => ?_) (fun c2 => ?_)
    · have h := ite_t c2 h
      refine lv_iconst (v := 0) C.1 C.2.1 dX9_isDigit_16 (by decide) ?_
      exact r_zret C hr hlk hw rfl h rfl dX9_isDigit_17
    · have h := ite_f c2 h
      refine lv_iconst (v := 1) C.1 C.2.1 dX9_isDigit_12 (by decide) ?_
      refine lv_goto (tgt := 17) C.1 C.2.1 dX9_isDigit_13 (by decide) ?_
      exact r_zret C hr hlk hw rfl h rfl dX9_isDigit_17
def f_X9_isLetter (σ : St) (a0 : Int32) : Bool :=
  if a0 < 97 then (false) else (if 122 < a0 then (false) else (true))
set_option maxRecDepth 100000 in
set_option maxHeartbeats 4000000 in
theorem ok_X9_isLetter (X : Xc) (l : Launch) (σ : St) (a0 : Int32) (r : Bool) (h : f_X9_isLetter σ a0 = r) : Ok X l yX9_isLetter cX9_isLetter 1 (some .boolean) 0 0 [.int a0] σ (some (.int (b2i r))) σ := by
  refine Ok.of (by decide) (Nat.le_of_ble_eq_true rfl) ?_
  intro p e s m args below meth c C hr hlk hw ls hl
  have C : Cx p s m args c X cX9_isLetter 1 "RunningCountModel" := C
  have hl : lv_has ls 1 [(0, .int a0)] := hl
  rw [f_X9_isLetter] at h
  refine lv_iload_n C.1 C.2.1 dX9_isLetter_0 rfl (lv_at hl 0 rfl) ?_
  refine lv_bipush (v := 97) C.1 C.2.1 dX9_isLetter_1 (by decide) ?_
  refine lv_icmp_lt (tgt := 16) C.1 C.2.1 dX9_isLetter_3 (by decide) (fun c1 => ?_) (fun c1 => ?_)
  · have h := ite_t c1 h
    refine lv_iconst (v := 0) C.1 C.2.1 dX9_isLetter_16 (by decide) ?_
    exact r_zret C hr hlk hw rfl h rfl dX9_isLetter_17
  · have h := ite_f c1 h
    refine lv_iload_n C.1 C.2.1 dX9_isLetter_6 rfl (lv_at hl 0 rfl) ?_
    refine lv_bipush (v := 122) C.1 C.2.1 dX9_isLetter_7 (by decide) ?_
    refine lv_icmp_gt (tgt := 16) C.1 C.2.1 dX9_isLetter_9 (by decide) (fun c2 => ?_) (fun c2 => ?_)
    · have h := ite_t c2 h
      refine lv_iconst (v := 0) C.1 C.2.1 dX9_isLetter_16 (by decide) ?_
      exact r_zret C hr hlk hw rfl h rfl dX9_isLetter_17
    · have h := ite_f c2 h
      refine lv_iconst (v := 1) C.1 C.2.1 dX9_isLetter_12 (by decide) ?_
      refine lv_goto (tgt := 17) C.1 C.2.1 dX9_isLetter_13 (by decide) ?_
      exact r_zret C hr hlk hw rfl h rfl dX9_isLetter_17
def f_X9_go_b269 (k177 : St → Int32 → Int32 → Option St) (σ : St) (x2 : Int32) (x3 : Int32) (x4 : Int32) : Option St :=
  if 3 ≤ ((σ.1 50 4) - (σ.1 50 5)) then (nm (upI σ 50 4 ((σ.1 50 4) + 1)) fun σ19 => k177 σ19 x2 x3) else (nm (upI σ 50 7 (((10 * (σ.1 50 7)) + x4) - 48)) fun σ20 => nm (upI σ20 50 4 ((σ20.1 50 4) + 1)) fun σ21 => k177 σ21 x2 x3)
def f_X9_go_b234 (k177 : St → Int32 → Int32 → Option St) (σ : St) (x2 : Int32) (x4 : Int32) (s0 : Int32) : Option St :=
  if 8 ≤ ((σ.1 50 4) - (σ.1 50 5)) then (f_X9_go_b269 k177 σ x2 s0 x4) else (nm (upL σ 50 (((27 * (σ.2.1 50)) + x4.toInt64) - 96)) fun σ22 => f_X9_go_b269 k177 σ22 x2 s0 x4)
def f_X9_go_b205 (k177 : St → Int32 → Int32 → Option St) (σ : St) (x2 : Int32) (x3 : Int32) : Option St :=
  (rd σ 51 640 (σ.1 50 4)).bind fun v15 => if x3 = 0 then (f_X9_go_b234 k177 σ x2 v15 0) else (if (b2i (f_X9_isLetter σ v15)) = x2 then (f_X9_go_b234 k177 σ x2 v15 1) else (f_X9_go_b234 k177 σ x2 v15 0))
def f_X9_go_b338 (σ : St) (x2 : Int32) : Option St :=
  if x2 = 0 then (nm (upI σ 50 6 3) fun σ32 => some σ32) else (nm (upI σ 50 6 2) fun σ33 => some σ33)
def f_X9_go_b177 : Nat → St → Int32 → Int32 → Option St
  | 0, _, _, _ => none
  | n + 1, σ, x2, x3 => (f_X9_tapeAt σ (σ.1 50 4)).bind fun q12 => if (b2i (f_X9_isLetter σ q12)) = 0 then ((f_X9_tapeAt σ (σ.1 50 4)).bind fun q25 => if (b2i (f_X9_isDigit σ q25)) = 0 then (if x3 = 0 then (nm (upI σ 50 6 1) fun σ29 => some σ29) else (if x2 = 0 then (if ((σ.1 50 4) - (σ.1 50 5)) ≤ 3 then (f_X9_go_b338 σ x2) else (nm (upI σ 50 6 1) fun σ35 => some σ35)) else (f_X9_go_b338 σ x2))) else (f_X9_go_b205 (fun σ x2 x3 => f_X9_go_b177 n σ x2 x3) σ x2 x3)) else (f_X9_go_b205 (fun σ x2 x3 => f_X9_go_b177 n σ x2 x3) σ x2 x3)
def f_X9_go_b160 (σ : St) (x1 : Int32) : Option St :=
  nm (b2i (f_X9_isLetter σ x1)) fun v9 => nm (upL σ 50 0) fun σ10 => nm (upI σ10 50 7 0) fun σ11 => f_X9_go_b177 10000 σ11 v9 1
def f_X9_go_b146 (σ : St) (s1 : Int32) : Option St :=
  nm (upI σ 50 6 s1) fun σ39 => nm (upI σ39 50 4 ((σ39.1 50 4) + 1)) fun σ40 => some σ40
def f_X9_go_b93 (σ : St) : Option St :=
  if (σ.1 50 4) < (σ.1 50 3) then ((rd σ 51 640 (σ.1 50 4)).bind fun v5 => if (b2i (f_X9_isLetter σ v5)) = 0 then (if (b2i (f_X9_isDigit σ v5)) = 0 then (if v5 = 59 then (f_X9_go_b146 σ 4) else (f_X9_go_b146 σ 1)) else (f_X9_go_b160 σ v5)) else (f_X9_go_b160 σ v5)) else (nm (upI σ 50 6 0) fun σ41 => some σ41)
def f_X9_go_b52 (σ : St) : Option St :=
  nm (upI σ 50 5 (σ.1 50 4)) fun σ2 => if (σ2.1 50 3) ≤ 600 then (f_X9_go_b93 σ2) else (if (σ2.1 50 5) < 600 then (f_X9_go_b93 σ2) else (nm (upI σ2 50 5 600) fun σ43 => nm (upI σ43 50 6 1) fun σ44 => some σ44))
def f_X9_go_b0 : Nat → St → Option St
  | 0, _ => none
  | n + 1, σ => if (σ.1 50 3) ≤ (σ.1 50 4) then (f_X9_go_b52 σ) else ((rd σ 51 640 (σ.1 50 4)).bind fun v45 => if v45 = 32 then (nm (upI σ 50 4 ((σ.1 50 4) + 1)) fun σ47 => f_X9_go_b0 n σ47) else ((rd σ 51 640 (σ.1 50 4)).bind fun v48 => if v48 = 10 then (nm (upI σ 50 4 ((σ.1 50 4) + 1)) fun σ50 => f_X9_go_b0 n σ50) else (f_X9_go_b52 σ)))
def f_X9_go (σ : St) : Option St :=
  f_X9_go_b0 10000 σ
set_option maxRecDepth 100000 in
set_option maxHeartbeats 4000000 in
theorem ok_X9_go (X : Xc) (l : Launch) (σ : St) (σ' : St) (h : f_X9_go σ = some σ') : Ok X l yX9_go cX9_go 5 none 1 21 [.ref (X.2.1 50)] σ none σ' := by
  refine Ok.of (by decide) (Nat.le_of_ble_eq_true rfl) ?_
  intro p e s m args below meth c C hr hlk hw ls hl
  have C : Cx p s m args c X cX9_go 5 "RunningCountModel" := C
  have hl : lv_has ls 5 [(0, .ref (X.2.1 50))] := hl
  have b269 : ∀ (k177 : St → Int32 → Int32 → Option St) (hk177 : ∀ (σ : St) (x2 : Int32) (x3 : Int32), k177 σ x2 x3 = some σ' → ∀ (H : Heap) (locs : List Loc), At X σ s.heap H locs → ∀ ls : Array Slot, lv_has ls 5 [(0, .ref (X.2.1 50)), (2, .int x2), (3, .int x3)] → W p l e (rmX 1 21) s m args below meth c H locs 0 0 (Zq X below s args none σ') (F0 m 177 ls [])), ∀ (σ : St) (x2 : Int32) (x3 : Int32) (x4 : Int32), f_X9_go_b269 k177 σ x2 x3 x4 = some σ' → ∀ (H : Heap) (locs : List Loc), At X σ s.heap H locs → ∀ ls : Array Slot, lv_has ls 5 [(0, .ref (X.2.1 50)), (2, .int x2), (3, .int x3), (4, .int x4)] → W p l e (rmX 1 21) s m args below meth c H locs 0 0 (Zq X below s args none σ') (F0 m 269 ls []) := by
    intro k177 hk177
    intro σ x2 x3 x4 h H locs hw ls hl
    rw [f_X9_go_b269] at h
    refine lv_aload_n C.1 C.2.1 dX9_go_269 rfl (lv_at hl 0 rfl) ?_
    refine r_get (v := .int (σ.1 50 4)) C hw l_50 vc_9 kX9 4 rfl (by decide) gw_1018 rfl dX9_go_270 ?_
    refine lv_aload_n C.1 C.2.1 dX9_go_273 rfl (lv_at hl 0 rfl) ?_
    refine r_get (v := .int (σ.1 50 5)) C hw l_50 vc_9 kX9 5 rfl (by decide) gw_1019 rfl dX9_go_274 ?_
    refine lv_isub C.1 C.2.1 dX9_go_277 ?_
    refine lv_iconst (v := 3) C.1 C.2.1 dX9_go_278 (by decide) ?_
    refine lv_icmp_ge (tgt := 299) C.1 C.2.1 dX9_go_279 (by decide) (fun c18 => ?_) (fun c18 => ?_)
    · have h := ite_t c18 h
      refine lv_aload_n C.1 C.2.1 dX9_go_299 rfl (lv_at hl 0 rfl) ?_
      refine lv_dup C.1 C.2.1 dX9_go_300 rfl ?_
      refine r_get (v := .int (σ.1 50 4)) C hw l_50 vc_9 kX9 4 rfl (by decide) gw_1018 rfl dX9_go_301 ?_
      refine lv_iconst (v := 1) C.1 C.2.1 dX9_go_304 (by decide) ?_
      refine lv_iadd C.1 C.2.1 dX9_go_305 ?_
      obtain ⟨σ19, eσ19, h⟩ := nm_d h
      refine r_put C hw l_50 vc_9 kX9 tyX9 tyX9_ok nmX9 4 (by decide) (by decide) gw_1018 rfl rfl rfl (put_i l_50 rfl eσ19) dX9_go_306 (fun H locs hw => ?_)
      refine lv_goto (tgt := 177) C.1 C.2.1 dX9_go_309 (by decide) ?_
      exact hk177 σ19 x2 x3 h _ _ hw ls (lv_sub hl [0, 1, 2] rfl)
    · have h := ite_f c18 h
      refine lv_aload_n C.1 C.2.1 dX9_go_282 rfl (lv_at hl 0 rfl) ?_
      refine lv_bipush (v := 10) C.1 C.2.1 dX9_go_283 (by decide) ?_
      refine lv_aload_n C.1 C.2.1 dX9_go_285 rfl (lv_at hl 0 rfl) ?_
      refine r_get (v := .int (σ.1 50 7)) C hw l_50 vc_9 kX9 7 rfl (by decide) gw_1021 rfl dX9_go_286 ?_
      refine lv_imul C.1 C.2.1 dX9_go_289 ?_
      refine lv_iload C.1 C.2.1 dX9_go_290 (lv_at hl 3 rfl) ?_
      refine lv_iadd C.1 C.2.1 dX9_go_292 ?_
      refine lv_bipush (v := 48) C.1 C.2.1 dX9_go_293 (by decide) ?_
      refine lv_isub C.1 C.2.1 dX9_go_295 ?_
      obtain ⟨σ20, eσ20, h⟩ := nm_d h
      refine r_put C hw l_50 vc_9 kX9 tyX9 tyX9_ok nmX9 7 (by decide) (by decide) gw_1021 rfl rfl rfl (put_i l_50 rfl eσ20) dX9_go_296 (fun H locs hw => ?_)
      refine lv_aload_n C.1 C.2.1 dX9_go_299 rfl (lv_at hl 0 rfl) ?_
      refine lv_dup C.1 C.2.1 dX9_go_300 rfl ?_
      refine r_get (v := .int (σ20.1 50 4)) C hw l_50 vc_9 kX9 4 rfl (by decide) gw_1018 rfl dX9_go_301 ?_
      refine lv_iconst (v := 1) C.1 C.2.1 dX9_go_304 (by decide) ?_
      refine lv_iadd C.1 C.2.1 dX9_go_305 ?_
      obtain ⟨σ21, eσ21, h⟩ := nm_d h
      refine r_put C hw l_50 vc_9 kX9 tyX9 tyX9_ok nmX9 4 (by decide) (by decide) gw_1018 rfl rfl rfl (put_i l_50 rfl eσ21) dX9_go_306 (fun H locs hw => ?_)
      refine lv_goto (tgt := 177) C.1 C.2.1 dX9_go_309 (by decide) ?_
      exact hk177 σ21 x2 x3 h _ _ hw ls (lv_sub hl [0, 1, 2] rfl)
  have b234 : ∀ (k177 : St → Int32 → Int32 → Option St) (hk177 : ∀ (σ : St) (x2 : Int32) (x3 : Int32), k177 σ x2 x3 = some σ' → ∀ (H : Heap) (locs : List Loc), At X σ s.heap H locs → ∀ ls : Array Slot, lv_has ls 5 [(0, .ref (X.2.1 50)), (2, .int x2), (3, .int x3)] → W p l e (rmX 1 21) s m args below meth c H locs 0 0 (Zq X below s args none σ') (F0 m 177 ls [])), ∀ (σ : St) (x2 : Int32) (x4 : Int32) (s0 : Int32), f_X9_go_b234 k177 σ x2 x4 s0 = some σ' → ∀ (H : Heap) (locs : List Loc), At X σ s.heap H locs → ∀ ls : Array Slot, lv_has ls 5 [(0, .ref (X.2.1 50)), (2, .int x2), (4, .int x4)] → W p l e (rmX 1 21) s m args below meth c H locs 0 0 (Zq X below s args none σ') (F0 m 234 ls [.int s0]) := by
    intro k177 hk177
    intro σ x2 x4 s0 h H locs hw ls hl
    rw [f_X9_go_b234] at h
    refine lv_istore_n (lv' := [(3, .int s0), (0, .ref (X.2.1 50)), (2, .int x2), (4, .int x4)]) C.1 C.2.1 dX9_go_234 rfl hl (by decide) rfl (fun ls hl => ?_)
    refine lv_aload_n C.1 C.2.1 dX9_go_235 rfl (lv_at hl 1 rfl) ?_
    refine r_get (v := .int (σ.1 50 4)) C hw l_50 vc_9 kX9 4 rfl (by decide) gw_1018 rfl dX9_go_236 ?_
    refine lv_aload_n C.1 C.2.1 dX9_go_239 rfl (lv_at hl 1 rfl) ?_
    refine r_get (v := .int (σ.1 50 5)) C hw l_50 vc_9 kX9 5 rfl (by decide) gw_1019 rfl dX9_go_240 ?_
    refine lv_isub C.1 C.2.1 dX9_go_243 ?_
    refine lv_bipush (v := 8) C.1 C.2.1 dX9_go_244 (by decide) ?_
    refine lv_icmp_ge (tgt := 269) C.1 C.2.1 dX9_go_246 (by decide) (fun c17 => ?_) (fun c17 => ?_)
    · have h := ite_t c17 h
      exact b269 k177 hk177 σ x2 s0 x4 h _ _ hw ls (lv_sub hl [1, 2, 0, 3] rfl)
    · have h := ite_f c17 h
      refine lv_aload_n C.1 C.2.1 dX9_go_249 rfl (lv_at hl 1 rfl) ?_
      refine lv_ldc2 (v := 27) C.1 C.2.1 C.2.2.2.1 (C.2.2.2.2.1 _ gw_1096) dX9_go_250 ?_
      refine lv_aload_n C.1 C.2.1 dX9_go_253 rfl (lv_at hl 1 rfl) ?_
      refine r_get (v := .long (σ.2.1 50)) C hw l_50 vc_9 kX9 10 rfl (by decide) gw_1024 rfl dX9_go_254 ?_
      refine lv_lmul C.1 C.2.1 dX9_go_257 ?_
      refine lv_iload C.1 C.2.1 dX9_go_258 (lv_at hl 3 rfl) ?_
      refine lv_i2l (v := x4.toInt64) C.1 C.2.1 dX9_go_260 rfl ?_
      refine lv_ladd C.1 C.2.1 dX9_go_261 ?_
      refine lv_ldc2 (v := 96) C.1 C.2.1 C.2.2.2.1 (C.2.2.2.2.1 _ gw_1097) dX9_go_262 ?_
      refine lv_lsub C.1 C.2.1 dX9_go_265 ?_
      obtain ⟨σ22, eσ22, h⟩ := nm_d h
      refine r_put C hw l_50 vc_9 kX9 tyX9 tyX9_ok nmX9 10 (by decide) (by decide) gw_1024 rfl rfl rfl (put_l l_50 rfl rfl eσ22) dX9_go_266 (fun H locs hw => ?_)
      exact b269 k177 hk177 σ22 x2 s0 x4 h _ _ hw ls (lv_sub hl [1, 2, 0, 3] rfl)
  have b205 : ∀ (k177 : St → Int32 → Int32 → Option St) (hk177 : ∀ (σ : St) (x2 : Int32) (x3 : Int32), k177 σ x2 x3 = some σ' → ∀ (H : Heap) (locs : List Loc), At X σ s.heap H locs → ∀ ls : Array Slot, lv_has ls 5 [(0, .ref (X.2.1 50)), (2, .int x2), (3, .int x3)] → W p l e (rmX 1 21) s m args below meth c H locs 0 0 (Zq X below s args none σ') (F0 m 177 ls [])), ∀ (σ : St) (x2 : Int32) (x3 : Int32), f_X9_go_b205 k177 σ x2 x3 = some σ' → ∀ (H : Heap) (locs : List Loc), At X σ s.heap H locs → ∀ ls : Array Slot, lv_has ls 5 [(0, .ref (X.2.1 50)), (2, .int x2), (3, .int x3)] → W p l e (rmX 1 21) s m args below meth c H locs 0 0 (Zq X below s args none σ') (F0 m 205 ls []) := by
    intro k177 hk177
    intro σ x2 x3 h H locs hw ls hl
    rw [f_X9_go_b205] at h
    refine lv_aload_n C.1 C.2.1 dX9_go_205 rfl (lv_at hl 0 rfl) ?_
    refine r_get (v := .ref (X.2.1 51)) C hw l_50 vc_9 kX9 1 rfl (by decide) gw_1015 rfl dX9_go_206 ?_
    refine lv_aload_n C.1 C.2.1 dX9_go_209 rfl (lv_at hl 0 rfl) ?_
    refine r_get (v := .int (σ.1 50 4)) C hw l_50 vc_9 kX9 4 rfl (by decide) gw_1018 rfl dX9_go_210 ?_
    obtain ⟨v15, ev15, h⟩ := bnd h
    refine r_ald C hw l_51 ev15 dX9_go_213 ?_
    refine lv_istore (lv' := [(4, .int v15), (0, .ref (X.2.1 50)), (2, .int x2), (3, .int x3)]) C.1 C.2.1 dX9_go_214 hl (by decide) rfl (fun ls hl => ?_)
    refine lv_iload_n C.1 C.2.1 dX9_go_216 rfl (lv_at hl 3 rfl) ?_
    refine lv_if_eq (tgt := 233) C.1 C.2.1 dX9_go_217 (by decide) (fun c16 => ?_) (fun c16 => ?_)
    · have h := ite_t c16 h
      refine lv_iconst (v := 0) C.1 C.2.1 dX9_go_233 (by decide) ?_
      exact b234 k177 hk177 σ x2 v15 0 h _ _ hw ls (lv_sub hl [1, 2, 0] rfl)
    · have h := ite_f c16 h
      refine lv_iload C.1 C.2.1 dX9_go_220 (lv_at hl 0 rfl) ?_
      refine r_callS (As := [.int v15]) C hw (ok_X9_isLetter X l σ v15 _ rfl) gw_1088 gw_1086 gw_1087 gw_123 hl.1 pd_X9_isLetter ⟨Nat.le_of_ble_eq_true rfl, Nat.le_of_ble_eq_true rfl⟩ ⟨Nat.le_refl 0, Nat.le_refl 0⟩ (rest := []) (Nat.le_of_ble_eq_true rfl) dX9_go_222 rfl (fun H locs hw => ?_)
      refine lv_iload_n C.1 C.2.1 dX9_go_225 rfl (lv_at hl 2 rfl) ?_
      refine lv_icmp_ne (tgt := 233) C.1 C.2.1 dX9_go_226 (by decide) (fun c24 => ?_) (fun c24 => ?_)
      · have h := ite_f c24 h
        refine lv_iconst (v := 0) C.1 C.2.1 dX9_go_233 (by decide) ?_
        exact b234 k177 hk177 σ x2 v15 0 h _ _ hw ls (lv_sub hl [1, 2, 0] rfl)
      · have h := ite_t c24 h
        refine lv_iconst (v := 1) C.1 C.2.1 dX9_go_229 (by decide) ?_
        refine lv_goto (tgt := 234) C.1 C.2.1 dX9_go_230 (by decide) ?_
        exact b234 k177 hk177 σ x2 v15 1 h _ _ hw ls (lv_sub hl [1, 2, 0] rfl)
  have b338 : ∀ (σ : St) (x2 : Int32), f_X9_go_b338 σ x2 = some σ' → ∀ (H : Heap) (locs : List Loc), At X σ s.heap H locs → ∀ ls : Array Slot, lv_has ls 5 [(2, .int x2)] → W p l e (rmX 1 21) s m args below meth c H locs 0 0 (Zq X below s args none σ') (F0 m 338 ls [.ref (X.2.1 50)]) := by
    intro σ x2 h H locs hw ls hl
    rw [f_X9_go_b338] at h
    refine lv_iload_n C.1 C.2.1 dX9_go_338 rfl (lv_at hl 0 rfl) ?_
    refine lv_if_eq (tgt := 346) C.1 C.2.1 dX9_go_339 (by decide) (fun c31 => ?_) (fun c31 => ?_)
    · have h := ite_t c31 h
      refine lv_iconst (v := 3) C.1 C.2.1 dX9_go_346 (by decide) ?_
      obtain ⟨σ32, eσ32, h⟩ := nm_d h
      refine r_put C hw l_50 vc_9 kX9 tyX9 tyX9_ok nmX9 6 (by decide) (by decide) gw_1020 rfl rfl rfl (put_i l_50 rfl eσ32) dX9_go_347 (fun H locs hw => ?_)
      exact r_vret C hr hlk hw (Option.some.inj h) dX9_go_350
    · have h := ite_f c31 h
      refine lv_iconst (v := 2) C.1 C.2.1 dX9_go_342 (by decide) ?_
      refine lv_goto (tgt := 347) C.1 C.2.1 dX9_go_343 (by decide) ?_
      obtain ⟨σ33, eσ33, h⟩ := nm_d h
      refine r_put C hw l_50 vc_9 kX9 tyX9 tyX9_ok nmX9 6 (by decide) (by decide) gw_1020 rfl rfl rfl (put_i l_50 rfl eσ33) dX9_go_347 (fun H locs hw => ?_)
      exact r_vret C hr hlk hw (Option.some.inj h) dX9_go_350
  have b177 : ∀ (n : Nat), ∀ (σ : St) (x2 : Int32) (x3 : Int32), f_X9_go_b177 n σ x2 x3 = some σ' → ∀ (H : Heap) (locs : List Loc), At X σ s.heap H locs → ∀ ls : Array Slot, lv_has ls 5 [(0, .ref (X.2.1 50)), (2, .int x2), (3, .int x3)] → W p l e (rmX 1 21) s m args below meth c H locs 0 0 (Zq X below s args none σ') (F0 m 177 ls []) := by
    intro n
    induction n with
    | zero =>
      intro σ x2 x3 h
      exact no_some h
    | succ n ih =>
      intro σ x2 x3 h H locs hw ls hl
      rw [f_X9_go_b177] at h
      refine lv_aload_n C.1 C.2.1 dX9_go_177 rfl (lv_at hl 0 rfl) ?_
      refine lv_aload_n C.1 C.2.1 dX9_go_178 rfl (lv_at hl 0 rfl) ?_
      refine r_get (v := .int (σ.1 50 4)) C hw l_50 vc_9 kX9 4 rfl (by decide) gw_1018 rfl dX9_go_179 ?_
      obtain ⟨q12, eq12, h⟩ := bnd h
      refine r_callV (As := [.int (σ.1 50 4)]) C hw (ok_X9_tapeAt X l σ (σ.1 50 4) _ eq12) l_50 vc_9 gw_1095 gw_1092 gw_1094 gw_73 gw_123 hl.1 pd_X9_tapeAt ⟨Nat.le_of_ble_eq_true rfl, Nat.le_of_ble_eq_true rfl⟩ ⟨Nat.le_refl 0, Nat.le_refl 0⟩ (rest := []) (Nat.le_of_ble_eq_true rfl) dX9_go_182 rfl (fun H locs hw => ?_)
      refine r_callS (As := [.int q12]) C hw (ok_X9_isLetter X l σ q12 _ rfl) gw_1088 gw_1086 gw_1087 gw_123 hl.1 pd_X9_isLetter ⟨Nat.le_of_ble_eq_true rfl, Nat.le_of_ble_eq_true rfl⟩ ⟨Nat.le_refl 0, Nat.le_refl 0⟩ (rest := []) (Nat.le_of_ble_eq_true rfl) dX9_go_185 rfl (fun H locs hw => ?_)
      refine lv_if_ne (tgt := 205) C.1 C.2.1 dX9_go_188 (by decide) (fun c14 => ?_) (fun c14 => ?_)
      · have h := ite_f c14 h
        exact b205 (fun σ x2 x3 => f_X9_go_b177 n σ x2 x3) ih σ x2 x3 h _ _ hw ls (lv_sub hl [0, 1, 2] rfl)
      · have h := ite_t c14 h
        refine lv_aload_n C.1 C.2.1 dX9_go_191 rfl (lv_at hl 0 rfl) ?_
        refine lv_aload_n C.1 C.2.1 dX9_go_192 rfl (lv_at hl 0 rfl) ?_
        refine r_get (v := .int (σ.1 50 4)) C hw l_50 vc_9 kX9 4 rfl (by decide) gw_1018 rfl dX9_go_193 ?_
        obtain ⟨q25, eq25, h⟩ := bnd h
        refine r_callV (As := [.int (σ.1 50 4)]) C hw (ok_X9_tapeAt X l σ (σ.1 50 4) _ eq25) l_50 vc_9 gw_1095 gw_1092 gw_1094 gw_73 gw_123 hl.1 pd_X9_tapeAt ⟨Nat.le_of_ble_eq_true rfl, Nat.le_of_ble_eq_true rfl⟩ ⟨Nat.le_refl 0, Nat.le_refl 0⟩ (rest := []) (Nat.le_of_ble_eq_true rfl) dX9_go_196 rfl (fun H locs hw => ?_)
        refine r_callS (As := [.int q25]) C hw (ok_X9_isDigit X l σ q25 _ rfl) gw_1091 gw_1089 gw_1090 gw_123 hl.1 pd_X9_isDigit ⟨Nat.le_of_ble_eq_true rfl, Nat.le_of_ble_eq_true rfl⟩ ⟨Nat.le_refl 0, Nat.le_refl 0⟩ (rest := []) (Nat.le_of_ble_eq_true rfl) dX9_go_199 rfl (fun H locs hw => ?_)
        refine lv_if_eq (tgt := 312) C.1 C.2.1 dX9_go_202 (by decide) (fun c27 => ?_) (fun c27 => ?_)
        · have h := ite_t c27 h
          refine lv_aload_n C.1 C.2.1 dX9_go_312 rfl (lv_at hl 0 rfl) ?_
          refine lv_iload_n C.1 C.2.1 dX9_go_313 rfl (lv_at hl 2 rfl) ?_
          refine lv_if_eq (tgt := 334) C.1 C.2.1 dX9_go_314 (by decide) (fun c28 => ?_) (fun c28 => ?_)
          · have h := ite_t c28 h
            refine lv_iconst (v := 1) C.1 C.2.1 dX9_go_334 (by decide) ?_
            refine lv_goto (tgt := 347) C.1 C.2.1 dX9_go_335 (by decide) ?_
            obtain ⟨σ29, eσ29, h⟩ := nm_d h
            refine r_put C hw l_50 vc_9 kX9 tyX9 tyX9_ok nmX9 6 (by decide) (by decide) gw_1020 rfl rfl rfl (put_i l_50 rfl eσ29) dX9_go_347 (fun H locs hw => ?_)
            exact r_vret C hr hlk hw (Option.some.inj h) dX9_go_350
          · have h := ite_f c28 h
            refine lv_iload_n C.1 C.2.1 dX9_go_317 rfl (lv_at hl 1 rfl) ?_
            refine lv_if_ne (tgt := 338) C.1 C.2.1 dX9_go_318 (by decide) (fun c30 => ?_) (fun c30 => ?_)
            · have h := ite_f c30 h
              exact b338 σ x2 h _ _ hw ls (lv_sub hl [1] rfl)
            · have h := ite_t c30 h
              refine lv_aload_n C.1 C.2.1 dX9_go_321 rfl (lv_at hl 0 rfl) ?_
              refine r_get (v := .int (σ.1 50 4)) C hw l_50 vc_9 kX9 4 rfl (by decide) gw_1018 rfl dX9_go_322 ?_
              refine lv_aload_n C.1 C.2.1 dX9_go_325 rfl (lv_at hl 0 rfl) ?_
              refine r_get (v := .int (σ.1 50 5)) C hw l_50 vc_9 kX9 5 rfl (by decide) gw_1019 rfl dX9_go_326 ?_
              refine lv_isub C.1 C.2.1 dX9_go_329 ?_
              refine lv_iconst (v := 3) C.1 C.2.1 dX9_go_330 (by decide) ?_
              refine lv_icmp_le (tgt := 338) C.1 C.2.1 dX9_go_331 (by decide) (fun c34 => ?_) (fun c34 => ?_)
              · have h := ite_t c34 h
                exact b338 σ x2 h _ _ hw ls (lv_sub hl [1] rfl)
              · have h := ite_f c34 h
                refine lv_iconst (v := 1) C.1 C.2.1 dX9_go_334 (by decide) ?_
                refine lv_goto (tgt := 347) C.1 C.2.1 dX9_go_335 (by decide) ?_
                obtain ⟨σ35, eσ35, h⟩ := nm_d h
                refine r_put C hw l_50 vc_9 kX9 tyX9 tyX9_ok nmX9 6 (by decide) (by decide) gw_1020 rfl rfl rfl (put_i l_50 rfl eσ35) dX9_go_347 (fun H locs hw => ?_)
                exact r_vret C hr hlk hw (Option.some.inj h) dX9_go_350
        · have h := ite_f c27 h
          exact b205 (fun σ x2 x3 => f_X9_go_b177 n σ x2 x3) ih σ x2 x3 h _ _ hw ls (lv_sub hl [0, 1, 2] rfl)
  have b160 : ∀ (σ : St) (x1 : Int32), f_X9_go_b160 σ x1 = some σ' → ∀ (H : Heap) (locs : List Loc), At X σ s.heap H locs → ∀ ls : Array Slot, lv_has ls 5 [(0, .ref (X.2.1 50)), (1, .int x1)] → W p l e (rmX 1 21) s m args below meth c H locs 0 0 (Zq X below s args none σ') (F0 m 160 ls []) := by
    intro σ x1 h H locs hw ls hl
    rw [f_X9_go_b160] at h
    refine lv_iload_n C.1 C.2.1 dX9_go_160 rfl (lv_at hl 1 rfl) ?_
    refine r_callS (As := [.int x1]) C hw (ok_X9_isLetter X l σ x1 _ rfl) gw_1088 gw_1086 gw_1087 gw_123 hl.1 pd_X9_isLetter ⟨Nat.le_of_ble_eq_true rfl, Nat.le_of_ble_eq_true rfl⟩ ⟨Nat.le_refl 0, Nat.le_refl 0⟩ (rest := []) (Nat.le_of_ble_eq_true rfl) dX9_go_161 rfl (fun H locs hw => ?_)
    obtain ⟨v9, ev9, h⟩ := nm_d h
    refine lv_nm ev9 ?_
    refine lv_istore_n (lv' := [(2, .int v9), (0, .ref (X.2.1 50)), (1, .int x1)]) C.1 C.2.1 dX9_go_164 rfl hl (by decide) rfl (fun ls hl => ?_)
    refine lv_iconst (v := 1) C.1 C.2.1 dX9_go_165 (by decide) ?_
    refine lv_istore_n (lv' := [(3, .int 1), (2, .int v9), (0, .ref (X.2.1 50)), (1, .int x1)]) C.1 C.2.1 dX9_go_166 rfl hl (by decide) rfl (fun ls hl => ?_)
    refine lv_aload_n C.1 C.2.1 dX9_go_167 rfl (lv_at hl 2 rfl) ?_
    refine lv_lconst (v := 0) C.1 C.2.1 dX9_go_168 (by decide) ?_
    obtain ⟨σ10, eσ10, h⟩ := nm_d h
    refine r_put C hw l_50 vc_9 kX9 tyX9 tyX9_ok nmX9 10 (by decide) (by decide) gw_1024 rfl rfl rfl (put_l l_50 rfl rfl eσ10) dX9_go_169 (fun H locs hw => ?_)
    refine lv_aload_n C.1 C.2.1 dX9_go_172 rfl (lv_at hl 2 rfl) ?_
    refine lv_iconst (v := 0) C.1 C.2.1 dX9_go_173 (by decide) ?_
    obtain ⟨σ11, eσ11, h⟩ := nm_d h
    refine r_put C hw l_50 vc_9 kX9 tyX9 tyX9_ok nmX9 7 (by decide) (by decide) gw_1021 rfl rfl rfl (put_i l_50 rfl eσ11) dX9_go_174 (fun H locs hw => ?_)
    exact b177 10000 σ11 v9 1 h _ _ hw ls (lv_sub hl [2, 1, 0] rfl)
  have b146 : ∀ (σ : St) (s1 : Int32), f_X9_go_b146 σ s1 = some σ' → ∀ (H : Heap) (locs : List Loc), At X σ s.heap H locs → ∀ ls : Array Slot, lv_has ls 5 [(0, .ref (X.2.1 50))] → W p l e (rmX 1 21) s m args below meth c H locs 0 0 (Zq X below s args none σ') (F0 m 146 ls [.int s1, .ref (X.2.1 50)]) := by
    intro σ s1 h H locs hw ls hl
    rw [f_X9_go_b146] at h
    obtain ⟨σ39, eσ39, h⟩ := nm_d h
    refine r_put C hw l_50 vc_9 kX9 tyX9 tyX9_ok nmX9 6 (by decide) (by decide) gw_1020 rfl rfl rfl (put_i l_50 rfl eσ39) dX9_go_146 (fun H locs hw => ?_)
    refine lv_aload_n C.1 C.2.1 dX9_go_149 rfl (lv_at hl 0 rfl) ?_
    refine lv_dup C.1 C.2.1 dX9_go_150 rfl ?_
    refine r_get (v := .int (σ39.1 50 4)) C hw l_50 vc_9 kX9 4 rfl (by decide) gw_1018 rfl dX9_go_151 ?_
    refine lv_iconst (v := 1) C.1 C.2.1 dX9_go_154 (by decide) ?_
    refine lv_iadd C.1 C.2.1 dX9_go_155 ?_
    obtain ⟨σ40, eσ40, h⟩ := nm_d h
    refine r_put C hw l_50 vc_9 kX9 tyX9 tyX9_ok nmX9 4 (by decide) (by decide) gw_1018 rfl rfl rfl (put_i l_50 rfl eσ40) dX9_go_156 (fun H locs hw => ?_)
    exact r_vret C hr hlk hw (Option.some.inj h) dX9_go_159
  have b93 : ∀ (σ : St), f_X9_go_b93 σ = some σ' → ∀ (H : Heap) (locs : List Loc), At X σ s.heap H locs → ∀ ls : Array Slot, lv_has ls 5 [(0, .ref (X.2.1 50))] → W p l e (rmX 1 21) s m args below meth c H locs 0 0 (Zq X below s args none σ') (F0 m 93 ls []) := by
    intro σ h H locs hw ls hl
    rw [f_X9_go_b93] at h
    refine lv_aload_n C.1 C.2.1 dX9_go_93 rfl (lv_at hl 0 rfl) ?_
    refine r_get (v := .int (σ.1 50 4)) C hw l_50 vc_9 kX9 4 rfl (by decide) gw_1018 rfl dX9_go_94 ?_
    refine lv_aload_n C.1 C.2.1 dX9_go_97 rfl (lv_at hl 0 rfl) ?_
    refine r_get (v := .int (σ.1 50 3)) C hw l_50 vc_9 kX9 3 rfl (by decide) gw_1017 rfl dX9_go_98 ?_
    refine lv_icmp_lt (tgt := 110) C.1 C.2.1 dX9_go_101 (by decide) (fun c4 => ?_) (fun c4 => ?_)
    · have h := ite_t c4 h
      refine lv_aload_n C.1 C.2.1 dX9_go_110 rfl (lv_at hl 0 rfl) ?_
      refine r_get (v := .ref (X.2.1 51)) C hw l_50 vc_9 kX9 1 rfl (by decide) gw_1015 rfl dX9_go_111 ?_
      refine lv_aload_n C.1 C.2.1 dX9_go_114 rfl (lv_at hl 0 rfl) ?_
      refine r_get (v := .int (σ.1 50 4)) C hw l_50 vc_9 kX9 4 rfl (by decide) gw_1018 rfl dX9_go_115 ?_
      obtain ⟨v5, ev5, h⟩ := bnd h
      refine r_ald C hw l_51 ev5 dX9_go_118 ?_
      refine lv_istore_n (lv' := [(1, .int v5), (0, .ref (X.2.1 50))]) C.1 C.2.1 dX9_go_119 rfl hl (by decide) rfl (fun ls hl => ?_)
      refine lv_iload_n C.1 C.2.1 dX9_go_120 rfl (lv_at hl 0 rfl) ?_
      refine r_callS (As := [.int v5]) C hw (ok_X9_isLetter X l σ v5 _ rfl) gw_1088 gw_1086 gw_1087 gw_123 hl.1 pd_X9_isLetter ⟨Nat.le_of_ble_eq_true rfl, Nat.le_of_ble_eq_true rfl⟩ ⟨Nat.le_refl 0, Nat.le_refl 0⟩ (rest := []) (Nat.le_of_ble_eq_true rfl) dX9_go_121 rfl (fun H locs hw => ?_)
      refine lv_if_ne (tgt := 160) C.1 C.2.1 dX9_go_124 (by decide) (fun c7 => ?_) (fun c7 => ?_)
      · have h := ite_f c7 h
        exact b160 σ v5 h _ _ hw ls (lv_sub hl [1, 0] rfl)
      · have h := ite_t c7 h
        refine lv_iload_n C.1 C.2.1 dX9_go_127 rfl (lv_at hl 0 rfl) ?_
        refine r_callS (As := [.int v5]) C hw (ok_X9_isDigit X l σ v5 _ rfl) gw_1091 gw_1089 gw_1090 gw_123 hl.1 pd_X9_isDigit ⟨Nat.le_of_ble_eq_true rfl, Nat.le_of_ble_eq_true rfl⟩ ⟨Nat.le_refl 0, Nat.le_refl 0⟩ (rest := []) (Nat.le_of_ble_eq_true rfl) dX9_go_128 rfl (fun H locs hw => ?_)
        refine lv_if_ne (tgt := 160) C.1 C.2.1 dX9_go_131 (by decide) (fun c37 => ?_) (fun c37 => ?_)
        · have h := ite_f c37 h
          exact b160 σ v5 h _ _ hw ls (lv_sub hl [1, 0] rfl)
        · have h := ite_t c37 h
          refine lv_aload_n C.1 C.2.1 dX9_go_134 rfl (lv_at hl 1 rfl) ?_
          refine lv_iload_n C.1 C.2.1 dX9_go_135 rfl (lv_at hl 0 rfl) ?_
          refine lv_bipush (v := 59) C.1 C.2.1 dX9_go_136 (by decide) ?_
          refine lv_icmp_ne (tgt := 145) C.1 C.2.1 dX9_go_138 (by decide) (fun c38 => ?_) (fun c38 => ?_)
          · have h := ite_f c38 h
            refine lv_iconst (v := 1) C.1 C.2.1 dX9_go_145 (by decide) ?_
            exact b146 σ 1 h _ _ hw ls (lv_sub hl [1] rfl)
          · have h := ite_t c38 h
            refine lv_iconst (v := 4) C.1 C.2.1 dX9_go_141 (by decide) ?_
            refine lv_goto (tgt := 146) C.1 C.2.1 dX9_go_142 (by decide) ?_
            exact b146 σ 4 h _ _ hw ls (lv_sub hl [1] rfl)
    · have h := ite_f c4 h
      refine lv_aload_n C.1 C.2.1 dX9_go_104 rfl (lv_at hl 0 rfl) ?_
      refine lv_iconst (v := 0) C.1 C.2.1 dX9_go_105 (by decide) ?_
      obtain ⟨σ41, eσ41, h⟩ := nm_d h
      refine r_put C hw l_50 vc_9 kX9 tyX9 tyX9_ok nmX9 6 (by decide) (by decide) gw_1020 rfl rfl rfl (put_i l_50 rfl eσ41) dX9_go_106 (fun H locs hw => ?_)
      exact r_vret C hr hlk hw (Option.some.inj h) dX9_go_109
  have b52 : ∀ (σ : St), f_X9_go_b52 σ = some σ' → ∀ (H : Heap) (locs : List Loc), At X σ s.heap H locs → ∀ ls : Array Slot, lv_has ls 5 [(0, .ref (X.2.1 50))] → W p l e (rmX 1 21) s m args below meth c H locs 0 0 (Zq X below s args none σ') (F0 m 52 ls []) := by
    intro σ h H locs hw ls hl
    rw [f_X9_go_b52] at h
    refine lv_aload_n C.1 C.2.1 dX9_go_52 rfl (lv_at hl 0 rfl) ?_
    refine lv_aload_n C.1 C.2.1 dX9_go_53 rfl (lv_at hl 0 rfl) ?_
    refine r_get (v := .int (σ.1 50 4)) C hw l_50 vc_9 kX9 4 rfl (by decide) gw_1018 rfl dX9_go_54 ?_
    obtain ⟨σ2, eσ2, h⟩ := nm_d h
    refine r_put C hw l_50 vc_9 kX9 tyX9 tyX9_ok nmX9 5 (by decide) (by decide) gw_1019 rfl rfl rfl (put_i l_50 rfl eσ2) dX9_go_57 (fun H locs hw => ?_)
    refine lv_aload_n C.1 C.2.1 dX9_go_60 rfl (lv_at hl 0 rfl) ?_
    refine r_get (v := .int (σ2.1 50 3)) C hw l_50 vc_9 kX9 3 rfl (by decide) gw_1017 rfl dX9_go_61 ?_
    refine lv_sipush (v := 600) C.1 C.2.1 dX9_go_64 (by decide) ?_
    refine lv_icmp_le (tgt := 93) C.1 C.2.1 dX9_go_67 (by decide) (fun c3 => ?_) (fun c3 => ?_)
    · have h := ite_t c3 h
      exact b93 σ2 h _ _ hw ls (lv_sub hl [0] rfl)
    · have h := ite_f c3 h
      refine lv_aload_n C.1 C.2.1 dX9_go_70 rfl (lv_at hl 0 rfl) ?_
      refine r_get (v := .int (σ2.1 50 5)) C hw l_50 vc_9 kX9 5 rfl (by decide) gw_1019 rfl dX9_go_71 ?_
      refine lv_sipush (v := 600) C.1 C.2.1 dX9_go_74 (by decide) ?_
      refine lv_icmp_lt (tgt := 93) C.1 C.2.1 dX9_go_77 (by decide) (fun c42 => ?_) (fun c42 => ?_)
      · have h := ite_t c42 h
        exact b93 σ2 h _ _ hw ls (lv_sub hl [0] rfl)
      · have h := ite_f c42 h
        refine lv_aload_n C.1 C.2.1 dX9_go_80 rfl (lv_at hl 0 rfl) ?_
        refine lv_sipush (v := 600) C.1 C.2.1 dX9_go_81 (by decide) ?_
        obtain ⟨σ43, eσ43, h⟩ := nm_d h
        refine r_put C hw l_50 vc_9 kX9 tyX9 tyX9_ok nmX9 5 (by decide) (by decide) gw_1019 rfl rfl rfl (put_i l_50 rfl eσ43) dX9_go_84 (fun H locs hw => ?_)
        refine lv_aload_n C.1 C.2.1 dX9_go_87 rfl (lv_at hl 0 rfl) ?_
        refine lv_iconst (v := 1) C.1 C.2.1 dX9_go_88 (by decide) ?_
        obtain ⟨σ44, eσ44, h⟩ := nm_d h
        refine r_put C hw l_50 vc_9 kX9 tyX9 tyX9_ok nmX9 6 (by decide) (by decide) gw_1020 rfl rfl rfl (put_i l_50 rfl eσ44) dX9_go_89 (fun H locs hw => ?_)
        exact r_vret C hr hlk hw (Option.some.inj h) dX9_go_92
  have b0 : ∀ (n : Nat), ∀ (σ : St), f_X9_go_b0 n σ = some σ' → ∀ (H : Heap) (locs : List Loc), At X σ s.heap H locs → ∀ ls : Array Slot, lv_has ls 5 [(0, .ref (X.2.1 50))] → W p l e (rmX 1 21) s m args below meth c H locs 0 0 (Zq X below s args none σ') (F0 m 0 ls []) := by
    intro n
    induction n with
    | zero =>
      intro σ h
      exact no_some h
    | succ n ih =>
      intro σ h H locs hw ls hl
      rw [f_X9_go_b0] at h
      refine lv_aload_n C.1 C.2.1 dX9_go_0 rfl (lv_at hl 0 rfl) ?_
      refine r_get (v := .int (σ.1 50 4)) C hw l_50 vc_9 kX9 4 rfl (by decide) gw_1018 rfl dX9_go_1 ?_
      refine lv_aload_n C.1 C.2.1 dX9_go_4 rfl (lv_at hl 0 rfl) ?_
      refine r_get (v := .int (σ.1 50 3)) C hw l_50 vc_9 kX9 3 rfl (by decide) gw_1017 rfl dX9_go_5 ?_
      refine lv_icmp_ge (tgt := 52) C.1 C.2.1 dX9_go_8 (by decide) (fun c1 => ?_) (fun c1 => ?_)
      · have h := ite_t c1 h
        exact b52 σ h _ _ hw ls (lv_sub hl [0] rfl)
      · have h := ite_f c1 h
        refine lv_aload_n C.1 C.2.1 dX9_go_11 rfl (lv_at hl 0 rfl) ?_
        refine r_get (v := .ref (X.2.1 51)) C hw l_50 vc_9 kX9 1 rfl (by decide) gw_1015 rfl dX9_go_12 ?_
        refine lv_aload_n C.1 C.2.1 dX9_go_15 rfl (lv_at hl 0 rfl) ?_
        refine r_get (v := .int (σ.1 50 4)) C hw l_50 vc_9 kX9 4 rfl (by decide) gw_1018 rfl dX9_go_16 ?_
        obtain ⟨v45, ev45, h⟩ := bnd h
        refine r_ald C hw l_51 ev45 dX9_go_19 ?_
        refine lv_bipush (v := 32) C.1 C.2.1 dX9_go_20 (by decide) ?_
        refine lv_icmp_eq (tgt := 39) C.1 C.2.1 dX9_go_22 (by decide) (fun c46 => ?_) (fun c46 => ?_)
        · have h := ite_t c46 h
          refine lv_aload_n C.1 C.2.1 dX9_go_39 rfl (lv_at hl 0 rfl) ?_
          refine lv_dup C.1 C.2.1 dX9_go_40 rfl ?_
          refine r_get (v := .int (σ.1 50 4)) C hw l_50 vc_9 kX9 4 rfl (by decide) gw_1018 rfl dX9_go_41 ?_
          refine lv_iconst (v := 1) C.1 C.2.1 dX9_go_44 (by decide) ?_
          refine lv_iadd C.1 C.2.1 dX9_go_45 ?_
          obtain ⟨σ47, eσ47, h⟩ := nm_d h
          refine r_put C hw l_50 vc_9 kX9 tyX9 tyX9_ok nmX9 4 (by decide) (by decide) gw_1018 rfl rfl rfl (put_i l_50 rfl eσ47) dX9_go_46 (fun H locs hw => ?_)
          refine lv_goto (tgt := 0) C.1 C.2.1 dX9_go_49 (by decide) ?_
          exact ih σ47 h _ _ hw ls (lv_sub hl [0] rfl)
        · have h := ite_f c46 h
          refine lv_aload_n C.1 C.2.1 dX9_go_25 rfl (lv_at hl 0 rfl) ?_
          refine r_get (v := .ref (X.2.1 51)) C hw l_50 vc_9 kX9 1 rfl (by decide) gw_1015 rfl dX9_go_26 ?_
          refine lv_aload_n C.1 C.2.1 dX9_go_29 rfl (lv_at hl 0 rfl) ?_
          refine r_get (v := .int (σ.1 50 4)) C hw l_50 vc_9 kX9 4 rfl (by decide) gw_1018 rfl dX9_go_30 ?_
          obtain ⟨v48, ev48, h⟩ := bnd h
          refine r_ald C hw l_51 ev48 dX9_go_33 ?_
          refine lv_bipush (v := 10) C.1 C.2.1 dX9_go_34 (by decide) ?_
          refine lv_icmp_ne (tgt := 52) C.1 C.2.1 dX9_go_36 (by decide) (fun c49 => ?_) (fun c49 => ?_)
          · have h := ite_f c49 h
            exact b52 σ h _ _ hw ls (lv_sub hl [0] rfl)
          · have h := ite_t c49 h
            refine lv_aload_n C.1 C.2.1 dX9_go_39 rfl (lv_at hl 0 rfl) ?_
            refine lv_dup C.1 C.2.1 dX9_go_40 rfl ?_
            refine r_get (v := .int (σ.1 50 4)) C hw l_50 vc_9 kX9 4 rfl (by decide) gw_1018 rfl dX9_go_41 ?_
            refine lv_iconst (v := 1) C.1 C.2.1 dX9_go_44 (by decide) ?_
            refine lv_iadd C.1 C.2.1 dX9_go_45 ?_
            obtain ⟨σ50, eσ50, h⟩ := nm_d h
            refine r_put C hw l_50 vc_9 kX9 tyX9 tyX9_ok nmX9 4 (by decide) (by decide) gw_1018 rfl rfl rfl (put_i l_50 rfl eσ50) dX9_go_46 (fun H locs hw => ?_)
            refine lv_goto (tgt := 0) C.1 C.2.1 dX9_go_49 (by decide) ?_
            exact ih σ50 h _ _ hw ls (lv_sub hl [0] rfl)
  rw [f_X9_go] at h
  exact b0 10000 σ h _ _ hw ls (lv_sub hl [0] rfl)
def f_X9_two (σ : St) (a0 : Int32) (a1 : Int32) : Int64 :=
  ((27 * (a0.toInt64 - 96)) + a1.toInt64) - 96
set_option maxRecDepth 100000 in
set_option maxHeartbeats 4000000 in
theorem ok_X9_two (X : Xc) (l : Launch) (σ : St) (a0 : Int32) (a1 : Int32) (r : Int64) (h : f_X9_two σ a0 a1 = r) : Ok X l yX9_two cX9_two 2 (some .long) 0 0 [.int a0, .int a1] σ (some (.long r)) σ := by
  refine Ok.of (by decide) (Nat.le_of_ble_eq_true rfl) ?_
  intro p e s m args below meth c C hr hlk hw ls hl
  have C : Cx p s m args c X cX9_two 2 "RunningCountModel" := C
  have hl : lv_has ls 2 [(0, .int a0), (1, .int a1)] := hl
  rw [f_X9_two] at h
  refine lv_ldc2 (v := 27) C.1 C.2.1 C.2.2.2.1 (C.2.2.2.2.1 _ gw_1096) dX9_two_0 ?_
  refine lv_iload_n C.1 C.2.1 dX9_two_3 rfl (lv_at hl 0 rfl) ?_
  refine lv_i2l (v := a0.toInt64) C.1 C.2.1 dX9_two_4 rfl ?_
  refine lv_ldc2 (v := 96) C.1 C.2.1 C.2.2.2.1 (C.2.2.2.2.1 _ gw_1097) dX9_two_5 ?_
  refine lv_lsub C.1 C.2.1 dX9_two_8 ?_
  refine lv_lmul C.1 C.2.1 dX9_two_9 ?_
  refine lv_iload_n C.1 C.2.1 dX9_two_10 rfl (lv_at hl 1 rfl) ?_
  refine lv_i2l (v := a1.toInt64) C.1 C.2.1 dX9_two_11 rfl ?_
  refine lv_ladd C.1 C.2.1 dX9_two_12 ?_
  refine lv_ldc2 (v := 96) C.1 C.2.1 C.2.2.2.1 (C.2.2.2.2.1 _ gw_1097) dX9_two_13 ?_
  refine lv_lsub C.1 C.2.1 dX9_two_16 ?_
  exact r_lret C hr hlk hw h rfl dX9_two_17
def f_X9_four (σ : St) (a0 : Int32) (a1 : Int32) (a2 : Int32) (a3 : Int32) : Int64 :=
  (729 * (f_X9_two σ a0 a1)) + (f_X9_two σ a2 a3)
set_option maxRecDepth 100000 in
set_option maxHeartbeats 4000000 in
theorem ok_X9_four (X : Xc) (l : Launch) (σ : St) (a0 : Int32) (a1 : Int32) (a2 : Int32) (a3 : Int32) (r : Int64) (h : f_X9_four σ a0 a1 a2 a3 = r) : Ok X l yX9_four cX9_four 4 (some .long) 1 21 [.int a0, .int a1, .int a2, .int a3] σ (some (.long r)) σ := by
  refine Ok.of (by decide) (Nat.le_of_ble_eq_true rfl) ?_
  intro p e s m args below meth c C hr hlk hw ls hl
  have C : Cx p s m args c X cX9_four 4 "RunningCountModel" := C
  have hl : lv_has ls 4 [(0, .int a0), (1, .int a1), (2, .int a2), (3, .int a3)] := hl
  rw [f_X9_four] at h
  refine lv_ldc2 (v := 729) C.1 C.2.1 C.2.2.2.1 (C.2.2.2.2.1 _ gw_1109) dX9_four_0 ?_
  refine lv_iload_n C.1 C.2.1 dX9_four_3 rfl (lv_at hl 0 rfl) ?_
  refine lv_iload_n C.1 C.2.1 dX9_four_4 rfl (lv_at hl 1 rfl) ?_
  refine r_callS (As := [.int a0, .int a1]) C hw (ok_X9_two X l σ a0 a1 _ rfl) gw_1115 gw_1113 gw_1114 gw_123 hl.1 pd_X9_two ⟨Nat.le_of_ble_eq_true rfl, Nat.le_of_ble_eq_true rfl⟩ ⟨Nat.le_refl 0, Nat.le_refl 0⟩ (rest := [.long 729]) (Nat.le_of_ble_eq_true rfl) dX9_four_5 rfl (fun H locs hw => ?_)
  refine lv_lmul C.1 C.2.1 dX9_four_8 ?_
  refine lv_iload_n C.1 C.2.1 dX9_four_9 rfl (lv_at hl 2 rfl) ?_
  refine lv_iload_n C.1 C.2.1 dX9_four_10 rfl (lv_at hl 3 rfl) ?_
  refine r_callS (As := [.int a2, .int a3]) C hw (ok_X9_two X l σ a2 a3 _ rfl) gw_1115 gw_1113 gw_1114 gw_123 hl.1 pd_X9_two ⟨Nat.le_of_ble_eq_true rfl, Nat.le_of_ble_eq_true rfl⟩ ⟨Nat.le_refl 0, Nat.le_refl 0⟩ (rest := [.long (729 * (f_X9_two σ a0 a1))]) (Nat.le_of_ble_eq_true rfl) dX9_four_11 rfl (fun H locs hw => ?_)
  refine lv_ladd C.1 C.2.1 dX9_four_14 ?_
  exact r_lret C hr hlk hw h rfl dX9_four_15
def f_X9_seven (σ : St) (a0 : Int32) (a1 : Int32) (a2 : Int32) (a3 : Int32) (a4 : Int32) (a5 : Int32) (a6 : Int32) : Int64 :=
  ((27 * ((729 * (f_X9_four σ a0 a1 a2 a3)) + (f_X9_two σ a4 a5))) + a6.toInt64) - 96
set_option maxRecDepth 100000 in
set_option maxHeartbeats 4000000 in
theorem ok_X9_seven (X : Xc) (l : Launch) (σ : St) (a0 : Int32) (a1 : Int32) (a2 : Int32) (a3 : Int32) (a4 : Int32) (a5 : Int32) (a6 : Int32) (r : Int64) (h : f_X9_seven σ a0 a1 a2 a3 a4 a5 a6 = r) : Ok X l yX9_seven cX9_seven 7 (some .long) 2 44 [.int a0, .int a1, .int a2, .int a3, .int a4, .int a5, .int a6] σ (some (.long r)) σ := by
  refine Ok.of (by decide) (Nat.le_of_ble_eq_true rfl) ?_
  intro p e s m args below meth c C hr hlk hw ls hl
  have C : Cx p s m args c X cX9_seven 7 "RunningCountModel" := C
  have hl : lv_has ls 7 [(0, .int a0), (1, .int a1), (2, .int a2), (3, .int a3), (4, .int a4), (5, .int a5), (6, .int a6)] := hl
  rw [f_X9_seven] at h
  refine lv_ldc2 (v := 27) C.1 C.2.1 C.2.2.2.1 (C.2.2.2.2.1 _ gw_1096) dX9_seven_0 ?_
  refine lv_ldc2 (v := 729) C.1 C.2.1 C.2.2.2.1 (C.2.2.2.2.1 _ gw_1109) dX9_seven_3 ?_
  refine lv_iload_n C.1 C.2.1 dX9_seven_6 rfl (lv_at hl 0 rfl) ?_
  refine lv_iload_n C.1 C.2.1 dX9_seven_7 rfl (lv_at hl 1 rfl) ?_
  refine lv_iload_n C.1 C.2.1 dX9_seven_8 rfl (lv_at hl 2 rfl) ?_
  refine lv_iload_n C.1 C.2.1 dX9_seven_9 rfl (lv_at hl 3 rfl) ?_
  refine r_callS (As := [.int a0, .int a1, .int a2, .int a3]) C hw (ok_X9_four X l σ a0 a1 a2 a3 _ rfl) gw_1112 gw_1110 gw_1111 gw_123 hl.1 pd_X9_four ⟨Nat.le_of_ble_eq_true rfl, Nat.le_of_ble_eq_true rfl⟩ ⟨Nat.le_refl 0, Nat.le_refl 0⟩ (rest := [.long 729, .long 27]) (Nat.le_of_ble_eq_true rfl) dX9_seven_10 rfl (fun H locs hw => ?_)
  refine lv_lmul C.1 C.2.1 dX9_seven_13 ?_
  refine lv_iload C.1 C.2.1 dX9_seven_14 (lv_at hl 4 rfl) ?_
  refine lv_iload C.1 C.2.1 dX9_seven_16 (lv_at hl 5 rfl) ?_
  refine r_callS (As := [.int a4, .int a5]) C hw (ok_X9_two X l σ a4 a5 _ rfl) gw_1115 gw_1113 gw_1114 gw_123 hl.1 pd_X9_two ⟨Nat.le_of_ble_eq_true rfl, Nat.le_of_ble_eq_true rfl⟩ ⟨Nat.le_refl 0, Nat.le_refl 0⟩ (rest := [.long (729 * (f_X9_four σ a0 a1 a2 a3)), .long 27]) (Nat.le_of_ble_eq_true rfl) dX9_seven_18 rfl (fun H locs hw => ?_)
  refine lv_ladd C.1 C.2.1 dX9_seven_21 ?_
  refine lv_lmul C.1 C.2.1 dX9_seven_22 ?_
  refine lv_iload C.1 C.2.1 dX9_seven_23 (lv_at hl 6 rfl) ?_
  refine lv_i2l (v := a6.toInt64) C.1 C.2.1 dX9_seven_25 rfl ?_
  refine lv_ladd C.1 C.2.1 dX9_seven_26 ?_
  refine lv_ldc2 (v := 96) C.1 C.2.1 C.2.2.2.1 (C.2.2.2.2.1 _ gw_1097) dX9_seven_27 ?_
  refine lv_lsub C.1 C.2.1 dX9_seven_30 ?_
  exact r_lret C hr hlk hw h rfl dX9_seven_31
def f_X9_isWord (σ : St) (a1 : Int64) : Bool :=
  if (σ.1 50 6) = 2 then (if (lg_cmp (σ.2.1 50) a1) = 0 then (true) else (false)) else (false)
set_option maxRecDepth 100000 in
set_option maxHeartbeats 4000000 in
theorem ok_X9_isWord (X : Xc) (l : Launch) (σ : St) (a1 : Int64) (r : Bool) (h : f_X9_isWord σ a1 = r) : Ok X l yX9_isWord cX9_isWord 3 (some .boolean) 0 0 [.ref (X.2.1 50), .long a1] σ (some (.int (b2i r))) σ := by
  refine Ok.of (by decide) (Nat.le_of_ble_eq_true rfl) ?_
  intro p e s m args below meth c C hr hlk hw ls hl
  have C : Cx p s m args c X cX9_isWord 3 "RunningCountModel" := C
  have hl : lv_has ls 3 [(0, .ref (X.2.1 50)), (1, .long a1)] := hl
  rw [f_X9_isWord] at h
  refine lv_aload_n C.1 C.2.1 dX9_isWord_0 rfl (lv_at hl 0 rfl) ?_
  refine r_get (v := .int (σ.1 50 6)) C hw l_50 vc_9 kX9 6 rfl (by decide) gw_1020 rfl dX9_isWord_1 ?_
  refine lv_iconst (v := 2) C.1 C.2.1 dX9_isWord_4 (by decide) ?_
  refine lv_icmp_ne (tgt := 21) C.1 C.2.1 dX9_isWord_5 (by decide) (fun c1 => ?_) (fun c1 => ?_)
  · have h := ite_f c1 h
    refine lv_iconst (v := 0) C.1 C.2.1 dX9_isWord_21 (by decide) ?_
    exact r_zret C hr hlk hw rfl h rfl dX9_isWord_22
  · have h := ite_t c1 h
    refine lv_aload_n C.1 C.2.1 dX9_isWord_8 rfl (lv_at hl 0 rfl) ?_
    refine r_get (v := .long (σ.2.1 50)) C hw l_50 vc_9 kX9 10 rfl (by decide) gw_1024 rfl dX9_isWord_9 ?_
    refine lv_lload_n C.1 C.2.1 dX9_isWord_12 rfl (lv_at hl 1 rfl) ?_
    refine W.lcmp C.1 C.2.1 dX9_isWord_13 ?_
    refine lv_if_ne (tgt := 21) C.1 C.2.1 dX9_isWord_14 (by decide) (fun c2 => ?_) (fun c2 => ?_)
    · have h := ite_f c2 h
      refine lv_iconst (v := 0) C.1 C.2.1 dX9_isWord_21 (by decide) ?_
      exact r_zret C hr hlk hw rfl h rfl dX9_isWord_22
    · have h := ite_t c2 h
      refine lv_iconst (v := 1) C.1 C.2.1 dX9_isWord_17 (by decide) ?_
      refine lv_goto (tgt := 22) C.1 C.2.1 dX9_isWord_18 (by decide) ?_
      exact r_zret C hr hlk hw rfl h rfl dX9_isWord_22
def f_X9_bad_b14 (a1 : Int32) (σ : St) (s1 : Int32) : Option (Bool × St) :=
  nm (upI σ 50 8 s1) fun σ2 => nm (upI σ2 50 9 (σ2.1 50 5)) fun σ3 => some (false, σ3)
def f_X9_bad (σ : St) (a1 : Int32) : Option (Bool × St) :=
  if (σ.1 50 6) = 1 then (f_X9_bad_b14 a1 σ 1) else (f_X9_bad_b14 a1 σ a1)
set_option maxRecDepth 100000 in
set_option maxHeartbeats 4000000 in
theorem ok_X9_bad (X : Xc) (l : Launch) (σ : St) (a1 : Int32) (r : Bool) (σ' : St) (h : f_X9_bad σ a1 = some (r, σ')) : Ok X l yX9_bad cX9_bad 2 (some .boolean) 0 0 [.ref (X.2.1 50), .int a1] σ (some (.int (b2i r))) σ' := by
  refine Ok.of (by decide) (Nat.le_of_ble_eq_true rfl) ?_
  intro p e s m args below meth c C hr hlk hw ls hl
  have C : Cx p s m args c X cX9_bad 2 "RunningCountModel" := C
  have hl : lv_has ls 2 [(0, .ref (X.2.1 50)), (1, .int a1)] := hl
  have b14 : ∀ (σ : St) (s1 : Int32), f_X9_bad_b14 a1 σ s1 = some (r, σ') → ∀ (H : Heap) (locs : List Loc), At X σ s.heap H locs → ∀ ls : Array Slot, lv_has ls 2 [(0, .ref (X.2.1 50))] → W p l e (rmX 0 0) s m args below meth c H locs 0 0 (Zq X below s args (some (.int (b2i r))) σ') (F0 m 14 ls [.int s1, .ref (X.2.1 50)]) := by
    intro σ s1 h H locs hw ls hl
    rw [f_X9_bad_b14] at h
    obtain ⟨σ2, eσ2, h⟩ := nm_d h
    refine r_put C hw l_50 vc_9 kX9 tyX9 tyX9_ok nmX9 8 (by decide) (by decide) gw_1022 rfl rfl rfl (put_i l_50 rfl eσ2) dX9_bad_14 (fun H locs hw => ?_)
    refine lv_aload_n C.1 C.2.1 dX9_bad_17 rfl (lv_at hl 0 rfl) ?_
    refine lv_aload_n C.1 C.2.1 dX9_bad_18 rfl (lv_at hl 0 rfl) ?_
    refine r_get (v := .int (σ2.1 50 5)) C hw l_50 vc_9 kX9 5 rfl (by decide) gw_1019 rfl dX9_bad_19 ?_
    obtain ⟨σ3, eσ3, h⟩ := nm_d h
    refine r_put C hw l_50 vc_9 kX9 tyX9 tyX9_ok nmX9 9 (by decide) (by decide) gw_1023 rfl rfl rfl (put_i l_50 rfl eσ3) dX9_bad_22 (fun H locs hw => ?_)
    refine lv_iconst (v := 0) C.1 C.2.1 dX9_bad_25 (by decide) ?_
    exact r_zret C hr hlk hw rfl (Prod.mk.inj (Option.some.inj h)).1 (Prod.mk.inj (Option.some.inj h)).2 dX9_bad_26
  rw [f_X9_bad] at h
  refine lv_aload_n C.1 C.2.1 dX9_bad_0 rfl (lv_at hl 0 rfl) ?_
  refine lv_aload_n C.1 C.2.1 dX9_bad_1 rfl (lv_at hl 0 rfl) ?_
  refine r_get (v := .int (σ.1 50 6)) C hw l_50 vc_9 kX9 6 rfl (by decide) gw_1020 rfl dX9_bad_2 ?_
  refine lv_iconst (v := 1) C.1 C.2.1 dX9_bad_5 (by decide) ?_
  refine lv_icmp_ne (tgt := 13) C.1 C.2.1 dX9_bad_6 (by decide) (fun c1 => ?_) (fun c1 => ?_)
  · have h := ite_f c1 h
    refine lv_iload_n C.1 C.2.1 dX9_bad_13 rfl (lv_at hl 1 rfl) ?_
    exact b14 σ a1 h _ _ hw ls (lv_sub hl [0] rfl)
  · have h := ite_t c1 h
    refine lv_iconst (v := 1) C.1 C.2.1 dX9_bad_9 (by decide) ?_
    refine lv_goto (tgt := 14) C.1 C.2.1 dX9_bad_10 (by decide) ?_
    exact b14 σ 1 h _ _ hw ls (lv_sub hl [0] rfl)
def f_X9_told (σ : St) (a1 : Int32) (a2 : Int32) (a3 : Int32) : Option (Bool × St) :=
  if (σ.1 50 6) = 3 then (if (b2i (f_X9_isIn σ (σ.1 50 7) a2 a3)) = 0 then ((f_X9_bad σ 2).bind fun q6 => some (q6.1, q6.2)) else ((wr σ 53 845 a1 (σ.1 50 7)).bind fun σ4 => (f_X9_go σ4).bind fun q5 => some (true, q5))) else ((f_X9_bad σ 1).bind fun q7 => some (q7.1, q7.2))
set_option maxRecDepth 100000 in
set_option maxHeartbeats 4000000 in
theorem ok_X9_told (X : Xc) (l : Launch) (σ : St) (a1 : Int32) (a2 : Int32) (a3 : Int32) (r : Bool) (σ' : St) (h : f_X9_told σ a1 a2 a3 = some (r, σ')) : Ok X l yX9_told cX9_told 4 (some .boolean) 2 45 [.ref (X.2.1 50), .int a1, .int a2, .int a3] σ (some (.int (b2i r))) σ' := by
  refine Ok.of (by decide) (Nat.le_of_ble_eq_true rfl) ?_
  intro p e s m args below meth c C hr hlk hw ls hl
  have C : Cx p s m args c X cX9_told 4 "RunningCountModel" := C
  have hl : lv_has ls 4 [(0, .ref (X.2.1 50)), (1, .int a1), (2, .int a2), (3, .int a3)] := hl
  rw [f_X9_told] at h
  refine lv_aload_n C.1 C.2.1 dX9_told_0 rfl (lv_at hl 0 rfl) ?_
  refine r_get (v := .int (σ.1 50 6)) C hw l_50 vc_9 kX9 6 rfl (by decide) gw_1020 rfl dX9_told_1 ?_
  refine lv_iconst (v := 3) C.1 C.2.1 dX9_told_4 (by decide) ?_
  refine lv_icmp_eq (tgt := 14) C.1 C.2.1 dX9_told_5 (by decide) (fun c1 => ?_) (fun c1 => ?_)
  · have h := ite_t c1 h
    refine lv_aload_n C.1 C.2.1 dX9_told_14 rfl (lv_at hl 0 rfl) ?_
    refine r_get (v := .int (σ.1 50 7)) C hw l_50 vc_9 kX9 7 rfl (by decide) gw_1021 rfl dX9_told_15 ?_
    refine lv_iload_n C.1 C.2.1 dX9_told_18 rfl (lv_at hl 2 rfl) ?_
    refine lv_iload_n C.1 C.2.1 dX9_told_19 rfl (lv_at hl 3 rfl) ?_
    refine r_callS (As := [.int (σ.1 50 7), .int a2, .int a3]) C hw (ok_X9_isIn X l σ (σ.1 50 7) a2 a3 _ rfl) gw_1130 gw_1128 gw_1129 gw_123 hl.1 pd_X9_isIn ⟨Nat.le_of_ble_eq_true rfl, Nat.le_of_ble_eq_true rfl⟩ ⟨Nat.le_refl 0, Nat.le_refl 0⟩ (rest := []) (Nat.le_of_ble_eq_true rfl) dX9_told_20 rfl (fun H locs hw => ?_)
    refine lv_if_ne (tgt := 32) C.1 C.2.1 dX9_told_23 (by decide) (fun c3 => ?_) (fun c3 => ?_)
    · have h := ite_f c3 h
      refine lv_aload_n C.1 C.2.1 dX9_told_32 rfl (lv_at hl 0 rfl) ?_
      refine r_get (v := .ref (X.2.1 53)) C hw l_50 vc_9 kX9 12 rfl (by decide) gw_1026 rfl dX9_told_33 ?_
      refine lv_iload_n C.1 C.2.1 dX9_told_36 rfl (lv_at hl 1 rfl) ?_
      refine lv_aload_n C.1 C.2.1 dX9_told_37 rfl (lv_at hl 0 rfl) ?_
      refine r_get (v := .int (σ.1 50 7)) C hw l_50 vc_9 kX9 7 rfl (by decide) gw_1021 rfl dX9_told_38 ?_
      obtain ⟨σ4, eσ4, h⟩ := bnd h
      refine r_ast C hw l_53 eσ4 dX9_told_41 (fun H locs hw => ?_)
      refine lv_aload_n C.1 C.2.1 dX9_told_42 rfl (lv_at hl 0 rfl) ?_
      obtain ⟨q5, eq5, h⟩ := bnd h
      refine r_callV (As := []) C hw (ok_X9_go X l σ4 _ eq5) l_50 vc_9 gw_1085 gw_1082 gw_1084 gw_72 gw_123 hl.1 pd_X9_go ⟨Nat.le_of_ble_eq_true rfl, Nat.le_of_ble_eq_true rfl⟩ ⟨Nat.le_refl 0, Nat.le_refl 0⟩ (rest := []) (Nat.le_of_ble_eq_true rfl) dX9_told_43 rfl (fun H locs hw => ?_)
      refine lv_iconst (v := 1) C.1 C.2.1 dX9_told_46 (by decide) ?_
      exact r_zret C hr hlk hw rfl (Prod.mk.inj (Option.some.inj h)).1 (Prod.mk.inj (Option.some.inj h)).2 dX9_told_47
    · have h := ite_t c3 h
      refine lv_aload_n C.1 C.2.1 dX9_told_26 rfl (lv_at hl 0 rfl) ?_
      refine lv_iconst (v := 2) C.1 C.2.1 dX9_told_27 (by decide) ?_
      obtain ⟨q6, eq6, h⟩ := bnd h
      refine r_callV (As := [.int 2]) C hw (ok_X9_bad X l σ 2 _ _ eq6) l_50 vc_9 gw_1123 gw_1120 gw_1122 gw_77 gw_123 hl.1 pd_X9_bad ⟨Nat.le_of_ble_eq_true rfl, Nat.le_of_ble_eq_true rfl⟩ ⟨Nat.le_refl 0, Nat.le_refl 0⟩ (rest := []) (Nat.le_of_ble_eq_true rfl) dX9_told_28 rfl (fun H locs hw => ?_)
      exact r_zret C hr hlk hw rfl (Prod.mk.inj (Option.some.inj h)).1 (Prod.mk.inj (Option.some.inj h)).2 dX9_told_31
  · have h := ite_f c1 h
    refine lv_aload_n C.1 C.2.1 dX9_told_8 rfl (lv_at hl 0 rfl) ?_
    refine lv_iconst (v := 1) C.1 C.2.1 dX9_told_9 (by decide) ?_
    obtain ⟨q7, eq7, h⟩ := bnd h
    refine r_callV (As := [.int 1]) C hw (ok_X9_bad X l σ 1 _ _ eq7) l_50 vc_9 gw_1123 gw_1120 gw_1122 gw_77 gw_123 hl.1 pd_X9_bad ⟨Nat.le_of_ble_eq_true rfl, Nat.le_of_ble_eq_true rfl⟩ ⟨Nat.le_refl 0, Nat.le_refl 0⟩ (rest := []) (Nat.le_of_ble_eq_true rfl) dX9_told_10 rfl (fun H locs hw => ?_)
    exact r_zret C hr hlk hw rfl (Prod.mk.inj (Option.some.inj h)).1 (Prod.mk.inj (Option.some.inj h)).2 dX9_told_13
def f_X9_takes (σ : St) (a1 : Int32) (a2 : Int32) : Option (Bool × St) :=
  if (σ.1 50 6) = 3 then (if (b2i (f_X9_isIn σ (σ.1 50 7) a1 a2)) = 0 then ((f_X9_bad σ 2).bind fun q6 => some (q6.1, q6.2)) else (nm (upI σ 50 15 (σ.1 50 7)) fun σ4 => (f_X9_go σ4).bind fun q5 => some (true, q5))) else ((f_X9_bad σ 1).bind fun q7 => some (q7.1, q7.2))
set_option maxRecDepth 100000 in
set_option maxHeartbeats 4000000 in
theorem ok_X9_takes (X : Xc) (l : Launch) (σ : St) (a1 : Int32) (a2 : Int32) (r : Bool) (σ' : St) (h : f_X9_takes σ a1 a2 = some (r, σ')) : Ok X l yX9_takes cX9_takes 3 (some .boolean) 2 45 [.ref (X.2.1 50), .int a1, .int a2] σ (some (.int (b2i r))) σ' := by
  refine Ok.of (by decide) (Nat.le_of_ble_eq_true rfl) ?_
  intro p e s m args below meth c C hr hlk hw ls hl
  have C : Cx p s m args c X cX9_takes 3 "RunningCountModel" := C
  have hl : lv_has ls 3 [(0, .ref (X.2.1 50)), (1, .int a1), (2, .int a2)] := hl
  rw [f_X9_takes] at h
  refine lv_aload_n C.1 C.2.1 dX9_takes_0 rfl (lv_at hl 0 rfl) ?_
  refine r_get (v := .int (σ.1 50 6)) C hw l_50 vc_9 kX9 6 rfl (by decide) gw_1020 rfl dX9_takes_1 ?_
  refine lv_iconst (v := 3) C.1 C.2.1 dX9_takes_4 (by decide) ?_
  refine lv_icmp_eq (tgt := 14) C.1 C.2.1 dX9_takes_5 (by decide) (fun c1 => ?_) (fun c1 => ?_)
  · have h := ite_t c1 h
    refine lv_aload_n C.1 C.2.1 dX9_takes_14 rfl (lv_at hl 0 rfl) ?_
    refine r_get (v := .int (σ.1 50 7)) C hw l_50 vc_9 kX9 7 rfl (by decide) gw_1021 rfl dX9_takes_15 ?_
    refine lv_iload_n C.1 C.2.1 dX9_takes_18 rfl (lv_at hl 1 rfl) ?_
    refine lv_iload_n C.1 C.2.1 dX9_takes_19 rfl (lv_at hl 2 rfl) ?_
    refine r_callS (As := [.int (σ.1 50 7), .int a1, .int a2]) C hw (ok_X9_isIn X l σ (σ.1 50 7) a1 a2 _ rfl) gw_1130 gw_1128 gw_1129 gw_123 hl.1 pd_X9_isIn ⟨Nat.le_of_ble_eq_true rfl, Nat.le_of_ble_eq_true rfl⟩ ⟨Nat.le_refl 0, Nat.le_refl 0⟩ (rest := []) (Nat.le_of_ble_eq_true rfl) dX9_takes_20 rfl (fun H locs hw => ?_)
    refine lv_if_ne (tgt := 32) C.1 C.2.1 dX9_takes_23 (by decide) (fun c3 => ?_) (fun c3 => ?_)
    · have h := ite_f c3 h
      refine lv_aload_n C.1 C.2.1 dX9_takes_32 rfl (lv_at hl 0 rfl) ?_
      refine lv_aload_n C.1 C.2.1 dX9_takes_33 rfl (lv_at hl 0 rfl) ?_
      refine r_get (v := .int (σ.1 50 7)) C hw l_50 vc_9 kX9 7 rfl (by decide) gw_1021 rfl dX9_takes_34 ?_
      obtain ⟨σ4, eσ4, h⟩ := nm_d h
      refine r_put C hw l_50 vc_9 kX9 tyX9 tyX9_ok nmX9 15 (by decide) (by decide) gw_1029 rfl rfl rfl (put_i l_50 rfl eσ4) dX9_takes_37 (fun H locs hw => ?_)
      refine lv_aload_n C.1 C.2.1 dX9_takes_40 rfl (lv_at hl 0 rfl) ?_
      obtain ⟨q5, eq5, h⟩ := bnd h
      refine r_callV (As := []) C hw (ok_X9_go X l σ4 _ eq5) l_50 vc_9 gw_1085 gw_1082 gw_1084 gw_72 gw_123 hl.1 pd_X9_go ⟨Nat.le_of_ble_eq_true rfl, Nat.le_of_ble_eq_true rfl⟩ ⟨Nat.le_refl 0, Nat.le_refl 0⟩ (rest := []) (Nat.le_of_ble_eq_true rfl) dX9_takes_41 rfl (fun H locs hw => ?_)
      refine lv_iconst (v := 1) C.1 C.2.1 dX9_takes_44 (by decide) ?_
      exact r_zret C hr hlk hw rfl (Prod.mk.inj (Option.some.inj h)).1 (Prod.mk.inj (Option.some.inj h)).2 dX9_takes_45
    · have h := ite_t c3 h
      refine lv_aload_n C.1 C.2.1 dX9_takes_26 rfl (lv_at hl 0 rfl) ?_
      refine lv_iconst (v := 2) C.1 C.2.1 dX9_takes_27 (by decide) ?_
      obtain ⟨q6, eq6, h⟩ := bnd h
      refine r_callV (As := [.int 2]) C hw (ok_X9_bad X l σ 2 _ _ eq6) l_50 vc_9 gw_1123 gw_1120 gw_1122 gw_77 gw_123 hl.1 pd_X9_bad ⟨Nat.le_of_ble_eq_true rfl, Nat.le_of_ble_eq_true rfl⟩ ⟨Nat.le_refl 0, Nat.le_refl 0⟩ (rest := []) (Nat.le_of_ble_eq_true rfl) dX9_takes_28 rfl (fun H locs hw => ?_)
      exact r_zret C hr hlk hw rfl (Prod.mk.inj (Option.some.inj h)).1 (Prod.mk.inj (Option.some.inj h)).2 dX9_takes_31
  · have h := ite_f c1 h
    refine lv_aload_n C.1 C.2.1 dX9_takes_8 rfl (lv_at hl 0 rfl) ?_
    refine lv_iconst (v := 1) C.1 C.2.1 dX9_takes_9 (by decide) ?_
    obtain ⟨q7, eq7, h⟩ := bnd h
    refine r_callV (As := [.int 1]) C hw (ok_X9_bad X l σ 1 _ _ eq7) l_50 vc_9 gw_1123 gw_1120 gw_1122 gw_77 gw_123 hl.1 pd_X9_bad ⟨Nat.le_of_ble_eq_true rfl, Nat.le_of_ble_eq_true rfl⟩ ⟨Nat.le_refl 0, Nat.le_refl 0⟩ (rest := []) (Nat.le_of_ble_eq_true rfl) dX9_takes_10 rfl (fun H locs hw => ?_)
    exact r_zret C hr hlk hw rfl (Prod.mk.inj (Option.some.inj h)).1 (Prod.mk.inj (Option.some.inj h)).2 dX9_takes_13
def f_X9_readEnd (σ : St) : Option (Bool × St) :=
  if (σ.1 50 6) = 4 then ((f_X9_go σ).bind fun q2 => some (true, q2)) else ((f_X9_bad σ 1).bind fun q3 => some (q3.1, q3.2))
set_option maxRecDepth 100000 in
set_option maxHeartbeats 4000000 in
theorem ok_X9_readEnd (X : Xc) (l : Launch) (σ : St) (r : Bool) (σ' : St) (h : f_X9_readEnd σ = some (r, σ')) : Ok X l yX9_readEnd cX9_readEnd 1 (some .boolean) 2 45 [.ref (X.2.1 50)] σ (some (.int (b2i r))) σ' := by
  refine Ok.of (by decide) (Nat.le_of_ble_eq_true rfl) ?_
  intro p e s m args below meth c C hr hlk hw ls hl
  have C : Cx p s m args c X cX9_readEnd 1 "RunningCountModel" := C
  have hl : lv_has ls 1 [(0, .ref (X.2.1 50))] := hl
  rw [f_X9_readEnd] at h
  refine lv_aload_n C.1 C.2.1 dX9_readEnd_0 rfl (lv_at hl 0 rfl) ?_
  refine r_get (v := .int (σ.1 50 6)) C hw l_50 vc_9 kX9 6 rfl (by decide) gw_1020 rfl dX9_readEnd_1 ?_
  refine lv_iconst (v := 4) C.1 C.2.1 dX9_readEnd_4 (by decide) ?_
  refine lv_icmp_eq (tgt := 14) C.1 C.2.1 dX9_readEnd_5 (by decide) (fun c1 => ?_) (fun c1 => ?_)
  · have h := ite_t c1 h
    refine lv_aload_n C.1 C.2.1 dX9_readEnd_14 rfl (lv_at hl 0 rfl) ?_
    obtain ⟨q2, eq2, h⟩ := bnd h
    refine r_callV (As := []) C hw (ok_X9_go X l σ _ eq2) l_50 vc_9 gw_1085 gw_1082 gw_1084 gw_72 gw_123 hl.1 pd_X9_go ⟨Nat.le_of_ble_eq_true rfl, Nat.le_of_ble_eq_true rfl⟩ ⟨Nat.le_refl 0, Nat.le_refl 0⟩ (rest := []) (Nat.le_of_ble_eq_true rfl) dX9_readEnd_15 rfl (fun H locs hw => ?_)
    refine lv_iconst (v := 1) C.1 C.2.1 dX9_readEnd_18 (by decide) ?_
    exact r_zret C hr hlk hw rfl (Prod.mk.inj (Option.some.inj h)).1 (Prod.mk.inj (Option.some.inj h)).2 dX9_readEnd_19
  · have h := ite_f c1 h
    refine lv_aload_n C.1 C.2.1 dX9_readEnd_8 rfl (lv_at hl 0 rfl) ?_
    refine lv_iconst (v := 1) C.1 C.2.1 dX9_readEnd_9 (by decide) ?_
    obtain ⟨q3, eq3, h⟩ := bnd h
    refine r_callV (As := [.int 1]) C hw (ok_X9_bad X l σ 1 _ _ eq3) l_50 vc_9 gw_1123 gw_1120 gw_1122 gw_77 gw_123 hl.1 pd_X9_bad ⟨Nat.le_of_ble_eq_true rfl, Nat.le_of_ble_eq_true rfl⟩ ⟨Nat.le_refl 0, Nat.le_refl 0⟩ (rest := []) (Nat.le_of_ble_eq_true rfl) dX9_readEnd_10 rfl (fun H locs hw => ?_)
    exact r_zret C hr hlk hw rfl (Prod.mk.inj (Option.some.inj h)).1 (Prod.mk.inj (Option.some.inj h)).2 dX9_readEnd_13
def f_X9_readShelves (σ : St) : Option (Bool × St) :=
  if (b2i (f_X9_isWord σ (f_X9_seven σ 115 104 101 108 118 101 115))) = 0 then ((f_X9_bad σ 1).bind fun q9 => some (q9.1, q9.2)) else ((f_X9_go σ).bind fun q4 => (f_X9_told q4 0 1 6).bind fun q5 => if (b2i q5.1) = 0 then (some (false, q5.2)) else ((f_X9_readEnd q5.2).bind fun q7 => if (b2i q7.1) = 0 then (some (false, q7.2)) else (some (true, q7.2))))
set_option maxRecDepth 100000 in
set_option maxHeartbeats 4000000 in
theorem ok_X9_readShelves (X : Xc) (l : Launch) (σ : St) (r : Bool) (σ' : St) (h : f_X9_readShelves σ = some (r, σ')) : Ok X l yX9_readShelves cX9_readShelves 1 (some .boolean) 3 70 [.ref (X.2.1 50)] σ (some (.int (b2i r))) σ' := by
  refine Ok.of (by decide) (Nat.le_of_ble_eq_true rfl) ?_
  intro p e s m args below meth c C hr hlk hw ls hl
  have C : Cx p s m args c X cX9_readShelves 1 "RunningCountModel" := C
  have hl : lv_has ls 1 [(0, .ref (X.2.1 50))] := hl
  rw [f_X9_readShelves] at h
  refine lv_aload_n C.1 C.2.1 dX9_readShelves_0 rfl (lv_at hl 0 rfl) ?_
  refine lv_bipush (v := 115) C.1 C.2.1 dX9_readShelves_1 (by decide) ?_
  refine lv_bipush (v := 104) C.1 C.2.1 dX9_readShelves_3 (by decide) ?_
  refine lv_bipush (v := 101) C.1 C.2.1 dX9_readShelves_5 (by decide) ?_
  refine lv_bipush (v := 108) C.1 C.2.1 dX9_readShelves_7 (by decide) ?_
  refine lv_bipush (v := 118) C.1 C.2.1 dX9_readShelves_9 (by decide) ?_
  refine lv_bipush (v := 101) C.1 C.2.1 dX9_readShelves_11 (by decide) ?_
  refine lv_bipush (v := 115) C.1 C.2.1 dX9_readShelves_13 (by decide) ?_
  refine r_callS (As := [.int 115, .int 104, .int 101, .int 108, .int 118, .int 101, .int 115]) C hw (ok_X9_seven X l σ 115 104 101 108 118 101 115 _ rfl) gw_1108 gw_1106 gw_1107 gw_123 hl.1 pd_X9_seven ⟨Nat.le_of_ble_eq_true rfl, Nat.le_of_ble_eq_true rfl⟩ ⟨Nat.le_refl 0, Nat.le_refl 0⟩ (rest := [.ref (X.2.1 50)]) (Nat.le_of_ble_eq_true rfl) dX9_readShelves_15 rfl (fun H locs hw => ?_)
  refine r_callV (As := [.long (f_X9_seven σ 115 104 101 108 118 101 115)]) C hw (ok_X9_isWord X l σ (f_X9_seven σ 115 104 101 108 118 101 115) _ rfl) l_50 vc_9 gw_1119 gw_1116 gw_1118 gw_76 gw_123 hl.1 pd_X9_isWord ⟨Nat.le_of_ble_eq_true rfl, Nat.le_of_ble_eq_true rfl⟩ ⟨Nat.le_refl 0, Nat.le_refl 0⟩ (rest := []) (Nat.le_of_ble_eq_true rfl) dX9_readShelves_18 rfl (fun H locs hw => ?_)
  refine lv_if_ne (tgt := 30) C.1 C.2.1 dX9_readShelves_21 (by decide) (fun c3 => ?_) (fun c3 => ?_)
  · have h := ite_f c3 h
    refine lv_aload_n C.1 C.2.1 dX9_readShelves_30 rfl (lv_at hl 0 rfl) ?_
    obtain ⟨q4, eq4, h⟩ := bnd h
    refine r_callV (As := []) C hw (ok_X9_go X l σ _ eq4) l_50 vc_9 gw_1085 gw_1082 gw_1084 gw_72 gw_123 hl.1 pd_X9_go ⟨Nat.le_of_ble_eq_true rfl, Nat.le_of_ble_eq_true rfl⟩ ⟨Nat.le_refl 0, Nat.le_refl 0⟩ (rest := []) (Nat.le_of_ble_eq_true rfl) dX9_readShelves_31 rfl (fun H locs hw => ?_)
    refine lv_aload_n C.1 C.2.1 dX9_readShelves_34 rfl (lv_at hl 0 rfl) ?_
    refine lv_iconst (v := 0) C.1 C.2.1 dX9_readShelves_35 (by decide) ?_
    refine lv_iconst (v := 1) C.1 C.2.1 dX9_readShelves_36 (by decide) ?_
    refine lv_bipush (v := 6) C.1 C.2.1 dX9_readShelves_37 (by decide) ?_
    obtain ⟨q5, eq5, h⟩ := bnd h
    refine r_callV (As := [.int 0, .int 1, .int 6]) C hw (ok_X9_told X l q4 0 1 6 _ _ eq5) l_50 vc_9 gw_1127 gw_1124 gw_1126 gw_78 gw_123 hl.1 pd_X9_told ⟨Nat.le_of_ble_eq_true rfl, Nat.le_of_ble_eq_true rfl⟩ ⟨Nat.le_refl 0, Nat.le_refl 0⟩ (rest := []) (Nat.le_of_ble_eq_true rfl) dX9_readShelves_39 rfl (fun H locs hw => ?_)
    refine lv_if_eq (tgt := 56) C.1 C.2.1 dX9_readShelves_42 (by decide) (fun c6 => ?_) (fun c6 => ?_)
    · have h := ite_t c6 h
      refine lv_iconst (v := 0) C.1 C.2.1 dX9_readShelves_56 (by decide) ?_
      exact r_zret C hr hlk hw rfl (Prod.mk.inj (Option.some.inj h)).1 (Prod.mk.inj (Option.some.inj h)).2 dX9_readShelves_57
    · have h := ite_f c6 h
      refine lv_aload_n C.1 C.2.1 dX9_readShelves_45 rfl (lv_at hl 0 rfl) ?_
      obtain ⟨q7, eq7, h⟩ := bnd h
      refine r_callV (As := []) C hw (ok_X9_readEnd X l q5.2 _ _ eq7) l_50 vc_9 gw_1134 gw_1131 gw_1133 gw_79 gw_123 hl.1 pd_X9_readEnd ⟨Nat.le_of_ble_eq_true rfl, Nat.le_of_ble_eq_true rfl⟩ ⟨Nat.le_refl 0, Nat.le_refl 0⟩ (rest := []) (Nat.le_of_ble_eq_true rfl) dX9_readShelves_46 rfl (fun H locs hw => ?_)
      refine lv_if_eq (tgt := 56) C.1 C.2.1 dX9_readShelves_49 (by decide) (fun c8 => ?_) (fun c8 => ?_)
      · have h := ite_t c8 h
        refine lv_iconst (v := 0) C.1 C.2.1 dX9_readShelves_56 (by decide) ?_
        exact r_zret C hr hlk hw rfl (Prod.mk.inj (Option.some.inj h)).1 (Prod.mk.inj (Option.some.inj h)).2 dX9_readShelves_57
      · have h := ite_f c8 h
        refine lv_iconst (v := 1) C.1 C.2.1 dX9_readShelves_52 (by decide) ?_
        refine lv_goto (tgt := 57) C.1 C.2.1 dX9_readShelves_53 (by decide) ?_
        exact r_zret C hr hlk hw rfl (Prod.mk.inj (Option.some.inj h)).1 (Prod.mk.inj (Option.some.inj h)).2 dX9_readShelves_57
  · have h := ite_t c3 h
    refine lv_aload_n C.1 C.2.1 dX9_readShelves_24 rfl (lv_at hl 0 rfl) ?_
    refine lv_iconst (v := 1) C.1 C.2.1 dX9_readShelves_25 (by decide) ?_
    obtain ⟨q9, eq9, h⟩ := bnd h
    refine r_callV (As := [.int 1]) C hw (ok_X9_bad X l σ 1 _ _ eq9) l_50 vc_9 gw_1123 gw_1120 gw_1122 gw_77 gw_123 hl.1 pd_X9_bad ⟨Nat.le_of_ble_eq_true rfl, Nat.le_of_ble_eq_true rfl⟩ ⟨Nat.le_refl 0, Nat.le_refl 0⟩ (rest := []) (Nat.le_of_ble_eq_true rfl) dX9_readShelves_26 rfl (fun H locs hw => ?_)
    exact r_zret C hr hlk hw rfl (Prod.mk.inj (Option.some.inj h)).1 (Prod.mk.inj (Option.some.inj h)).2 dX9_readShelves_29
def f_X9_readItem (σ : St) : Option (Bool × St) :=
  (rd σ 53 845 1).bind fun v1 => if v1 = 5 then ((f_X9_bad σ 3).bind fun q13 => some (q13.1, q13.2)) else ((f_X9_go σ).bind fun q3 => (rd q3 53 845 1).bind fun v4 => nm (5 + (2 * v4)) fun v5 => (f_X9_told q3 v5 0 99).bind fun q6 => if (b2i q6.1) = 0 then (some (false, q6.2)) else ((f_X9_told q6.2 (v5 + 1) 0 99).bind fun q8 => if (b2i q8.1) = 0 then (some (false, q8.2)) else ((rd q8.2 53 845 1).bind fun v10 => (wr q8.2 53 845 1 (v10 + 1)).bind fun σ11 => (f_X9_readEnd σ11).bind fun q12 => some (q12.1, q12.2))))
set_option maxRecDepth 100000 in
set_option maxHeartbeats 4000000 in
theorem ok_X9_readItem (X : Xc) (l : Launch) (σ : St) (r : Bool) (σ' : St) (h : f_X9_readItem σ = some (r, σ')) : Ok X l yX9_readItem cX9_readItem 2 (some .boolean) 3 68 [.ref (X.2.1 50)] σ (some (.int (b2i r))) σ' := by
  refine Ok.of (by decide) (Nat.le_of_ble_eq_true rfl) ?_
  intro p e s m args below meth c C hr hlk hw ls hl
  have C : Cx p s m args c X cX9_readItem 2 "RunningCountModel" := C
  have hl : lv_has ls 2 [(0, .ref (X.2.1 50))] := hl
  rw [f_X9_readItem] at h
  refine lv_aload_n C.1 C.2.1 dX9_readItem_0 rfl (lv_at hl 0 rfl) ?_
  refine r_get (v := .ref (X.2.1 53)) C hw l_50 vc_9 kX9 12 rfl (by decide) gw_1026 rfl dX9_readItem_1 ?_
  refine lv_iconst (v := 1) C.1 C.2.1 dX9_readItem_4 (by decide) ?_
  obtain ⟨v1, ev1, h⟩ := bnd h
  refine r_ald C hw l_53 ev1 dX9_readItem_5 ?_
  refine lv_iconst (v := 5) C.1 C.2.1 dX9_readItem_6 (by decide) ?_
  refine lv_icmp_ne (tgt := 16) C.1 C.2.1 dX9_readItem_7 (by decide) (fun c2 => ?_) (fun c2 => ?_)
  · have h := ite_f c2 h
    refine lv_aload_n C.1 C.2.1 dX9_readItem_16 rfl (lv_at hl 0 rfl) ?_
    obtain ⟨q3, eq3, h⟩ := bnd h
    refine r_callV (As := []) C hw (ok_X9_go X l σ _ eq3) l_50 vc_9 gw_1085 gw_1082 gw_1084 gw_72 gw_123 hl.1 pd_X9_go ⟨Nat.le_of_ble_eq_true rfl, Nat.le_of_ble_eq_true rfl⟩ ⟨Nat.le_refl 0, Nat.le_refl 0⟩ (rest := []) (Nat.le_of_ble_eq_true rfl) dX9_readItem_17 rfl (fun H locs hw => ?_)
    refine lv_iconst (v := 5) C.1 C.2.1 dX9_readItem_20 (by decide) ?_
    refine lv_iconst (v := 2) C.1 C.2.1 dX9_readItem_21 (by decide) ?_
    refine lv_aload_n C.1 C.2.1 dX9_readItem_22 rfl (lv_at hl 0 rfl) ?_
    refine r_get (v := .ref (X.2.1 53)) C hw l_50 vc_9 kX9 12 rfl (by decide) gw_1026 rfl dX9_readItem_23 ?_
    refine lv_iconst (v := 1) C.1 C.2.1 dX9_readItem_26 (by decide) ?_
    obtain ⟨v4, ev4, h⟩ := bnd h
    refine r_ald C hw l_53 ev4 dX9_readItem_27 ?_
    refine lv_imul C.1 C.2.1 dX9_readItem_28 ?_
    refine lv_iadd C.1 C.2.1 dX9_readItem_29 ?_
    obtain ⟨v5, ev5, h⟩ := nm_d h
    refine lv_nm ev5 ?_
    refine lv_istore_n (lv' := [(1, .int v5), (0, .ref (X.2.1 50))]) C.1 C.2.1 dX9_readItem_30 rfl hl (by decide) rfl (fun ls hl => ?_)
    refine lv_aload_n C.1 C.2.1 dX9_readItem_31 rfl (lv_at hl 1 rfl) ?_
    refine lv_iload_n C.1 C.2.1 dX9_readItem_32 rfl (lv_at hl 0 rfl) ?_
    refine lv_iconst (v := 0) C.1 C.2.1 dX9_readItem_33 (by decide) ?_
    refine lv_bipush (v := 99) C.1 C.2.1 dX9_readItem_34 (by decide) ?_
    obtain ⟨q6, eq6, h⟩ := bnd h
    refine r_callV (As := [.int v5, .int 0, .int 99]) C hw (ok_X9_told X l q3 v5 0 99 _ _ eq6) l_50 vc_9 gw_1127 gw_1124 gw_1126 gw_78 gw_123 hl.1 pd_X9_told ⟨Nat.le_of_ble_eq_true rfl, Nat.le_of_ble_eq_true rfl⟩ ⟨Nat.le_refl 0, Nat.le_refl 0⟩ (rest := []) (Nat.le_of_ble_eq_true rfl) dX9_readItem_36 rfl (fun H locs hw => ?_)
    refine lv_if_eq (tgt := 55) C.1 C.2.1 dX9_readItem_39 (by decide) (fun c7 => ?_) (fun c7 => ?_)
    · have h := ite_t c7 h
      refine lv_iconst (v := 0) C.1 C.2.1 dX9_readItem_55 (by decide) ?_
      exact r_zret C hr hlk hw rfl (Prod.mk.inj (Option.some.inj h)).1 (Prod.mk.inj (Option.some.inj h)).2 dX9_readItem_56
    · have h := ite_f c7 h
      refine lv_aload_n C.1 C.2.1 dX9_readItem_42 rfl (lv_at hl 1 rfl) ?_
      refine lv_iload_n C.1 C.2.1 dX9_readItem_43 rfl (lv_at hl 0 rfl) ?_
      refine lv_iconst (v := 1) C.1 C.2.1 dX9_readItem_44 (by decide) ?_
      refine lv_iadd C.1 C.2.1 dX9_readItem_45 ?_
      refine lv_iconst (v := 0) C.1 C.2.1 dX9_readItem_46 (by decide) ?_
      refine lv_bipush (v := 99) C.1 C.2.1 dX9_readItem_47 (by decide) ?_
      obtain ⟨q8, eq8, h⟩ := bnd h
      refine r_callV (As := [.int (v5 + 1), .int 0, .int 99]) C hw (ok_X9_told X l q6.2 (v5 + 1) 0 99 _ _ eq8) l_50 vc_9 gw_1127 gw_1124 gw_1126 gw_78 gw_123 hl.1 pd_X9_told ⟨Nat.le_of_ble_eq_true rfl, Nat.le_of_ble_eq_true rfl⟩ ⟨Nat.le_refl 0, Nat.le_refl 0⟩ (rest := []) (Nat.le_of_ble_eq_true rfl) dX9_readItem_49 rfl (fun H locs hw => ?_)
      refine lv_if_ne (tgt := 57) C.1 C.2.1 dX9_readItem_52 (by decide) (fun c9 => ?_) (fun c9 => ?_)
      · have h := ite_f c9 h
        refine lv_aload_n C.1 C.2.1 dX9_readItem_57 rfl (lv_at hl 1 rfl) ?_
        refine r_get (v := .ref (X.2.1 53)) C hw l_50 vc_9 kX9 12 rfl (by decide) gw_1026 rfl dX9_readItem_58 ?_
        refine lv_iconst (v := 1) C.1 C.2.1 dX9_readItem_61 (by decide) ?_
        refine lv_dup2_11 C.1 C.2.1 dX9_readItem_62 rfl rfl ?_
        obtain ⟨v10, ev10, h⟩ := bnd h
        refine r_ald C hw l_53 ev10 dX9_readItem_63 ?_
        refine lv_iconst (v := 1) C.1 C.2.1 dX9_readItem_64 (by decide) ?_
        refine lv_iadd C.1 C.2.1 dX9_readItem_65 ?_
        obtain ⟨σ11, eσ11, h⟩ := bnd h
        refine r_ast C hw l_53 eσ11 dX9_readItem_66 (fun H locs hw => ?_)
        refine lv_aload_n C.1 C.2.1 dX9_readItem_67 rfl (lv_at hl 1 rfl) ?_
        obtain ⟨q12, eq12, h⟩ := bnd h
        refine r_callV (As := []) C hw (ok_X9_readEnd X l σ11 _ _ eq12) l_50 vc_9 gw_1134 gw_1131 gw_1133 gw_79 gw_123 hl.1 pd_X9_readEnd ⟨Nat.le_of_ble_eq_true rfl, Nat.le_of_ble_eq_true rfl⟩ ⟨Nat.le_refl 0, Nat.le_refl 0⟩ (rest := []) (Nat.le_of_ble_eq_true rfl) dX9_readItem_68 rfl (fun H locs hw => ?_)
        exact r_zret C hr hlk hw rfl (Prod.mk.inj (Option.some.inj h)).1 (Prod.mk.inj (Option.some.inj h)).2 dX9_readItem_71
      · have h := ite_t c9 h
        refine lv_iconst (v := 0) C.1 C.2.1 dX9_readItem_55 (by decide) ?_
        exact r_zret C hr hlk hw rfl (Prod.mk.inj (Option.some.inj h)).1 (Prod.mk.inj (Option.some.inj h)).2 dX9_readItem_56
  · have h := ite_t c2 h
    refine lv_aload_n C.1 C.2.1 dX9_readItem_10 rfl (lv_at hl 0 rfl) ?_
    refine lv_iconst (v := 3) C.1 C.2.1 dX9_readItem_11 (by decide) ?_
    obtain ⟨q13, eq13, h⟩ := bnd h
    refine r_callV (As := [.int 3]) C hw (ok_X9_bad X l σ 3 _ _ eq13) l_50 vc_9 gw_1123 gw_1120 gw_1122 gw_77 gw_123 hl.1 pd_X9_bad ⟨Nat.le_of_ble_eq_true rfl, Nat.le_of_ble_eq_true rfl⟩ ⟨Nat.le_refl 0, Nat.le_refl 0⟩ (rest := []) (Nat.le_of_ble_eq_true rfl) dX9_readItem_12 rfl (fun H locs hw => ?_)
    exact r_zret C hr hlk hw rfl (Prod.mk.inj (Option.some.inj h)).1 (Prod.mk.inj (Option.some.inj h)).2 dX9_readItem_15
def f_X9_readStock (σ : St) : Option (Bool × St) :=
  (f_X9_go σ).bind fun q1 => (rd q1 53 845 0).bind fun v2 => (f_X9_takes q1 0 (v2 - 1)).bind fun q3 => if (b2i q3.1) = 0 then (some (false, q3.2)) else (nm (q3.2.1 50 15) fun v5 => if (q3.2.1 50 6) = 3 then ((rd q3.2 53 845 1).bind fun v7 => if v7 ≤ (q3.2.1 50 7) then ((f_X9_bad q3.2 2).bind fun q9 => some (q9.1, q9.2)) else (if (((q3.2.1 50 16) >>> (((5 * v5) + (q3.2.1 50 7)) &&& 31)) &&& 1) = 1 then ((f_X9_bad q3.2 2).bind fun q18 => some (q18.1, q18.2)) else (nm ((5 * v5) + (q3.2.1 50 7)) fun v11 => nm (upI q3.2 50 16 ((q3.2.1 50 16) ||| (1 <<< (v11 &&& 31)))) fun σ12 => (f_X9_go σ12).bind fun q13 => (f_X9_told q13 (15 + v11) 0 999).bind fun q14 => if (b2i q14.1) = 0 then (some (false, q14.2)) else ((f_X9_readEnd q14.2).bind fun q16 => if (b2i q16.1) = 0 then (some (false, q16.2)) else (some (true, q16.2)))))) else ((f_X9_bad q3.2 1).bind fun q19 => some (q19.1, q19.2)))
set_option maxRecDepth 100000 in
set_option maxHeartbeats 4000000 in
theorem ok_X9_readStock (X : Xc) (l : Launch) (σ : St) (r : Bool) (σ' : St) (h : f_X9_readStock σ = some (r, σ')) : Ok X l yX9_readStock cX9_readStock 3 (some .boolean) 3 68 [.ref (X.2.1 50)] σ (some (.int (b2i r))) σ' := by
  refine Ok.of (by decide) (Nat.le_of_ble_eq_true rfl) ?_
  intro p e s m args below meth c C hr hlk hw ls hl
  have C : Cx p s m args c X cX9_readStock 3 "RunningCountModel" := C
  have hl : lv_has ls 3 [(0, .ref (X.2.1 50))] := hl
  rw [f_X9_readStock] at h
  refine lv_aload_n C.1 C.2.1 dX9_readStock_0 rfl (lv_at hl 0 rfl) ?_
  obtain ⟨q1, eq1, h⟩ := bnd h
  refine r_callV (As := []) C hw (ok_X9_go X l σ _ eq1) l_50 vc_9 gw_1085 gw_1082 gw_1084 gw_72 gw_123 hl.1 pd_X9_go ⟨Nat.le_of_ble_eq_true rfl, Nat.le_of_ble_eq_true rfl⟩ ⟨Nat.le_refl 0, Nat.le_refl 0⟩ (rest := []) (Nat.le_of_ble_eq_true rfl) dX9_readStock_1 rfl (fun H locs hw => ?_)
  refine lv_aload_n C.1 C.2.1 dX9_readStock_4 rfl (lv_at hl 0 rfl) ?_
  refine lv_iconst (v := 0) C.1 C.2.1 dX9_readStock_5 (by decide) ?_
  refine lv_aload_n C.1 C.2.1 dX9_readStock_6 rfl (lv_at hl 0 rfl) ?_
  refine r_get (v := .ref (X.2.1 53)) C hw l_50 vc_9 kX9 12 rfl (by decide) gw_1026 rfl dX9_readStock_7 ?_
  refine lv_iconst (v := 0) C.1 C.2.1 dX9_readStock_10 (by decide) ?_
  obtain ⟨v2, ev2, h⟩ := bnd h
  refine r_ald C hw l_53 ev2 dX9_readStock_11 ?_
  refine lv_iconst (v := 1) C.1 C.2.1 dX9_readStock_12 (by decide) ?_
  refine lv_isub C.1 C.2.1 dX9_readStock_13 ?_
  obtain ⟨q3, eq3, h⟩ := bnd h
  refine r_callV (As := [.int 0, .int (v2 - 1)]) C hw (ok_X9_takes X l q1 0 (v2 - 1) _ _ eq3) l_50 vc_9 gw_1155 gw_1152 gw_1154 gw_84 gw_123 hl.1 pd_X9_takes ⟨Nat.le_of_ble_eq_true rfl, Nat.le_of_ble_eq_true rfl⟩ ⟨Nat.le_refl 0, Nat.le_refl 0⟩ (rest := []) (Nat.le_of_ble_eq_true rfl) dX9_readStock_14 rfl (fun H locs hw => ?_)
  refine lv_if_ne (tgt := 22) C.1 C.2.1 dX9_readStock_17 (by decide) (fun c4 => ?_) (fun c4 => ?_)
  · have h := ite_f c4 h
    refine lv_aload_n C.1 C.2.1 dX9_readStock_22 rfl (lv_at hl 0 rfl) ?_
    refine r_get (v := .int (q3.2.1 50 15)) C hw l_50 vc_9 kX9 15 rfl (by decide) gw_1029 rfl dX9_readStock_23 ?_
    obtain ⟨v5, ev5, h⟩ := nm_d h
    refine lv_nm ev5 ?_
    refine lv_istore_n (lv' := [(1, .int v5), (0, .ref (X.2.1 50))]) C.1 C.2.1 dX9_readStock_26 rfl hl (by decide) rfl (fun ls hl => ?_)
    refine lv_aload_n C.1 C.2.1 dX9_readStock_27 rfl (lv_at hl 1 rfl) ?_
    refine r_get (v := .int (q3.2.1 50 6)) C hw l_50 vc_9 kX9 6 rfl (by decide) gw_1020 rfl dX9_readStock_28 ?_
    refine lv_iconst (v := 3) C.1 C.2.1 dX9_readStock_31 (by decide) ?_
    refine lv_icmp_eq (tgt := 41) C.1 C.2.1 dX9_readStock_32 (by decide) (fun c6 => ?_) (fun c6 => ?_)
    · have h := ite_t c6 h
      refine lv_aload_n C.1 C.2.1 dX9_readStock_41 rfl (lv_at hl 1 rfl) ?_
      refine r_get (v := .int (q3.2.1 50 7)) C hw l_50 vc_9 kX9 7 rfl (by decide) gw_1021 rfl dX9_readStock_42 ?_
      refine lv_aload_n C.1 C.2.1 dX9_readStock_45 rfl (lv_at hl 1 rfl) ?_
      refine r_get (v := .ref (X.2.1 53)) C hw l_50 vc_9 kX9 12 rfl (by decide) gw_1026 rfl dX9_readStock_46 ?_
      refine lv_iconst (v := 1) C.1 C.2.1 dX9_readStock_49 (by decide) ?_
      obtain ⟨v7, ev7, h⟩ := bnd h
      refine r_ald C hw l_53 ev7 dX9_readStock_50 ?_
      refine lv_icmp_ge (tgt := 73) C.1 C.2.1 dX9_readStock_51 (by decide) (fun c8 => ?_) (fun c8 => ?_)
      · have h := ite_t c8 h
        refine lv_aload_n C.1 C.2.1 dX9_readStock_73 rfl (lv_at hl 1 rfl) ?_
        refine lv_iconst (v := 2) C.1 C.2.1 dX9_readStock_74 (by decide) ?_
        obtain ⟨q9, eq9, h⟩ := bnd h
        refine r_callV (As := [.int 2]) C hw (ok_X9_bad X l q3.2 2 _ _ eq9) l_50 vc_9 gw_1123 gw_1120 gw_1122 gw_77 gw_123 hl.1 pd_X9_bad ⟨Nat.le_of_ble_eq_true rfl, Nat.le_of_ble_eq_true rfl⟩ ⟨Nat.le_refl 0, Nat.le_refl 0⟩ (rest := []) (Nat.le_of_ble_eq_true rfl) dX9_readStock_75 rfl (fun H locs hw => ?_)
        exact r_zret C hr hlk hw rfl (Prod.mk.inj (Option.some.inj h)).1 (Prod.mk.inj (Option.some.inj h)).2 dX9_readStock_78
      · have h := ite_f c8 h
        refine lv_aload_n C.1 C.2.1 dX9_readStock_54 rfl (lv_at hl 1 rfl) ?_
        refine r_get (v := .int (q3.2.1 50 16)) C hw l_50 vc_9 kX9 16 rfl (by decide) gw_1030 rfl dX9_readStock_55 ?_
        refine lv_iconst (v := 5) C.1 C.2.1 dX9_readStock_58 (by decide) ?_
        refine lv_iload_n C.1 C.2.1 dX9_readStock_59 rfl (lv_at hl 0 rfl) ?_
        refine lv_imul C.1 C.2.1 dX9_readStock_60 ?_
        refine lv_aload_n C.1 C.2.1 dX9_readStock_61 rfl (lv_at hl 1 rfl) ?_
        refine r_get (v := .int (q3.2.1 50 7)) C hw l_50 vc_9 kX9 7 rfl (by decide) gw_1021 rfl dX9_readStock_62 ?_
        refine lv_iadd C.1 C.2.1 dX9_readStock_65 ?_
        refine lv_ishr C.1 C.2.1 dX9_readStock_66 ?_
        refine lv_iconst (v := 1) C.1 C.2.1 dX9_readStock_67 (by decide) ?_
        refine lv_iand C.1 C.2.1 dX9_readStock_68 ?_
        refine lv_iconst (v := 1) C.1 C.2.1 dX9_readStock_69 (by decide) ?_
        refine lv_icmp_ne (tgt := 79) C.1 C.2.1 dX9_readStock_70 (by decide) (fun c10 => ?_) (fun c10 => ?_)
        · have h := ite_f c10 h
          refine lv_iconst (v := 5) C.1 C.2.1 dX9_readStock_79 (by decide) ?_
          refine lv_iload_n C.1 C.2.1 dX9_readStock_80 rfl (lv_at hl 0 rfl) ?_
          refine lv_imul C.1 C.2.1 dX9_readStock_81 ?_
          refine lv_aload_n C.1 C.2.1 dX9_readStock_82 rfl (lv_at hl 1 rfl) ?_
          refine r_get (v := .int (q3.2.1 50 7)) C hw l_50 vc_9 kX9 7 rfl (by decide) gw_1021 rfl dX9_readStock_83 ?_
          refine lv_iadd C.1 C.2.1 dX9_readStock_86 ?_
          obtain ⟨v11, ev11, h⟩ := nm_d h
          refine lv_nm ev11 ?_
          refine lv_istore_n (lv' := [(2, .int v11), (1, .int v5), (0, .ref (X.2.1 50))]) C.1 C.2.1 dX9_readStock_87 rfl hl (by decide) rfl (fun ls hl => ?_)
          refine lv_aload_n C.1 C.2.1 dX9_readStock_88 rfl (lv_at hl 2 rfl) ?_
          refine lv_dup C.1 C.2.1 dX9_readStock_89 rfl ?_
          refine r_get (v := .int (q3.2.1 50 16)) C hw l_50 vc_9 kX9 16 rfl (by decide) gw_1030 rfl dX9_readStock_90 ?_
          refine lv_iconst (v := 1) C.1 C.2.1 dX9_readStock_93 (by decide) ?_
          refine lv_iload_n C.1 C.2.1 dX9_readStock_94 rfl (lv_at hl 0 rfl) ?_
          refine lv_ishl C.1 C.2.1 dX9_readStock_95 ?_
          refine lv_ior C.1 C.2.1 dX9_readStock_96 ?_
          obtain ⟨σ12, eσ12, h⟩ := nm_d h
          refine r_put C hw l_50 vc_9 kX9 tyX9 tyX9_ok nmX9 16 (by decide) (by decide) gw_1030 rfl rfl rfl (put_i l_50 rfl eσ12) dX9_readStock_97 (fun H locs hw => ?_)
          refine lv_aload_n C.1 C.2.1 dX9_readStock_100 rfl (lv_at hl 2 rfl) ?_
          obtain ⟨q13, eq13, h⟩ := bnd h
          refine r_callV (As := []) C hw (ok_X9_go X l σ12 _ eq13) l_50 vc_9 gw_1085 gw_1082 gw_1084 gw_72 gw_123 hl.1 pd_X9_go ⟨Nat.le_of_ble_eq_true rfl, Nat.le_of_ble_eq_true rfl⟩ ⟨Nat.le_refl 0, Nat.le_refl 0⟩ (rest := []) (Nat.le_of_ble_eq_true rfl) dX9_readStock_101 rfl (fun H locs hw => ?_)
          refine lv_aload_n C.1 C.2.1 dX9_readStock_104 rfl (lv_at hl 2 rfl) ?_
          refine lv_bipush (v := 15) C.1 C.2.1 dX9_readStock_105 (by decide) ?_
          refine lv_iload_n C.1 C.2.1 dX9_readStock_107 rfl (lv_at hl 0 rfl) ?_
          refine lv_iadd C.1 C.2.1 dX9_readStock_108 ?_
          refine lv_iconst (v := 0) C.1 C.2.1 dX9_readStock_109 (by decide) ?_
          refine lv_sipush (v := 999) C.1 C.2.1 dX9_readStock_110 (by decide) ?_
          obtain ⟨q14, eq14, h⟩ := bnd h
          refine r_callV (As := [.int (15 + v11), .int 0, .int 999]) C hw (ok_X9_told X l q13 (15 + v11) 0 999 _ _ eq14) l_50 vc_9 gw_1127 gw_1124 gw_1126 gw_78 gw_123 hl.1 pd_X9_told ⟨Nat.le_of_ble_eq_true rfl, Nat.le_of_ble_eq_true rfl⟩ ⟨Nat.le_refl 0, Nat.le_refl 0⟩ (rest := []) (Nat.le_of_ble_eq_true rfl) dX9_readStock_113 rfl (fun H locs hw => ?_)
          refine lv_if_eq (tgt := 130) C.1 C.2.1 dX9_readStock_116 (by decide) (fun c15 => ?_) (fun c15 => ?_)
          · have h := ite_t c15 h
            refine lv_iconst (v := 0) C.1 C.2.1 dX9_readStock_130 (by decide) ?_
            exact r_zret C hr hlk hw rfl (Prod.mk.inj (Option.some.inj h)).1 (Prod.mk.inj (Option.some.inj h)).2 dX9_readStock_131
          · have h := ite_f c15 h
            refine lv_aload_n C.1 C.2.1 dX9_readStock_119 rfl (lv_at hl 2 rfl) ?_
            obtain ⟨q16, eq16, h⟩ := bnd h
            refine r_callV (As := []) C hw (ok_X9_readEnd X l q14.2 _ _ eq16) l_50 vc_9 gw_1134 gw_1131 gw_1133 gw_79 gw_123 hl.1 pd_X9_readEnd ⟨Nat.le_of_ble_eq_true rfl, Nat.le_of_ble_eq_true rfl⟩ ⟨Nat.le_refl 0, Nat.le_refl 0⟩ (rest := []) (Nat.le_of_ble_eq_true rfl) dX9_readStock_120 rfl (fun H locs hw => ?_)
            refine lv_if_eq (tgt := 130) C.1 C.2.1 dX9_readStock_123 (by decide) (fun c17 => ?_) (fun c17 => ?_)
            · have h := ite_t c17 h
              refine lv_iconst (v := 0) C.1 C.2.1 dX9_readStock_130 (by decide) ?_
              exact r_zret C hr hlk hw rfl (Prod.mk.inj (Option.some.inj h)).1 (Prod.mk.inj (Option.some.inj h)).2 dX9_readStock_131
            · have h := ite_f c17 h
              refine lv_iconst (v := 1) C.1 C.2.1 dX9_readStock_126 (by decide) ?_
              refine lv_goto (tgt := 131) C.1 C.2.1 dX9_readStock_127 (by decide) ?_
              exact r_zret C hr hlk hw rfl (Prod.mk.inj (Option.some.inj h)).1 (Prod.mk.inj (Option.some.inj h)).2 dX9_readStock_131
        · have h := ite_t c10 h
          refine lv_aload_n C.1 C.2.1 dX9_readStock_73 rfl (lv_at hl 1 rfl) ?_
          refine lv_iconst (v := 2) C.1 C.2.1 dX9_readStock_74 (by decide) ?_
          obtain ⟨q18, eq18, h⟩ := bnd h
          refine r_callV (As := [.int 2]) C hw (ok_X9_bad X l q3.2 2 _ _ eq18) l_50 vc_9 gw_1123 gw_1120 gw_1122 gw_77 gw_123 hl.1 pd_X9_bad ⟨Nat.le_of_ble_eq_true rfl, Nat.le_of_ble_eq_true rfl⟩ ⟨Nat.le_refl 0, Nat.le_refl 0⟩ (rest := []) (Nat.le_of_ble_eq_true rfl) dX9_readStock_75 rfl (fun H locs hw => ?_)
          exact r_zret C hr hlk hw rfl (Prod.mk.inj (Option.some.inj h)).1 (Prod.mk.inj (Option.some.inj h)).2 dX9_readStock_78
    · have h := ite_f c6 h
      refine lv_aload_n C.1 C.2.1 dX9_readStock_35 rfl (lv_at hl 1 rfl) ?_
      refine lv_iconst (v := 1) C.1 C.2.1 dX9_readStock_36 (by decide) ?_
      obtain ⟨q19, eq19, h⟩ := bnd h
      refine r_callV (As := [.int 1]) C hw (ok_X9_bad X l q3.2 1 _ _ eq19) l_50 vc_9 gw_1123 gw_1120 gw_1122 gw_77 gw_123 hl.1 pd_X9_bad ⟨Nat.le_of_ble_eq_true rfl, Nat.le_of_ble_eq_true rfl⟩ ⟨Nat.le_refl 0, Nat.le_refl 0⟩ (rest := []) (Nat.le_of_ble_eq_true rfl) dX9_readStock_37 rfl (fun H locs hw => ?_)
      exact r_zret C hr hlk hw rfl (Prod.mk.inj (Option.some.inj h)).1 (Prod.mk.inj (Option.some.inj h)).2 dX9_readStock_40
  · have h := ite_t c4 h
    refine lv_iconst (v := 0) C.1 C.2.1 dX9_readStock_20 (by decide) ?_
    exact r_zret C hr hlk hw rfl (Prod.mk.inj (Option.some.inj h)).1 (Prod.mk.inj (Option.some.inj h)).2 dX9_readStock_21
def f_X9_readLeg (σ : St) (a1 : Int32) : Option (Bool × St) :=
  (f_X9_go σ).bind fun q1 => (rd q1 53 845 0).bind fun v2 => (f_X9_told q1 (a1 + 1) 0 (v2 - 1)).bind fun q3 => if (b2i q3.1) = 0 then (some (false, q3.2)) else ((f_X9_told q3.2 (a1 + 2) 0 999).bind fun q5 => if (b2i q5.1) = 0 then (some (false, q5.2)) else ((rd q5.2 53 845 (a1 + 2)).bind fun v7 => (f_X9_told q5.2 (a1 + 3) v7 999).bind fun q8 => if (b2i q8.1) = 0 then (some (false, q8.2)) else ((wr q8.2 53 845 (a1 + 0) 1).bind fun σ10 => some (true, σ10))))
set_option maxRecDepth 100000 in
set_option maxHeartbeats 4000000 in
theorem ok_X9_readLeg (X : Xc) (l : Launch) (σ : St) (a1 : Int32) (r : Bool) (σ' : St) (h : f_X9_readLeg σ a1 = some (r, σ')) : Ok X l yX9_readLeg cX9_readLeg 2 (some .boolean) 3 68 [.ref (X.2.1 50), .int a1] σ (some (.int (b2i r))) σ' := by
  refine Ok.of (by decide) (Nat.le_of_ble_eq_true rfl) ?_
  intro p e s m args below meth c C hr hlk hw ls hl
  have C : Cx p s m args c X cX9_readLeg 2 "RunningCountModel" := C
  have hl : lv_has ls 2 [(0, .ref (X.2.1 50)), (1, .int a1)] := hl
  rw [f_X9_readLeg] at h
  refine lv_aload_n C.1 C.2.1 dX9_readLeg_0 rfl (lv_at hl 0 rfl) ?_
  obtain ⟨q1, eq1, h⟩ := bnd h
  refine r_callV (As := []) C hw (ok_X9_go X l σ _ eq1) l_50 vc_9 gw_1085 gw_1082 gw_1084 gw_72 gw_123 hl.1 pd_X9_go ⟨Nat.le_of_ble_eq_true rfl, Nat.le_of_ble_eq_true rfl⟩ ⟨Nat.le_refl 0, Nat.le_refl 0⟩ (rest := []) (Nat.le_of_ble_eq_true rfl) dX9_readLeg_1 rfl (fun H locs hw => ?_)
  refine lv_aload_n C.1 C.2.1 dX9_readLeg_4 rfl (lv_at hl 0 rfl) ?_
  refine lv_iload_n C.1 C.2.1 dX9_readLeg_5 rfl (lv_at hl 1 rfl) ?_
  refine lv_iconst (v := 1) C.1 C.2.1 dX9_readLeg_6 (by decide) ?_
  refine lv_iadd C.1 C.2.1 dX9_readLeg_7 ?_
  refine lv_iconst (v := 0) C.1 C.2.1 dX9_readLeg_8 (by decide) ?_
  refine lv_aload_n C.1 C.2.1 dX9_readLeg_9 rfl (lv_at hl 0 rfl) ?_
  refine r_get (v := .ref (X.2.1 53)) C hw l_50 vc_9 kX9 12 rfl (by decide) gw_1026 rfl dX9_readLeg_10 ?_
  refine lv_iconst (v := 0) C.1 C.2.1 dX9_readLeg_13 (by decide) ?_
  obtain ⟨v2, ev2, h⟩ := bnd h
  refine r_ald C hw l_53 ev2 dX9_readLeg_14 ?_
  refine lv_iconst (v := 1) C.1 C.2.1 dX9_readLeg_15 (by decide) ?_
  refine lv_isub C.1 C.2.1 dX9_readLeg_16 ?_
  obtain ⟨q3, eq3, h⟩ := bnd h
  refine r_callV (As := [.int (a1 + 1), .int 0, .int (v2 - 1)]) C hw (ok_X9_told X l q1 (a1 + 1) 0 (v2 - 1) _ _ eq3) l_50 vc_9 gw_1127 gw_1124 gw_1126 gw_78 gw_123 hl.1 pd_X9_told ⟨Nat.le_of_ble_eq_true rfl, Nat.le_of_ble_eq_true rfl⟩ ⟨Nat.le_refl 0, Nat.le_refl 0⟩ (rest := []) (Nat.le_of_ble_eq_true rfl) dX9_readLeg_17 rfl (fun H locs hw => ?_)
  refine lv_if_eq (tgt := 58) C.1 C.2.1 dX9_readLeg_20 (by decide) (fun c4 => ?_) (fun c4 => ?_)
  · have h := ite_t c4 h
    refine lv_iconst (v := 0) C.1 C.2.1 dX9_readLeg_58 (by decide) ?_
    exact r_zret C hr hlk hw rfl (Prod.mk.inj (Option.some.inj h)).1 (Prod.mk.inj (Option.some.inj h)).2 dX9_readLeg_59
  · have h := ite_f c4 h
    refine lv_aload_n C.1 C.2.1 dX9_readLeg_23 rfl (lv_at hl 0 rfl) ?_
    refine lv_iload_n C.1 C.2.1 dX9_readLeg_24 rfl (lv_at hl 1 rfl) ?_
    refine lv_iconst (v := 2) C.1 C.2.1 dX9_readLeg_25 (by decide) ?_
    refine lv_iadd C.1 C.2.1 dX9_readLeg_26 ?_
    refine lv_iconst (v := 0) C.1 C.2.1 dX9_readLeg_27 (by decide) ?_
    refine lv_sipush (v := 999) C.1 C.2.1 dX9_readLeg_28 (by decide) ?_
    obtain ⟨q5, eq5, h⟩ := bnd h
    refine r_callV (As := [.int (a1 + 2), .int 0, .int 999]) C hw (ok_X9_told X l q3.2 (a1 + 2) 0 999 _ _ eq5) l_50 vc_9 gw_1127 gw_1124 gw_1126 gw_78 gw_123 hl.1 pd_X9_told ⟨Nat.le_of_ble_eq_true rfl, Nat.le_of_ble_eq_true rfl⟩ ⟨Nat.le_refl 0, Nat.le_refl 0⟩ (rest := []) (Nat.le_of_ble_eq_true rfl) dX9_readLeg_31 rfl (fun H locs hw => ?_)
    refine lv_if_eq (tgt := 58) C.1 C.2.1 dX9_readLeg_34 (by decide) (fun c6 => ?_) (fun c6 => ?_)
    · have h := ite_t c6 h
      refine lv_iconst (v := 0) C.1 C.2.1 dX9_readLeg_58 (by decide) ?_
      exact r_zret C hr hlk hw rfl (Prod.mk.inj (Option.some.inj h)).1 (Prod.mk.inj (Option.some.inj h)).2 dX9_readLeg_59
    · have h := ite_f c6 h
      refine lv_aload_n C.1 C.2.1 dX9_readLeg_37 rfl (lv_at hl 0 rfl) ?_
      refine lv_iload_n C.1 C.2.1 dX9_readLeg_38 rfl (lv_at hl 1 rfl) ?_
      refine lv_iconst (v := 3) C.1 C.2.1 dX9_readLeg_39 (by decide) ?_
      refine lv_iadd C.1 C.2.1 dX9_readLeg_40 ?_
      refine lv_aload_n C.1 C.2.1 dX9_readLeg_41 rfl (lv_at hl 0 rfl) ?_
      refine r_get (v := .ref (X.2.1 53)) C hw l_50 vc_9 kX9 12 rfl (by decide) gw_1026 rfl dX9_readLeg_42 ?_
      refine lv_iload_n C.1 C.2.1 dX9_readLeg_45 rfl (lv_at hl 1 rfl) ?_
      refine lv_iconst (v := 2) C.1 C.2.1 dX9_readLeg_46 (by decide) ?_
      refine lv_iadd C.1 C.2.1 dX9_readLeg_47 ?_
      obtain ⟨v7, ev7, h⟩ := bnd h
      refine r_ald C hw l_53 ev7 dX9_readLeg_48 ?_
      refine lv_sipush (v := 999) C.1 C.2.1 dX9_readLeg_49 (by decide) ?_
      obtain ⟨q8, eq8, h⟩ := bnd h
      refine r_callV (As := [.int (a1 + 3), .int v7, .int 999]) C hw (ok_X9_told X l q5.2 (a1 + 3) v7 999 _ _ eq8) l_50 vc_9 gw_1127 gw_1124 gw_1126 gw_78 gw_123 hl.1 pd_X9_told ⟨Nat.le_of_ble_eq_true rfl, Nat.le_of_ble_eq_true rfl⟩ ⟨Nat.le_refl 0, Nat.le_refl 0⟩ (rest := []) (Nat.le_of_ble_eq_true rfl) dX9_readLeg_52 rfl (fun H locs hw => ?_)
      refine lv_if_ne (tgt := 60) C.1 C.2.1 dX9_readLeg_55 (by decide) (fun c9 => ?_) (fun c9 => ?_)
      · have h := ite_f c9 h
        refine lv_aload_n C.1 C.2.1 dX9_readLeg_60 rfl (lv_at hl 0 rfl) ?_
        refine r_get (v := .ref (X.2.1 53)) C hw l_50 vc_9 kX9 12 rfl (by decide) gw_1026 rfl dX9_readLeg_61 ?_
        refine lv_iload_n C.1 C.2.1 dX9_readLeg_64 rfl (lv_at hl 1 rfl) ?_
        refine lv_iconst (v := 0) C.1 C.2.1 dX9_readLeg_65 (by decide) ?_
        refine lv_iadd C.1 C.2.1 dX9_readLeg_66 ?_
        refine lv_iconst (v := 1) C.1 C.2.1 dX9_readLeg_67 (by decide) ?_
        obtain ⟨σ10, eσ10, h⟩ := bnd h
        refine r_ast C hw l_53 eσ10 dX9_readLeg_68 (fun H locs hw => ?_)
        refine lv_iconst (v := 1) C.1 C.2.1 dX9_readLeg_69 (by decide) ?_
        exact r_zret C hr hlk hw rfl (Prod.mk.inj (Option.some.inj h)).1 (Prod.mk.inj (Option.some.inj h)).2 dX9_readLeg_70
      · have h := ite_t c9 h
        refine lv_iconst (v := 0) C.1 C.2.1 dX9_readLeg_58 (by decide) ?_
        exact r_zret C hr hlk hw rfl (Prod.mk.inj (Option.some.inj h)).1 (Prod.mk.inj (Option.some.inj h)).2 dX9_readLeg_59
def f_X9_readMove_b126 (σ : St) : Option (Bool × St) :=
  (rd σ 53 845 2).bind fun v17 => (wr σ 53 845 2 (v17 + 1)).bind fun σ18 => (f_X9_readEnd σ18).bind fun q19 => some (q19.1, q19.2)
def f_X9_readMove_b98 (σ : St) (x1 : Int32) : Option (Bool × St) :=
  if (b2i (f_X9_isWord σ (f_X9_two σ 116 111))) = 0 then (f_X9_readMove_b126 σ) else ((f_X9_readLeg σ ((x1 + 2) + 4)).bind fun q20 => if (b2i q20.1) = 0 then (some (false, q20.2)) else (f_X9_readMove_b126 q20.2))
def f_X9_readMove (σ : St) : Option (Bool × St) :=
  (rd σ 53 845 2).bind fun v1 => if v1 = 16 then ((f_X9_bad σ 3).bind fun q24 => some (q24.1, q24.2)) else ((f_X9_go σ).bind fun q3 => (rd q3 53 845 2).bind fun v4 => nm (45 + (10 * v4)) fun v5 => (rd q3 53 845 1).bind fun v6 => (f_X9_told q3 (v5 + 0) 0 (v6 - 1)).bind fun q7 => if (b2i q7.1) = 0 then (some (false, q7.2)) else ((f_X9_told q7.2 (v5 + 1) 1 99).bind fun q9 => if (b2i q9.1) = 0 then (some (false, q9.2)) else (if (b2i (f_X9_isWord q9.2 (f_X9_four q9.2 102 114 111 109))) = 0 then (f_X9_readMove_b98 q9.2 v5) else ((f_X9_readLeg q9.2 (v5 + 2)).bind fun q22 => if (b2i q22.1) = 0 then (some (false, q22.2)) else (f_X9_readMove_b98 q22.2 v5)))))
set_option maxRecDepth 100000 in
set_option maxHeartbeats 4000000 in
theorem ok_X9_readMove (X : Xc) (l : Launch) (σ : St) (r : Bool) (σ' : St) (h : f_X9_readMove σ = some (r, σ')) : Ok X l yX9_readMove cX9_readMove 2 (some .boolean) 4 89 [.ref (X.2.1 50)] σ (some (.int (b2i r))) σ' := by
  refine Ok.of (by decide) (Nat.le_of_ble_eq_true rfl) ?_
  intro p e s m args below meth c C hr hlk hw ls hl
  have C : Cx p s m args c X cX9_readMove 2 "RunningCountModel" := C
  have hl : lv_has ls 2 [(0, .ref (X.2.1 50))] := hl
  have b126 : ∀ (σ : St), f_X9_readMove_b126 σ = some (r, σ') → ∀ (H : Heap) (locs : List Loc), At X σ s.heap H locs → ∀ ls : Array Slot, lv_has ls 2 [(0, .ref (X.2.1 50))] → W p l e (rmX 4 89) s m args below meth c H locs 0 0 (Zq X below s args (some (.int (b2i r))) σ') (F0 m 126 ls []) := by
    intro σ h H locs hw ls hl
    rw [f_X9_readMove_b126] at h
    refine lv_aload_n C.1 C.2.1 dX9_readMove_126 rfl (lv_at hl 0 rfl) ?_
    refine r_get (v := .ref (X.2.1 53)) C hw l_50 vc_9 kX9 12 rfl (by decide) gw_1026 rfl dX9_readMove_127 ?_
    refine lv_iconst (v := 2) C.1 C.2.1 dX9_readMove_130 (by decide) ?_
    refine lv_dup2_11 C.1 C.2.1 dX9_readMove_131 rfl rfl ?_
    obtain ⟨v17, ev17, h⟩ := bnd h
    refine r_ald C hw l_53 ev17 dX9_readMove_132 ?_
    refine lv_iconst (v := 1) C.1 C.2.1 dX9_readMove_133 (by decide) ?_
    refine lv_iadd C.1 C.2.1 dX9_readMove_134 ?_
    obtain ⟨σ18, eσ18, h⟩ := bnd h
    refine r_ast C hw l_53 eσ18 dX9_readMove_135 (fun H locs hw => ?_)
    refine lv_aload_n C.1 C.2.1 dX9_readMove_136 rfl (lv_at hl 0 rfl) ?_
    obtain ⟨q19, eq19, h⟩ := bnd h
    refine r_callV (As := []) C hw (ok_X9_readEnd X l σ18 _ _ eq19) l_50 vc_9 gw_1134 gw_1131 gw_1133 gw_79 gw_123 hl.1 pd_X9_readEnd ⟨Nat.le_of_ble_eq_true rfl, Nat.le_of_ble_eq_true rfl⟩ ⟨Nat.le_refl 0, Nat.le_refl 0⟩ (rest := []) (Nat.le_of_ble_eq_true rfl) dX9_readMove_137 rfl (fun H locs hw => ?_)
    exact r_zret C hr hlk hw rfl (Prod.mk.inj (Option.some.inj h)).1 (Prod.mk.inj (Option.some.inj h)).2 dX9_readMove_140
  have b98 : ∀ (σ : St) (x1 : Int32), f_X9_readMove_b98 σ x1 = some (r, σ') → ∀ (H : Heap) (locs : List Loc), At X σ s.heap H locs → ∀ ls : Array Slot, lv_has ls 2 [(0, .ref (X.2.1 50)), (1, .int x1)] → W p l e (rmX 4 89) s m args below meth c H locs 0 0 (Zq X below s args (some (.int (b2i r))) σ') (F0 m 98 ls []) := by
    intro σ x1 h H locs hw ls hl
    rw [f_X9_readMove_b98] at h
    refine lv_aload_n C.1 C.2.1 dX9_readMove_98 rfl (lv_at hl 0 rfl) ?_
    refine lv_bipush (v := 116) C.1 C.2.1 dX9_readMove_99 (by decide) ?_
    refine lv_bipush (v := 111) C.1 C.2.1 dX9_readMove_101 (by decide) ?_
    refine r_callS (As := [.int 116, .int 111]) C hw (ok_X9_two X l σ 116 111 _ rfl) gw_1115 gw_1113 gw_1114 gw_123 hl.1 pd_X9_two ⟨Nat.le_of_ble_eq_true rfl, Nat.le_of_ble_eq_true rfl⟩ ⟨Nat.le_refl 0, Nat.le_refl 0⟩ (rest := [.ref (X.2.1 50)]) (Nat.le_of_ble_eq_true rfl) dX9_readMove_103 rfl (fun H locs hw => ?_)
    refine r_callV (As := [.long (f_X9_two σ 116 111)]) C hw (ok_X9_isWord X l σ (f_X9_two σ 116 111) _ rfl) l_50 vc_9 gw_1119 gw_1116 gw_1118 gw_76 gw_123 hl.1 pd_X9_isWord ⟨Nat.le_of_ble_eq_true rfl, Nat.le_of_ble_eq_true rfl⟩ ⟨Nat.le_refl 0, Nat.le_refl 0⟩ (rest := []) (Nat.le_of_ble_eq_true rfl) dX9_readMove_106 rfl (fun H locs hw => ?_)
    refine lv_if_eq (tgt := 126) C.1 C.2.1 dX9_readMove_109 (by decide) (fun c16 => ?_) (fun c16 => ?_)
    · have h := ite_t c16 h
      exact b126 σ h _ _ hw ls (lv_sub hl [0] rfl)
    · have h := ite_f c16 h
      refine lv_aload_n C.1 C.2.1 dX9_readMove_112 rfl (lv_at hl 0 rfl) ?_
      refine lv_iload_n C.1 C.2.1 dX9_readMove_113 rfl (lv_at hl 1 rfl) ?_
      refine lv_iconst (v := 2) C.1 C.2.1 dX9_readMove_114 (by decide) ?_
      refine lv_iadd C.1 C.2.1 dX9_readMove_115 ?_
      refine lv_iconst (v := 4) C.1 C.2.1 dX9_readMove_116 (by decide) ?_
      refine lv_iadd C.1 C.2.1 dX9_readMove_117 ?_
      obtain ⟨q20, eq20, h⟩ := bnd h
      refine r_callV (As := [.int ((x1 + 2) + 4)]) C hw (ok_X9_readLeg X l σ ((x1 + 2) + 4) _ _ eq20) l_50 vc_9 gw_1163 gw_1160 gw_1162 gw_86 gw_123 hl.1 pd_X9_readLeg ⟨Nat.le_of_ble_eq_true rfl, Nat.le_of_ble_eq_true rfl⟩ ⟨Nat.le_refl 0, Nat.le_refl 0⟩ (rest := []) (Nat.le_of_ble_eq_true rfl) dX9_readMove_118 rfl (fun H locs hw => ?_)
      refine lv_if_ne (tgt := 126) C.1 C.2.1 dX9_readMove_121 (by decide) (fun c21 => ?_) (fun c21 => ?_)
      · have h := ite_f c21 h
        exact b126 q20.2 h _ _ hw ls (lv_sub hl [0] rfl)
      · have h := ite_t c21 h
        refine lv_iconst (v := 0) C.1 C.2.1 dX9_readMove_124 (by decide) ?_
        exact r_zret C hr hlk hw rfl (Prod.mk.inj (Option.some.inj h)).1 (Prod.mk.inj (Option.some.inj h)).2 dX9_readMove_125
  rw [f_X9_readMove] at h
  refine lv_aload_n C.1 C.2.1 dX9_readMove_0 rfl (lv_at hl 0 rfl) ?_
  refine r_get (v := .ref (X.2.1 53)) C hw l_50 vc_9 kX9 12 rfl (by decide) gw_1026 rfl dX9_readMove_1 ?_
  refine lv_iconst (v := 2) C.1 C.2.1 dX9_readMove_4 (by decide) ?_
  obtain ⟨v1, ev1, h⟩ := bnd h
  refine r_ald C hw l_53 ev1 dX9_readMove_5 ?_
  refine lv_bipush (v := 16) C.1 C.2.1 dX9_readMove_6 (by decide) ?_
  refine lv_icmp_ne (tgt := 17) C.1 C.2.1 dX9_readMove_8 (by decide) (fun c2 => ?_) (fun c2 => ?_)
  · have h := ite_f c2 h
    refine lv_aload_n C.1 C.2.1 dX9_readMove_17 rfl (lv_at hl 0 rfl) ?_
    obtain ⟨q3, eq3, h⟩ := bnd h
    refine r_callV (As := []) C hw (ok_X9_go X l σ _ eq3) l_50 vc_9 gw_1085 gw_1082 gw_1084 gw_72 gw_123 hl.1 pd_X9_go ⟨Nat.le_of_ble_eq_true rfl, Nat.le_of_ble_eq_true rfl⟩ ⟨Nat.le_refl 0, Nat.le_refl 0⟩ (rest := []) (Nat.le_of_ble_eq_true rfl) dX9_readMove_18 rfl (fun H locs hw => ?_)
    refine lv_bipush (v := 45) C.1 C.2.1 dX9_readMove_21 (by decide) ?_
    refine lv_bipush (v := 10) C.1 C.2.1 dX9_readMove_23 (by decide) ?_
    refine lv_aload_n C.1 C.2.1 dX9_readMove_25 rfl (lv_at hl 0 rfl) ?_
    refine r_get (v := .ref (X.2.1 53)) C hw l_50 vc_9 kX9 12 rfl (by decide) gw_1026 rfl dX9_readMove_26 ?_
    refine lv_iconst (v := 2) C.1 C.2.1 dX9_readMove_29 (by decide) ?_
    obtain ⟨v4, ev4, h⟩ := bnd h
    refine r_ald C hw l_53 ev4 dX9_readMove_30 ?_
    refine lv_imul C.1 C.2.1 dX9_readMove_31 ?_
    refine lv_iadd C.1 C.2.1 dX9_readMove_32 ?_
    obtain ⟨v5, ev5, h⟩ := nm_d h
    refine lv_nm ev5 ?_
    refine lv_istore_n (lv' := [(1, .int v5), (0, .ref (X.2.1 50))]) C.1 C.2.1 dX9_readMove_33 rfl hl (by decide) rfl (fun ls hl => ?_)
    refine lv_aload_n C.1 C.2.1 dX9_readMove_34 rfl (lv_at hl 1 rfl) ?_
    refine lv_iload_n C.1 C.2.1 dX9_readMove_35 rfl (lv_at hl 0 rfl) ?_
    refine lv_iconst (v := 0) C.1 C.2.1 dX9_readMove_36 (by decide) ?_
    refine lv_iadd C.1 C.2.1 dX9_readMove_37 ?_
    refine lv_iconst (v := 0) C.1 C.2.1 dX9_readMove_38 (by decide) ?_
    refine lv_aload_n C.1 C.2.1 dX9_readMove_39 rfl (lv_at hl 1 rfl) ?_
    refine r_get (v := .ref (X.2.1 53)) C hw l_50 vc_9 kX9 12 rfl (by decide) gw_1026 rfl dX9_readMove_40 ?_
    refine lv_iconst (v := 1) C.1 C.2.1 dX9_readMove_43 (by decide) ?_
    obtain ⟨v6, ev6, h⟩ := bnd h
    refine r_ald C hw l_53 ev6 dX9_readMove_44 ?_
    refine lv_iconst (v := 1) C.1 C.2.1 dX9_readMove_45 (by decide) ?_
    refine lv_isub C.1 C.2.1 dX9_readMove_46 ?_
    obtain ⟨q7, eq7, h⟩ := bnd h
    refine r_callV (As := [.int (v5 + 0), .int 0, .int (v6 - 1)]) C hw (ok_X9_told X l q3 (v5 + 0) 0 (v6 - 1) _ _ eq7) l_50 vc_9 gw_1127 gw_1124 gw_1126 gw_78 gw_123 hl.1 pd_X9_told ⟨Nat.le_of_ble_eq_true rfl, Nat.le_of_ble_eq_true rfl⟩ ⟨Nat.le_refl 0, Nat.le_refl 0⟩ (rest := []) (Nat.le_of_ble_eq_true rfl) dX9_readMove_47 rfl (fun H locs hw => ?_)
    refine lv_if_eq (tgt := 66) C.1 C.2.1 dX9_readMove_50 (by decide) (fun c8 => ?_) (fun c8 => ?_)
    · have h := ite_t c8 h
      refine lv_iconst (v := 0) C.1 C.2.1 dX9_readMove_66 (by decide) ?_
      exact r_zret C hr hlk hw rfl (Prod.mk.inj (Option.some.inj h)).1 (Prod.mk.inj (Option.some.inj h)).2 dX9_readMove_67
    · have h := ite_f c8 h
      refine lv_aload_n C.1 C.2.1 dX9_readMove_53 rfl (lv_at hl 1 rfl) ?_
      refine lv_iload_n C.1 C.2.1 dX9_readMove_54 rfl (lv_at hl 0 rfl) ?_
      refine lv_iconst (v := 1) C.1 C.2.1 dX9_readMove_55 (by decide) ?_
      refine lv_iadd C.1 C.2.1 dX9_readMove_56 ?_
      refine lv_iconst (v := 1) C.1 C.2.1 dX9_readMove_57 (by decide) ?_
      refine lv_bipush (v := 99) C.1 C.2.1 dX9_readMove_58 (by decide) ?_
      obtain ⟨q9, eq9, h⟩ := bnd h
      refine r_callV (As := [.int (v5 + 1), .int 1, .int 99]) C hw (ok_X9_told X l q7.2 (v5 + 1) 1 99 _ _ eq9) l_50 vc_9 gw_1127 gw_1124 gw_1126 gw_78 gw_123 hl.1 pd_X9_told ⟨Nat.le_of_ble_eq_true rfl, Nat.le_of_ble_eq_true rfl⟩ ⟨Nat.le_refl 0, Nat.le_refl 0⟩ (rest := []) (Nat.le_of_ble_eq_true rfl) dX9_readMove_60 rfl (fun H locs hw => ?_)
      refine lv_if_ne (tgt := 68) C.1 C.2.1 dX9_readMove_63 (by decide) (fun c10 => ?_) (fun c10 => ?_)
      · have h := ite_f c10 h
        refine lv_aload_n C.1 C.2.1 dX9_readMove_68 rfl (lv_at hl 1 rfl) ?_
        refine lv_bipush (v := 102) C.1 C.2.1 dX9_readMove_69 (by decide) ?_
        refine lv_bipush (v := 114) C.1 C.2.1 dX9_readMove_71 (by decide) ?_
        refine lv_bipush (v := 111) C.1 C.2.1 dX9_readMove_73 (by decide) ?_
        refine lv_bipush (v := 109) C.1 C.2.1 dX9_readMove_75 (by decide) ?_
        refine r_callS (As := [.int 102, .int 114, .int 111, .int 109]) C hw (ok_X9_four X l q9.2 102 114 111 109 _ rfl) gw_1112 gw_1110 gw_1111 gw_123 hl.1 pd_X9_four ⟨Nat.le_of_ble_eq_true rfl, Nat.le_of_ble_eq_true rfl⟩ ⟨Nat.le_refl 0, Nat.le_refl 0⟩ (rest := [.ref (X.2.1 50)]) (Nat.le_of_ble_eq_true rfl) dX9_readMove_77 rfl (fun H locs hw => ?_)
        refine r_callV (As := [.long (f_X9_four q9.2 102 114 111 109)]) C hw (ok_X9_isWord X l q9.2 (f_X9_four q9.2 102 114 111 109) _ rfl) l_50 vc_9 gw_1119 gw_1116 gw_1118 gw_76 gw_123 hl.1 pd_X9_isWord ⟨Nat.le_of_ble_eq_true rfl, Nat.le_of_ble_eq_true rfl⟩ ⟨Nat.le_refl 0, Nat.le_refl 0⟩ (rest := []) (Nat.le_of_ble_eq_true rfl) dX9_readMove_80 rfl (fun H locs hw => ?_)
        refine lv_if_eq (tgt := 98) C.1 C.2.1 dX9_readMove_83 (by decide) (fun c13 => ?_) (fun c13 => ?_)
        · have h := ite_t c13 h
          exact b98 q9.2 v5 h _ _ hw ls (lv_sub hl [1, 0] rfl)
        · have h := ite_f c13 h
          refine lv_aload_n C.1 C.2.1 dX9_readMove_86 rfl (lv_at hl 1 rfl) ?_
          refine lv_iload_n C.1 C.2.1 dX9_readMove_87 rfl (lv_at hl 0 rfl) ?_
          refine lv_iconst (v := 2) C.1 C.2.1 dX9_readMove_88 (by decide) ?_
          refine lv_iadd C.1 C.2.1 dX9_readMove_89 ?_
          obtain ⟨q22, eq22, h⟩ := bnd h
          refine r_callV (As := [.int (v5 + 2)]) C hw (ok_X9_readLeg X l q9.2 (v5 + 2) _ _ eq22) l_50 vc_9 gw_1163 gw_1160 gw_1162 gw_86 gw_123 hl.1 pd_X9_readLeg ⟨Nat.le_of_ble_eq_true rfl, Nat.le_of_ble_eq_true rfl⟩ ⟨Nat.le_refl 0, Nat.le_refl 0⟩ (rest := []) (Nat.le_of_ble_eq_true rfl) dX9_readMove_90 rfl (fun H locs hw => ?_)
          refine lv_if_ne (tgt := 98) C.1 C.2.1 dX9_readMove_93 (by decide) (fun c23 => ?_) (fun c23 => ?_)
          · have h := ite_f c23 h
            exact b98 q22.2 v5 h _ _ hw ls (lv_sub hl [1, 0] rfl)
          · have h := ite_t c23 h
            refine lv_iconst (v := 0) C.1 C.2.1 dX9_readMove_96 (by decide) ?_
            exact r_zret C hr hlk hw rfl (Prod.mk.inj (Option.some.inj h)).1 (Prod.mk.inj (Option.some.inj h)).2 dX9_readMove_97
      · have h := ite_t c10 h
        refine lv_iconst (v := 0) C.1 C.2.1 dX9_readMove_66 (by decide) ?_
        exact r_zret C hr hlk hw rfl (Prod.mk.inj (Option.some.inj h)).1 (Prod.mk.inj (Option.some.inj h)).2 dX9_readMove_67
  · have h := ite_t c2 h
    refine lv_aload_n C.1 C.2.1 dX9_readMove_11 rfl (lv_at hl 0 rfl) ?_
    refine lv_iconst (v := 3) C.1 C.2.1 dX9_readMove_12 (by decide) ?_
    obtain ⟨q24, eq24, h⟩ := bnd h
    refine r_callV (As := [.int 3]) C hw (ok_X9_bad X l σ 3 _ _ eq24) l_50 vc_9 gw_1123 gw_1120 gw_1122 gw_77 gw_123 hl.1 pd_X9_bad ⟨Nat.le_of_ble_eq_true rfl, Nat.le_of_ble_eq_true rfl⟩ ⟨Nat.le_refl 0, Nat.le_refl 0⟩ (rest := []) (Nat.le_of_ble_eq_true rfl) dX9_readMove_13 rfl (fun H locs hw => ?_)
    exact r_zret C hr hlk hw rfl (Prod.mk.inj (Option.some.inj h)).1 (Prod.mk.inj (Option.some.inj h)).2 dX9_readMove_16
def f_X9_isSort (σ : St) (a1 : Int32) : Bool :=
  if a1 = 0 then ((f_X9_isWord σ (f_X9_four σ 105 116 101 109))) else (if a1 = 1 then ((f_X9_isWord σ ((27 * (f_X9_four σ 115 116 111 99)) + 11))) else ((f_X9_isWord σ (f_X9_four σ 109 111 118 101))))
set_option maxRecDepth 100000 in
set_option maxHeartbeats 4000000 in
theorem ok_X9_isSort (X : Xc) (l : Launch) (σ : St) (a1 : Int32) (r : Bool) (h : f_X9_isSort σ a1 = r) : Ok X l yX9_isSort cX9_isSort 2 (some .boolean) 2 44 [.ref (X.2.1 50), .int a1] σ (some (.int (b2i r))) σ := by
  refine Ok.of (by decide) (Nat.le_of_ble_eq_true rfl) ?_
  intro p e s m args below meth c C hr hlk hw ls hl
  have C : Cx p s m args c X cX9_isSort 2 "RunningCountModel" := C
  have hl : lv_has ls 2 [(0, .ref (X.2.1 50)), (1, .int a1)] := hl
  rw [f_X9_isSort] at h
  refine lv_aload_n C.1 C.2.1 dX9_isSort_0 rfl (lv_at hl 0 rfl) ?_
  refine lv_iload_n C.1 C.2.1 dX9_isSort_1 rfl (lv_at hl 1 rfl) ?_
  refine lv_if_ne (tgt := 19) C.1 C.2.1 dX9_isSort_2 (by decide) (fun c1 => ?_) (fun c1 => ?_)
  · have h := ite_f c1 h
    refine lv_iload_n C.1 C.2.1 dX9_isSort_19 rfl (lv_at hl 1 rfl) ?_
    refine lv_iconst (v := 1) C.1 C.2.1 dX9_isSort_20 (by decide) ?_
    refine lv_icmp_ne (tgt := 46) C.1 C.2.1 dX9_isSort_21 (by decide) (fun c2 => ?_) (fun c2 => ?_)
    · have h := ite_f c2 h
      refine lv_bipush (v := 109) C.1 C.2.1 dX9_isSort_46 (by decide) ?_
      refine lv_bipush (v := 111) C.1 C.2.1 dX9_isSort_48 (by decide) ?_
      refine lv_bipush (v := 118) C.1 C.2.1 dX9_isSort_50 (by decide) ?_
      refine lv_bipush (v := 101) C.1 C.2.1 dX9_isSort_52 (by decide) ?_
      refine r_callS (As := [.int 109, .int 111, .int 118, .int 101]) C hw (ok_X9_four X l σ 109 111 118 101 _ rfl) gw_1112 gw_1110 gw_1111 gw_123 hl.1 pd_X9_four ⟨Nat.le_of_ble_eq_true rfl, Nat.le_of_ble_eq_true rfl⟩ ⟨Nat.le_refl 0, Nat.le_refl 0⟩ (rest := [.ref (X.2.1 50)]) (Nat.le_of_ble_eq_true rfl) dX9_isSort_54 rfl (fun H locs hw => ?_)
      refine r_callV (As := [.long (f_X9_four σ 109 111 118 101)]) C hw (ok_X9_isWord X l σ (f_X9_four σ 109 111 118 101) _ rfl) l_50 vc_9 gw_1119 gw_1116 gw_1118 gw_76 gw_123 hl.1 pd_X9_isWord ⟨Nat.le_of_ble_eq_true rfl, Nat.le_of_ble_eq_true rfl⟩ ⟨Nat.le_refl 0, Nat.le_refl 0⟩ (rest := []) (Nat.le_of_ble_eq_true rfl) dX9_isSort_57 rfl (fun H locs hw => ?_)
      exact r_zret C hr hlk hw rfl h rfl dX9_isSort_60
    · have h := ite_t c2 h
      refine lv_ldc2 (v := 27) C.1 C.2.1 C.2.2.2.1 (C.2.2.2.2.1 _ gw_1096) dX9_isSort_24 ?_
      refine lv_bipush (v := 115) C.1 C.2.1 dX9_isSort_27 (by decide) ?_
      refine lv_bipush (v := 116) C.1 C.2.1 dX9_isSort_29 (by decide) ?_
      refine lv_bipush (v := 111) C.1 C.2.1 dX9_isSort_31 (by decide) ?_
      refine lv_bipush (v := 99) C.1 C.2.1 dX9_isSort_33 (by decide) ?_
      refine r_callS (As := [.int 115, .int 116, .int 111, .int 99]) C hw (ok_X9_four X l σ 115 116 111 99 _ rfl) gw_1112 gw_1110 gw_1111 gw_123 hl.1 pd_X9_four ⟨Nat.le_of_ble_eq_true rfl, Nat.le_of_ble_eq_true rfl⟩ ⟨Nat.le_refl 0, Nat.le_refl 0⟩ (rest := [.long 27, .ref (X.2.1 50)]) (Nat.le_of_ble_eq_true rfl) dX9_isSort_35 rfl (fun H locs hw => ?_)
      refine lv_lmul C.1 C.2.1 dX9_isSort_38 ?_
      refine lv_ldc2 (v := 11) C.1 C.2.1 C.2.2.2.1 (C.2.2.2.2.1 _ gw_1143) dX9_isSort_39 ?_
      refine lv_ladd C.1 C.2.1 dX9_isSort_42 ?_
      refine lv_goto (tgt := 57) C.1 C.2.1 dX9_isSort_43 (by decide) ?_
      refine r_callV (As := [.long ((27 * (f_X9_four σ 115 116 111 99)) + 11)]) C hw (ok_X9_isWord X l σ ((27 * (f_X9_four σ 115 116 111 99)) + 11) _ rfl) l_50 vc_9 gw_1119 gw_1116 gw_1118 gw_76 gw_123 hl.1 pd_X9_isWord ⟨Nat.le_of_ble_eq_true rfl, Nat.le_of_ble_eq_true rfl⟩ ⟨Nat.le_refl 0, Nat.le_refl 0⟩ (rest := []) (Nat.le_of_ble_eq_true rfl) dX9_isSort_57 rfl (fun H locs hw => ?_)
      exact r_zret C hr hlk hw rfl h rfl dX9_isSort_60
  · have h := ite_t c1 h
    refine lv_bipush (v := 105) C.1 C.2.1 dX9_isSort_5 (by decide) ?_
    refine lv_bipush (v := 116) C.1 C.2.1 dX9_isSort_7 (by decide) ?_
    refine lv_bipush (v := 101) C.1 C.2.1 dX9_isSort_9 (by decide) ?_
    refine lv_bipush (v := 109) C.1 C.2.1 dX9_isSort_11 (by decide) ?_
    refine r_callS (As := [.int 105, .int 116, .int 101, .int 109]) C hw (ok_X9_four X l σ 105 116 101 109 _ rfl) gw_1112 gw_1110 gw_1111 gw_123 hl.1 pd_X9_four ⟨Nat.le_of_ble_eq_true rfl, Nat.le_of_ble_eq_true rfl⟩ ⟨Nat.le_refl 0, Nat.le_refl 0⟩ (rest := [.ref (X.2.1 50)]) (Nat.le_of_ble_eq_true rfl) dX9_isSort_13 rfl (fun H locs hw => ?_)
    refine lv_goto (tgt := 57) C.1 C.2.1 dX9_isSort_16 (by decide) ?_
    refine r_callV (As := [.long (f_X9_four σ 105 116 101 109)]) C hw (ok_X9_isWord X l σ (f_X9_four σ 105 116 101 109) _ rfl) l_50 vc_9 gw_1119 gw_1116 gw_1118 gw_76 gw_123 hl.1 pd_X9_isWord ⟨Nat.le_of_ble_eq_true rfl, Nat.le_of_ble_eq_true rfl⟩ ⟨Nat.le_refl 0, Nat.le_refl 0⟩ (rest := []) (Nat.le_of_ble_eq_true rfl) dX9_isSort_57 rfl (fun H locs hw => ?_)
    exact r_zret C hr hlk hw rfl h rfl dX9_isSort_60
def f_X9_readAll_b0 (a1 : Int32) : Nat → St → Option (Bool × St)
  | 0, _ => none
  | n + 1, σ => if (b2i (f_X9_isSort σ a1)) = 0 then (some (true, σ)) else (if a1 = 0 then ((f_X9_readItem σ).bind fun q11 => if (b2i q11.1) = 0 then (some (false, q11.2)) else (nm (upI q11.2 50 17 ((q11.2.1 50 17) + 1)) fun σ13 => f_X9_readAll_b0 a1 n σ13)) else (if a1 = 1 then ((f_X9_readStock σ).bind fun q8 => if (b2i q8.1) = 0 then (some (false, q8.2)) else (nm (upI q8.2 50 17 ((q8.2.1 50 17) + 1)) fun σ10 => f_X9_readAll_b0 a1 n σ10)) else ((f_X9_readMove σ).bind fun q5 => if (b2i q5.1) = 0 then (some (false, q5.2)) else (nm (upI q5.2 50 17 ((q5.2.1 50 17) + 1)) fun σ7 => f_X9_readAll_b0 a1 n σ7))))
def f_X9_readAll (σ : St) (a1 : Int32) : Option (Bool × St) :=
  f_X9_readAll_b0 a1 10000 σ
set_option maxRecDepth 100000 in
set_option maxHeartbeats 4000000 in
theorem ok_X9_readAll (X : Xc) (l : Launch) (σ : St) (a1 : Int32) (r : Bool) (σ' : St) (h : f_X9_readAll σ a1 = some (r, σ')) : Ok X l yX9_readAll cX9_readAll 2 (some .boolean) 5 110 [.ref (X.2.1 50), .int a1] σ (some (.int (b2i r))) σ' := by
  refine Ok.of (by decide) (Nat.le_of_ble_eq_true rfl) ?_
  intro p e s m args below meth c C hr hlk hw ls hl
  have C : Cx p s m args c X cX9_readAll 2 "RunningCountModel" := C
  have hl : lv_has ls 2 [(0, .ref (X.2.1 50)), (1, .int a1)] := hl
  have b0 : ∀ (n : Nat), ∀ (σ : St), f_X9_readAll_b0 a1 n σ = some (r, σ') → ∀ (H : Heap) (locs : List Loc), At X σ s.heap H locs → ∀ ls : Array Slot, lv_has ls 2 [(0, .ref (X.2.1 50)), (1, .int a1)] → W p l e (rmX 5 110) s m args below meth c H locs 0 0 (Zq X below s args (some (.int (b2i r))) σ') (F0 m 0 ls []) := by
    intro n
    induction n with
    | zero =>
      intro σ h
      exact no_some h
    | succ n ih =>
      intro σ h H locs hw ls hl
      rw [f_X9_readAll_b0] at h
      refine lv_aload_n C.1 C.2.1 dX9_readAll_0 rfl (lv_at hl 0 rfl) ?_
      refine lv_iload_n C.1 C.2.1 dX9_readAll_1 rfl (lv_at hl 1 rfl) ?_
      refine r_callV (As := [.int a1]) C hw (ok_X9_isSort X l σ a1 _ rfl) l_50 vc_9 gw_1142 gw_1139 gw_1141 gw_81 gw_123 hl.1 pd_X9_isSort ⟨Nat.le_of_ble_eq_true rfl, Nat.le_of_ble_eq_true rfl⟩ ⟨Nat.le_refl 0, Nat.le_refl 0⟩ (rest := []) (Nat.le_of_ble_eq_true rfl) dX9_readAll_2 rfl (fun H locs hw => ?_)
      refine lv_if_eq (tgt := 59) C.1 C.2.1 dX9_readAll_5 (by decide) (fun c2 => ?_) (fun c2 => ?_)
      · have h := ite_t c2 h
        refine lv_iconst (v := 1) C.1 C.2.1 dX9_readAll_59 (by decide) ?_
        exact r_zret C hr hlk hw rfl (Prod.mk.inj (Option.some.inj h)).1 (Prod.mk.inj (Option.some.inj h)).2 dX9_readAll_60
      · have h := ite_f c2 h
        refine lv_iload_n C.1 C.2.1 dX9_readAll_8 rfl (lv_at hl 1 rfl) ?_
        refine lv_if_ne (tgt := 22) C.1 C.2.1 dX9_readAll_9 (by decide) (fun c3 => ?_) (fun c3 => ?_)
        · have h := ite_f c3 h
          refine lv_iload_n C.1 C.2.1 dX9_readAll_22 rfl (lv_at hl 1 rfl) ?_
          refine lv_iconst (v := 1) C.1 C.2.1 dX9_readAll_23 (by decide) ?_
          refine lv_icmp_ne (tgt := 37) C.1 C.2.1 dX9_readAll_24 (by decide) (fun c4 => ?_) (fun c4 => ?_)
          · have h := ite_f c4 h
            refine lv_aload_n C.1 C.2.1 dX9_readAll_37 rfl (lv_at hl 0 rfl) ?_
            obtain ⟨q5, eq5, h⟩ := bnd h
            refine r_callV (As := []) C hw (ok_X9_readMove X l σ _ _ eq5) l_50 vc_9 gw_1159 gw_1156 gw_1158 gw_85 gw_123 hl.1 pd_X9_readMove ⟨Nat.le_of_ble_eq_true rfl, Nat.le_of_ble_eq_true rfl⟩ ⟨Nat.le_refl 0, Nat.le_refl 0⟩ (rest := []) (Nat.le_of_ble_eq_true rfl) dX9_readAll_38 rfl (fun H locs hw => ?_)
            refine lv_if_ne (tgt := 46) C.1 C.2.1 dX9_readAll_41 (by decide) (fun c6 => ?_) (fun c6 => ?_)
            · have h := ite_f c6 h
              refine lv_aload_n C.1 C.2.1 dX9_readAll_46 rfl (lv_at hl 0 rfl) ?_
              refine lv_dup C.1 C.2.1 dX9_readAll_47 rfl ?_
              refine r_get (v := .int (q5.2.1 50 17)) C hw l_50 vc_9 kX9 17 rfl (by decide) gw_1031 rfl dX9_readAll_48 ?_
              refine lv_iconst (v := 1) C.1 C.2.1 dX9_readAll_51 (by decide) ?_
              refine lv_iadd C.1 C.2.1 dX9_readAll_52 ?_
              obtain ⟨σ7, eσ7, h⟩ := nm_d h
              refine r_put C hw l_50 vc_9 kX9 tyX9 tyX9_ok nmX9 17 (by decide) (by decide) gw_1031 rfl rfl rfl (put_i l_50 rfl eσ7) dX9_readAll_53 (fun H locs hw => ?_)
              refine lv_goto (tgt := 0) C.1 C.2.1 dX9_readAll_56 (by decide) ?_
              exact ih σ7 h _ _ hw ls (lv_sub hl [0, 1] rfl)
            · have h := ite_t c6 h
              refine lv_iconst (v := 0) C.1 C.2.1 dX9_readAll_44 (by decide) ?_
              exact r_zret C hr hlk hw rfl (Prod.mk.inj (Option.some.inj h)).1 (Prod.mk.inj (Option.some.inj h)).2 dX9_readAll_45
          · have h := ite_t c4 h
            refine lv_aload_n C.1 C.2.1 dX9_readAll_27 rfl (lv_at hl 0 rfl) ?_
            obtain ⟨q8, eq8, h⟩ := bnd h
            refine r_callV (As := []) C hw (ok_X9_readStock X l σ _ _ eq8) l_50 vc_9 gw_1151 gw_1148 gw_1150 gw_83 gw_123 hl.1 pd_X9_readStock ⟨Nat.le_of_ble_eq_true rfl, Nat.le_of_ble_eq_true rfl⟩ ⟨Nat.le_refl 0, Nat.le_refl 0⟩ (rest := []) (Nat.le_of_ble_eq_true rfl) dX9_readAll_28 rfl (fun H locs hw => ?_)
            refine lv_if_eq (tgt := 44) C.1 C.2.1 dX9_readAll_31 (by decide) (fun c9 => ?_) (fun c9 => ?_)
            · have h := ite_t c9 h
              refine lv_iconst (v := 0) C.1 C.2.1 dX9_readAll_44 (by decide) ?_
              exact r_zret C hr hlk hw rfl (Prod.mk.inj (Option.some.inj h)).1 (Prod.mk.inj (Option.some.inj h)).2 dX9_readAll_45
            · have h := ite_f c9 h
              refine lv_goto (tgt := 46) C.1 C.2.1 dX9_readAll_34 (by decide) ?_
              refine lv_aload_n C.1 C.2.1 dX9_readAll_46 rfl (lv_at hl 0 rfl) ?_
              refine lv_dup C.1 C.2.1 dX9_readAll_47 rfl ?_
              refine r_get (v := .int (q8.2.1 50 17)) C hw l_50 vc_9 kX9 17 rfl (by decide) gw_1031 rfl dX9_readAll_48 ?_
              refine lv_iconst (v := 1) C.1 C.2.1 dX9_readAll_51 (by decide) ?_
              refine lv_iadd C.1 C.2.1 dX9_readAll_52 ?_
              obtain ⟨σ10, eσ10, h⟩ := nm_d h
              refine r_put C hw l_50 vc_9 kX9 tyX9 tyX9_ok nmX9 17 (by decide) (by decide) gw_1031 rfl rfl rfl (put_i l_50 rfl eσ10) dX9_readAll_53 (fun H locs hw => ?_)
              refine lv_goto (tgt := 0) C.1 C.2.1 dX9_readAll_56 (by decide) ?_
              exact ih σ10 h _ _ hw ls (lv_sub hl [0, 1] rfl)
        · have h := ite_t c3 h
          refine lv_aload_n C.1 C.2.1 dX9_readAll_12 rfl (lv_at hl 0 rfl) ?_
          obtain ⟨q11, eq11, h⟩ := bnd h
          refine r_callV (As := []) C hw (ok_X9_readItem X l σ _ _ eq11) l_50 vc_9 gw_1147 gw_1144 gw_1146 gw_82 gw_123 hl.1 pd_X9_readItem ⟨Nat.le_of_ble_eq_true rfl, Nat.le_of_ble_eq_true rfl⟩ ⟨Nat.le_refl 0, Nat.le_refl 0⟩ (rest := []) (Nat.le_of_ble_eq_true rfl) dX9_readAll_13 rfl (fun H locs hw => ?_)
          refine lv_if_eq (tgt := 44) C.1 C.2.1 dX9_readAll_16 (by decide) (fun c12 => ?_) (fun c12 => ?_)
          · have h := ite_t c12 h
            refine lv_iconst (v := 0) C.1 C.2.1 dX9_readAll_44 (by decide) ?_
            exact r_zret C hr hlk hw rfl (Prod.mk.inj (Option.some.inj h)).1 (Prod.mk.inj (Option.some.inj h)).2 dX9_readAll_45
          · have h := ite_f c12 h
            refine lv_goto (tgt := 46) C.1 C.2.1 dX9_readAll_19 (by decide) ?_
            refine lv_aload_n C.1 C.2.1 dX9_readAll_46 rfl (lv_at hl 0 rfl) ?_
            refine lv_dup C.1 C.2.1 dX9_readAll_47 rfl ?_
            refine r_get (v := .int (q11.2.1 50 17)) C hw l_50 vc_9 kX9 17 rfl (by decide) gw_1031 rfl dX9_readAll_48 ?_
            refine lv_iconst (v := 1) C.1 C.2.1 dX9_readAll_51 (by decide) ?_
            refine lv_iadd C.1 C.2.1 dX9_readAll_52 ?_
            obtain ⟨σ13, eσ13, h⟩ := nm_d h
            refine r_put C hw l_50 vc_9 kX9 tyX9 tyX9_ok nmX9 17 (by decide) (by decide) gw_1031 rfl rfl rfl (put_i l_50 rfl eσ13) dX9_readAll_53 (fun H locs hw => ?_)
            refine lv_goto (tgt := 0) C.1 C.2.1 dX9_readAll_56 (by decide) ?_
            exact ih σ13 h _ _ hw ls (lv_sub hl [0, 1] rfl)
  rw [f_X9_readAll] at h
  exact b0 10000 σ h _ _ hw ls (lv_sub hl [0, 1] rfl)
def f_X9_readWhole (σ : St) : Option (Bool × St) :=
  (f_X9_readShelves σ).bind fun q1 => if (b2i q1.1) = 0 then (some (false, q1.2)) else (nm (upI q1.2 50 17 ((q1.2.1 50 17) + 1)) fun σ3 => (f_X9_readAll σ3 0).bind fun q4 => if (b2i q4.1) = 0 then (some (false, q4.2)) else ((f_X9_readAll q4.2 1).bind fun q6 => if (b2i q6.1) = 0 then (some (false, q6.2)) else ((f_X9_readAll q6.2 2).bind fun q8 => if (b2i q8.1) = 0 then (some (false, q8.2)) else (if (q8.2.1 50 6) = 0 then (some (true, q8.2)) else ((f_X9_bad q8.2 1).bind fun q11 => if (b2i q11.1) = 0 then (some (false, q11.2)) else (some (true, q11.2)))))))
set_option maxRecDepth 100000 in
set_option maxHeartbeats 4000000 in
theorem ok_X9_readWhole (X : Xc) (l : Launch) (σ : St) (r : Bool) (σ' : St) (h : f_X9_readWhole σ = some (r, σ')) : Ok X l yX9_readWhole cX9_readWhole 1 (some .boolean) 6 131 [.ref (X.2.1 50)] σ (some (.int (b2i r))) σ' := by
  refine Ok.of (by decide) (Nat.le_of_ble_eq_true rfl) ?_
  intro p e s m args below meth c C hr hlk hw ls hl
  have C : Cx p s m args c X cX9_readWhole 1 "RunningCountModel" := C
  have hl : lv_has ls 1 [(0, .ref (X.2.1 50))] := hl
  rw [f_X9_readWhole] at h
  refine lv_aload_n C.1 C.2.1 dX9_readWhole_0 rfl (lv_at hl 0 rfl) ?_
  obtain ⟨q1, eq1, h⟩ := bnd h
  refine r_callV (As := []) C hw (ok_X9_readShelves X l σ _ _ eq1) l_50 vc_9 gw_1105 gw_1102 gw_1104 gw_75 gw_123 hl.1 pd_X9_readShelves ⟨Nat.le_of_ble_eq_true rfl, Nat.le_of_ble_eq_true rfl⟩ ⟨Nat.le_refl 0, Nat.le_refl 0⟩ (rest := []) (Nat.le_of_ble_eq_true rfl) dX9_readWhole_1 rfl (fun H locs hw => ?_)
  refine lv_if_ne (tgt := 9) C.1 C.2.1 dX9_readWhole_4 (by decide) (fun c2 => ?_) (fun c2 => ?_)
  · have h := ite_f c2 h
    refine lv_aload_n C.1 C.2.1 dX9_readWhole_9 rfl (lv_at hl 0 rfl) ?_
    refine lv_dup C.1 C.2.1 dX9_readWhole_10 rfl ?_
    refine r_get (v := .int (q1.2.1 50 17)) C hw l_50 vc_9 kX9 17 rfl (by decide) gw_1031 rfl dX9_readWhole_11 ?_
    refine lv_iconst (v := 1) C.1 C.2.1 dX9_readWhole_14 (by decide) ?_
    refine lv_iadd C.1 C.2.1 dX9_readWhole_15 ?_
    obtain ⟨σ3, eσ3, h⟩ := nm_d h
    refine r_put C hw l_50 vc_9 kX9 tyX9 tyX9_ok nmX9 17 (by decide) (by decide) gw_1031 rfl rfl rfl (put_i l_50 rfl eσ3) dX9_readWhole_16 (fun H locs hw => ?_)
    refine lv_aload_n C.1 C.2.1 dX9_readWhole_19 rfl (lv_at hl 0 rfl) ?_
    refine lv_iconst (v := 0) C.1 C.2.1 dX9_readWhole_20 (by decide) ?_
    obtain ⟨q4, eq4, h⟩ := bnd h
    refine r_callV (As := [.int 0]) C hw (ok_X9_readAll X l σ3 0 _ _ eq4) l_50 vc_9 gw_1138 gw_1135 gw_1137 gw_80 gw_123 hl.1 pd_X9_readAll ⟨Nat.le_of_ble_eq_true rfl, Nat.le_of_ble_eq_true rfl⟩ ⟨Nat.le_refl 0, Nat.le_refl 0⟩ (rest := []) (Nat.le_of_ble_eq_true rfl) dX9_readWhole_21 rfl (fun H locs hw => ?_)
    refine lv_if_eq (tgt := 62) C.1 C.2.1 dX9_readWhole_24 (by decide) (fun c5 => ?_) (fun c5 => ?_)
    · have h := ite_t c5 h
      refine lv_iconst (v := 0) C.1 C.2.1 dX9_readWhole_62 (by decide) ?_
      exact r_zret C hr hlk hw rfl (Prod.mk.inj (Option.some.inj h)).1 (Prod.mk.inj (Option.some.inj h)).2 dX9_readWhole_63
    · have h := ite_f c5 h
      refine lv_aload_n C.1 C.2.1 dX9_readWhole_27 rfl (lv_at hl 0 rfl) ?_
      refine lv_iconst (v := 1) C.1 C.2.1 dX9_readWhole_28 (by decide) ?_
      obtain ⟨q6, eq6, h⟩ := bnd h
      refine r_callV (As := [.int 1]) C hw (ok_X9_readAll X l q4.2 1 _ _ eq6) l_50 vc_9 gw_1138 gw_1135 gw_1137 gw_80 gw_123 hl.1 pd_X9_readAll ⟨Nat.le_of_ble_eq_true rfl, Nat.le_of_ble_eq_true rfl⟩ ⟨Nat.le_refl 0, Nat.le_refl 0⟩ (rest := []) (Nat.le_of_ble_eq_true rfl) dX9_readWhole_29 rfl (fun H locs hw => ?_)
      refine lv_if_eq (tgt := 62) C.1 C.2.1 dX9_readWhole_32 (by decide) (fun c7 => ?_) (fun c7 => ?_)
      · have h := ite_t c7 h
        refine lv_iconst (v := 0) C.1 C.2.1 dX9_readWhole_62 (by decide) ?_
        exact r_zret C hr hlk hw rfl (Prod.mk.inj (Option.some.inj h)).1 (Prod.mk.inj (Option.some.inj h)).2 dX9_readWhole_63
      · have h := ite_f c7 h
        refine lv_aload_n C.1 C.2.1 dX9_readWhole_35 rfl (lv_at hl 0 rfl) ?_
        refine lv_iconst (v := 2) C.1 C.2.1 dX9_readWhole_36 (by decide) ?_
        obtain ⟨q8, eq8, h⟩ := bnd h
        refine r_callV (As := [.int 2]) C hw (ok_X9_readAll X l q6.2 2 _ _ eq8) l_50 vc_9 gw_1138 gw_1135 gw_1137 gw_80 gw_123 hl.1 pd_X9_readAll ⟨Nat.le_of_ble_eq_true rfl, Nat.le_of_ble_eq_true rfl⟩ ⟨Nat.le_refl 0, Nat.le_refl 0⟩ (rest := []) (Nat.le_of_ble_eq_true rfl) dX9_readWhole_37 rfl (fun H locs hw => ?_)
        refine lv_if_eq (tgt := 62) C.1 C.2.1 dX9_readWhole_40 (by decide) (fun c9 => ?_) (fun c9 => ?_)
        · have h := ite_t c9 h
          refine lv_iconst (v := 0) C.1 C.2.1 dX9_readWhole_62 (by decide) ?_
          exact r_zret C hr hlk hw rfl (Prod.mk.inj (Option.some.inj h)).1 (Prod.mk.inj (Option.some.inj h)).2 dX9_readWhole_63
        · have h := ite_f c9 h
          refine lv_aload_n C.1 C.2.1 dX9_readWhole_43 rfl (lv_at hl 0 rfl) ?_
          refine r_get (v := .int (q8.2.1 50 6)) C hw l_50 vc_9 kX9 6 rfl (by decide) gw_1020 rfl dX9_readWhole_44 ?_
          refine lv_if_eq (tgt := 58) C.1 C.2.1 dX9_readWhole_47 (by decide) (fun c10 => ?_) (fun c10 => ?_)
          · have h := ite_t c10 h
            refine lv_iconst (v := 1) C.1 C.2.1 dX9_readWhole_58 (by decide) ?_
            refine lv_goto (tgt := 63) C.1 C.2.1 dX9_readWhole_59 (by decide) ?_
            exact r_zret C hr hlk hw rfl (Prod.mk.inj (Option.some.inj h)).1 (Prod.mk.inj (Option.some.inj h)).2 dX9_readWhole_63
          · have h := ite_f c10 h
            refine lv_aload_n C.1 C.2.1 dX9_readWhole_50 rfl (lv_at hl 0 rfl) ?_
            refine lv_iconst (v := 1) C.1 C.2.1 dX9_readWhole_51 (by decide) ?_
            obtain ⟨q11, eq11, h⟩ := bnd h
            refine r_callV (As := [.int 1]) C hw (ok_X9_bad X l q8.2 1 _ _ eq11) l_50 vc_9 gw_1123 gw_1120 gw_1122 gw_77 gw_123 hl.1 pd_X9_bad ⟨Nat.le_of_ble_eq_true rfl, Nat.le_of_ble_eq_true rfl⟩ ⟨Nat.le_refl 0, Nat.le_refl 0⟩ (rest := []) (Nat.le_of_ble_eq_true rfl) dX9_readWhole_52 rfl (fun H locs hw => ?_)
            refine lv_if_eq (tgt := 62) C.1 C.2.1 dX9_readWhole_55 (by decide) (fun c12 => ?_) (fun c12 => ?_)
            · have h := ite_t c12 h
              refine lv_iconst (v := 0) C.1 C.2.1 dX9_readWhole_62 (by decide) ?_
              exact r_zret C hr hlk hw rfl (Prod.mk.inj (Option.some.inj h)).1 (Prod.mk.inj (Option.some.inj h)).2 dX9_readWhole_63
            · have h := ite_f c12 h
              refine lv_iconst (v := 1) C.1 C.2.1 dX9_readWhole_58 (by decide) ?_
              refine lv_goto (tgt := 63) C.1 C.2.1 dX9_readWhole_59 (by decide) ?_
              exact r_zret C hr hlk hw rfl (Prod.mk.inj (Option.some.inj h)).1 (Prod.mk.inj (Option.some.inj h)).2 dX9_readWhole_63
  · have h := ite_t c2 h
    refine lv_iconst (v := 0) C.1 C.2.1 dX9_readWhole_7 (by decide) ?_
    exact r_zret C hr hlk hw rfl (Prod.mk.inj (Option.some.inj h)).1 (Prod.mk.inj (Option.some.inj h)).2 dX9_readWhole_8
def f_X9_text_b80 : Nat → St → Int32 → Option (Int32 × St)
  | 0, _, _ => none
  | n + 1, σ, x1 => if 845 ≤ x1 then (nm (upI σ 50 14 0) fun σ13 => some (σ13.1 50 17, σ13)) else ((rd σ 53 845 x1).bind fun v14 => (wr σ 52 845 x1 v14).bind fun σ15 => nm (x1 + 1) fun v16 => f_X9_text_b80 n σ15 v16)
def f_X9_text_b40 : Nat → St → Int32 → Option (Int32 × St)
  | 0, _, _ => none
  | n + 1, σ, x1 => if 845 ≤ x1 then ((f_X9_go σ).bind fun q9 => (f_X9_readWhole q9).bind fun q10 => if (b2i q10.1) = 0 then (some ((-1) - (q10.2.1 50 9), q10.2)) else (f_X9_text_b80 10000 q10.2 0)) else ((wr σ 53 845 x1 0).bind fun σ17 => nm (x1 + 1) fun v18 => f_X9_text_b40 n σ17 v18)
def f_X9_text (σ : St) : Option (Int32 × St) :=
  nm (upI σ 50 0 0) fun σ1 => nm (upI σ1 50 3 (σ1.1 50 2)) fun σ2 => nm (upI σ2 50 2 0) fun σ3 => nm (upI σ3 50 8 0) fun σ4 => nm (upI σ4 50 4 0) fun σ5 => nm (upI σ5 50 17 0) fun σ6 => nm (upI σ6 50 16 0) fun σ7 => f_X9_text_b40 10000 σ7 0
set_option maxRecDepth 100000 in
set_option maxHeartbeats 4000000 in
theorem ok_X9_text (X : Xc) (l : Launch) (σ : St) (r : Int32) (σ' : St) (h : f_X9_text σ = some (r, σ')) : Ok X l yX9_text cX9_text 2 (some .int) 7 151 [.ref (X.2.1 50)] σ (some (.int r)) σ' := by
  refine Ok.of (by decide) (Nat.le_of_ble_eq_true rfl) ?_
  intro p e s m args below meth c C hr hlk hw ls hl
  have C : Cx p s m args c X cX9_text 2 "RunningCountModel" := C
  have hl : lv_has ls 2 [(0, .ref (X.2.1 50))] := hl
  have b80 : ∀ (n : Nat), ∀ (σ : St) (x1 : Int32), f_X9_text_b80 n σ x1 = some (r, σ') → ∀ (H : Heap) (locs : List Loc), At X σ s.heap H locs → ∀ ls : Array Slot, lv_has ls 2 [(0, .ref (X.2.1 50)), (1, .int x1)] → W p l e (rmX 7 151) s m args below meth c H locs 0 0 (Zq X below s args (some (.int r)) σ') (F0 m 80 ls []) := by
    intro n
    induction n with
    | zero =>
      intro σ x1 h
      exact no_some h
    | succ n ih =>
      intro σ x1 h H locs hw ls hl
      rw [f_X9_text_b80] at h
      refine lv_iload_n C.1 C.2.1 dX9_text_80 rfl (lv_at hl 1 rfl) ?_
      refine lv_sipush (v := 845) C.1 C.2.1 dX9_text_81 (by decide) ?_
      refine lv_icmp_ge (tgt := 105) C.1 C.2.1 dX9_text_84 (by decide) (fun c12 => ?_) (fun c12 => ?_)
      · have h := ite_t c12 h
        refine lv_aload_n C.1 C.2.1 dX9_text_105 rfl (lv_at hl 0 rfl) ?_
        refine lv_iconst (v := 0) C.1 C.2.1 dX9_text_106 (by decide) ?_
        obtain ⟨σ13, eσ13, h⟩ := nm_d h
        refine r_put C hw l_50 vc_9 kX9 tyX9 tyX9_ok nmX9 14 (by decide) (by decide) gw_1028 rfl rfl rfl (put_i l_50 rfl eσ13) dX9_text_107 (fun H locs hw => ?_)
        refine lv_aload_n C.1 C.2.1 dX9_text_110 rfl (lv_at hl 0 rfl) ?_
        refine r_get (v := .int (σ13.1 50 17)) C hw l_50 vc_9 kX9 17 rfl (by decide) gw_1031 rfl dX9_text_111 ?_
        exact r_iret C hr hlk hw (Prod.mk.inj (Option.some.inj h)).1 (Prod.mk.inj (Option.some.inj h)).2 dX9_text_114
      · have h := ite_f c12 h
        refine lv_aload_n C.1 C.2.1 dX9_text_87 rfl (lv_at hl 0 rfl) ?_
        refine r_get (v := .ref (X.2.1 52)) C hw l_50 vc_9 kX9 11 rfl (by decide) gw_1025 rfl dX9_text_88 ?_
        refine lv_iload_n C.1 C.2.1 dX9_text_91 rfl (lv_at hl 1 rfl) ?_
        refine lv_aload_n C.1 C.2.1 dX9_text_92 rfl (lv_at hl 0 rfl) ?_
        refine r_get (v := .ref (X.2.1 53)) C hw l_50 vc_9 kX9 12 rfl (by decide) gw_1026 rfl dX9_text_93 ?_
        refine lv_iload_n C.1 C.2.1 dX9_text_96 rfl (lv_at hl 1 rfl) ?_
        obtain ⟨v14, ev14, h⟩ := bnd h
        refine r_ald C hw l_53 ev14 dX9_text_97 ?_
        obtain ⟨σ15, eσ15, h⟩ := bnd h
        refine r_ast C hw l_52 eσ15 dX9_text_98 (fun H locs hw => ?_)
        obtain ⟨v16, ev16, h⟩ := nm_d h
        refine lv_iinc (v := v16) (lv' := [(1, .int v16), (0, .ref (X.2.1 50))]) C.1 C.2.1 dX9_text_99 hl (k := 1) rfl (by rw [ev16]; rfl) (by decide) rfl (fun ls hl => ?_)
        refine lv_goto (tgt := 80) C.1 C.2.1 dX9_text_102 (by decide) ?_
        exact ih σ15 v16 h _ _ hw ls (lv_sub hl [1, 0] rfl)
  have b40 : ∀ (n : Nat), ∀ (σ : St) (x1 : Int32), f_X9_text_b40 n σ x1 = some (r, σ') → ∀ (H : Heap) (locs : List Loc), At X σ s.heap H locs → ∀ ls : Array Slot, lv_has ls 2 [(0, .ref (X.2.1 50)), (1, .int x1)] → W p l e (rmX 7 151) s m args below meth c H locs 0 0 (Zq X below s args (some (.int r)) σ') (F0 m 40 ls []) := by
    intro n
    induction n with
    | zero =>
      intro σ x1 h
      exact no_some h
    | succ n ih =>
      intro σ x1 h H locs hw ls hl
      rw [f_X9_text_b40] at h
      refine lv_iload_n C.1 C.2.1 dX9_text_40 rfl (lv_at hl 1 rfl) ?_
      refine lv_sipush (v := 845) C.1 C.2.1 dX9_text_41 (by decide) ?_
      refine lv_icmp_ge (tgt := 60) C.1 C.2.1 dX9_text_44 (by decide) (fun c8 => ?_) (fun c8 => ?_)
      · have h := ite_t c8 h
        refine lv_aload_n C.1 C.2.1 dX9_text_60 rfl (lv_at hl 0 rfl) ?_
        obtain ⟨q9, eq9, h⟩ := bnd h
        refine r_callV (As := []) C hw (ok_X9_go X l σ _ eq9) l_50 vc_9 gw_1085 gw_1082 gw_1084 gw_72 gw_123 hl.1 pd_X9_go ⟨Nat.le_of_ble_eq_true rfl, Nat.le_of_ble_eq_true rfl⟩ ⟨Nat.le_refl 0, Nat.le_refl 0⟩ (rest := []) (Nat.le_of_ble_eq_true rfl) dX9_text_61 rfl (fun H locs hw => ?_)
        refine lv_aload_n C.1 C.2.1 dX9_text_64 rfl (lv_at hl 0 rfl) ?_
        obtain ⟨q10, eq10, h⟩ := bnd h
        refine r_callV (As := []) C hw (ok_X9_readWhole X l q9 _ _ eq10) l_50 vc_9 gw_1101 gw_1098 gw_1100 gw_74 gw_123 hl.1 pd_X9_readWhole ⟨Nat.le_of_ble_eq_true rfl, Nat.le_of_ble_eq_true rfl⟩ ⟨Nat.le_refl 0, Nat.le_refl 0⟩ (rest := []) (Nat.le_of_ble_eq_true rfl) dX9_text_65 rfl (fun H locs hw => ?_)
        refine lv_if_ne (tgt := 78) C.1 C.2.1 dX9_text_68 (by decide) (fun c11 => ?_) (fun c11 => ?_)
        · have h := ite_f c11 h
          refine lv_iconst (v := 0) C.1 C.2.1 dX9_text_78 (by decide) ?_
          refine lv_istore_n (lv' := [(1, .int 0), (0, .ref (X.2.1 50))]) C.1 C.2.1 dX9_text_79 rfl hl (by decide) rfl (fun ls hl => ?_)
          exact b80 10000 q10.2 0 h _ _ hw ls (lv_sub hl [1, 0] rfl)
        · have h := ite_t c11 h
          refine lv_iconst (v := (-1)) C.1 C.2.1 dX9_text_71 (by decide) ?_
          refine lv_aload_n C.1 C.2.1 dX9_text_72 rfl (lv_at hl 0 rfl) ?_
          refine r_get (v := .int (q10.2.1 50 9)) C hw l_50 vc_9 kX9 9 rfl (by decide) gw_1023 rfl dX9_text_73 ?_
          refine lv_isub C.1 C.2.1 dX9_text_76 ?_
          exact r_iret C hr hlk hw (Prod.mk.inj (Option.some.inj h)).1 (Prod.mk.inj (Option.some.inj h)).2 dX9_text_77
      · have h := ite_f c8 h
        refine lv_aload_n C.1 C.2.1 dX9_text_47 rfl (lv_at hl 0 rfl) ?_
        refine r_get (v := .ref (X.2.1 53)) C hw l_50 vc_9 kX9 12 rfl (by decide) gw_1026 rfl dX9_text_48 ?_
        refine lv_iload_n C.1 C.2.1 dX9_text_51 rfl (lv_at hl 1 rfl) ?_
        refine lv_iconst (v := 0) C.1 C.2.1 dX9_text_52 (by decide) ?_
        obtain ⟨σ17, eσ17, h⟩ := bnd h
        refine r_ast C hw l_53 eσ17 dX9_text_53 (fun H locs hw => ?_)
        obtain ⟨v18, ev18, h⟩ := nm_d h
        refine lv_iinc (v := v18) (lv' := [(1, .int v18), (0, .ref (X.2.1 50))]) C.1 C.2.1 dX9_text_54 hl (k := 1) rfl (by rw [ev18]; rfl) (by decide) rfl (fun ls hl => ?_)
        refine lv_goto (tgt := 40) C.1 C.2.1 dX9_text_57 (by decide) ?_
        exact ih σ17 v18 h _ _ hw ls (lv_sub hl [1, 0] rfl)
  rw [f_X9_text] at h
  refine lv_aload_n C.1 C.2.1 dX9_text_0 rfl (lv_at hl 0 rfl) ?_
  refine lv_iconst (v := 0) C.1 C.2.1 dX9_text_1 (by decide) ?_
  obtain ⟨σ1, eσ1, h⟩ := nm_d h
  refine r_put C hw l_50 vc_9 kX9 tyX9 tyX9_ok nmX9 0 (by decide) (by decide) gw_1014 rfl rfl rfl (put_i l_50 rfl eσ1) dX9_text_2 (fun H locs hw => ?_)
  refine lv_aload_n C.1 C.2.1 dX9_text_5 rfl (lv_at hl 0 rfl) ?_
  refine lv_aload_n C.1 C.2.1 dX9_text_6 rfl (lv_at hl 0 rfl) ?_
  refine r_get (v := .int (σ1.1 50 2)) C hw l_50 vc_9 kX9 2 rfl (by decide) gw_1016 rfl dX9_text_7 ?_
  obtain ⟨σ2, eσ2, h⟩ := nm_d h
  refine r_put C hw l_50 vc_9 kX9 tyX9 tyX9_ok nmX9 3 (by decide) (by decide) gw_1017 rfl rfl rfl (put_i l_50 rfl eσ2) dX9_text_10 (fun H locs hw => ?_)
  refine lv_aload_n C.1 C.2.1 dX9_text_13 rfl (lv_at hl 0 rfl) ?_
  refine lv_iconst (v := 0) C.1 C.2.1 dX9_text_14 (by decide) ?_
  obtain ⟨σ3, eσ3, h⟩ := nm_d h
  refine r_put C hw l_50 vc_9 kX9 tyX9 tyX9_ok nmX9 2 (by decide) (by decide) gw_1016 rfl rfl rfl (put_i l_50 rfl eσ3) dX9_text_15 (fun H locs hw => ?_)
  refine lv_aload_n C.1 C.2.1 dX9_text_18 rfl (lv_at hl 0 rfl) ?_
  refine lv_iconst (v := 0) C.1 C.2.1 dX9_text_19 (by decide) ?_
  obtain ⟨σ4, eσ4, h⟩ := nm_d h
  refine r_put C hw l_50 vc_9 kX9 tyX9 tyX9_ok nmX9 8 (by decide) (by decide) gw_1022 rfl rfl rfl (put_i l_50 rfl eσ4) dX9_text_20 (fun H locs hw => ?_)
  refine lv_aload_n C.1 C.2.1 dX9_text_23 rfl (lv_at hl 0 rfl) ?_
  refine lv_iconst (v := 0) C.1 C.2.1 dX9_text_24 (by decide) ?_
  obtain ⟨σ5, eσ5, h⟩ := nm_d h
  refine r_put C hw l_50 vc_9 kX9 tyX9 tyX9_ok nmX9 4 (by decide) (by decide) gw_1018 rfl rfl rfl (put_i l_50 rfl eσ5) dX9_text_25 (fun H locs hw => ?_)
  refine lv_aload_n C.1 C.2.1 dX9_text_28 rfl (lv_at hl 0 rfl) ?_
  refine lv_iconst (v := 0) C.1 C.2.1 dX9_text_29 (by decide) ?_
  obtain ⟨σ6, eσ6, h⟩ := nm_d h
  refine r_put C hw l_50 vc_9 kX9 tyX9 tyX9_ok nmX9 17 (by decide) (by decide) gw_1031 rfl rfl rfl (put_i l_50 rfl eσ6) dX9_text_30 (fun H locs hw => ?_)
  refine lv_aload_n C.1 C.2.1 dX9_text_33 rfl (lv_at hl 0 rfl) ?_
  refine lv_iconst (v := 0) C.1 C.2.1 dX9_text_34 (by decide) ?_
  obtain ⟨σ7, eσ7, h⟩ := nm_d h
  refine r_put C hw l_50 vc_9 kX9 tyX9 tyX9_ok nmX9 16 (by decide) (by decide) gw_1030 rfl rfl rfl (put_i l_50 rfl eσ7) dX9_text_35 (fun H locs hw => ?_)
  refine lv_iconst (v := 0) C.1 C.2.1 dX9_text_38 (by decide) ?_
  refine lv_istore_n (lv' := [(1, .int 0), (0, .ref (X.2.1 50))]) C.1 C.2.1 dX9_text_39 rfl hl (by decide) rfl (fun ls hl => ?_)
  exact b40 10000 σ7 0 h _ _ hw ls (lv_sub hl [1, 0] rfl)
def f_X9_fault (σ : St) : Option (Int32 × St) :=
  nm (upI σ 50 0 0) fun σ1 => some (σ1.1 50 8, σ1)
set_option maxRecDepth 100000 in
set_option maxHeartbeats 4000000 in
theorem ok_X9_fault (X : Xc) (l : Launch) (σ : St) (r : Int32) (σ' : St) (h : f_X9_fault σ = some (r, σ')) : Ok X l yX9_fault cX9_fault 1 (some .int) 0 0 [.ref (X.2.1 50)] σ (some (.int r)) σ' := by
  refine Ok.of (by decide) (Nat.le_of_ble_eq_true rfl) ?_
  intro p e s m args below meth c C hr hlk hw ls hl
  have C : Cx p s m args c X cX9_fault 1 "RunningCountModel" := C
  have hl : lv_has ls 1 [(0, .ref (X.2.1 50))] := hl
  rw [f_X9_fault] at h
  refine lv_aload_n C.1 C.2.1 dX9_fault_0 rfl (lv_at hl 0 rfl) ?_
  refine lv_iconst (v := 0) C.1 C.2.1 dX9_fault_1 (by decide) ?_
  obtain ⟨σ1, eσ1, h⟩ := nm_d h
  refine r_put C hw l_50 vc_9 kX9 tyX9 tyX9_ok nmX9 0 (by decide) (by decide) gw_1014 rfl rfl rfl (put_i l_50 rfl eσ1) dX9_fault_2 (fun H locs hw => ?_)
  refine lv_aload_n C.1 C.2.1 dX9_fault_5 rfl (lv_at hl 0 rfl) ?_
  refine r_get (v := .int (σ1.1 50 8)) C hw l_50 vc_9 kX9 8 rfl (by decide) gw_1022 rfl dX9_fault_6 ?_
  exact r_iret C hr hlk hw (Prod.mk.inj (Option.some.inj h)).1 (Prod.mk.inj (Option.some.inj h)).2 dX9_fault_9
def f_X9_isShelf (σ : St) (a1 : Int32) : Option Bool :=
  (rd σ 52 845 0).bind fun v1 => some (f_X9_isIn σ a1 0 (v1 - 1))
set_option maxRecDepth 100000 in
set_option maxHeartbeats 4000000 in
theorem ok_X9_isShelf (X : Xc) (l : Launch) (σ : St) (a1 : Int32) (r : Bool) (h : f_X9_isShelf σ a1 = some r) : Ok X l yX9_isShelf cX9_isShelf 2 (some .boolean) 1 22 [.ref (X.2.1 50), .int a1] σ (some (.int (b2i r))) σ := by
  refine Ok.of (by decide) (Nat.le_of_ble_eq_true rfl) ?_
  intro p e s m args below meth c C hr hlk hw ls hl
  have C : Cx p s m args c X cX9_isShelf 2 "RunningCountModel" := C
  have hl : lv_has ls 2 [(0, .ref (X.2.1 50)), (1, .int a1)] := hl
  rw [f_X9_isShelf] at h
  refine lv_iload_n C.1 C.2.1 dX9_isShelf_0 rfl (lv_at hl 1 rfl) ?_
  refine lv_iconst (v := 0) C.1 C.2.1 dX9_isShelf_1 (by decide) ?_
  refine lv_aload_n C.1 C.2.1 dX9_isShelf_2 rfl (lv_at hl 0 rfl) ?_
  refine r_get (v := .ref (X.2.1 52)) C hw l_50 vc_9 kX9 11 rfl (by decide) gw_1025 rfl dX9_isShelf_3 ?_
  refine lv_iconst (v := 0) C.1 C.2.1 dX9_isShelf_6 (by decide) ?_
  obtain ⟨v1, ev1, h⟩ := bnd h
  refine r_ald C hw l_52 ev1 dX9_isShelf_7 ?_
  refine lv_iconst (v := 1) C.1 C.2.1 dX9_isShelf_8 (by decide) ?_
  refine lv_isub C.1 C.2.1 dX9_isShelf_9 ?_
  refine r_callS (As := [.int a1, .int 0, .int (v1 - 1)]) C hw (ok_X9_isIn X l σ a1 0 (v1 - 1) _ rfl) gw_1130 gw_1128 gw_1129 gw_123 hl.1 pd_X9_isIn ⟨Nat.le_of_ble_eq_true rfl, Nat.le_of_ble_eq_true rfl⟩ ⟨Nat.le_refl 0, Nat.le_refl 0⟩ (rest := []) (Nat.le_of_ble_eq_true rfl) dX9_isShelf_10 rfl (fun H locs hw => ?_)
  exact r_zret C hr hlk hw rfl (Option.some.inj h) rfl dX9_isShelf_13
def f_X9_isItem (σ : St) (a1 : Int32) : Option Bool :=
  (rd σ 52 845 1).bind fun v1 => some (f_X9_isIn σ a1 0 (v1 - 1))
set_option maxRecDepth 100000 in
set_option maxHeartbeats 4000000 in
theorem ok_X9_isItem (X : Xc) (l : Launch) (σ : St) (a1 : Int32) (r : Bool) (h : f_X9_isItem σ a1 = some r) : Ok X l yX9_isItem cX9_isItem 2 (some .boolean) 1 22 [.ref (X.2.1 50), .int a1] σ (some (.int (b2i r))) σ := by
  refine Ok.of (by decide) (Nat.le_of_ble_eq_true rfl) ?_
  intro p e s m args below meth c C hr hlk hw ls hl
  have C : Cx p s m args c X cX9_isItem 2 "RunningCountModel" := C
  have hl : lv_has ls 2 [(0, .ref (X.2.1 50)), (1, .int a1)] := hl
  rw [f_X9_isItem] at h
  refine lv_iload_n C.1 C.2.1 dX9_isItem_0 rfl (lv_at hl 1 rfl) ?_
  refine lv_iconst (v := 0) C.1 C.2.1 dX9_isItem_1 (by decide) ?_
  refine lv_aload_n C.1 C.2.1 dX9_isItem_2 rfl (lv_at hl 0 rfl) ?_
  refine r_get (v := .ref (X.2.1 52)) C hw l_50 vc_9 kX9 11 rfl (by decide) gw_1025 rfl dX9_isItem_3 ?_
  refine lv_iconst (v := 1) C.1 C.2.1 dX9_isItem_6 (by decide) ?_
  obtain ⟨v1, ev1, h⟩ := bnd h
  refine r_ald C hw l_52 ev1 dX9_isItem_7 ?_
  refine lv_iconst (v := 1) C.1 C.2.1 dX9_isItem_8 (by decide) ?_
  refine lv_isub C.1 C.2.1 dX9_isItem_9 ?_
  refine r_callS (As := [.int a1, .int 0, .int (v1 - 1)]) C hw (ok_X9_isIn X l σ a1 0 (v1 - 1) _ rfl) gw_1130 gw_1128 gw_1129 gw_123 hl.1 pd_X9_isIn ⟨Nat.le_of_ble_eq_true rfl, Nat.le_of_ble_eq_true rfl⟩ ⟨Nat.le_refl 0, Nat.le_refl 0⟩ (rest := []) (Nat.le_of_ble_eq_true rfl) dX9_isItem_10 rfl (fun H locs hw => ?_)
  exact r_zret C hr hlk hw rfl (Option.some.inj h) rfl dX9_isItem_13
def f_X9_isMove (σ : St) (a1 : Int32) : Option Bool :=
  (rd σ 52 845 2).bind fun v1 => some (f_X9_isIn σ a1 0 (v1 - 1))
set_option maxRecDepth 100000 in
set_option maxHeartbeats 4000000 in
theorem ok_X9_isMove (X : Xc) (l : Launch) (σ : St) (a1 : Int32) (r : Bool) (h : f_X9_isMove σ a1 = some r) : Ok X l yX9_isMove cX9_isMove 2 (some .boolean) 1 22 [.ref (X.2.1 50), .int a1] σ (some (.int (b2i r))) σ := by
  refine Ok.of (by decide) (Nat.le_of_ble_eq_true rfl) ?_
  intro p e s m args below meth c C hr hlk hw ls hl
  have C : Cx p s m args c X cX9_isMove 2 "RunningCountModel" := C
  have hl : lv_has ls 2 [(0, .ref (X.2.1 50)), (1, .int a1)] := hl
  rw [f_X9_isMove] at h
  refine lv_iload_n C.1 C.2.1 dX9_isMove_0 rfl (lv_at hl 1 rfl) ?_
  refine lv_iconst (v := 0) C.1 C.2.1 dX9_isMove_1 (by decide) ?_
  refine lv_aload_n C.1 C.2.1 dX9_isMove_2 rfl (lv_at hl 0 rfl) ?_
  refine r_get (v := .ref (X.2.1 52)) C hw l_50 vc_9 kX9 11 rfl (by decide) gw_1025 rfl dX9_isMove_3 ?_
  refine lv_iconst (v := 2) C.1 C.2.1 dX9_isMove_6 (by decide) ?_
  obtain ⟨v1, ev1, h⟩ := bnd h
  refine r_ald C hw l_52 ev1 dX9_isMove_7 ?_
  refine lv_iconst (v := 1) C.1 C.2.1 dX9_isMove_8 (by decide) ?_
  refine lv_isub C.1 C.2.1 dX9_isMove_9 ?_
  refine r_callS (As := [.int a1, .int 0, .int (v1 - 1)]) C hw (ok_X9_isIn X l σ a1 0 (v1 - 1) _ rfl) gw_1130 gw_1128 gw_1129 gw_123 hl.1 pd_X9_isIn ⟨Nat.le_of_ble_eq_true rfl, Nat.le_of_ble_eq_true rfl⟩ ⟨Nat.le_refl 0, Nat.le_refl 0⟩ (rest := []) (Nat.le_of_ble_eq_true rfl) dX9_isMove_10 rfl (fun H locs hw => ?_)
  exact r_zret C hr hlk hw rfl (Option.some.inj h) rfl dX9_isMove_13
def f_X9_isCount (σ : St) (a1 : Int32) : Option Bool :=
  (rd σ 52 845 3).bind fun v1 => some (f_X9_isIn σ a1 0 (v1 - 1))
set_option maxRecDepth 100000 in
set_option maxHeartbeats 4000000 in
theorem ok_X9_isCount (X : Xc) (l : Launch) (σ : St) (a1 : Int32) (r : Bool) (h : f_X9_isCount σ a1 = some r) : Ok X l yX9_isCount cX9_isCount 2 (some .boolean) 1 22 [.ref (X.2.1 50), .int a1] σ (some (.int (b2i r))) σ := by
  refine Ok.of (by decide) (Nat.le_of_ble_eq_true rfl) ?_
  intro p e s m args below meth c C hr hlk hw ls hl
  have C : Cx p s m args c X cX9_isCount 2 "RunningCountModel" := C
  have hl : lv_has ls 2 [(0, .ref (X.2.1 50)), (1, .int a1)] := hl
  rw [f_X9_isCount] at h
  refine lv_iload_n C.1 C.2.1 dX9_isCount_0 rfl (lv_at hl 1 rfl) ?_
  refine lv_iconst (v := 0) C.1 C.2.1 dX9_isCount_1 (by decide) ?_
  refine lv_aload_n C.1 C.2.1 dX9_isCount_2 rfl (lv_at hl 0 rfl) ?_
  refine r_get (v := .ref (X.2.1 52)) C hw l_50 vc_9 kX9 11 rfl (by decide) gw_1025 rfl dX9_isCount_3 ?_
  refine lv_iconst (v := 3) C.1 C.2.1 dX9_isCount_6 (by decide) ?_
  obtain ⟨v1, ev1, h⟩ := bnd h
  refine r_ald C hw l_52 ev1 dX9_isCount_7 ?_
  refine lv_iconst (v := 1) C.1 C.2.1 dX9_isCount_8 (by decide) ?_
  refine lv_isub C.1 C.2.1 dX9_isCount_9 ?_
  refine r_callS (As := [.int a1, .int 0, .int (v1 - 1)]) C hw (ok_X9_isIn X l σ a1 0 (v1 - 1) _ rfl) gw_1130 gw_1128 gw_1129 gw_123 hl.1 pd_X9_isIn ⟨Nat.le_of_ble_eq_true rfl, Nat.le_of_ble_eq_true rfl⟩ ⟨Nat.le_refl 0, Nat.le_refl 0⟩ (rest := []) (Nat.le_of_ble_eq_true rfl) dX9_isCount_10 rfl (fun H locs hw => ?_)
  exact r_zret C hr hlk hw rfl (Option.some.inj h) rfl dX9_isCount_13
def f_X9_isInstant (σ : St) (a0 : Int32) : Bool :=
  (f_X9_isIn σ a0 0 999)
set_option maxRecDepth 100000 in
set_option maxHeartbeats 4000000 in
theorem ok_X9_isInstant (X : Xc) (l : Launch) (σ : St) (a0 : Int32) (r : Bool) (h : f_X9_isInstant σ a0 = r) : Ok X l yX9_isInstant cX9_isInstant 1 (some .boolean) 1 22 [.int a0] σ (some (.int (b2i r))) σ := by
  refine Ok.of (by decide) (Nat.le_of_ble_eq_true rfl) ?_
  intro p e s m args below meth c C hr hlk hw ls hl
  have C : Cx p s m args c X cX9_isInstant 1 "RunningCountModel" := C
  have hl : lv_has ls 1 [(0, .int a0)] := hl
  rw [f_X9_isInstant] at h
  refine lv_iload_n C.1 C.2.1 dX9_isInstant_0 rfl (lv_at hl 0 rfl) ?_
  refine lv_iconst (v := 0) C.1 C.2.1 dX9_isInstant_1 (by decide) ?_
  refine lv_sipush (v := 999) C.1 C.2.1 dX9_isInstant_2 (by decide) ?_
  refine r_callS (As := [.int a0, .int 0, .int 999]) C hw (ok_X9_isIn X l σ a0 0 999 _ rfl) gw_1130 gw_1128 gw_1129 gw_123 hl.1 pd_X9_isIn ⟨Nat.le_of_ble_eq_true rfl, Nat.le_of_ble_eq_true rfl⟩ ⟨Nat.le_refl 0, Nat.le_refl 0⟩ (rest := []) (Nat.le_of_ble_eq_true rfl) dX9_isInstant_5 rfl (fun H locs hw => ?_)
  exact r_zret C hr hlk hw rfl h rfl dX9_isInstant_8
def f_X9_moved (σ : St) (a1 : Int32) (a2 : Int32) : Option Int32 :=
  (rd σ 52 845 ((45 + (10 * a1)) + a2)).bind fun v1 => some v1
set_option maxRecDepth 100000 in
set_option maxHeartbeats 4000000 in
theorem ok_X9_moved (X : Xc) (l : Launch) (σ : St) (a1 : Int32) (a2 : Int32) (r : Int32) (h : f_X9_moved σ a1 a2 = some r) : Ok X l yX9_moved cX9_moved 3 (some .int) 0 0 [.ref (X.2.1 50), .int a1, .int a2] σ (some (.int r)) σ := by
  refine Ok.of (by decide) (Nat.le_of_ble_eq_true rfl) ?_
  intro p e s m args below meth c C hr hlk hw ls hl
  have C : Cx p s m args c X cX9_moved 3 "RunningCountModel" := C
  have hl : lv_has ls 3 [(0, .ref (X.2.1 50)), (1, .int a1), (2, .int a2)] := hl
  rw [f_X9_moved] at h
  refine lv_aload_n C.1 C.2.1 dX9_moved_0 rfl (lv_at hl 0 rfl) ?_
  refine r_get (v := .ref (X.2.1 52)) C hw l_50 vc_9 kX9 11 rfl (by decide) gw_1025 rfl dX9_moved_1 ?_
  refine lv_bipush (v := 45) C.1 C.2.1 dX9_moved_4 (by decide) ?_
  refine lv_bipush (v := 10) C.1 C.2.1 dX9_moved_6 (by decide) ?_
  refine lv_iload_n C.1 C.2.1 dX9_moved_8 rfl (lv_at hl 1 rfl) ?_
  refine lv_imul C.1 C.2.1 dX9_moved_9 ?_
  refine lv_iadd C.1 C.2.1 dX9_moved_10 ?_
  refine lv_iload_n C.1 C.2.1 dX9_moved_11 rfl (lv_at hl 2 rfl) ?_
  refine lv_iadd C.1 C.2.1 dX9_moved_12 ?_
  obtain ⟨v1, ev1, h⟩ := bnd h
  refine r_ald C hw l_52 ev1 dX9_moved_13 ?_
  exact r_iret C hr hlk hw (Option.some.inj h) rfl dX9_moved_14
def f_X9_leg (σ : St) (a1 : Int32) (a2 : Int32) (a3 : Int32) : Option Int32 :=
  (rd σ 52 845 ((((45 + (10 * a1)) + 2) + (4 * a2)) + a3)).bind fun v1 => some v1
set_option maxRecDepth 100000 in
set_option maxHeartbeats 4000000 in
theorem ok_X9_leg (X : Xc) (l : Launch) (σ : St) (a1 : Int32) (a2 : Int32) (a3 : Int32) (r : Int32) (h : f_X9_leg σ a1 a2 a3 = some r) : Ok X l yX9_leg cX9_leg 4 (some .int) 0 0 [.ref (X.2.1 50), .int a1, .int a2, .int a3] σ (some (.int r)) σ := by
  refine Ok.of (by decide) (Nat.le_of_ble_eq_true rfl) ?_
  intro p e s m args below meth c C hr hlk hw ls hl
  have C : Cx p s m args c X cX9_leg 4 "RunningCountModel" := C
  have hl : lv_has ls 4 [(0, .ref (X.2.1 50)), (1, .int a1), (2, .int a2), (3, .int a3)] := hl
  rw [f_X9_leg] at h
  refine lv_aload_n C.1 C.2.1 dX9_leg_0 rfl (lv_at hl 0 rfl) ?_
  refine r_get (v := .ref (X.2.1 52)) C hw l_50 vc_9 kX9 11 rfl (by decide) gw_1025 rfl dX9_leg_1 ?_
  refine lv_bipush (v := 45) C.1 C.2.1 dX9_leg_4 (by decide) ?_
  refine lv_bipush (v := 10) C.1 C.2.1 dX9_leg_6 (by decide) ?_
  refine lv_iload_n C.1 C.2.1 dX9_leg_8 rfl (lv_at hl 1 rfl) ?_
  refine lv_imul C.1 C.2.1 dX9_leg_9 ?_
  refine lv_iadd C.1 C.2.1 dX9_leg_10 ?_
  refine lv_iconst (v := 2) C.1 C.2.1 dX9_leg_11 (by decide) ?_
  refine lv_iadd C.1 C.2.1 dX9_leg_12 ?_
  refine lv_iconst (v := 4) C.1 C.2.1 dX9_leg_13 (by decide) ?_
  refine lv_iload_n C.1 C.2.1 dX9_leg_14 rfl (lv_at hl 2 rfl) ?_
  refine lv_imul C.1 C.2.1 dX9_leg_15 ?_
  refine lv_iadd C.1 C.2.1 dX9_leg_16 ?_
  refine lv_iload_n C.1 C.2.1 dX9_leg_17 rfl (lv_at hl 3 rfl) ?_
  refine lv_iadd C.1 C.2.1 dX9_leg_18 ?_
  obtain ⟨v1, ev1, h⟩ := bnd h
  refine r_ald C hw l_52 ev1 dX9_leg_19 ?_
  exact r_iret C hr hlk hw (Option.some.inj h) rfl dX9_leg_20
def f_X9_isThere (σ : St) (a1 : Int32) (a2 : Int32) : Option Bool :=
  (f_X9_leg σ a1 a2 0).bind fun q1 => if q1 = 1 then (some true) else (some false)
set_option maxRecDepth 100000 in
set_option maxHeartbeats 4000000 in
theorem ok_X9_isThere (X : Xc) (l : Launch) (σ : St) (a1 : Int32) (a2 : Int32) (r : Bool) (h : f_X9_isThere σ a1 a2 = some r) : Ok X l yX9_isThere cX9_isThere 3 (some .boolean) 1 23 [.ref (X.2.1 50), .int a1, .int a2] σ (some (.int (b2i r))) σ := by
  refine Ok.of (by decide) (Nat.le_of_ble_eq_true rfl) ?_
  intro p e s m args below meth c C hr hlk hw ls hl
  have C : Cx p s m args c X cX9_isThere 3 "RunningCountModel" := C
  have hl : lv_has ls 3 [(0, .ref (X.2.1 50)), (1, .int a1), (2, .int a2)] := hl
  rw [f_X9_isThere] at h
  refine lv_aload_n C.1 C.2.1 dX9_isThere_0 rfl (lv_at hl 0 rfl) ?_
  refine lv_iload_n C.1 C.2.1 dX9_isThere_1 rfl (lv_at hl 1 rfl) ?_
  refine lv_iload_n C.1 C.2.1 dX9_isThere_2 rfl (lv_at hl 2 rfl) ?_
  refine lv_iconst (v := 0) C.1 C.2.1 dX9_isThere_3 (by decide) ?_
  obtain ⟨q1, eq1, h⟩ := bnd h
  refine r_callV (As := [.int a1, .int a2, .int 0]) C hw (ok_X9_leg X l σ a1 a2 0 _ eq1) l_50 vc_9 gw_1211 gw_1208 gw_1210 gw_94 gw_123 hl.1 pd_X9_leg ⟨Nat.le_of_ble_eq_true rfl, Nat.le_of_ble_eq_true rfl⟩ ⟨Nat.le_refl 0, Nat.le_refl 0⟩ (rest := []) (Nat.le_of_ble_eq_true rfl) dX9_isThere_4 rfl (fun H locs hw => ?_)
  refine lv_iconst (v := 1) C.1 C.2.1 dX9_isThere_7 (by decide) ?_
  refine lv_icmp_ne (tgt := 15) C.1 C.2.1 dX9_isThere_8 (by decide) (fun c2 => ?_) (fun c2 => ?_)
  · have h := ite_f c2 h
    refine lv_iconst (v := 0) C.1 C.2.1 dX9_isThere_15 (by decide) ?_
    exact r_zret C hr hlk hw rfl (Option.some.inj h) rfl dX9_isThere_16
  · have h := ite_t c2 h
    refine lv_iconst (v := 1) C.1 C.2.1 dX9_isThere_11 (by decide) ?_
    refine lv_goto (tgt := 16) C.1 C.2.1 dX9_isThere_12 (by decide) ?_
    exact r_zret C hr hlk hw rfl (Option.some.inj h) rfl dX9_isThere_16
def f_X9_isAt (σ : St) (a1 : Int32) (a2 : Int32) (a3 : Int32) (a4 : Int32) : Option Bool :=
  (f_X9_isThere σ a1 a2).bind fun q1 => if (b2i q1) = 0 then (some false) else ((f_X9_leg σ a1 a2 1).bind fun q3 => if q3 = a3 then ((f_X9_moved σ a1 0).bind fun q5 => if q5 = a4 then (some true) else (some false)) else (some false))
set_option maxRecDepth 100000 in
set_option maxHeartbeats 4000000 in
theorem ok_X9_isAt (X : Xc) (l : Launch) (σ : St) (a1 : Int32) (a2 : Int32) (a3 : Int32) (a4 : Int32) (r : Bool) (h : f_X9_isAt σ a1 a2 a3 a4 = some r) : Ok X l yX9_isAt cX9_isAt 5 (some .boolean) 2 45 [.ref (X.2.1 50), .int a1, .int a2, .int a3, .int a4] σ (some (.int (b2i r))) σ := by
  refine Ok.of (by decide) (Nat.le_of_ble_eq_true rfl) ?_
  intro p e s m args below meth c C hr hlk hw ls hl
  have C : Cx p s m args c X cX9_isAt 5 "RunningCountModel" := C
  have hl : lv_has ls 5 [(0, .ref (X.2.1 50)), (1, .int a1), (2, .int a2), (3, .int a3), (4, .int a4)] := hl
  rw [f_X9_isAt] at h
  refine lv_aload_n C.1 C.2.1 dX9_isAt_0 rfl (lv_at hl 0 rfl) ?_
  refine lv_iload_n C.1 C.2.1 dX9_isAt_1 rfl (lv_at hl 1 rfl) ?_
  refine lv_iload_n C.1 C.2.1 dX9_isAt_2 rfl (lv_at hl 2 rfl) ?_
  obtain ⟨q1, eq1, h⟩ := bnd h
  refine r_callV (As := [.int a1, .int a2]) C hw (ok_X9_isThere X l σ a1 a2 _ eq1) l_50 vc_9 gw_1207 gw_1204 gw_1206 gw_93 gw_123 hl.1 pd_X9_isThere ⟨Nat.le_of_ble_eq_true rfl, Nat.le_of_ble_eq_true rfl⟩ ⟨Nat.le_refl 0, Nat.le_refl 0⟩ (rest := []) (Nat.le_of_ble_eq_true rfl) dX9_isAt_3 rfl (fun H locs hw => ?_)
  refine lv_if_eq (tgt := 35) C.1 C.2.1 dX9_isAt_6 (by decide) (fun c2 => ?_) (fun c2 => ?_)
  · have h := ite_t c2 h
    refine lv_iconst (v := 0) C.1 C.2.1 dX9_isAt_35 (by decide) ?_
    exact r_zret C hr hlk hw rfl (Option.some.inj h) rfl dX9_isAt_36
  · have h := ite_f c2 h
    refine lv_aload_n C.1 C.2.1 dX9_isAt_9 rfl (lv_at hl 0 rfl) ?_
    refine lv_iload_n C.1 C.2.1 dX9_isAt_10 rfl (lv_at hl 1 rfl) ?_
    refine lv_iload_n C.1 C.2.1 dX9_isAt_11 rfl (lv_at hl 2 rfl) ?_
    refine lv_iconst (v := 1) C.1 C.2.1 dX9_isAt_12 (by decide) ?_
    obtain ⟨q3, eq3, h⟩ := bnd h
    refine r_callV (As := [.int a1, .int a2, .int 1]) C hw (ok_X9_leg X l σ a1 a2 1 _ eq3) l_50 vc_9 gw_1211 gw_1208 gw_1210 gw_94 gw_123 hl.1 pd_X9_leg ⟨Nat.le_of_ble_eq_true rfl, Nat.le_of_ble_eq_true rfl⟩ ⟨Nat.le_refl 0, Nat.le_refl 0⟩ (rest := []) (Nat.le_of_ble_eq_true rfl) dX9_isAt_13 rfl (fun H locs hw => ?_)
    refine lv_iload_n C.1 C.2.1 dX9_isAt_16 rfl (lv_at hl 3 rfl) ?_
    refine lv_icmp_ne (tgt := 35) C.1 C.2.1 dX9_isAt_17 (by decide) (fun c4 => ?_) (fun c4 => ?_)
    · have h := ite_f c4 h
      refine lv_iconst (v := 0) C.1 C.2.1 dX9_isAt_35 (by decide) ?_
      exact r_zret C hr hlk hw rfl (Option.some.inj h) rfl dX9_isAt_36
    · have h := ite_t c4 h
      refine lv_aload_n C.1 C.2.1 dX9_isAt_20 rfl (lv_at hl 0 rfl) ?_
      refine lv_iload_n C.1 C.2.1 dX9_isAt_21 rfl (lv_at hl 1 rfl) ?_
      refine lv_iconst (v := 0) C.1 C.2.1 dX9_isAt_22 (by decide) ?_
      obtain ⟨q5, eq5, h⟩ := bnd h
      refine r_callV (As := [.int a1, .int 0]) C hw (ok_X9_moved X l σ a1 0 _ eq5) l_50 vc_9 gw_1203 gw_1200 gw_1202 gw_92 gw_123 hl.1 pd_X9_moved ⟨Nat.le_of_ble_eq_true rfl, Nat.le_of_ble_eq_true rfl⟩ ⟨Nat.le_refl 0, Nat.le_refl 0⟩ (rest := []) (Nat.le_of_ble_eq_true rfl) dX9_isAt_23 rfl (fun H locs hw => ?_)
      refine lv_iload C.1 C.2.1 dX9_isAt_26 (lv_at hl 4 rfl) ?_
      refine lv_icmp_ne (tgt := 35) C.1 C.2.1 dX9_isAt_28 (by decide) (fun c6 => ?_) (fun c6 => ?_)
      · have h := ite_f c6 h
        refine lv_iconst (v := 0) C.1 C.2.1 dX9_isAt_35 (by decide) ?_
        exact r_zret C hr hlk hw rfl (Option.some.inj h) rfl dX9_isAt_36
      · have h := ite_t c6 h
        refine lv_iconst (v := 1) C.1 C.2.1 dX9_isAt_31 (by decide) ?_
        refine lv_goto (tgt := 36) C.1 C.2.1 dX9_isAt_32 (by decide) ?_
        exact r_zret C hr hlk hw rfl (Option.some.inj h) rfl dX9_isAt_36
def f_X9_isOver (σ : St) (a1 : Int32) (a2 : Int32) (a3 : Int32) : Option Bool :=
  (f_X9_leg σ a1 a2 3).bind fun q1 => if a3 < q1 then (some false) else (some true)
set_option maxRecDepth 100000 in
set_option maxHeartbeats 4000000 in
theorem ok_X9_isOver (X : Xc) (l : Launch) (σ : St) (a1 : Int32) (a2 : Int32) (a3 : Int32) (r : Bool) (h : f_X9_isOver σ a1 a2 a3 = some r) : Ok X l yX9_isOver cX9_isOver 4 (some .boolean) 1 23 [.ref (X.2.1 50), .int a1, .int a2, .int a3] σ (some (.int (b2i r))) σ := by
  refine Ok.of (by decide) (Nat.le_of_ble_eq_true rfl) ?_
  intro p e s m args below meth c C hr hlk hw ls hl
  have C : Cx p s m args c X cX9_isOver 4 "RunningCountModel" := C
  have hl : lv_has ls 4 [(0, .ref (X.2.1 50)), (1, .int a1), (2, .int a2), (3, .int a3)] := hl
  rw [f_X9_isOver] at h
  refine lv_aload_n C.1 C.2.1 dX9_isOver_0 rfl (lv_at hl 0 rfl) ?_
  refine lv_iload_n C.1 C.2.1 dX9_isOver_1 rfl (lv_at hl 1 rfl) ?_
  refine lv_iload_n C.1 C.2.1 dX9_isOver_2 rfl (lv_at hl 2 rfl) ?_
  refine lv_iconst (v := 3) C.1 C.2.1 dX9_isOver_3 (by decide) ?_
  obtain ⟨q1, eq1, h⟩ := bnd h
  refine r_callV (As := [.int a1, .int a2, .int 3]) C hw (ok_X9_leg X l σ a1 a2 3 _ eq1) l_50 vc_9 gw_1211 gw_1208 gw_1210 gw_94 gw_123 hl.1 pd_X9_leg ⟨Nat.le_of_ble_eq_true rfl, Nat.le_of_ble_eq_true rfl⟩ ⟨Nat.le_refl 0, Nat.le_refl 0⟩ (rest := []) (Nat.le_of_ble_eq_true rfl) dX9_isOver_4 rfl (fun H locs hw => ?_)
  refine lv_iload_n C.1 C.2.1 dX9_isOver_7 rfl (lv_at hl 3 rfl) ?_
  refine lv_icmp_gt (tgt := 15) C.1 C.2.1 dX9_isOver_8 (by decide) (fun c2 => ?_) (fun c2 => ?_)
  · have h := ite_t c2 h
    refine lv_iconst (v := 0) C.1 C.2.1 dX9_isOver_15 (by decide) ?_
    exact r_zret C hr hlk hw rfl (Option.some.inj h) rfl dX9_isOver_16
  · have h := ite_f c2 h
    refine lv_iconst (v := 1) C.1 C.2.1 dX9_isOver_11 (by decide) ?_
    refine lv_goto (tgt := 16) C.1 C.2.1 dX9_isOver_12 (by decide) ?_
    exact r_zret C hr hlk hw rfl (Option.some.inj h) rfl dX9_isOver_16
