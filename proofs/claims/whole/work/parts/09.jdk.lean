/-! the JDK's own methods that are reached: String.length, String.charAt, over the String constants -/
section JDK
variable {p : Program} {l : Launch} {e : Env} {R : Room} {s : State} {m : MethodId} {args : Array Value} {below : List Frame} {meth : Method} {c : Code} {H H0 : Heap} {locs : List Loc} {cells slots : Nat} {Q : State → Prop}
variable {X : Xc} {σ σ' : St} {cc : ByteArray} {nL : Nat} {own : String} {pc : Nat} {ls : Array Slot} {rest : List Value}
theorem r_callVg {y : MethodName} {cY : ByteArray} {nY fr lo b idx : Nat} {ret : Option FieldType} {As : List Value} {v : Option Value} (C : Cx p s m args c X cc nL own) (h : At X σ s.heap H locs)
    (hM : Ok X l y cY nY ret fr lo (.ref b :: As) σ v σ') (hrec : ∃ cell : Cell, H[b]? = some cell ∧ cell.vm.isStatics = false ∧ s.vm.findClass y.cls = some cell.cls) (hcode : Cond.code y cY nY ret ∈ GW) (hlink : Cond.methodLink own idx y ∈ GW) (hinst : Cond.instanceMethod y ∈ GW) (hsel : Cond.selects y.cls y y ∈ GW) (hini : Cond.initialized y.cls ∈ GW) (hls : ls.size = nL)
    (hd : y.cls ≠ "java/lang/invoke/MethodHandle" ∧ y.cls ≠ "java/lang/invoke/VarHandle" ∧ (parseMethodDescriptor y.desc).map (fun d => d.parameters.length) = some As.length) (hR : fr + 1 ≤ R.frames ∧ 8 + (nY + 11) + lo ≤ R.locals) (hc : cells ≤ R.cells ∧ slots ≤ R.slots) (hrm : (rest.map fun v => v.category).sum ≤ 8) (hdg : decode cc pc = .ok (.invokevirtual idx, 3)) {st0 : List Value} (hst : st0 = As.reverse ++ .ref b :: rest)
    (kk : ∀ (H1 : Heap) (locs1 : List Loc), At X σ' s.heap H1 locs1 → W p l e R s m args below meth c H1 locs1 cells slots Q (F0 m (pc + 3) ls (v.toList ++ rest))) : W p l e R s m args below meth c H locs cells slots Q (F0 m pc ls st0) := by
  have hts := C.2.2.2.2.1
  exact r_back C h (va_runV (Ts := GW) (rest := rest) ⟨C.1, C.2.1, C.2.2.1, C.2.2.2.1, hts⟩ hM ⟨callB_of As.length hts (gw_tbl hcode) rfl rfl rfl (hts _ hini) (hts _ hlink) hd hR, hts _ hinst, hts _ hsel⟩ ⟨pw_blind, hrec, pw_at C h⟩ rfl rfl hls hst (lv_room hrm) hdg hc) kk
theorem r_nret (C : Cx p s m args c X cc nL own) {ty : FieldType} (hr : meth.sig.returnType = some ty) (hlk : meth.locks = false) (h : At X σ s.heap H locs) {x r : Int32} (hn : narrow ty (.int x) = .int x) (hx : x = r) (hs : σ = σ') (hdg : decode cc pc = .ok (.ireturn, 1)) : W p l e R s m args below meth c H locs 0 0 (Zq X below s args (some (.int r)) σ') (F0 m pc ls [.int x]) := by
  subst hx; subst hs
  exact W.zret C.1 C.2.1 hr hn (fun t ht _ => at_end h t ht) h.2.1.2.2 hdg hlk
theorem str_rec (C : Cx p s m args c X cc nL own) (h : At X σ s.heap H locs) {i : Nat} (hi : i < 10) : ∃ cell : Cell, H[X.2.1 (60 + i)]? = some cell ∧ cell.vm.isStatics = false ∧ s.vm.findClass "java/lang/String" = some cell.cls := vk_recv (adK := fun i => X.2.1 (60 + i)) C.2.2.2.2.2.2.2.2.1 hi h.2.1
end JDK
theorem pd_J3 : yJ3_checkIndex_8e157.cls ≠ "java/lang/invoke/MethodHandle" ∧ yJ3_checkIndex_8e157.cls ≠ "java/lang/invoke/VarHandle" ∧ (parseMethodDescriptor yJ3_checkIndex_8e157.desc).map (fun d => d.parameters.length) = some 3 := by decide +kernel
theorem pd_J0ci : yJ0_checkIndex_df160.cls ≠ "java/lang/invoke/MethodHandle" ∧ yJ0_checkIndex_df160.cls ≠ "java/lang/invoke/VarHandle" ∧ (parseMethodDescriptor yJ0_checkIndex_df160.desc).map (fun d => d.parameters.length) = some 2 := by decide +kernel
theorem pd_J1 : yJ1_charAt_3b067.cls ≠ "java/lang/invoke/MethodHandle" ∧ yJ1_charAt_3b067.cls ≠ "java/lang/invoke/VarHandle" ∧ (parseMethodDescriptor yJ1_charAt_3b067.desc).map (fun d => d.parameters.length) = some 2 := by decide +kernel
theorem pd_J0il : yJ0_isLatin1_aae02.cls ≠ "java/lang/invoke/MethodHandle" ∧ yJ0_isLatin1_aae02.cls ≠ "java/lang/invoke/VarHandle" ∧ (parseMethodDescriptor yJ0_isLatin1_aae02.desc).map (fun d => d.parameters.length) = some 0 := by decide +kernel
theorem pd_J0co : yJ0_coder_7d493.cls ≠ "java/lang/invoke/MethodHandle" ∧ yJ0_coder_7d493.cls ≠ "java/lang/invoke/VarHandle" ∧ (parseMethodDescriptor yJ0_coder_7d493.desc).map (fun d => d.parameters.length) = some 0 := by decide +kernel
theorem pd_J0le : yJ0_length_8abf5.cls ≠ "java/lang/invoke/MethodHandle" ∧ yJ0_length_8abf5.cls ≠ "java/lang/invoke/VarHandle" ∧ (parseMethodDescriptor yJ0_length_8abf5.desc).map (fun d => d.parameters.length) = some 0 := by decide +kernel
theorem pd_J0ca : yJ0_charAt_5068e.cls ≠ "java/lang/invoke/MethodHandle" ∧ yJ0_charAt_5068e.cls ≠ "java/lang/invoke/VarHandle" ∧ (parseMethodDescriptor yJ0_charAt_5068e.desc).map (fun d => d.parameters.length) = some 1 := by decide +kernel
set_option maxRecDepth 100000 in
set_option maxHeartbeats 4000000 in
theorem ok_J3 (X : Xc) (l : Launch) (σ : St) (i n : Int32) (f : Value) (hf : f.category = 1) (h0 : ¬ i < 0) (h1 : i < n) : Ok X l yJ3_checkIndex_8e157 cJ3_checkIndex_8e157 3 (some .int) 0 0 [.int i, .int n, f] σ (some (.int i)) σ := by
  refine Ok.of (by decide) (by cases f <;> simp_all [lg_sl, Value.category]) ?_
  intro p e s m args below meth c C hr hlk hw ls hl
  have C : Cx p s m args c X cJ3_checkIndex_8e157 3 "jdk/internal/util/Preconditions" := C
  have hl : lv_has ls 3 [(0, .int i), (1, .int n), (2, f)] := hl
  refine lv_iload_n C.1 C.2.1 dJ3_checkIndex_8e157_0 rfl (lv_at hl 0 rfl) ?_
  refine lv_if_lt (tgt := 9) C.1 C.2.1 dJ3_checkIndex_8e157_1 (by decide) (fun c1 => absurd c1 h0) (fun c1 => ?_)
  refine lv_iload_n C.1 C.2.1 dJ3_checkIndex_8e157_4 rfl (lv_at hl 0 rfl) ?_
  refine lv_iload_n C.1 C.2.1 dJ3_checkIndex_8e157_5 rfl (lv_at hl 1 rfl) ?_
  refine lv_icmp_lt (tgt := 16) C.1 C.2.1 dJ3_checkIndex_8e157_6 (by decide) (fun c1 => ?_) (fun c1 => absurd h1 c1)
  refine lv_iload_n C.1 C.2.1 dJ3_checkIndex_8e157_16 rfl (lv_at hl 0 rfl) ?_
  exact r_iret C hr hlk hw rfl rfl dJ3_checkIndex_8e157_17
set_option maxRecDepth 100000 in
set_option maxHeartbeats 4000000 in
theorem ok_J0ci (X : Xc) (l : Launch) (σ : St) (i n : Int32) (h0 : ¬ i < 0) (h1 : i < n) : Ok X l yJ0_checkIndex_df160 cJ0_checkIndex_df160 2 none 1 22 [.int i, .int n] σ none σ := by
  refine Ok.of (by decide) (Nat.le_of_ble_eq_true rfl) ?_
  intro p e s m args below meth c C hr hlk hw ls hl
  have C : Cx p s m args c X cJ0_checkIndex_df160 2 "java/lang/String" := C
  have hl : lv_has ls 2 [(0, .int i), (1, .int n)] := hl
  refine lv_iload_n C.1 C.2.1 dJ0_checkIndex_df160_0 rfl (lv_at hl 0 rfl) ?_
  refine lv_iload_n C.1 C.2.1 dJ0_checkIndex_df160_1 rfl (lv_at hl 1 rfl) ?_
  rcases C.2.2.2.2.2.2.2.2.2.2.2.1 with hz | ⟨t, hz⟩
  · refine va_gets C.1 C.2.1 hz hw.2.1 C.2.2.2.1 (C.2.2.2.2.1 _ gw_514) (fun _ h9 => h9) dJ0_checkIndex_df160_2 ?_
    refine r_callS (As := [.int i, .int n, .null]) C hw (ok_J3 X l σ i n .null rfl h0 h1) gw_518 gw_516 gw_517 gw_127 hl.1 pd_J3 ⟨Nat.le_of_ble_eq_true rfl, Nat.le_of_ble_eq_true rfl⟩ ⟨Nat.le_refl 0, Nat.le_refl 0⟩ (rest := []) (Nat.le_of_ble_eq_true rfl) dJ0_checkIndex_df160_5 rfl (fun H locs hw => ?_)
    refine lv_pop C.1 C.2.1 dJ0_checkIndex_df160_8 rfl ?_
    exact r_vret C hr hlk hw rfl dJ0_checkIndex_df160_9
  · refine va_gets C.1 C.2.1 hz hw.2.1 C.2.2.2.1 (C.2.2.2.2.1 _ gw_514) (fun _ h9 => h9) dJ0_checkIndex_df160_2 ?_
    refine r_callS (As := [.int i, .int n, .ref t]) C hw (ok_J3 X l σ i n (.ref t) rfl h0 h1) gw_518 gw_516 gw_517 gw_127 hl.1 pd_J3 ⟨Nat.le_of_ble_eq_true rfl, Nat.le_of_ble_eq_true rfl⟩ ⟨Nat.le_refl 0, Nat.le_refl 0⟩ (rest := []) (Nat.le_of_ble_eq_true rfl) dJ0_checkIndex_df160_5 rfl (fun H locs hw => ?_)
    refine lv_pop C.1 C.2.1 dJ0_checkIndex_df160_8 rfl ?_
    exact r_vret C hr hlk hw rfl dJ0_checkIndex_df160_9
/-- the char of a constant -/
def chA (w : Nat) (i : Int32) : Option Int32 := if inB i (lenS.getD w 0) = true then some ((bytS.getD w []).getD i.toNatClampNeg 0 &&& 255) else none
theorem lenS_lt (w : Nat) : lenS.getD w 0 < 100 := by
  by_cases h : w < 10
  · have : ∀ w, w < 10 → lenS.getD w 0 < 100 := by decide
    exact this w h
  · rw [List.getD_eq_getElem?_getD, List.getElem?_eq_none (by simp [lenS]; omega)]
    decide
theorem chA_ok {w : Nat} {i v : Int32} (h : chA w i = some v) : vp_in i (lenS.getD w 0) ∧ v = ((bytS.getD w []).getD i.toNatClampNeg 0 &&& 255) ∧ ¬ i < 0 ∧ i < nI (lenS.getD w 0) := by
  unfold chA at h
  split at h
  next c =>
    have c0 := inB_in c
    obtain ⟨j, h1, h2⟩ := vp_in_of c0 (Nat.lt_trans (lenS_lt w) (by decide))
    have hl := lenS_lt w
    exact ⟨c0, (Option.some.inj h).symm, fun z => c0 (Or.inl z), by rw [h2]; exact nI_lt h1 (by omega)⟩
  next => cases h
set_option maxRecDepth 100000 in
set_option maxHeartbeats 4000000 in
theorem ok_J1 (X : Xc) (l : Launch) (σ : St) (w : Nat) (hw10 : w < 10) (i v : Int32) (h : chA w i = some v) : Ok X l yJ1_charAt_3b067 cJ1_charAt_3b067 2 (some .char) 2 43 [.ref (X.2.1 (80 + w)), .int i] σ (some (.int v)) σ := by
  obtain ⟨h1, h2, h3, h4⟩ := chA_ok h
  refine Ok.of (by decide) (Nat.le_of_ble_eq_true rfl) ?_
  intro p e s m args below meth c C hr hlk hw ls hl
  have C : Cx p s m args c X cJ1_charAt_3b067 2 "java/lang/StringLatin1" := C
  have hl : lv_has ls 2 [(0, .ref (X.2.1 (80 + w))), (1, .int i)] := hl
  have hT := (C.2.2.2.2.2.2.2.2.1.1 w hw10).2.2.2
  refine lv_iload_n C.1 C.2.1 dJ1_charAt_3b067_0 rfl (lv_at hl 1 rfl) ?_
  refine lv_aload_n C.1 C.2.1 dJ1_charAt_3b067_1 rfl (lv_at hl 0 rfl) ?_
  refine va_tlen (v := nI (lenS.getD w 0)) C.1 C.2.1 hT hw.2.1 rfl dJ1_charAt_3b067_2 ?_
  refine r_callS (As := [.int i, .int (nI (lenS.getD w 0))]) C hw (ok_J0ci X l σ i _ h3 h4) gw_513 gw_511 gw_512 gw_125 hl.1 pd_J0ci ⟨Nat.le_of_ble_eq_true rfl, Nat.le_of_ble_eq_true rfl⟩ ⟨Nat.le_refl 0, Nat.le_refl 0⟩ (rest := []) (Nat.le_of_ble_eq_true rfl) dJ1_charAt_3b067_3 rfl (fun H locs hw => ?_)
  refine lv_aload_n C.1 C.2.1 dJ1_charAt_3b067_6 rfl (lv_at hl 0 rfl) ?_
  refine lv_iload_n C.1 C.2.1 dJ1_charAt_3b067_7 rfl (lv_at hl 1 rfl) ?_
  refine va_tb (v := .int ((bytS.getD w []).getD i.toNatClampNeg 0)) C.1 C.2.1 hT hw.2.1 h1 rfl dJ1_charAt_3b067_8 ?_
  refine lv_sipush (v := 255) C.1 C.2.1 dJ1_charAt_3b067_9 (by decide) ?_
  refine lv_iand C.1 C.2.1 dJ1_charAt_3b067_12 ?_
  refine lv_i2c C.1 C.2.1 dJ1_charAt_3b067_13 (sc_c2 _) ?_
  exact r_nret C hr hlk hw (sc_nar _) h2.symm rfl dJ1_charAt_3b067_14
set_option maxRecDepth 100000 in
set_option maxHeartbeats 4000000 in
theorem ok_J0il (X : Xc) (l : Launch) (σ : St) (w : Nat) (hw10 : w < 10) : Ok X l yJ0_isLatin1_aae02 cJ0_isLatin1_aae02 1 (some .boolean) 0 0 [.ref (X.2.1 (60 + w))] σ (some (.int 1)) σ := by
  refine Ok.of (by decide) (Nat.le_of_ble_eq_true rfl) ?_
  intro p e s m args below meth c C hr hlk hw ls hl
  have C : Cx p s m args c X cJ0_isLatin1_aae02 1 "java/lang/String" := C
  have hl : lv_has ls 1 [(0, .ref (X.2.1 (60 + w)))] := hl
  refine va_gets C.1 C.2.1 C.2.2.2.2.2.2.2.2.2.2.1 hw.2.1 C.2.2.2.1 (C.2.2.2.2.1 _ gw_498) (fun _ h9 => h9) dJ0_isLatin1_aae02_0 ?_
  refine lv_if_eq (tgt := 17) C.1 C.2.1 dJ0_isLatin1_aae02_3 (by decide) (fun c1 => absurd c1 (by decide)) (fun c1 => ?_)
  refine lv_aload_n C.1 C.2.1 dJ0_isLatin1_aae02_6 rfl (lv_at hl 0 rfl) ?_
  refine vk_getf C.1 C.2.1 (C.2.2.2.2.2.2.2.2.1.1 w hw10).2.1 hw.2.1 C.2.2.2.1 (C.2.2.2.2.1 _ gw_1379) (fun _ h9 => h9) dJ0_isLatin1_aae02_7 ?_
  refine lv_if_ne (tgt := 17) C.1 C.2.1 dJ0_isLatin1_aae02_10 (by decide) (fun c1 => absurd rfl c1) (fun c1 => ?_)
  refine lv_iconst (v := 1) C.1 C.2.1 dJ0_isLatin1_aae02_13 (by decide) ?_
  refine lv_goto (tgt := 18) C.1 C.2.1 dJ0_isLatin1_aae02_14 (by decide) ?_
  exact r_nret C hr hlk hw rfl rfl rfl dJ0_isLatin1_aae02_18
set_option maxRecDepth 100000 in
set_option maxHeartbeats 4000000 in
theorem ok_J0co (X : Xc) (l : Launch) (σ : St) (w : Nat) (hw10 : w < 10) : Ok X l yJ0_coder_7d493 cJ0_coder_7d493 1 (some .byte) 0 0 [.ref (X.2.1 (60 + w))] σ (some (.int 0)) σ := by
  refine Ok.of (by decide) (Nat.le_of_ble_eq_true rfl) ?_
  intro p e s m args below meth c C hr hlk hw ls hl
  have C : Cx p s m args c X cJ0_coder_7d493 1 "java/lang/String" := C
  have hl : lv_has ls 1 [(0, .ref (X.2.1 (60 + w)))] := hl
  refine va_gets C.1 C.2.1 C.2.2.2.2.2.2.2.2.2.2.1 hw.2.1 C.2.2.2.1 (C.2.2.2.2.1 _ gw_498) (fun _ h9 => h9) dJ0_coder_7d493_0 ?_
  refine lv_if_eq (tgt := 13) C.1 C.2.1 dJ0_coder_7d493_3 (by decide) (fun c1 => absurd c1 (by decide)) (fun c1 => ?_)
  refine lv_aload_n C.1 C.2.1 dJ0_coder_7d493_6 rfl (lv_at hl 0 rfl) ?_
  refine vk_getf C.1 C.2.1 (C.2.2.2.2.2.2.2.2.1.1 w hw10).2.1 hw.2.1 C.2.2.2.1 (C.2.2.2.2.1 _ gw_1379) (fun _ h9 => h9) dJ0_coder_7d493_7 ?_
  refine lv_goto (tgt := 14) C.1 C.2.1 dJ0_coder_7d493_10 (by decide) ?_
  exact r_nret C hr hlk hw rfl rfl rfl dJ0_coder_7d493_14
set_option maxRecDepth 100000 in
set_option maxHeartbeats 4000000 in
theorem ok_J0le (X : Xc) (l : Launch) (σ : St) (w : Nat) (hw10 : w < 10) : Ok X l yJ0_length_8abf5 cJ0_length_8abf5 1 (some .int) 1 20 [.ref (X.2.1 (60 + w))] σ (some (.int (nI (lenS.getD w 0)))) σ := by
  refine Ok.of (by decide) (Nat.le_of_ble_eq_true rfl) ?_
  intro p e s m args below meth c C hr hlk hw ls hl
  have C : Cx p s m args c X cJ0_length_8abf5 1 "java/lang/String" := C
  have hl : lv_has ls 1 [(0, .ref (X.2.1 (60 + w)))] := hl
  have hT := (C.2.2.2.2.2.2.2.2.1.1 w hw10).2.2.2
  refine lv_aload_n C.1 C.2.1 dJ0_length_8abf5_0 rfl (lv_at hl 0 rfl) ?_
  refine vk_getf C.1 C.2.1 (C.2.2.2.2.2.2.2.2.1.1 w hw10).2.2.1 hw.2.1 C.2.2.2.1 (C.2.2.2.2.1 _ gw_1378) (fun _ h9 => h9) dJ0_length_8abf5_1 ?_
  refine va_tlen (v := nI (lenS.getD w 0)) C.1 C.2.1 hT hw.2.1 rfl dJ0_length_8abf5_4 ?_
  refine lv_aload_n C.1 C.2.1 dJ0_length_8abf5_5 rfl (lv_at hl 0 rfl) ?_
  refine r_callVg (As := []) C hw (ok_J0co X l σ w hw10) (str_rec C hw hw10) gw_497 gw_494 gw_495 gw_496 gw_125 hl.1 pd_J0co ⟨Nat.le_of_ble_eq_true rfl, Nat.le_of_ble_eq_true rfl⟩ ⟨Nat.le_refl 0, Nat.le_refl 0⟩ (rest := [.int (nI (lenS.getD w 0))]) (Nat.le_of_ble_eq_true rfl) dJ0_length_8abf5_6 rfl (fun H locs hw => ?_)
  refine lv_ishr C.1 C.2.1 dJ0_length_8abf5_9 ?_
  exact r_iret C hr hlk hw (sb_shr0 _) rfl dJ0_length_8abf5_10
set_option maxRecDepth 100000 in
set_option maxHeartbeats 4000000 in
theorem ok_J0ca (X : Xc) (l : Launch) (σ : St) (w : Nat) (hw10 : w < 10) (i v : Int32) (h : chA w i = some v) : Ok X l yJ0_charAt_5068e cJ0_charAt_5068e 2 (some .char) 3 64 [.ref (X.2.1 (60 + w)), .int i] σ (some (.int v)) σ := by
  refine Ok.of (by decide) (Nat.le_of_ble_eq_true rfl) ?_
  intro p e s m args below meth c C hr hlk hw ls hl
  have C : Cx p s m args c X cJ0_charAt_5068e 2 "java/lang/String" := C
  have hl : lv_has ls 2 [(0, .ref (X.2.1 (60 + w))), (1, .int i)] := hl
  refine lv_aload_n C.1 C.2.1 dJ0_charAt_5068e_0 rfl (lv_at hl 0 rfl) ?_
  refine r_callVg (As := []) C hw (ok_J0il X l σ w hw10) (str_rec C hw hw10) gw_507 gw_504 gw_505 gw_506 gw_125 hl.1 pd_J0il ⟨Nat.le_of_ble_eq_true rfl, Nat.le_of_ble_eq_true rfl⟩ ⟨Nat.le_refl 0, Nat.le_refl 0⟩ (rest := []) (Nat.le_of_ble_eq_true rfl) dJ0_charAt_5068e_1 rfl (fun H locs hw => ?_)
  refine lv_if_eq (tgt := 16) C.1 C.2.1 dJ0_charAt_5068e_4 (by decide) (fun c1 => absurd c1 (by decide)) (fun c1 => ?_)
  refine lv_aload_n C.1 C.2.1 dJ0_charAt_5068e_7 rfl (lv_at hl 0 rfl) ?_
  refine vk_getf C.1 C.2.1 (C.2.2.2.2.2.2.2.2.1.1 w hw10).2.2.1 hw.2.1 C.2.2.2.1 (C.2.2.2.2.1 _ gw_1378) (fun _ h9 => h9) dJ0_charAt_5068e_8 ?_
  refine lv_iload_n C.1 C.2.1 dJ0_charAt_5068e_11 rfl (lv_at hl 1 rfl) ?_
  refine r_callS (As := [.ref (X.2.1 (80 + w)), .int i]) C hw (ok_J1 X l σ w hw10 i v h) gw_510 gw_508 gw_509 gw_126 hl.1 pd_J1 ⟨Nat.le_of_ble_eq_true rfl, Nat.le_of_ble_eq_true rfl⟩ ⟨Nat.le_refl 0, Nat.le_refl 0⟩ (rest := []) (Nat.le_of_ble_eq_true rfl) dJ0_charAt_5068e_12 rfl (fun H locs hw => ?_)
  have hv : narrow .char (.int v) = .int v := by rw [(chA_ok h).2.1]; exact sc_nar _
  exact r_nret C hr hlk hw hv rfl rfl dJ0_charAt_5068e_15
