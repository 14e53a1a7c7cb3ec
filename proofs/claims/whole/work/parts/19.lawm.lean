/-! the law's two helpers, that catch -/
def OkL (X : Xc) (l : Launch) (y : MethodName) (cc : ByteArray) (nL : Nat) (hh : List (Nat × Nat × Nat × Nat)) (fr lo : Nat) (av : List Value) (σ : St) (r : Int32) (σ' : St) : Prop :=
  Met l y (.codeWith y cc nL (some .int) hh :: GW) (rmC fr lo 1 6) (va_Pc av (PW X σ)) (QV X (some (.int r)) σ') 1 6 (AX X)
section LAWM
variable {p : Program} {l : Launch} {e : Env} {R : Room} {s : State} {m : MethodId} {args : Array Value} {below : List Frame} {meth : Method} {c : Code} {H H0 : Heap} {locs : List Loc} {cells slots : Nat} {Q : State → Prop}
variable {X : Xc} {σ σ' : St} {cc : ByteArray} {nL : Nat} {own : String} {pc : Nat} {ls : Array Slot} {rest : List Value} {o : Option Int32}
theorem OkL.of {y : MethodName} {fr lo : Nat} {av : List Value} {r : Int32} {hh : List (Nat × Nat × Nat × Nat)} (hy : plainName y.cls = true) (hn : (lg_sl av).length ≤ nL) (hcw : Cond.codeWith y cc nL (some .int) hh ∈ GW)
    (body : ∀ (p : Program) (e : Env) (s : State) (m : MethodId) (args : Array Value) (below : List Frame) (meth : Method) (c : Code), Cx p s m args c X cc nL y.cls → meth.sig.returnType = some .int → meth.locks = false → c.exceptionTable.toList = tableOf hh → At X σ s.heap s.heap [] → ∀ ls : Array Slot, lv_has ls nL (lv_args 0 av) →
      W p l e (rmC fr lo 1 6) s m args below meth c s.heap [] 0 0 (MQ below (QV X (some (.int r)) σ') args s 1 6 (AX X)) (F0 m 0 ls [])) : OkL X l y cc nL hh fr lo av σ r σ' := by
  unfold OkL Met
  refine MetFree.of_bodyS (code := cc) (maxLocals := nL) (ret := some .int) hy ?_ ?_
  · intro args s m h hn
    obtain ⟨m9, meth, c, hn9, h1, h2, h3, h4, -, h5, h6, -⟩ := Cond.codeWith_spec (atoms_spec (ws := .codeWith y cc nL (some .int) hh :: GW) h _ List.mem_cons_self)
    cases hn.symm.trans hn9
    exact ⟨meth, c, h1, h2, h3, h4, h5, h6⟩
  · intro p e s m args below meth c s₁ B hml hv _
    have hh0 : s₁.heap = s.heap := by rw [B.state]; rfl
    have hts : ∀ w ∈ (.codeWith y cc nL (some .int) hh :: GW), w.before args s = true := atoms_spec (ws := .codeWith y cc nL (some .int) hh :: GW) B.pre
    have htab := vx_table (x := y) B (hts _ List.mem_cons_self)
    obtain ⟨rfl, hP, hK, hN, hI, hw, hE⟩ := hv
    have hl := lv_entry av hn
    have hb := body p e s m _ below meth c ⟨B.exec, B.bytes, hml, findClass_of_methodNamed B.named, fun w h => hts w (List.mem_cons_of_mem _ h), hK, hN, hI, hE⟩ B.returns B.notSynchronized htab ⟨hP, va_S.rf, hw⟩ _ hl
    have hb2 : W p l e (rmC fr lo 1 6) s m av.toArray below meth c s.heap [] 0 0 (MQ below (QV X (some (.int r)) σ') av.toArray s 1 6 (AX X)) (entryFrame m av.toArray nL) := by
      rw [lg_entry_eq]
      exact hb
    obtain ⟨t, a1, o1, b1, b2, b3⟩ := hb2 s₁ hh0 (Stand.of_body B)
    exact ⟨t, o1, a1, b1, b2, ⟨b3.1, b3.2⟩⟩
theorem r_backX {st0 : List Value} {a : Array Value} (h : At X σ s.heap H locs) (hr : vx_Run p l e R s m args below meth c H locs 0 0 1 6 (F0 m pc ls st0) rest (QX X o σ' a) (XX X o σ') (AX X))
    (kx : ∀ (q9 : Addr) (ce : Cell) (H1 : Heap) (locs1 : List Loc), o = none → At X σ' s.heap H1 locs1 → H1[q9]? = some ce → ce.vm = .none → s.vm.findClass nseC = some ce.cls → vx_W p l e R s m args below meth c H1 locs1 1 6 Q (F0 m pc ls rest) q9)
    (kk : ∀ (r : Int32) (H1 : Heap) (locs1 : List Loc), o = some r → At X σ' s.heap H1 locs1 → W p l e R s m args below meth c H1 locs1 1 6 Q (F0 m (pc + 3) ls (.int r :: rest))) : W p l e R s m args below meth c H locs 0 0 Q (F0 m pc ls st0) := by
  have hS := h.2.1
  intro T hT Y
  rcases hr T hT Y with ⟨v, st₀, t, T', L, h0, X', hL, e1, e2, ⟨⟨r, ho, hv⟩, hP, hw, hz, hk⟩, st⟩ | ⟨q, st₀, t, T', L, E, ce, h0, X', hL, e1, e2, ⟨⟨hE, ho⟩, hP, hw, hz, hk⟩, hce, hcv, hcl, st⟩
  · cases hv
    rw [h0] at hz hk
    obtain ⟨t2, a1, b1⟩ := kk r T'.heap (locs ++ L) ho ⟨by rw [e1]; exact hP, ⟨Nat.le_trans hS.1 (by rw [e1]; exact hz), fun q h1 h2 => by rw [e1, hk q (Nat.lt_of_lt_of_le h1 hS.1) h2]; exact hS.2.1 q h1 h2, fun q hq => by
        rcases List.mem_append.mp hq with h | h
        · exact hS.2.2 q h
        · exact hL q h⟩, hw⟩ T' rfl X'
    exact ⟨t2, st t2 a1, b1⟩
  · subst hE
    rw [h0] at hz hk
    obtain ⟨t2, a1, b1⟩ := kx q ce T'.heap (locs ++ L) ho ⟨by rw [e1]; exact hP, ⟨Nat.le_trans hS.1 (by rw [e1]; exact hz), fun q h1 h2 => by rw [e1, hk q (Nat.lt_of_lt_of_le h1 hS.1) h2]; exact hS.2.1 q h1 h2, fun q hq => by
        rcases List.mem_append.mp hq with h | h
        · exact hS.2.2 q h
        · exact hL q h⟩, hw⟩ (by rw [e1]; exact hce) hcv hcl T' rfl X'
    exact ⟨t2, st.trans a1, b1⟩
theorem r_last {x : Int64} (C : Cx p s m args c X cc nL own) (h : At X σ H0 H locs) (hdg : decode cc pc = .ok (.lastore, 1)) (e9 : σ' = upL σ 57 x)
    (kk : ∀ (H1 : Heap) (locs1 : List Loc), At X σ' H0 H1 locs1 → W p l e R s m args below meth c H1 locs1 cells slots Q (F0 m (pc + 1) ls rest)) : W p l e R s m args below meth c H locs cells slots Q (F0 m pc ls (.long x :: .int 0 :: .ref (X.2.1 57) :: rest)) := by
  subst e9
  have he := ws_get (X := X) (σ := σ) (k := 57) (by decide)
  rw [cel_arr l_57] at he
  refine va_last C.1 C.2.1 C.2.2.2.2.2.1 h.1 (ws_D σ C.2.2.2.2.2.2.2.1) h.2.1 57 3 he rfl (by unfold vp_in; decide) hdg (fun H1 locs1 hP _ hS => ?_)
  have e1 : cel X (upL σ 57 x) 57 = .inl (X.2.2 3, 1, .inr (.inl (vp_updL (fun j => if j = 0 then σ.2.1 57 else 0) (0 : Int32).toNatClampNeg x))) := by
    rw [cel_arr l_57]
    show Sum.inl (X.2.2 3, 1, Sum.inr (Sum.inl (fun j => if j = 0 then (upL σ 57 x).2.1 57 else 0))) = _
    have e2 : (fun j => if j = 0 then (upL σ 57 x).2.1 57 else 0) = vp_updL (fun j => if j = 0 then σ.2.1 57 else 0) (0 : Int32).toNatClampNeg x := by
      funext j
      by_cases hj : j = 0
      · simp [hj, upL, vp_updL]
      · simp [hj, vp_updL]
    rw [e2]
  rw [ws_set (by decide) e1 (fun _ hq => cel_upL_ne hq)] at hP
  exact kk H1 locs1 ⟨hP, hS, h.2.2⟩
end LAWM
/-- what the helpers leave -/
def oR (o : Option Int32) : Int32 := match o with
  | none => 1
  | some _ => 0
def oS (o : Option Int32) (σ : St) : St := match o with
  | none => σ
  | some x => upL σ 57 x.toInt64
theorem cast_self {args : Array Value} {s : State} {E : String} {ce : ClassId} (h : s.vm.findClass E = some ce) : (Cond.castable E E).before args s = true := by
  simp [Cond.before, Cond.holds, Cond.value, h, va_asg]
set_option maxRecDepth 100000 in
set_option maxHeartbeats 4000000 in
theorem ok_L_move (X : Xc) (l : Launch) (hl0 : l.stackTraces = false) (σ : St) (a1 a2 : Int32) (o : Option Int32) (h : f_X8_move σ a1 a2 = some o) : OkL X l yL_move cL_move 5 [(0, 10, 13, 13)] 7 112 [.ref (X.2.1 0), .int a1, .int a2, .ref (X.2.1 57)] σ (oR o) (oS o σ) := by
  refine OkL.of (by decide) (Nat.le_of_ble_eq_true rfl) gw_911 ?_
  intro p e s m args below meth c C hr hlk htab hw ls hl
  have C : Cx p s m args c X cL_move 5 "RunningCountLaw" := C
  have hl : lv_has ls 5 [(0, .ref (X.2.1 0)), (1, .int a1), (2, .int a2), (3, .ref (X.2.1 57))] := hl
  have hts := C.2.2.2.2.1
  refine lv_aload_n C.1 C.2.1 dL_move_0 rfl (lv_at hl 3 rfl) ?_
  refine lv_iconst (v := 0) C.1 C.2.1 dL_move_1 (by decide) ?_
  refine lv_aload_n C.1 C.2.1 dL_move_2 rfl (lv_at hl 0 rfl) ?_
  refine lv_iload_n C.1 C.2.1 dL_move_3 rfl (lv_at hl 1 rfl) ?_
  refine lv_iload_n C.1 C.2.1 dL_move_4 rfl (lv_at hl 2 rfl) ?_
  have he := ws_get (X := X) (σ := σ) (k := 0) (by decide)
  rw [cel_obj l_0] at he
  refine r_backX hw (vx_runV (Ts := GW) (As := [.int a1, .int a2]) (rest := [.int 0, .ref (X.2.1 57)]) ⟨C.1, C.2.1, C.2.2.1, C.2.2.2.1, hts⟩ (ok_X8_move X l hl0 σ a1 a2 o h) ⟨callB_of 2 hts (gw_tbl gw_916) rfl rfl rfl (hts _ gw_114) (hts _ gw_913) pd_X8_move ⟨Nat.le_of_ble_eq_true rfl, Nat.le_of_ble_eq_true rfl⟩, hts _ gw_914, hts _ gw_915⟩ ⟨pw_blind, va_recv C.2.2.2.2.2.1 hw.1 vc_8 he, pw_at C hw⟩ rfl rfl hl.1 rfl (lv_room (Nat.le_of_ble_eq_true rfl)) dL_move_5 ⟨by decide, by decide⟩) (fun q9 ce H locs ho hw hce hcv hcl => ?_) (fun r H locs ho hw => ?_)
  · subst ho
    refine vx_catch (own := "RunningCountLaw") (name := nseC) (E := nseC) C.2.2.2.1 [] _ [] htab (fun z hz => nomatch hz) rfl (by decide) (hts _ gw_912) (cast_self hcl) hce hcv hcl ?_
    refine lv_astore (lv' := [(4, .ref q9), (0, .ref (X.2.1 0)), (1, .int a1), (2, .int a2), (3, .ref (X.2.1 57))]) C.1 C.2.1 dL_move_13 hl (by decide) rfl (fun ls hl => ?_)
    refine lv_iconst (v := 1) C.1 C.2.1 dL_move_15 (by decide) ?_
    exact W.iret C.1 C.2.1 hr (fun t ht _ => at_end hw t ht) hw.2.1.2.2 dL_move_16 hlk
  · subst ho
    refine lv_i2l (v := r.toInt64) C.1 C.2.1 dL_move_8 rfl ?_
    refine r_last C hw dL_move_9 rfl (fun H locs hw => ?_)
    refine lv_goto (tgt := 17) C.1 C.2.1 dL_move_10 (by decide) ?_
    refine lv_iconst (v := 0) C.1 C.2.1 dL_move_17 (by decide) ?_
    exact W.iret C.1 C.2.1 hr (fun t ht _ => at_end hw t ht) hw.2.1.2.2 dL_move_18 hlk
set_option maxRecDepth 100000 in
set_option maxHeartbeats 4000000 in
theorem ok_L_count (X : Xc) (l : Launch) (hl0 : l.stackTraces = false) (σ : St) (a1 a2 : Int32) (o : Option Int32) (σ1 : St) (h : f_X8_count σ a1 a2 = some (o, σ1)) : OkL X l yL_count cL_count 5 [(0, 10, 13, 13)] 7 141 [.ref (X.2.1 0), .int a1, .int a2, .ref (X.2.1 57)] σ (oR o) (oS o σ1) := by
  refine OkL.of (by decide) (Nat.le_of_ble_eq_true rfl) gw_985 ?_
  intro p e s m args below meth c C hr hlk htab hw ls hl
  have C : Cx p s m args c X cL_count 5 "RunningCountLaw" := C
  have hl : lv_has ls 5 [(0, .ref (X.2.1 0)), (1, .int a1), (2, .int a2), (3, .ref (X.2.1 57))] := hl
  have hts := C.2.2.2.2.1
  refine lv_aload_n C.1 C.2.1 dL_count_0 rfl (lv_at hl 3 rfl) ?_
  refine lv_iconst (v := 0) C.1 C.2.1 dL_count_1 (by decide) ?_
  refine lv_aload_n C.1 C.2.1 dL_count_2 rfl (lv_at hl 0 rfl) ?_
  refine lv_iload_n C.1 C.2.1 dL_count_3 rfl (lv_at hl 1 rfl) ?_
  refine lv_iload_n C.1 C.2.1 dL_count_4 rfl (lv_at hl 2 rfl) ?_
  have he := ws_get (X := X) (σ := σ) (k := 0) (by decide)
  rw [cel_obj l_0] at he
  refine r_backX hw (vx_runV (Ts := GW) (As := [.int a1, .int a2]) (rest := [.int 0, .ref (X.2.1 57)]) ⟨C.1, C.2.1, C.2.2.1, C.2.2.2.1, hts⟩ (ok_X8_count X l hl0 σ a1 a2 o σ1 h) ⟨callB_of 2 hts (gw_tbl gw_989) rfl rfl rfl (hts _ gw_114) (hts _ gw_986) pd_X8_count ⟨Nat.le_of_ble_eq_true rfl, Nat.le_of_ble_eq_true rfl⟩, hts _ gw_987, hts _ gw_988⟩ ⟨pw_blind, va_recv C.2.2.2.2.2.1 hw.1 vc_8 he, pw_at C hw⟩ rfl rfl hl.1 rfl (lv_room (Nat.le_of_ble_eq_true rfl)) dL_count_5 ⟨by decide, by decide⟩) (fun q9 ce H locs ho hw hce hcv hcl => ?_) (fun r H locs ho hw => ?_)
  · subst ho
    refine vx_catch (own := "RunningCountLaw") (name := nseC) (E := nseC) C.2.2.2.1 [] _ [] htab (fun z hz => nomatch hz) rfl (by decide) (hts _ gw_912) (cast_self hcl) hce hcv hcl ?_
    refine lv_astore (lv' := [(4, .ref q9), (0, .ref (X.2.1 0)), (1, .int a1), (2, .int a2), (3, .ref (X.2.1 57))]) C.1 C.2.1 dL_count_13 hl (by decide) rfl (fun ls hl => ?_)
    refine lv_iconst (v := 1) C.1 C.2.1 dL_count_15 (by decide) ?_
    exact W.iret C.1 C.2.1 hr (fun t ht _ => at_end hw t ht) hw.2.1.2.2 dL_count_16 hlk
  · subst ho
    refine lv_i2l (v := r.toInt64) C.1 C.2.1 dL_count_8 rfl ?_
    refine r_last C hw dL_count_9 rfl (fun H locs hw => ?_)
    refine lv_goto (tgt := 17) C.1 C.2.1 dL_count_10 (by decide) ?_
    refine lv_iconst (v := 0) C.1 C.2.1 dL_count_17 (by decide) ?_
    exact W.iret C.1 C.2.1 hr (fun t ht _ => at_end hw t ht) hw.2.1.2.2 dL_count_18 hlk
