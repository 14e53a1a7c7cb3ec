def R_law : String := "RunningCountLaw"
def lw_P (b : Addr) (xs : List Int32) (args : Array Value) (s : State) : Prop := args = #[.ref b] ∧ s.IntsAt b xs ∧ xs.length ≤ 3072 ∧ (Jvm.Cond.and given_1 narrow_1).before args s = true
/-- what a walk over the start with the record d0 says of its end, said of the start itself -/
theorem lw_closed {s t : State} {o : Outcome} {d0 : Drawn} {L : List Loc} {k n : Nat} (hd0 : s.drawn.sameBut d0 lw_cs) (hv : ∃ v, o = .returned v) (hW : (s.setDrawn d0).WarmedH t.vm) (hs : (s.setDrawn d0).sameButNew ({ t with vm := s.vm } : State) L k n) : State.butDraws s t lw_cs (fun t1 => Framed s o t1 L k n) := by
  have h2 : t.drawn = d0 := congrArg State.drawn hs.1
  refine ⟨⟨hv, hW, State.sameButNew.setDrawn hs s.drawn⟩, ?_, by decide⟩
  rw [h2]
  exact hd0
def lw_Q (_ : Array Value) (s : State) (o : Outcome) (t : State) : Prop := o = .returned (some (.int 1)) ∧ State.butDraws s t lw_cs (fun t1 => Framed s o t1 [] 601024 7293034)
def lw_Z (below : List Frame) (a : Array Value) (s : State) : State → Prop := fun t => ∃ o, t.status = .running ∧ Ended t below o ∧ lw_Q a s o t
/-- the law's own end, with 1 on the stack, nothing written that was there before, its room as the claim has it; d0: the record of draws at this point (at the entry s.drawn: begin with 'refine W.base ?_' and 'have hd0 := Drawn.sameBut.refl s.drawn lw_cs') -/
theorem lw_ret {p : Program} {l : Launch} {e : Env} {s : State} {m : MethodId} {below : List Frame} {meth : Method} {c : Code} {b : Nat} {d0 : Drawn} (hd0 : s.drawn.sameBut d0 lw_cs) (hx : p.tables.exec = Jvm.exec) (hb : c.code = code) (hr : meth.sig.returnType = ret) (hlocks : meth.locks = false) {pc : Nat} {H : Heap} {ls : Array Slot} (hdg : decode code pc = .ok (.ireturn, 1)) : W p l e room_1 (s.setDrawn d0) m #[Value.ref b] below meth c H [] 601024 7293034 (lw_Z below #[Value.ref b] s) (F0 m pc ls [.int 1]) := by
  intro T hT X
  obtain ⟨fs, hret, hrun, hended, hW, hframe⟩ := X.leave (v := some (.int 1)) (hlocks := hlocks) (fun h => by rw [hr] at h; cases h)
  have hmeth' : T.vm.method? m = some meth := X.method'
  refine ⟨T.setFrames fs, ?_, .returned (some (.int 1)), hrun, hended, rfl, lw_closed hd0 ⟨_, rfl⟩ hW hframe⟩
  jvm_step X.here [X.here.top, hx, hb, hdg, hmeth', hr, ret, narrow_b1]
  (try refine ⟨rfl, ?_⟩); (try refine ⟨rfl, ?_⟩)
  first | (intro acts; rw [hret _ acts rfl rfl rfl]) | rw [hret _ _ rfl rfl rfl]
  exact Steps.refl _
/-- what holds at the law's entry: the machine, the code, the tables' words (any of lw_tbl by 'hts w (by decide +kernel)'), the script of L ints xs at the cell b, what the Statement gives of the start (any of its parts by flat_of_before) -/
def lw_At (p : Program) (s : State) (m : MethodId) (meth : Method) (c : Code) (b L : Nat) (xs : Nat → Int32) : Prop :=
  p.tables.exec = Jvm.exec ∧ c.code = code ∧ meth.sig.returnType = ret ∧ c.maxLocals = 7 ∧ s.vm.findClass R_law = some m.cls ∧ (∀ w ∈ lw_tbl, w.before #[Value.ref b] s = true) ∧ va_X b L xs s s.heap ∧ b < s.heap.size ∧ meth.locks = false ∧ (Jvm.Cond.and given_1 narrow_1).before #[Value.ref b] s = true
section LAW
variable {p : Program} {l : Launch} {e : Env} {R : Room} {s : State} {m : MethodId} {args : Array Value} {below : List Frame} {meth : Method} {c : Code} {H H0 : Heap} {locs : List Loc} {cells slots : Nat} {Q : State → Prop}
variable {X : Xc} {σ σ' : St} {cc : ByteArray} {nL : Nat} {own : String} {pc : Nat} {ls : Array Slot} {rest : List Value} {b L : Nat} {xs : Nat → Int32}
def A0 (s : State) : Nat → Prop := fun q => s.heap.size ≤ q
/-- what holds in the law's walk all along -/
def CxL (p : Program) (s : State) (m : MethodId) (args : Array Value) (c : Code) (X : Xc) (cc : ByteArray) (nL : Nat) (own : String) (b L : Nat) (xs : Nat → Int32) : Prop :=
  p.tables.exec = Jvm.exec ∧ c.code = cc ∧ c.maxLocals = nL ∧ s.vm.findClass own = some m.cls ∧ (∀ w ∈ GW, w.before args s = true) ∧ va_K X.1 vwCl (tyX X) s ∧ nwOk s ∧ inj X ∧ envA X (A0 s) s s.heap ∧ (∀ k, k < 58 → s.heap.size ≤ X.2.1 k) ∧ va_X b L xs s s.heap ∧ b < s.heap.size
def AtL (X : Xc) (σ : St) (s : State) (H : Heap) (locs : List Loc) : Prop := va_P X.1 vwCl (wsX X σ) H ∧ va_S (A0 s) s.heap H locs ∧ wf σ
theorem ax_a0 (C : CxL p s m args c X cc nL own b L xs) : ∀ q, AX X q → A0 s q := fun q ⟨k, hk, e⟩ => by rw [e]; exact C.2.2.2.2.2.2.2.2.2.1 k hk
theorem pw_atL (C : CxL p s m args c X cc nL own b L xs) (h : AtL X σ s H locs) {av : List Value} : ∀ U : State, U.heap = H → s.WarmedH U.vm → va_Pc av (PW X σ) av.toArray U := fun U hU hW => ⟨rfl, by rw [hU]; exact h.1, va_K.moved hW.alike C.2.2.2.2.2.1, nwOk.warm hW C.2.2.2.2.2.2.1, C.2.2.2.2.2.2.2.1, h.2.2, envA.narrow (ax_a0 C) (envA.warm hW (by rw [hU]; exact h.2.1.2.1) C.2.2.2.2.2.2.2.2.1)⟩
theorem r_backL {mc ms : Nat} {v : Option Value} {st0 : List Value} {a : Array Value} (C : CxL p s m args c X cc nL own b L xs) (h : AtL X σ s H locs) (hr : va_Run p l e R s m args below meth c H locs cells slots mc ms (F0 m pc ls st0) rest (QV X v σ' a) (AX X))
    (kk : ∀ (H1 : Heap) (locs1 : List Loc), AtL X σ' s H1 locs1 → W p l e R s m args below meth c H1 locs1 (cells + mc) (slots + ms) Q (F0 m (pc + 3) ls (v.toList ++ rest))) : W p l e R s m args below meth c H locs cells slots Q (F0 m pc ls st0) := by
  intro T hT Y
  obtain ⟨v', st₀, t, T', L', h0, X', hL, e1, e2, ⟨hv, hP, hw, hz, hk⟩, st⟩ := hr T hT Y
  cases hv
  rw [h0] at hz hk
  have hS := h.2.1
  obtain ⟨t2, a1, b1⟩ := kk T'.heap (locs ++ L') ⟨by rw [e1]; exact hP, ⟨Nat.le_trans hS.1 (by rw [e1]; exact hz), fun q h1 h2 => by rw [e1, hk q (Nat.lt_of_lt_of_le h1 hS.1) (fun z => h2 (ax_a0 C q z))]; exact hS.2.1 q h1 h2, fun q hq => by
      rcases List.mem_append.mp hq with h | h
      · exact hS.2.2 q h
      · exact ax_a0 C _ (hL q h)⟩, hw⟩ T' rfl X'
  exact ⟨t2, st t2 a1, b1⟩
theorem r_callL {y : MethodName} {cY : ByteArray} {nY fr lo k ci idx : Nat} {cs : List Nat} {T : u_T} {N : Nat} {ret : Option FieldType} {As : List Value} {v : Option Value} (C : CxL p s m args c X cc nL own b L xs) (h : AtL X σ s H locs)
    (hM : Ok X l y cY nY ret fr lo (.ref (X.2.1 k) :: As) σ v σ') (hk : lay[k]? = some (.inl (ci, cs))) (hcl : vwCl[ci]? = some (y.cls, T, N)) (hcode : Cond.code y cY nY ret ∈ GW) (hlink : Cond.methodLink own idx y ∈ GW) (hinst : Cond.instanceMethod y ∈ GW) (hsel : Cond.selects y.cls y y ∈ GW) (hini : Cond.initialized y.cls ∈ GW) (hls : ls.size = nL)
    (hd : y.cls ≠ "java/lang/invoke/MethodHandle" ∧ y.cls ≠ "java/lang/invoke/VarHandle" ∧ (parseMethodDescriptor y.desc).map (fun d => d.parameters.length) = some As.length) (hR : fr + 1 ≤ R.frames ∧ 8 + (nY + 11) + lo ≤ R.locals) (hc : cells ≤ R.cells ∧ slots ≤ R.slots) (hrm : (rest.map fun v => v.category).sum ≤ 8) (hdg : decode cc pc = .ok (.invokevirtual idx, 3)) {st0 : List Value} (hst : st0 = As.reverse ++ .ref (X.2.1 k) :: rest)
    (kk : ∀ (H1 : Heap) (locs1 : List Loc), AtL X σ' s H1 locs1 → W p l e R s m args below meth c H1 locs1 cells slots Q (F0 m (pc + 3) ls (v.toList ++ rest))) : W p l e R s m args below meth c H locs cells slots Q (F0 m pc ls st0) := by
  have hts := C.2.2.2.2.1
  have he := ws_get (X := X) (σ := σ) (lay_lt hk)
  rw [cel_obj hk] at he
  exact r_backL C h (va_runV (Ts := GW) (rest := rest) ⟨C.1, C.2.1, C.2.2.1, C.2.2.2.1, hts⟩ hM ⟨callB_of As.length hts (gw_tbl hcode) rfl rfl rfl (hts _ hini) (hts _ hlink) hd hR, hts _ hinst, hts _ hsel⟩ ⟨pw_blind, va_recv C.2.2.2.2.2.1 h.1 hcl he, pw_atL C h⟩ rfl rfl hls hst (lv_room hrm) hdg hc) kk
theorem gw_tblW {y : MethodName} {bY : ByteArray} {ny : Nat} {ry : Option FieldType} {hh : List (Nat × Nat × Nat × Nat)} (h : Cond.codeWith y bY ny ry hh ∈ GW) : GoodIn GW (.codeWith y bY ny ry hh :: GW) := by
  intro w hw
  rcases List.mem_cons.mp hw with rfl | hw
  · exact ⟨h, gw_good h⟩
  · exact ⟨hw, gw_good hw⟩
theorem r_callLW {y : MethodName} {cY : ByteArray} {nY fr lo idx : Nat} {hh : List (Nat × Nat × Nat × Nat)} {As : List Value} {r : Int32} (C : CxL p s m args c X cc nL own b L xs) (h : AtL X σ s H locs)
    (hM : OkL X l y cY nY hh fr lo As σ r σ') (hcode : Cond.codeWith y cY nY (some .int) hh ∈ GW) (hlink : Cond.methodLink own idx y ∈ GW) (hstat : Cond.static y ∈ GW) (hini : Cond.initialized y.cls ∈ GW) (hls : ls.size = nL)
    (hd : y.cls ≠ "java/lang/invoke/MethodHandle" ∧ y.cls ≠ "java/lang/invoke/VarHandle" ∧ (parseMethodDescriptor y.desc).map (fun d => d.parameters.length) = some As.length) (hR : fr + 1 ≤ R.frames ∧ 8 + (nY + 11) + lo ≤ R.locals) (hc : cells + 1 ≤ R.cells ∧ slots + 6 ≤ R.slots) (hrm : (rest.map fun v => v.category).sum ≤ 8) (hdg : decode cc pc = .ok (.invokestatic idx, 3)) {st0 : List Value} (hst : st0 = As.reverse ++ rest)
    (kk : ∀ (H1 : Heap) (locs1 : List Loc), AtL X σ' s H1 locs1 → W p l e R s m args below meth c H1 locs1 (cells + 1) (slots + 6) Q (F0 m (pc + 3) ls (.int r :: rest))) : W p l e R s m args below meth c H locs cells slots Q (F0 m pc ls st0) := by
  have hts := C.2.2.2.2.1
  have hG : GoodIn GW (va_wsS own idx y (.codeWith y cY nY (some .int) hh :: GW)) := by
    intro w hw
    rcases List.mem_append.mp hw with h1 | h1
    · simp only [List.mem_cons, List.not_mem_nil, or_false] at h1
      rcases h1 with rfl | rfl | rfl
      · exact ⟨hlink, gw_good hlink⟩
      · exact ⟨hstat, gw_good hstat⟩
      · exact ⟨hini, gw_good hini⟩
    · exact gw_tblW hcode w h1
  exact r_backL C h (vx_runSW (Ts := GW) (rest := rest) ⟨C.1, C.2.1, C.2.2.1, C.2.2.2.1, hts⟩ hM (vx_cwSW As.length hts hG rfl rfl rfl hd hR) ⟨pw_blind, pw_atL C h⟩ rfl rfl hls hst (lv_room hrm) hdg hc) kk
theorem r_laldL (C : CxL p s m args c X cc nL own b L xs) (h : AtL X σ s H locs) (hdg : decode cc pc = .ok (.laload, 1)) (kk : W p l e R s m args below meth c H locs cells slots Q (F0 m (pc + 1) ls (.long (σ.2.1 57) :: rest))) : W p l e R s m args below meth c H locs cells slots Q (F0 m pc ls (.int 0 :: .ref (X.2.1 57) :: rest)) := by
  have he := ws_get (X := X) (σ := σ) (k := 57) (by decide)
  rw [cel_arr l_57] at he
  exact va_lald C.1 C.2.1 C.2.2.2.2.2.1 h.1 57 3 he rfl (by unfold vp_in; decide) hdg kk
theorem lw_more {L i : Nat} (hL : L ≤ 3072) (hi : i ≤ 3078) (h : ¬ Int32.ofNat L - 6 < nI i) : i + 6 ≤ L := by
  have h1 : (Int32.ofNat L - 6).toInt = (L : Int) - 6 := pk_sub_toInt (a := L) (b := 6) (by omega) (by decide)
  have h2 : (nI i).toInt = (i : Int) := nI_toInt (by omega)
  have h3 := Int32.not_lt.mp h
  have h4 := Int32.le_iff_toInt_le.mp h3
  rw [h1, h2] at h4
  omega
theorem lw_ix {L i k : Nat} (hL : L ≤ 3072) (h : i + 6 ≤ L) (hk : k < 6) {y : Int32} (hy : y = nI k) : vp_in (nI i + y) L := by
  subst hy
  rw [nI_add]
  exact vp_in_nI (by omega) (by omega)
end LAW
theorem pd_L_move : yL_move.cls ≠ "java/lang/invoke/MethodHandle" ∧ yL_move.cls ≠ "java/lang/invoke/VarHandle" ∧ (parseMethodDescriptor yL_move.desc).map (fun d => d.parameters.length) = some 4 := by decide +kernel
theorem pd_L_count : yL_count.cls ≠ "java/lang/invoke/MethodHandle" ∧ yL_count.cls ≠ "java/lang/invoke/VarHandle" ∧ (parseMethodDescriptor yL_count.desc).map (fun d => d.parameters.length) = some 4 := by decide +kernel
def S_feed (Inv : St → Prop) : Prop := ∀ σ : St, Inv σ → ∀ (a1 a2 a3 a4 a5 : Int32), ∃ (r : Int32) (σ1 σ2 : St), f_X8_feed σ a1 a2 a3 a4 a5 = some (r, σ1) ∧ f_X9_feed σ1 a1 a2 a3 a4 a5 = some (r, σ2) ∧ Inv σ2
def S_end (Inv : St → Prop) : Prop := ∀ σ : St, Inv σ → ∀ (a1 : Int32), ∃ (r : Bool) (σ1 σ2 : St), f_X8_end σ a1 = some (r, σ1) ∧ f_X9_end σ1 a1 = some (r, σ2) ∧ Inv σ2
def S_text (Inv : St → Prop) : Prop := ∀ σ : St, Inv σ → ∃ (r : Int32) (σ1 σ2 : St), f_X8_text σ = some (r, σ1) ∧ f_X9_text σ1 = some (r, σ2) ∧ Inv σ2
def S_fault (Inv : St → Prop) : Prop := ∀ σ : St, Inv σ → ∃ (σ2 : St), f_X9_fault σ = some (f_X8_fault σ, σ2) ∧ Inv σ2
def S_now (Inv : St → Prop) : Prop := ∀ σ : St, Inv σ → ∀ (a1 : Int32), ∃ (r : Int32) (σ2 : St), f_X8_now σ a1 = some r ∧ f_X9_now σ a1 = some (r, σ2) ∧ Inv σ2
def S_item (Inv : St → Prop) : Prop := ∀ σ : St, Inv σ → ∀ (a1 a2 : Int32), ∃ (r : Int32) (σ2 : St), f_X8_item σ a1 a2 = some r ∧ f_X9_item σ a1 a2 = some (r, σ2) ∧ Inv σ2
def S_move (Inv : St → Prop) : Prop := ∀ σ : St, Inv σ → ∀ (a1 a2 : Int32), ∃ (o : Option Int32) (b : Int32) (σ2 : St), f_X8_move σ a1 a2 = some o ∧ f_X9_move (oS o σ) a1 a2 = some (b, σ2) ∧ f_X9_thrown σ2 = oR o ∧ (∀ z, o = some z → z = b) ∧ (∀ z, o = some z → σ2.2.1 57 = z.toInt64) ∧ Inv σ2
def S_book (Inv : St → Prop) : Prop := ∀ σ : St, Inv σ → ∀ (a1 a2 a3 a4 : Int32), ∃ (r : Int32) (σ1 σ2 : St), f_X8_book σ a1 a2 a3 a4 = some (r, σ1) ∧ f_X9_book σ1 a1 a2 a3 a4 = some (r, σ2) ∧ Inv σ2
def S_transit (Inv : St → Prop) : Prop := ∀ σ : St, Inv σ → ∀ (a1 a2 a3 : Int32), ∃ (r : Int32) (σ2 : St), f_X8_transit σ a1 a2 a3 = some r ∧ f_X9_transit σ a1 a2 a3 = some (r, σ2) ∧ Inv σ2
def S_below (Inv : St → Prop) : Prop := ∀ σ : St, Inv σ → ∀ (a1 a2 : Int32), ∃ (r : Int32) (σ1 σ2 : St), f_X8_below σ a1 a2 = some (r, σ1) ∧ f_X9_below σ1 a1 a2 = some (r, σ2) ∧ Inv σ2
def S_count (Inv : St → Prop) : Prop := ∀ σ : St, Inv σ → ∀ (a1 a2 : Int32), ∃ (o : Option Int32) (σ1 : St) (b : Int32) (σ2 : St), f_X8_count σ a1 a2 = some (o, σ1) ∧ f_X9_count (oS o σ1) a1 a2 = some (b, σ2) ∧ f_X9_thrown σ2 = oR o ∧ (∀ z, o = some z → z = b) ∧ (∀ z, o = some z → σ2.2.1 57 = z.toInt64) ∧ Inv σ2
def S_difference (Inv : St → Prop) : Prop := ∀ σ : St, Inv σ → ∀ (a1 : Int32), ∃ (r : Int32) (σ1 σ2 : St), f_X8_difference σ a1 = some (r, σ1) ∧ f_X9_difference σ1 a1 = some (r, σ2) ∧ Inv σ2
def S_share (Inv : St → Prop) : Prop := ∀ σ : St, Inv σ → ∀ (a1 : Int32), ∃ (r : Int32) (σ1 σ2 : St), f_X8_share σ a1 = some (r, σ1) ∧ f_X9_share σ1 a1 = some (r, σ2) ∧ Inv σ2
def S_chosen (Inv : St → Prop) : Prop := ∀ σ : St, Inv σ → ∀ (a1 a2 : Int32), ∃ (r : Int32) (σ1 σ2 : St), f_X8_chosen σ a1 a2 = some (r, σ1) ∧ f_X9_chosen σ1 a1 a2 = some (r, σ2) ∧ Inv σ2
def S_due (Inv : St → Prop) : Prop := ∀ σ : St, Inv σ → ∃ (r : Int32) (σ1 σ2 : St), f_X8_due σ = some (r, σ1) ∧ f_X9_due σ1 = some (r, σ2) ∧ Inv σ2
def S_explained (Inv : St → Prop) : Prop := ∀ σ : St, Inv σ → ∀ (a1 a2 : Int32), ∃ (r : Int32) (σ1 σ2 : St), f_X8_explained σ a1 a2 = some (r, σ1) ∧ f_X9_explained σ1 a1 a2 = some (r, σ2) ∧ Inv σ2
def S_adjusted (Inv : St → Prop) : Prop := ∀ σ : St, Inv σ → ∀ (a1 a2 : Int32), ∃ (r : Int32) (σ2 : St), f_X8_adjusted σ a1 a2 = some r ∧ f_X9_adjusted σ a1 a2 = some (r, σ2) ∧ Inv σ2
def S_moves (Inv : St → Prop) : Prop := ∀ σ : St, Inv σ → ∀ (a1 a2 : Int32), ∃ (r : Int32) (σ1 σ2 : St), f_X8_moves σ a1 a2 = some (r, σ1) ∧ f_X9_moves σ1 a1 a2 = some (r, σ2) ∧ Inv σ2
def S_leg (Inv : St → Prop) : Prop := ∀ σ : St, Inv σ → ∀ (a1 a2 a3 a4 a5 : Int32), ∃ (r : Bool) (σ1 σ2 : St), f_X8_leg σ a1 a2 a3 a4 a5 = some (r, σ1) ∧ f_X9_leg_ σ1 a1 a2 a3 a4 a5 = some (r, σ2) ∧ Inv σ2
def S_narrow (Inv : St → Prop) : Prop := ∀ σ : St, Inv σ → ∀ (a1 a2 a3 a4 : Int32), ∃ (r : Int32) (σ1 σ2 : St), f_X8_narrow σ a1 a2 a3 a4 = some (r, σ1) ∧ f_X9_narrow σ1 a1 a2 a3 a4 = some (r, σ2) ∧ Inv σ2
def S_counts (Inv : St → Prop) : Prop := ∀ σ : St, Inv σ → ∀ (a1 a2 a3 a4 a5 : Int32), ∃ (r : Int32) (σ1 σ2 : St), f_X8_counts σ a1 a2 a3 a4 a5 = some (r, σ1) ∧ f_X9_counts σ1 a1 a2 a3 a4 a5 = some (r, σ2) ∧ Inv σ2
def S_post (Inv : St → Prop) : Prop := ∀ σ : St, Inv σ → ∀ (a1 a2 : Int32), ∃ (r : Int32) (σ1 σ2 : St), f_X8_post σ a1 a2 = some (r, σ1) ∧ f_X9_post σ1 a1 a2 = some (r, σ2) ∧ Inv σ2
def S_drop (Inv : St → Prop) : Prop := ∀ σ : St, Inv σ → ∀ (a1 : Int32), ∃ (r : Bool) (σ1 σ2 : St), f_X8_drop σ a1 = some (r, σ1) ∧ f_X9_drop σ1 a1 = some (r, σ2) ∧ Inv σ2
def S_undo (Inv : St → Prop) : Prop := ∀ σ : St, Inv σ → ∃ (r : Int32) (σ1 σ2 : St), f_X8_undo σ = some (r, σ1) ∧ f_X9_undo σ1 = some (r, σ2) ∧ Inv σ2
def StepsAll (Inv : St → Prop) : Prop := S_feed Inv ∧ S_end Inv ∧ S_text Inv ∧ S_fault Inv ∧ S_now Inv ∧ S_item Inv ∧ S_move Inv ∧ S_book Inv ∧ S_transit Inv ∧ S_below Inv ∧ S_count Inv ∧ S_difference Inv ∧ S_share Inv ∧ S_chosen Inv ∧ S_due Inv ∧ S_explained Inv ∧ S_adjusted Inv ∧ S_moves Inv ∧ S_leg Inv ∧ S_narrow Inv ∧ S_counts Inv ∧ S_post Inv ∧ S_drop Inv ∧ S_undo Inv
