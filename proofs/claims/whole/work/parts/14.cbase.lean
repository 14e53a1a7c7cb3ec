/-! CONSTRUCTORS: worlds that grow. D: the classes, cA: the array classes -/
section CTOR
variable {p : Program} {l : Launch} {e : Env} {R : Room} {s : State} {m : MethodId} {args : Array Value} {below : List Frame} {meth : Method} {c : Code} {H H0 : Heap} {locs : List Loc} {cells slots : Nat} {Q : State → Prop}
variable {D : va_G} {cA : Nat → ClassId} {cc : ByteArray} {nL : Nat} {own : String} {pc : Nat} {ls : Array Slot} {rest : List Value} {ws : va_W} {A : Nat → Prop}
def ty5 (cA : Nat → ClassId) : List (ClassId × FieldType) := [(cA 0, .byte), (cA 1, .int), (cA 2, .boolean), (cA 3, .long), (cA 4, .object "RunningCount$Act")]
def CxC (p : Program) (s : State) (m : MethodId) (args : Array Value) (c : Code) (D : va_G) (cA : Nat → ClassId) (cc : ByteArray) (nL : Nat) (own : String) : Prop :=
  p.tables.exec = Jvm.exec ∧ c.code = cc ∧ c.maxLocals = nL ∧ s.vm.findClass own = some m.cls ∧ (∀ w ∈ GW, w.before args s = true) ∧ va_K D vwCl (ty5 cA) s ∧ nwOk s ∧ va_AO "RunningCount$Act" s
def PC (D : va_G) (cA : Nat → ClassId) (ws : va_W) (sz : Nat) (U : State) : Prop := U.heap.size = sz ∧ va_P D vwCl ws U.heap ∧ va_K D vwCl (ty5 cA) U ∧ nwOk U ∧ va_AO "RunningCount$Act" U ∧ va_D (fun _ => True) ws
def QC (D : va_G) (Lst : (Nat → Nat) → va_W) (A1 : Nat → Prop) : Array Value → State → Outcome → State → Prop := fun _ st oc t => oc = .returned none ∧ (∃ q : Nat → Nat, va_P D vwCl (Lst q) t.heap ∧ va_D A1 (Lst q)) ∧ va_F A1 st t
def OkC (D : va_G) (cA : Nat → ClassId) (l : Launch) (y : MethodName) (cc : ByteArray) (nL fr lo mc ms : Nat) (h0 : Nat) (e0 : va_E) (sz : Nat) (Lst : (Nat → Nat) → va_W) : Prop :=
  Met l y (.code y cc nL none :: GW) { frames := fr, cells := mc, slots := ms, locals := lo } (va_Pc [.ref h0] (PC D cA [(h0, e0)] sz)) (QC D Lst (va_A [(h0, e0)] sz)) mc ms (va_A [(h0, e0)] sz)
abbrev rmC (fr lo mc ms : Nat) : Room := { frames := fr, cells := mc, slots := ms, locals := lo }
theorem OkC.of {y : MethodName} {fr lo mc ms h0 sz : Nat} {e0 : va_E} {Lst : (Nat → Nat) → va_W} (hy : plainName y.cls = true) (hn : 1 ≤ nL)
    (body : ∀ (p : Program) (e : Env) (s : State) (m : MethodId) (args : Array Value) (below : List Frame) (meth : Method) (c : Code) (A : Nat → Prop), CxC p s m args c D cA cc nL y.cls → meth.sig.returnType = none → meth.locks = false → meth.name = y.name → (∀ q : Nat, s.heap.size ≤ q → A q) → A = va_A [(h0, e0)] sz → va_P D vwCl [(h0, e0)] s.heap → va_D A [(h0, e0)] → va_S A s.heap s.heap [] → ∀ ls : Array Slot, lv_has ls nL [(0, .ref h0)] →
      W p l e (rmC fr lo mc ms) s m args below meth c s.heap [] 0 0 (MQ below (QC D Lst A) args s mc ms A) (F0 m 0 ls [])) : OkC D cA l y cc nL fr lo mc ms h0 e0 sz Lst := by
  refine Met.ofW (cc := cc) (maxL := nL) (ret := none) hy rfl ?_
  intro p e s m args below meth c s₁ B hml hv
  obtain ⟨rfl, hsz, hP, hK, hN, hO, hD0⟩ := hv
  have hl := lv_entry ([.ref h0] : List Value) (n := nL) (by simpa [lg_sl, Value.category] using hn)
  rw [lg_entry_eq]
  generalize (lg_sl ([.ref h0] : List Value) ++ List.replicate (nL - (lg_sl ([.ref h0] : List Value)).length) Slot.unset).toArray = ls at hl ⊢
  subst hsz
  exact body p e s m _ below meth c (va_A [(h0, e0)] s.heap.size) ⟨B.exec, B.bytes, hml, findClass_of_methodNamed B.named, fun w h => atoms_spec (ws := .code y cc nL none :: GW) B.pre w (List.mem_cons_of_mem _ h), hK, hN, hO⟩ B.returns B.notSynchronized (name_of_methodNamed B.named B.method).1 (fun q h => Or.inr h) rfl hP (hD0.self) va_S.rf ls hl
theorem c_vret {mc ms : Nat} {Lst : (Nat → Nat) → va_W} (C : CxC p s m args c D cA cc nL own) (hr : meth.sig.returnType = none) (hlk : meth.locks = false) (q : Nat → Nat) (hP : va_P D vwCl (Lst q) H) (hD : va_D A (Lst q)) (hS : va_S A s.heap H locs) (hc : cells = mc) (hs : slots = ms) (hdg : decode cc pc = .ok (.return_, 1)) : W p l e R s m args below meth c H locs cells slots (MQ below (QC D Lst A) args s mc ms A) (F0 m pc ls []) := by
  subst hc; subst hs
  exact W.vret C.1 C.2.1 hr (fun t ht _ => ⟨rfl, ⟨q, by rw [ht]; exact hP, hD⟩, hS.F ht⟩) hS.2.2 hdg hlk
theorem c_newa {atype : ArrayType} {k : Nat} {ty : FieldType} (C : CxC p s m args c D cA cc nL own) (hty : newarray.typeOf atype = ty) (hk : (ty5 cA)[k]? = some (cA k, ty)) (hns : ∀ C0, ty ≠ .object C0) (harr : Cond.arrayClass ty ∈ GW) (hP : va_P D vwCl ws H) (hD : va_D A ws) (hS : va_S A s.heap H locs) (hA : ∀ q, s.heap.size ≤ q → A q)
    {n : Int32} {N' : Nat} {a0 : vp_A} (ha : ∀ cA : ClassId, vp_cell cA a0 = arrV cA N' (fun _ => defaultValue ty)) (hn : ¬ n < 0) (hN : n.toNatClampNeg = N') (hbytes : N' * componentBytes ty ≤ 536870912) (hcells : cells + 1 ≤ R.cells) (hslots : slots + N' ≤ R.slots) (hdg : decode cc pc = .ok (.newarray atype, 2))
    (kk : ∀ (q : Nat) (H1 : Heap), va_P D vwCl (ws ++ [(q, .inl (cA k, a0))]) H1 → va_D A (ws ++ [(q, .inl (cA k, a0))]) → va_S A s.heap H1 locs → W p l e R s m args below meth c H1 locs (cells + 1) (slots + N') Q (F0 m (pc + 2) ls (.ref q :: rest))) : W p l e R s m args below meth c H locs cells slots Q (F0 m pc ls (.int n :: rest)) := by
  subst hty
  refine va_newa C.1 C.2.1 (C.2.2.2.2.1 _ harr) rfl C.2.2.2.2.2.1 hP hD hS hA ha hn hN hbytes hcells hslots hdg (fun q cB H1 hK1 hP1 hD1 hS1 => ?_)
  have e1 := (C.2.2.2.2.2.1.2 k _ hk).2
  have e2 := (hK1.2 (ty5 cA).length (cB, newarray.typeOf atype) (by rw [List.getElem?_append_right (Nat.le_refl _)]; simp)).2
  have : cB = cA k := by
    cases h : newarray.typeOf atype with
    | object C0 => exact absurd h (hns C0)
    | _ =>
      rw [h] at e1 e2
      exact Option.some.inj (Eq.trans (Eq.symm e2) e1)
  subst this
  exact kk q H1 hP1 hD1 hS1
theorem c_newq (C : CxC p s m args c D cA cc nL own) {index : Nat} (hclink : Cond.classLink own index "RunningCount$Act" ∈ GW) (hP : va_P D vwCl ws H) (hD : va_D A ws) (hS : va_S A s.heap H locs) (hA : ∀ q, s.heap.size ≤ q → A q)
    {n : Int32} {N' : Nat} (hn : ¬ n < 0) (hN : n.toNatClampNeg = N') (hbytes : N' * 4 ≤ 536870912) (hcells : cells + 1 ≤ R.cells) (hslots : slots + N' ≤ R.slots) (hdg : decode cc pc = .ok (.anewarray index, 3))
    (kk : ∀ (q : Nat) (H1 : Heap), va_P D vwCl (ws ++ [(q, .inl (cA 4, N', .inr (.inr (.inr (.inr (fun _ => none))))))]) H1 → va_D A (ws ++ [(q, .inl (cA 4, N', .inr (.inr (.inr (.inr (fun _ => none))))))]) → va_S A s.heap H1 locs → W p l e R s m args below meth c H1 locs (cells + 1) (slots + N') Q (F0 m (pc + 3) ls (.ref q :: rest))) : W p l e R s m args below meth c H locs cells slots Q (F0 m pc ls (.int n :: rest)) := by
  refine va_newq C.1 C.2.1 C.2.2.2.1 (C.2.2.2.2.1 _ hclink) C.2.2.2.2.2.2.2 C.2.2.2.2.2.1 hP hD hS hA hn hN hbytes hcells hslots hdg (fun q cB H1 hK1 hP1 hD1 hS1 => ?_)
  obtain ⟨k1, p1, -, -, -, e1⟩ := (C.2.2.2.2.2.1.2 4 _ rfl).2
  obtain ⟨k2, p2, -, -, -, e2⟩ := (hK1.2 5 (cB, .object "RunningCount$Act") rfl).2
  have : cB = cA 4 := Option.some.inj (Eq.trans (Eq.symm e2) e1)
  subst this
  exact kk q H1 hP1 hD1 hS1
theorem c_back {ws wr : va_W} {h0 : Nat} {e0 : va_E} {mc ms : Nat} {Lst : (Nat → Nat) → va_W} {st0 : List Value} {a : Array Value} (hP : va_P D vwCl ws H) (hD : va_D A ws) (hS : va_S A s.heap H locs) (hA : ∀ q, s.heap.size ≤ q → A q) (k : Nat) (isR : List Nat) (hC : [k].map (fun i => ws[i]?) = [(h0, e0)].map some) (hR : isR.map (fun i => ws[i]?) = wr.map some) (hn : va_nd isR = true) (hdis : ∀ i ∈ isR, i ∉ [k])
    (hr : va_Run p l e R s m args below meth c H locs cells slots mc ms (F0 m pc ls st0) rest (QC D Lst (va_A [(h0, e0)] H.size) a) (va_A [(h0, e0)] H.size))
    (kk : ∀ (q : Nat → Nat) (H1 : Heap) (locs1 : List Loc), va_P D vwCl (wr ++ Lst q) H1 → va_D A (wr ++ Lst q) → va_S A s.heap H1 locs1 → W p l e R s m args below meth c H1 locs1 (cells + mc) (slots + ms) Q (F0 m (pc + 3) ls rest)) : W p l e R s m args below meth c H locs cells slots Q (F0 m pc ls st0) := by
  have hF := va_free (wc := [(h0, e0)]) hD hS hA [k] hC
  intro T hT Y
  obtain ⟨v', st₀, t, T', L, h0', X', hL, e1, e2, ⟨hv, ⟨q, hP1, hD1⟩, hz, hk⟩, st⟩ := hr T hT Y
  cases hv
  rw [h0'] at hz hk
  rw [← e1] at hz hk hP1
  obtain ⟨hP2, hD2⟩ := va_join (wr := wr) (w1 := Lst q) hP hD [k] isR hC hR hn hdis hk hF hP1 hD1
  obtain ⟨t2, a1, b1⟩ := kk q T'.heap (locs ++ L) hP2 hD2 ⟨Nat.le_trans hS.1 hz, fun q h1 h2 => by rw [hk q (Nat.lt_of_lt_of_le h1 hS.1) (fun z => h2 (hF q z))]; exact hS.2.1 q h1 h2, fun q hq => by
      rcases List.mem_append.mp hq with h | h
      · exact hS.2.2 q h
      · exact hF _ (hL q h)⟩ T' rfl X'
  exact ⟨t2, st t2 a1, b1⟩
theorem pc_blind {av : List Value} {sz : Nat} : FrameBlind (va_Pc av (PC D cA ws sz)) := fun a U g mk q => ⟨q.1, q.2.1, q.2.2.1, va_K.moved (u := U) (U := U.calling g mk a) (Vm.Alike.refl U.vm) q.2.2.2.1, nwOk.same (s := U) (U := U.calling g mk a) rfl q.2.2.2.2.1, va_AO.moved (u := U) (U := U.calling g mk a) (Vm.Alike.refl U.vm) q.2.2.2.2.2.1, q.2.2.2.2.2.2⟩
/-- a call of a constructor, a nest mate's or not -/
theorem c_callN {ws wr : va_W} {y : MethodName} {host : String} {cY : ByteArray} {nY fr lo mc ms idx h0 : Nat} {e0 : va_E} {Lst : (Nat → Nat) → va_W} (C : CxC p s m args c D cA cc nL own) (hP : va_P D vwCl ws H) (hD : va_D A ws) (hS : va_S A s.heap H locs) (hA : ∀ q, s.heap.size ≤ q → A q) (hM : OkC D cA l y cY nY fr lo mc ms h0 e0 H.size Lst)
    (k : Nat) (isR : List Nat) (hC : [k].map (fun i => ws[i]?) = [(h0, e0)].map some) (hR : isR.map (fun i => ws[i]?) = wr.map some) (hn : va_nd isR = true) (hdis : ∀ i ∈ isR, i ∉ [k])
    (hcode : Cond.code y cY nY none ∈ GW) (hlink : Cond.methodLinkNest own idx y host ∈ NW) (hinst : Cond.instanceMethod y ∈ GW) (hini : Cond.initialized y.cls ∈ GW) (hyn : y.name = "<init>") (hls : ls.size = nL)
    (hd : y.cls ≠ "java/lang/invoke/MethodHandle" ∧ y.cls ≠ "java/lang/invoke/VarHandle" ∧ (parseMethodDescriptor y.desc).map (fun d => d.parameters.length) = some 0) (hRm : fr + 1 ≤ R.frames ∧ 8 + (nY + 11) + lo ≤ R.locals) (hc : cells + mc ≤ R.cells ∧ slots + ms ≤ R.slots) (hrm : (rest.map fun v => v.category).sum ≤ 8) (hdg : decode cc pc = .ok (.invokespecial idx, 3))
    (kk : ∀ (q : Nat → Nat) (H1 : Heap) (locs1 : List Loc), va_P D vwCl (wr ++ Lst q) H1 → va_D A (wr ++ Lst q) → va_S A s.heap H1 locs1 → W p l e R s m args below meth c H1 locs1 (cells + mc) (slots + ms) Q (F0 m (pc + 3) ls rest)) : W p l e R s m args below meth c H locs cells slots Q (F0 m pc ls (.ref h0 :: rest)) := by
  have hts := C.2.2.2.2.1
  have hPc : va_P D vwCl [(h0, e0)] H := hP.sub [k] (by
    have h1 : ws[k]? = some (h0, e0) := by simpa using hC
    simp [h1])
  have hDc : va_D A [(h0, e0)] := hD.sub [k] (by simp [va_nd]) hC
  exact c_back hP hD hS hA k isR hC hR hn hdis (va_runIN (Ts := GW) (As := []) (rest := rest) ⟨C.1, C.2.1, C.2.2.1, C.2.2.2.1, hts⟩ hM ⟨va_cnB 0 hts (gw_tbl hcode) rfl rfl rfl (C.2.2.2.2.2.2.1 _ hlink) (hts _ hini) hd hRm, hyn, hts _ hinst⟩ ⟨pc_blind, fun U hU hW => ⟨rfl, by rw [hU], by rw [hU]; exact hPc, va_K.moved hW.alike C.2.2.2.2.2.1, nwOk.warm hW C.2.2.2.2.2.2.1, va_AO.moved hW.alike C.2.2.2.2.2.2.2, hDc.weaken (fun _ _ _ _ => trivial)⟩⟩ rfl rfl hls rfl (lv_room hrm) hdg hc) kk
theorem c_callI {ws wr : va_W} {y : MethodName} {cY : ByteArray} {nY fr lo mc ms idx h0 : Nat} {e0 : va_E} {Lst : (Nat → Nat) → va_W} (C : CxC p s m args c D cA cc nL own) (hP : va_P D vwCl ws H) (hD : va_D A ws) (hS : va_S A s.heap H locs) (hA : ∀ q, s.heap.size ≤ q → A q) (hM : OkC D cA l y cY nY fr lo mc ms h0 e0 H.size Lst)
    (k : Nat) (isR : List Nat) (hC : [k].map (fun i => ws[i]?) = [(h0, e0)].map some) (hR : isR.map (fun i => ws[i]?) = wr.map some) (hn : va_nd isR = true) (hdis : ∀ i ∈ isR, i ∉ [k])
    (hcode : Cond.code y cY nY none ∈ GW) (hlink : Cond.methodLink own idx y ∈ GW) (hinst : Cond.instanceMethod y ∈ GW) (hini : Cond.initialized y.cls ∈ GW) (hyn : y.name = "<init>") (hls : ls.size = nL)
    (hd : y.cls ≠ "java/lang/invoke/MethodHandle" ∧ y.cls ≠ "java/lang/invoke/VarHandle" ∧ (parseMethodDescriptor y.desc).map (fun d => d.parameters.length) = some 0) (hRm : fr + 1 ≤ R.frames ∧ 8 + (nY + 11) + lo ≤ R.locals) (hc : cells + mc ≤ R.cells ∧ slots + ms ≤ R.slots) (hrm : (rest.map fun v => v.category).sum ≤ 8) (hdg : decode cc pc = .ok (.invokespecial idx, 3))
    (kk : ∀ (q : Nat → Nat) (H1 : Heap) (locs1 : List Loc), va_P D vwCl (wr ++ Lst q) H1 → va_D A (wr ++ Lst q) → va_S A s.heap H1 locs1 → W p l e R s m args below meth c H1 locs1 (cells + mc) (slots + ms) Q (F0 m (pc + 3) ls rest)) : W p l e R s m args below meth c H locs cells slots Q (F0 m pc ls (.ref h0 :: rest)) := by
  have hts := C.2.2.2.2.1
  have hPc : va_P D vwCl [(h0, e0)] H := hP.sub [k] (by
    have h1 : ws[k]? = some (h0, e0) := by simpa using hC
    simp [h1])
  have hDc : va_D A [(h0, e0)] := hD.sub [k] (by simp [va_nd]) hC
  exact c_back hP hD hS hA k isR hC hR hn hdis (va_runI (Ts := GW) (As := []) (rest := rest) ⟨C.1, C.2.1, C.2.2.1, C.2.2.2.1, hts⟩ hM ⟨callB_of 0 hts (gw_tbl hcode) rfl rfl rfl (hts _ hini) (hts _ hlink) hd hRm, hyn, hts _ hinst⟩ ⟨pc_blind, fun U hU hW => ⟨rfl, by rw [hU], by rw [hU]; exact hPc, va_K.moved hW.alike C.2.2.2.2.2.1, nwOk.warm hW C.2.2.2.2.2.2.1, va_AO.moved hW.alike C.2.2.2.2.2.2.2, hDc.weaken (fun _ _ _ _ => trivial)⟩⟩ rfl rfl hls rfl (lv_room hrm) hdg hc) kk
/-- an array's cell is its places' values -/
theorem arrV_congr {cI : ClassId} {N : Nat} {f g : Nat → Value} (h : ∀ j, j < N → f j = g j) : arrV cI N f = arrV cI N g := by
  unfold arrV
  congr 1
  congr 1
  funext j
  exact h j.val j.isLt
theorem va_P.arr {k a N : Nat} {cI : ClassId} {f g : Nat → Option Nat} (hP : va_P D vwCl ws H) (hk : ws[k]? = some (a, .inl (cI, N, .inr (.inr (.inr (.inr f)))))) (h : ∀ j, j < N → f j = g j) : va_P D vwCl (ws.set k (a, .inl (cI, N, .inr (.inr (.inr (.inr g)))))) H := by
  intro i q hi
  by_cases hik : i = k
  · subst hik
    rw [List.getElem?_set_self (List.getElem?_eq_some_iff.mp hk).1] at hi
    cases hi
    have h1 : H[a]? = some (vp_cell cI (N, .inr (.inr (.inr (.inr f))))) := hP i _ hk
    show H[a]? = some (vp_cell cI (N, .inr (.inr (.inr (.inr g)))))
    rw [h1, vp_cell_q, vp_cell_q, arrV_congr (fun j hj => by rw [h j hj])]
  · rw [List.getElem?_set_ne (Ne.symm hik)] at hi
    exact hP i q hi
end CTOR
