/-! methods that return an int or throw NoSuchElementException -/
def QX (X : Xc) (o : Option Int32) (σ' : St) : Array Value → State → Outcome → State → Prop := fun _ st oc t => (∃ r : Int32, o = some r ∧ oc = .returned (some (.int r))) ∧ va_P X.1 vwCl (wsX X σ') t.heap ∧ wf σ' ∧ va_F (AX X) st t
def XX (X : Xc) (o : Option Int32) (σ' : St) : String → State → State → Prop := fun E st t => (E = nseC ∧ o = none) ∧ va_P X.1 vwCl (wsX X σ') t.heap ∧ wf σ' ∧ va_F (AX X) st t
def OkX (X : Xc) (l : Launch) (y : MethodName) (cc : ByteArray) (nL : Nat) (fr lo : Nat) (av : List Value) (σ : St) (o : Option Int32) (σ' : St) : Prop :=
  vx_Met l y (.code y cc nL (some .int) :: GW) (rmC fr lo 1 6) (va_Pc av (PW X σ)) (QX X o σ') (XX X o σ') 1 6 (AX X)
def Zx (X : Xc) (below : List Frame) (s : State) (args : Array Value) (o : Option Int32) (σ' : St) : State → Prop := vx_MQ below (QX X o σ') (XX X o σ') args s 1 6 (AX X)
section THR
variable {p : Program} {l : Launch} {e : Env} {R : Room} {s : State} {m : MethodId} {args : Array Value} {below : List Frame} {meth : Method} {c : Code} {H H0 : Heap} {locs : List Loc} {cells slots : Nat} {Q : State → Prop}
variable {X : Xc} {σ σ' : St} {cc : ByteArray} {nL : Nat} {own : String} {pc : Nat} {ls : Array Slot} {rest : List Value} {o : Option Int32}
theorem OkX.of {y : MethodName} {fr lo : Nat} {av : List Value} (hy : plainName y.cls = true) (hn : (lg_sl av).length ≤ nL)
    (body : ∀ (p : Program) (e : Env) (s : State) (m : MethodId) (args : Array Value) (below : List Frame) (meth : Method) (c : Code), Cx p s m args c X cc nL y.cls → meth.sig.returnType = some .int → meth.locks = false → (∀ x ∈ c.exceptionTable.toList, False) → At X σ s.heap s.heap [] → ∀ ls : Array Slot, lv_has ls nL (lv_args 0 av) →
      W p l e (rmC fr lo 1 6) s m args below meth c s.heap [] 0 0 (Zx X below s args o σ') (F0 m 0 ls [])) : OkX X l y cc nL fr lo av σ o σ' := by
  refine vx_ofW (cc := cc) (maxL := nL) (ret := some .int) hy rfl ?_
  intro p e s m args below meth c s₁ B hml htab hv
  obtain ⟨rfl, hP, hK, hN, hI, hw, hE⟩ := hv
  have hl := lv_entry av hn
  rw [lg_entry_eq]
  generalize (lg_sl av ++ List.replicate (nL - (lg_sl av).length) Slot.unset).toArray = ls at hl ⊢
  exact body p e s m _ below meth c ⟨B.exec, B.bytes, hml, findClass_of_methodNamed B.named, fun w h => atoms_spec (ws := .code y cc nL (some .int) :: GW) B.pre w (List.mem_cons_of_mem _ h), hK, hN, hI, hE⟩ B.returns B.notSynchronized htab ⟨hP, va_S.rf, hw⟩ ls hl
theorem r_iretX (C : Cx p s m args c X cc nL own) (hr : meth.sig.returnType = some .int) (hlk : meth.locks = false) (h : At X σ s.heap H locs) {x : Int32} (hx : some x = o) (hs : σ = σ') (hdg : decode cc pc = .ok (.ireturn, 1)) : W p l e R s m args below meth c H locs 0 0 (Zx X below s args o σ') (F0 m pc ls [.int x]) := by
  subst hx; subst hs
  refine vx_ret (W.widen (k := 1) (n := 6) (Nat.zero_le _) (Nat.zero_le _) ?_)
  exact W.iret C.1 C.2.1 hr (fun t ht _ => ⟨⟨x, rfl, rfl⟩, by rw [ht]; exact h.1, h.2.2, h.2.1.F ht⟩) h.2.1.2.2 hdg hlk
set_option maxHeartbeats 2000000 in
theorem r_throw (C : Cx p s m args c X cc nL "RunningCount") (hl0 : l.stackTraces = false) (hlk : meth.locks = false) (htab : ∀ x ∈ c.exceptionTable.toList, False) (h : At X σ s.heap H locs) (k : Nat) {q0 : String × Nat × String × Nat} (hq0 : strs[k]? = some q0) (hq1 : q0.1 = "RunningCount") {ik : Nat} (hk : Cond.classLink "RunningCount" ik nseC ∈ GW) (hini : Cond.initialized nseC ∈ GW) (ho : none = o) (hs : σ = σ') (hls : ls.size = nL)
    (d0 : decode cc pc = .ok (.new ik, 3)) (d3 : decode cc (pc + 3) = .ok (.dup, 1)) (d4 : decode cc (pc + 4) = .ok (.ldc q0.2.1, 2)) (d6 : decode cc (pc + 6) = .ok (.invokespecial 121, 3)) (d9 : decode cc (pc + 9) = .ok (.athrow, 1))
    (hRf : 5 < R.frames) (hRl : (rest.map fun v => v.category).sum + 83 ≤ R.locals) (hRc : 1 ≤ R.cells) (hRs : 6 ≤ R.slots) :
    W p l e R s m args below meth c H locs 0 0 (Zx X below s args o σ') (F0 m pc ls rest) := by
  subst ho; subst hs
  have hE := C.2.2.2.2.2.2.2.2
  have hts := C.2.2.2.2.1
  have hS := h.2.1
  intro T hT Y0
  have htr : e.platform.stackTraces = false := (show e.platform.stackTraces = l.stackTraces by rw [Y0.admits.platform]).trans hl0
  have Y := vx_rebase Y0 (R' := { frames := R.frames, locals := R.locals, cells := 1, slots := 6 }) (Nat.le_refl _) (Nat.le_refl _) (by simpa using hRc) (by simpa using hRs)
  obtain ⟨s', hA⟩ : ∃ z, z = (T.setVm s.vm).setFrames (.invoking m args :: below) := ⟨_, rfl⟩
  rw [← hA] at Y
  have hvm : s'.vm = s.vm := by rw [hA]; rfl
  have hhp : s'.heap = H := by rw [hA]; exact hT
  have hW0 : s.WarmedH s'.vm := by rw [hvm]; exact State.WarmedH.refl s
  have hE' : env X s' := env.warm hW0 (by rw [hhp]; exact hS.2.1) hE
  have hts' : ∀ w ∈ GW, w.before args s' = true := fun w hw => word_at hW0 (gw_good hw) (hts w hw)
  have hall := nse_all hts' hE'
  have hown' : s'.vm.findClass "RunningCount" = some m.cls := by rw [hvm]; exact C.2.2.2.1
  have hstr : vk_R "RunningCount" q0.2.1 q0.2.2.1 (X.2.1 (60 + q0.2.2.2)) s' := by
    have := hE'.2.1 q0 (List.mem_of_getElem? hq0)
    rw [hq1] at this
    exact this
  obtain ⟨vm₁, cX, kX, hfX, hkX, -, -, X₁, st1⟩ := Y.newCold C.1 (own := "RunningCount") (C := nseC) (index := ik) (n := 6) hown' (hts' _ hk) (hall (.instantiable nseC 6) (by simp [nseW])) (hts' _ hini) (g := F0 m pc ls rest) rfl (by rw [C.2.1]; exact d0) (Nat.le_refl _) (Nat.le_refl _)
  generalize hT1 : (T.setVm vm₁).pushCell { cls := cX, slots := kX.instanceTypes.map defaultValue, vm := .none } = T1 at X₁ st1
  have hcat : (Value.ref T.heap.size).category = 1 := rfl
  have hcellA : T1.heap[T.heap.size]? = some (freshCell cX kX) := by rw [← hT1]; exact State.heap_pushCell_size _ _
  have d3' : decode c.code (pc + 3) = .ok (.dup, 1) := by rw [C.2.1]; exact d3
  have d4' : decode c.code (pc + 4) = .ok (.ldc q0.2.1, 2) := by rw [C.2.1]; exact d4
  obtain ⟨U, hsteps, hrun, hend, hW, hsame, ce, hce, hcv, hcl⟩ := nse_ctor X₁ C.1 htr (own := "RunningCount") (ic := 121) hown' hall (fun x hx => nomatch hx) hfX hkX hcellA (by rw [hhp, hT]; exact Nat.le_refl _) (msg := .ref (X.2.1 (60 + q0.2.2.2))) rfl
    (g := { method := m, pc := pc + 6, locals := ls, stack := .ref (X.2.1 (60 + q0.2.2.2)) :: .ref T.heap.size :: .ref T.heap.size :: rest, locked := none }) rfl (hls.trans C.2.2.1.symm) rfl rfl (rest := rest) rfl
    (by rw [C.2.1]; exact d6) (by rw [C.2.1]; exact d9) (fun x hx => (htab x hx).elim) hRf (by
      have h1 : 2 * (F0 m (pc + 6) ls (.ref (X.2.1 (60 + q0.2.2.2)) :: .ref T.heap.size :: .ref T.heap.size :: rest)).monitorRoom = 0 := rfl
      simp only [List.map_cons, List.sum_cons, hcat]
      omega) hlk
  obtain ⟨f1, f2⟩ := vx_frame hsame
  rw [hhp] at f1 f2
  have hWs : s.WarmedH U.vm := State.WarmedH.trans hW0 hW
  have hcl' : s.vm.findClass nseC = some ce.cls := by
    rw [hvm] at hcl
    exact hcl
  have hsb : s.sameButNew ({ U with vm := s.vm } : State) locs 1 6 := by
    subst hA
    obtain ⟨e1, e2⟩ := hsame
    rw [State.setFrames_setFrames] at e1
    have h2 : (T.setVm s.vm).sameButNew ({ U with vm := s.vm } : State) [] (0 + 1) (0 + 6) := ⟨e1, e2⟩
    have h3 := Y0.same.trans h2
    rw [List.append_nil] at h3
    exact h3.mono (Nat.le_refl _) (Nat.le_refl _)
  have f3 : ∀ q : Nat, q < H.size → U.heap[q]? = H[q]? := fun q hq => f2 q hq (fun z hz => nomatch hz)
  refine ⟨U, ?_, .threw T.heap.size, hrun, hend, Or.inr ⟨T.heap.size, rfl, nseC, ce, locs, ⟨⟨rfl, rfl⟩, h.1.kept (fun k q hk => f3 q.1 (h.1 k q hk).lt), h.2.2, ⟨Nat.le_trans hS.1 f1, fun q h1 h2 => by rw [f3 q (Nat.lt_of_lt_of_le h1 hS.1)]; exact hS.2.1 q h1 h2⟩⟩, hce, hcv, hcl', hWs, hsb, hS.2.2⟩⟩
  refine st1 _ ?_
  show Steps p.tables e below (T1.setTop { method := m, pc := pc + 3, locals := ls, stack := .ref T.heap.size :: rest, locked := none }) _
  have hexec := C.1
  jvm_step X₁.here [X₁.here.top, hexec, d3', Value.category]
  exact X₁.ldcString hexec (own := "RunningCount") (text := q0.2.2.1) (index := q0.2.1) (a := X.2.1 (60 + q0.2.2.2)) hown' hstr.1 hstr.2
    (g := { method := m, pc := pc + 4, locals := ls, stack := .ref T.heap.size :: .ref T.heap.size :: rest, locked := none }) rfl d4' _ hsteps
end THR
