/-! NoSuchElementException(text): its own constructor hands on by entry 13 of its pool, the rest of the chain by 7; the laws of the library's parts (ThrowableC, Init0T, PassC, chainS, initColdS, ctorMessageOffV, athrowLeaves) put together for it -/
def nseC : String := "java/util/NoSuchElementException"
def nseB : ByteArray := ⟨#[0x2a, 0x2b, 0xb7, 0x00, 0x0d, 0xb1]⟩
theorem nseB_0 : decode nseB 0 = .ok (.aload_n 0, 1) := by decide +kernel
theorem nseB_1 : decode nseB 1 = .ok (.aload_n 1, 1) := by decide +kernel
theorem nseB_2 : decode nseB 2 = .ok (.invokespecial 13, 3) := by decide +kernel
theorem nseB_5 : decode nseB 5 = .ok (.return_, 1) := by decide +kernel
def nseW (own : String) (ic : Nat) : List Cond :=
  Bundle.passSAtoms nseC "java/lang/RuntimeException" 13 nseB ++ Bundle.chainSAtoms "java/lang/RuntimeException" ["java/lang/Exception"] ++ Bundle.throwableAtoms ++ Bundle.throwableSAtoms ++
  [.methodLink own ic (Bundle.initS nseC), .instantiable nseC 6, .selects nseC Bundle.tFill0 Bundle.tFill0, .selects nseC Bundle.tFill Bundle.tFill,
   .lays nseC Bundle.tN "cause" "Ljava/lang/Throwable;", .lays nseC Bundle.tN "stackTrace" Bundle.steD, .lays nseC Bundle.tN "suppressedExceptions" Bundle.listD, .lays nseC Bundle.tN "detailMessage" "Ljava/lang/String;",
   .isRef (.static Bundle.tN "UNASSIGNED_STACK" Bundle.steD), .isRef (.static Bundle.tN "SUPPRESSED_SENTINEL" Bundle.listD),
   .fieldLink Bundle.tN 198 Bundle.tN "backtrace" "Ljava/lang/Object;", .lays Bundle.tN Bundle.tN "backtrace" "Ljava/lang/Object;", .lays nseC Bundle.tN "backtrace" "Ljava/lang/Object;"]
section NSE
variable {p : Program} {l : Launch} {e : Env} {R : Room} {s : State} {m : MethodId} {args : Array Value} {below : List Frame} {meth : Method} {c : Code} {T0 : State} {locs : List Loc} {cells slots : Nat}
set_option maxHeartbeats 4000000 in
theorem nse_ctor (X : Stand p l e R s m args below meth c T0 locs cells slots) (hexec : p.tables.exec = Jvm.exec) (htr : e.platform.stackTraces = false) {own : String} {ic : Nat}
    (hown : s.vm.findClass own = some m.cls) (h : ∀ w ∈ nseW own ic, w.before args s = true) (hlocs : ∀ x ∈ locs, ∀ cell, s.heap[x.base]? = some cell → cell.vm.isStatics = false)
    {a : Addr} {cX : ClassId} {kX : Class} (hfX : s.vm.findClass nseC = some cX) (hkX : s.vm.classes[cX]? = some kX) (hcell : T0.heap[a]? = some (freshCell cX kX)) (hnew : s.heap.size ≤ a) {msg : Value} (hmsg : msg.isRef = true)
    {g : JFrame} (hg : g.method = m) (hsize : g.locals.size = c.maxLocals) (hlocked : g.locked = none) (hentered : g.entered = []) {rest : List Value} (hstack : g.stack = msg :: .ref a :: .ref a :: rest)
    (hd6 : decode c.code g.pc = .ok (.invokespecial ic, 3)) (hd9 : decode c.code (g.pc + 3) = .ok (.athrow, 1)) (hout : ∀ x ∈ c.exceptionTable.toList, covers x (g.pc + 3) = false)
    (hRf : 5 < R.frames) (hRl : 2 * g.monitorRoom + ((Value.ref a :: rest).map fun v => v.category).sum + (13 * 3 + 42) ≤ R.locals) (hlocks : meth.locks = false) :
    ∃ U : State, Steps p.tables e below (T0.setTop g) U ∧ U.status = .running ∧ Ended U below (.threw a) ∧ s.WarmedH U.vm ∧ s.sameButNew ({ U with vm := s.vm } : State) locs cells slots ∧ ∃ ce, U.heap[a]? = some ce ∧ ce.vm = .none ∧ s.vm.findClass nseC = some ce.cls := by
  have hpl : e.platform.magicAccessors = ({} : Platform).magicAccessors := by rw [X.admits.platform]
  have at' : ∀ w, w ∈ nseW own ic → w.holds args s none s [] = true := fun w hw => h w hw
  obtain ⟨T, Z0, L, -, Y⟩ := ThrowableC.of_atoms (args := args) (s := s) (pl := e.platform) (by rw [X.admits.platform]) (by rw [X.admits.platform]) hpl (fun w hw => h w (by simp [nseW, hw]))
  obtain ⟨Z, M, LZ, LM, hnZ⟩ := Init0T.ofS_atoms (args := args) hpl L Y (fun w hw => h w (by simp [nseW, hw]))
  obtain ⟨P1, L1, hP1m, hP1s⟩ := PassC.ofS_atoms (args := args) (s := s) hpl (X := nseC) (Y := "java/lang/RuntimeException") (by decide) (by decide) nseB_0 nseB_1 nseB_2 nseB_5 (fun w hw => h w (by simp [nseW, hw]))
  obtain ⟨P2, Ps, hlen, L2, hL, hP2m, hlink2, hlink⟩ := Bundle.chainS (args := args) (s := s) hpl hnZ ["java/lang/Exception"] "java/lang/RuntimeException" (by decide) (by decide) (fun w hw => h w (by simp [nseW, hw]))
  have hfound : s.vm.findClass nseC = some P1.m.cls := findClass_of_methodNamed hP1m
  cases Option.some.inj (hfX.symm.trans hfound)
  obtain ⟨c1, kX', hc1, hk, hord, -, -, hn6⟩ := Cond.instantiable_spec (at' (.instantiable nseC 6) (by simp [nseW]))
  cases Option.some.inj (hc1.symm.trans hfound)
  cases Option.some.inj (hkX.symm.trans hk)
  have sel : ∀ {t : MethodName} {tm : MethodId}, s.methodNamed? t = some tm → (t.cls ≠ "java/lang/invoke/MethodHandle" ∧ t.cls ≠ "java/lang/invoke/VarHandle") → (Cond.selects nseC t t).holds args s none s [] = true → selectMethod e.platform s.vm P1.m.cls tm = .method tm := by
    intro t tm ht hno hw
    obtain ⟨c2, r2, m2, q1, q2, q3, q4, -⟩ := Cond.selects_spec hw
    cases Option.some.inj (q1.symm.trans hfound)
    cases Option.some.inj (q2.symm.trans (State.methodFound?_of_named ht hno))
    cases Option.some.inj (q3.symm.trans ht)
    rw [Launch.admits_selectMethod X.admits]
    exact q4
  have hsel0 := sel Y.fill0 (by decide) (at' _ (by simp [nseW]))
  have hselF := sel Y.fill (by decide) (at' _ (by simp [nseW]))
  obtain ⟨cS0, hcS0, hiss⟩ := Y.statics
  obtain ⟨u0, hu0⟩ := Cond.staticRefV Y.unassigned L.unassignedStatic L.statics hcS0 hiss (at' (.isRef (.static Bundle.tN "UNASSIGNED_STACK" Bundle.steD)) (by simp [nseW]))
  obtain ⟨sen, hsen⟩ := Cond.staticRefV Y.sentinel L.sentinelStatic L.statics hcS0 hiss (at' (.isRef (.static Bundle.tN "SUPPRESSED_SENTINEL" Bundle.listD)) (by simp [nseW]))
  obtain ⟨ci198, i198, fB, hk198, hg198, ha198, hsB, -, hnB, htB, hffB⟩ := Cond.ownField (t := .object "java/lang/Object") Y.found L.cls (by decide +kernel) (at' (.fieldLink Bundle.tN 198 Bundle.tN "backtrace" "Ljava/lang/Object;") (by simp [nseW])) (at' (.lays Bundle.tN Bundle.tN "backtrace" "Ljava/lang/Object;") (by simp [nseW])) e.platform hpl
  obtain ⟨cS, hcS, heS, -, hkeep⟩ := X.same.2.2.2.2.2 T.aS cS0 hcS0
  have hcellS : T0.heap[T.aS]? = some cS := hcS
  have hno : ∀ i, (⟨T.aS, i⟩ : Loc) ∉ locs := fun i hi => by
    have h1 := hlocs _ hi cS0 hcS0
    rw [hiss] at h1
    cases h1
  have hknown : cS.vm ≠ .unknown := by
    rw [heS]
    intro hu
    rw [show cS0.vm = .unknown from hu] at hiss
    cases hiss
  have hneS : T.aS ≠ a := Nat.ne_of_lt (Nat.lt_of_lt_of_le (Array.getElem?_eq_some_iff.mp hcS0).1 hnew)
  obtain ⟨iM, hffM⟩ := Y.msg
  obtain ⟨tyC, dC, hdC, hdnC⟩ := Cond.laysAt hfound hk Y.cause (at' (.lays nseC Bundle.tN "cause" "Ljava/lang/Throwable;") (by simp [nseW]))
  obtain ⟨tyS, dS, hdS, hdnS⟩ := Cond.laysAt hfound hk Y.stack (at' (.lays nseC Bundle.tN "stackTrace" Bundle.steD) (by simp [nseW]))
  obtain ⟨tyP, dP, hdP, hdnP⟩ := Cond.laysAt hfound hk Y.supp (at' (.lays nseC Bundle.tN "suppressedExceptions" Bundle.listD) (by simp [nseW]))
  obtain ⟨tyM, dM, hdM, hdnM⟩ := Cond.laysAt hfound hk hffM (at' (.lays nseC Bundle.tN "detailMessage" "Ljava/lang/String;") (by simp [nseW]))
  obtain ⟨tyB, dB, hdB, hdnB⟩ := Cond.laysAt hfound hk hffB (at' (.lays nseC Bundle.tN "backtrace" "Ljava/lang/Object;") (by simp [nseW]))
  have bC := Cond.laysApart hdB hdC hdnB hdnC (by rw [hnB, Y.causeName]; decide)
  have bS := Cond.laysApart hdB hdS hdnB hdnS (by rw [hnB, Y.stackName]; decide)
  have bP := Cond.laysApart hdB hdP hdnB hdnP (by rw [hnB, Y.suppName]; decide)
  have hskip : SkipFacts T e.platform s (fun u => u) u0 ((preparedCellV T.toThrowableT (freshCell P1.m.cls kX) a u0 sen).withEntry T0.cur) := by
    refine ⟨{ ci198 := ci198, i198 := i198, fBack := fB }, ⟨hk198, hg198, ha198, hsB⟩, ?_, fun _ _ => rfl⟩
    have h1 := fresh_default (c := P1.m.cls) tyB
    rw [htB] at h1
    simpa [preparedCellV, Cell.setSlot, Cell.withEntry, Array.getElem?_setIfInBounds, bC, bS, bP, bC.symm, bS.symm, bP.symm, defaultValue] using h1
  obtain ⟨tm, methC, cdC, kC, vm₁, hnC, -, -, -, -, -, -, -, hW₁, st1⟩ := Steps.initColdS (tb := p.tables) (e := e) (below := below) (s := s) (U := T0) X.here hexec X.warmed hpl hown (t := Bundle.initS nseC) rfl rfl (by decide)
    (at' (.methodLink own ic (Bundle.initS nseC)) (by simp [nseW])) (h (.instanceMethod (Bundle.initS nseC)) (by simp [nseW, Bundle.passSAtoms])) (bytes := nseB) (maxL := 2) (h (.code (Bundle.initS nseC) nseB 2 none) (by simp [nseW, Bundle.passSAtoms]))
    (f := g) hg (a := a) (msg := msg) (rest := .ref a :: rest) hstack hd6
  cases Option.some.inj (hnC.symm.trans hP1m)
  have X₁ := X.noted hW₁
  have hsup : P1.sup = P2.m := Option.some.inj (hP1s.symm.trans hP2m)
  obtain ⟨vm₂, X₂, st2⟩ := X₁.ctorMessageOffV hexec (g := { g with stack := .ref a :: rest }) hg hsize T L Z LZ M LM (P1 :: P2 :: Ps)
    (fun P hP => by
      rcases List.mem_cons.mp hP with rfl | hP
      · exact L1
      · rcases List.mem_cons.mp hP with rfl | hP
        · exact L2
        · exact hL P hP) ⟨hsup, hlink2, hlink⟩ (u0 := u0) (sen := sen) (self := a) hmsg (cell := freshCell P1.m.cls kX) (cellS := cS)
    hcell (fun _ => by simp) (by simp) rfl rfl hsel0 hselF hcellS hneS hknown (by rw [hkeep _ (hno _)]; exact hu0) (by rw [hkeep _ (hno _)]; exact hsen)
    (Takes.of_laid hk hord tyC (by rw [Y.causeType]; rfl)) (Takes.of_laid hk hord tyS (by rw [Y.stackType]; exact fits_refV_array _ u0)) (Takes.of_laid hk hord tyP (by rw [Y.suppType]; exact fits_refV_object _ sen))
    (Takes.of_laid hk hord tyM (by rw [Y.msgType]; exact fits_refV_object _ ⟨msg, hmsg⟩)) Y.objLocals hskip htr [] hd6
    (by simp only [List.length_cons, hlen, List.length_nil]; omega) (by simp only [List.length_cons, hlen, List.length_nil]; exact hRl)
  obtain ⟨hwalk, hrun, hended, hWU, hsame⟩ := X₂.athrowLeaves hexec (g := { g with stack := .ref a :: rest, pc := g.pc + 3 }) hg hlocked hentered hout (a := a) (rest := rest) rfl hd9
  have hlt : a < ((T0.setVm vm₁).setVm vm₂).heap.size := (Array.getElem?_eq_some_iff.mp hcell).1
  have hU := heapAt_setCell_self (s := (T0.setVm vm₁).setVm vm₂) (plainBareV T.toThrowableT (freshCell P1.m.cls kX) a u0 sen msg) hlt
  refine ⟨_, st1 _ (fun acts => ?_), hrun, hended, hWU, hsame.weaken (fun y hy hlt' => ?_) (Nat.le_refl _) (Nat.le_refl _), _, hU, rfl, hfound⟩
  · rw [doInvoke_state]
    exact st2 _ hwalk
  · rcases List.mem_append.mp hy with h1 | h1
    · exact h1
    · exfalso
      have hb : y.base = a := by
        simp only [List.mem_cons, List.not_mem_nil, or_false] at h1
        rcases h1 with rfl | rfl | rfl | rfl | rfl <;> rfl
      rw [hb] at hlt'
      exact Nat.not_lt.mpr hnew hlt'
end NSE
theorem nse_words : ∀ w ∈ (nseW "RunningCount" 121).filter (fun w => vx_no w && goodWord w), w ∈ lw_tbl := by
  intro w hw
  have h0 : (nseW "RunningCount" 121).filter (fun w => vx_no w && !decide (w ∈ lw_tbl)) = [] := by decide +kernel
  have h1 := List.mem_filter.mp hw
  by_cases h2 : w ∈ lw_tbl
  · exact h2
  · have h3 : w ∈ (nseW "RunningCount" 121).filter (fun w => vx_no w && !decide (w ∈ lw_tbl)) := List.mem_filter.mpr ⟨h1.1, by
      have := h1.2
      simp only [Bool.and_eq_true] at this
      simp [this.1, h2]⟩
    rw [h0] at h3
    cases h3
theorem nse_rest : (nseW "RunningCount" 121).filter (fun w => vx_no w && !goodWord w) = dcl.map Cond.declares := by rfl
/-- every word of the making, from what a walk has at hand -/
theorem nse_all {args : Array Value} {s : State} {X : Xc} (hg : ∀ w ∈ GW, w.before args s = true) (hE : env X s) : ∀ w ∈ nseW "RunningCount" 121, w.before args s = true := by
  refine vx_own (fun w hw => ?_) (vx_isRefq hE.2.2.2.2.1.1) (vx_isRefq hE.2.2.2.2.2.1.1) hE.2.2.2.2.1.2.word hE.2.2.2.2.2.1.2.word
  have h1 := List.mem_filter.mp hw
  by_cases h2 : goodWord w = true
  · exact hg w (List.mem_filter.mpr ⟨nse_words w (List.mem_filter.mpr ⟨h1.1, by simp [h1.2, h2]⟩), h2⟩)
  · have h3 : w ∈ (nseW "RunningCount" 121).filter (fun w => vx_no w && !goodWord w) := List.mem_filter.mpr ⟨h1.1, by simp [h1.2, h2]⟩
    rw [nse_rest] at h3
    obtain ⟨x, hx, rfl⟩ := List.mem_map.mp h3
    exact va_Nw.use rfl (hE.2.2.2.2.2.2 x hx)
