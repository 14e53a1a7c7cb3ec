/-! THE STATE: cells by numbers. σ.1 k j: the int in place j of cell k (a field's slot, or an array's index); σ.2.1 k: the long of cell k; σ.2.2.1, σ.2.2.2: the numbers of the cells 'goods' and 'spare' -/
abbrev St : Type := (Nat → Nat → Int32) × (Nat → Int64) × Nat × Nat
/-- where things are: the classes, the cells' addresses, the array classes (0 byte, 1 int, 2 boolean, 3 long, 4 Act) -/
abbrev Xc : Type := va_G × (Nat → Nat) × (Nat → ClassId)
def upI (σ : St) (k j : Nat) (x : Int32) : St := (fun a b => if a = k ∧ b = j then x else σ.1 a b, σ.2)
def upL (σ : St) (k : Nat) (x : Int64) : St := (σ.1, fun a => if a = k then x else σ.2.1 a, σ.2.2)
def upG (σ : St) (g : Nat) : St := (σ.1, σ.2.1, g, σ.2.2.2)
def upS (σ : St) (g : Nat) : St := (σ.1, σ.2.1, σ.2.2.1, g)
/-- the cells: an object (its class, its fields: 0 int, 1 long, 2 goods, 3 spare, 4 + d the cell d behind it), or an array (its kind, its length) -/
def layGoods : List ((Nat × List Nat) ⊕ (Nat × Nat)) := [.inl (4, [0, 0, 0, 5, 6, 7, 8, 9, 10, 11, 12]), .inr (1, 5), .inr (1, 5), .inr (1, 30), .inr (1, 40), .inr (1, 40), .inr (1, 80), .inr (1, 80), .inr (1, 80)]
def lay : List ((Nat × List Nat) ⊕ (Nat × Nat)) :=
  [.inl (8, [5, 2, 3, 28, 35, 40, 52]), .inl (7, [5, 0, 0, 0, 0, 0, 0, 0]), .inl (6, [0, 5, 0, 6, 7]), .inr (0, 640), .inr (1, 601), .inr (1, 601)]
  ++ layGoods ++ layGoods
  ++ [.inl (3, [0, 5, 6, 7, 8, 9, 10]), .inr (1, 40), .inr (1, 40), .inr (1, 40), .inr (1, 40), .inr (1, 40), .inr (2, 40),
      .inl (1, [0, 5, 6, 7, 8]), .inr (1, 40), .inr (1, 40), .inr (1, 40), .inr (1, 40),
      .inl (5, [0, 0, 5]), .inr (4, 10)]
  ++ List.replicate 10 (.inl (0, [0, 0, 0, 0, 0, 0, 0, 0, 0, 1]))
  ++ [.inl (2, [0, 0, 0, 0, 5]), .inr (1, 10),
      .inl (9, [0, 5, 0, 0, 0, 0, 0, 0, 0, 0, 1, 6, 7, 8, 0, 0, 0, 0, 9, 0, 10]), .inr (1, 640), .inr (1, 845), .inr (1, 845), .inr (1, 8450), .inr (1, 40), .inr (1, 80), .inr (3, 1)]
theorem lay_len : lay.length = 58 := rfl
def fv (ad : Nat → Nat) (σ : St) (k c j : Nat) : Value := match c with
  | 0 => .int (σ.1 k j)
  | 1 => .long (σ.2.1 k)
  | 2 => .ref (ad σ.2.2.1)
  | 3 => .ref (ad σ.2.2.2)
  | d + 4 => .ref (ad (k + d))
def fvs (ad : Nat → Nat) (σ : St) (k : Nat) (cs : List Nat) : List Value := cs.mapIdx (fun j c => fv ad σ k c j)
def arc (X : Xc) (σ : St) (k t n : Nat) : va_E := match t with
  | 3 => .inl (X.2.2 3, n, .inr (.inl (fun j => if j = 0 then σ.2.1 k else 0)))
  | 4 => .inl (X.2.2 4, n, .inr (.inr (.inr (.inr (fun i => some (X.2.1 (k + 1 + i)))))))
  | t => .inl (X.2.2 t, n, .inl (σ.1 k))
def cel (X : Xc) (σ : St) (k : Nat) : va_E := match lay[k]? with
  | some (.inl (ci, cs)) => .inr (ci, fvs X.2.1 σ k cs)
  | some (.inr (t, n)) => arc X σ k t n
  | none => .inr (0, [])
def wsX (X : Xc) (σ : St) : va_W := (List.range 58).map (fun k => (X.2.1 k, cel X σ k))
def tyX (X : Xc) : List (ClassId × FieldType) := [(X.2.2 0, .byte), (X.2.2 1, .int), (X.2.2 2, .boolean), (X.2.2 3, .long), (X.2.2 4, .object "RunningCount$Act")]
def inj (X : Xc) : Prop := ∀ i j : Nat, i < 58 → j < 58 → X.2.1 i = X.2.1 j → i = j
def AX (X : Xc) : Nat → Prop := fun q => ∃ k : Nat, k < 58 ∧ q = X.2.1 k
def isG (g : Nat) : Prop := g = 6 ∨ g = 15
def wf (σ : St) : Prop := isG σ.2.2.1 ∧ isG σ.2.2.2
theorem ws_get {X : Xc} {σ : St} {k : Nat} (h : k < 58) : (wsX X σ)[k]? = some (X.2.1 k, cel X σ k) := by
  simp [wsX, List.getElem?_map, List.getElem?_range h]
theorem ws_set {X : Xc} {σ σ' : St} {k : Nat} {q : va_E} (h : k < 58) (he : cel X σ' k = q) (ho : ∀ j, j ≠ k → cel X σ' j = cel X σ j) : (wsX X σ).set k (X.2.1 k, q) = wsX X σ' := by
  subst he
  apply List.ext_getElem?
  intro j
  by_cases hj : j = k
  · subst hj
    rw [List.getElem?_set_self (by simp [wsX]; exact h), ws_get h]
  · rw [List.getElem?_set_ne (Ne.symm hj)]
    by_cases hl : j < 58
    · rw [ws_get hl, ws_get hl, ho j hj]
    · rw [List.getElem?_eq_none (by simp [wsX]; omega), List.getElem?_eq_none (by simp [wsX]; omega)]
theorem ws_D {X : Xc} (σ : St) (h : inj X) : va_D (AX X) (wsX X σ) := by
  have key : ∀ (i : Nat) (p : Nat × va_E), (wsX X σ)[i]? = some p → i < 58 ∧ p.1 = X.2.1 i := by
    intro i p hi
    have hl : i < 58 := by
      have := (List.getElem?_eq_some_iff.mp hi).1
      simpa [wsX] using this
    rw [ws_get hl] at hi
    cases hi
    exact ⟨hl, rfl⟩
  refine ⟨fun i j p q hi hj hpq => ?_, fun k q hk => ?_⟩
  · obtain ⟨h1, h2⟩ := key i p hi
    obtain ⟨h3, h4⟩ := key j q hj
    exact h i j h1 h3 (by rw [← h2, ← h4]; exact hpq)
  · obtain ⟨h1, h2⟩ := key k q hk
    exact ⟨k, h1, h2⟩
theorem lay_lt {k : Nat} {e : (Nat × List Nat) ⊕ (Nat × Nat)} (h : lay[k]? = some e) : k < 58 := by
  have := (List.getElem?_eq_some_iff.mp h).1
  rwa [lay_len] at this
theorem cel_obj {X : Xc} {σ : St} {k ci : Nat} {cs : List Nat} (h : lay[k]? = some (.inl (ci, cs))) : cel X σ k = .inr (ci, fvs X.2.1 σ k cs) := by
  simp only [cel, h]
theorem cel_arr {X : Xc} {σ : St} {k t n : Nat} (h : lay[k]? = some (.inr (t, n))) : cel X σ k = arc X σ k t n := by
  simp only [cel, h]
theorem fvs_get {ad : Nat → Nat} {σ : St} {k j c : Nat} {cs : List Nat} (h : cs[j]? = some c) : (fvs ad σ k cs)[j]? = some (fv ad σ k c j) := by
  simp [fvs, List.getElem?_mapIdx, h]
theorem fv_congr {ad : Nat → Nat} {σ σ' : St} {k c j : Nat} (h1 : σ'.1 k j = σ.1 k j) (h2 : σ'.2.1 k = σ.2.1 k) (h3 : σ'.2.2 = σ.2.2) : fv ad σ' k c j = fv ad σ k c j := by
  unfold fv
  split
  · rw [h1]
  · rw [h2]
  · rw [h3]
  · rw [h3]
  · rfl
theorem cel_congr {X : Xc} {σ σ' : St} {k : Nat} (h1 : σ'.1 k = σ.1 k) (h2 : σ'.2.1 k = σ.2.1 k) (h3 : σ'.2.2 = σ.2.2) : cel X σ' k = cel X σ k := by
  unfold cel
  split
  · have : ∀ cs, fvs X.2.1 σ' k cs = fvs X.2.1 σ k cs := fun cs => by
      simp only [fvs]
      congr 1
      funext j c
      exact fv_congr (by rw [h1]) h2 h3
    rw [this]
  · unfold arc
    split
    · rw [h2]
    · rfl
    · rw [h1]
  · rfl
theorem fvs_set {ad : Nat → Nat} {σ σ' : St} {k j c : Nat} {cs : List Nat} (hj : cs[j]? = some c) (ho : ∀ i d, i ≠ j → cs[i]? = some d → fv ad σ' k d i = fv ad σ k d i) : fvs ad σ' k cs = (fvs ad σ k cs).set j (fv ad σ' k c j) := by
  have hl : j < cs.length := (List.getElem?_eq_some_iff.mp hj).1
  apply List.ext_getElem?
  intro i
  by_cases hi : i = j
  · subst hi
    rw [fvs_get hj, List.getElem?_set_self (by simpa [fvs] using hl)]
  · rw [List.getElem?_set_ne (Ne.symm hi)]
    cases h : cs[i]? with
    | none => simp [fvs, List.getElem?_mapIdx, h]
    | some d => rw [fvs_get h, fvs_get h, ho i d hi h]
theorem cel_upI_ne {X : Xc} {σ : St} {k j : Nat} {x : Int32} {q : Nat} (h : q ≠ k) : cel X (upI σ k j x) q = cel X σ q := by
  refine cel_congr ?_ rfl rfl
  funext b
  simp [upI, h]
theorem cel_upL_ne {X : Xc} {σ : St} {k : Nat} {x : Int64} {q : Nat} (h : q ≠ k) : cel X (upL σ k x) q = cel X σ q := by
  refine cel_congr rfl ?_ rfl
  simp [upL, h]
theorem cel_upI_obj {X : Xc} {σ : St} {k ci j : Nat} {cs : List Nat} {x : Int32} (h : lay[k]? = some (.inl (ci, cs))) (hj : cs[j]? = some 0) : cel X (upI σ k j x) k = .inr (ci, (fvs X.2.1 σ k cs).set j (.int x)) := by
  rw [cel_obj h, fvs_set (σ := σ) hj]
  · simp [fv, upI]
  · intro i d hi _
    exact fv_congr (by simp [upI, hi]) rfl rfl
theorem cel_upL_obj {X : Xc} {σ : St} {k ci j : Nat} {cs : List Nat} {x : Int64} (h : lay[k]? = some (.inl (ci, cs))) (hj : cs[j]? = some 1) (hu : ∀ i, i ≠ j → cs[i]? ≠ some 1) : cel X (upL σ k x) k = .inr (ci, (fvs X.2.1 σ k cs).set j (.long x)) := by
  rw [cel_obj h, fvs_set (σ := σ) hj]
  · simp [fv, upL]
  · intro i d hi hd
    have hd1 : d ≠ 1 := fun e => hu i hi (by rw [hd, e])
    unfold fv
    split
    · rfl
    · exact absurd rfl hd1
    · rfl
    · rfl
    · rfl
theorem cel_upI_arr {X : Xc} {σ : St} {k t n j : Nat} {x : Int32} (h : lay[k]? = some (.inr (t, n))) (ht : t < 3) : cel X (upI σ k j x) k = .inl (X.2.2 t, n, .inl (upd (σ.1 k) j x)) := by
  have e : (upI σ k j x).1 k = upd (σ.1 k) j x := by
    funext b
    simp [upI, upd]
  rw [cel_arr h]
  unfold arc
  split
  · omega
  · omega
  · rw [e]
theorem cel_ia {X : Xc} {σ : St} {k t n : Nat} (h : lay[k]? = some (.inr (t, n))) (ht : t < 3) : cel X σ k = .inl (X.2.2 t, n, .inl (σ.1 k)) := by
  rw [cel_arr h]
  unfold arc
  split
  · omega
  · omega
  · rfl
/-- an index within; a read; a write -/
def inB (i : Int32) (n : Nat) : Bool := !(decide (i < 0)) && decide (i.toNatClampNeg < n)
theorem inB_in {i : Int32} {n : Nat} (h : inB i n = true) : vp_in i n := by
  simp only [inB, Bool.and_eq_true, Bool.not_eq_true', decide_eq_false_iff_not, decide_eq_true_eq] at h
  intro h2
  rcases h2 with h2 | h2
  · exact h.1 h2
  · omega
def rd (σ : St) (k n : Nat) (i : Int32) : Option Int32 := if inB i n = true then some (σ.1 k i.toNatClampNeg) else none
def wr (σ : St) (k n : Nat) (i x : Int32) : Option St := if inB i n = true then some (upI σ k i.toNatClampNeg x) else none
def rdN (n : Nat) (i : Int32) : Option Nat := if inB i n = true then some i.toNatClampNeg else none
theorem rd_ok {σ : St} {k n : Nat} {i v : Int32} (h : rd σ k n i = some v) : vp_in i n ∧ v = σ.1 k i.toNatClampNeg := by
  unfold rd at h
  split at h
  next c => exact ⟨inB_in c, (Option.some.inj h).symm⟩
  next => cases h
theorem wr_ok {σ σ' : St} {k n : Nat} {i x : Int32} (h : wr σ k n i x = some σ') : vp_in i n ∧ σ' = upI σ k i.toNatClampNeg x := by
  unfold wr at h
  split at h
  next c => exact ⟨inB_in c, (Option.some.inj h).symm⟩
  next => cases h
theorem rdN_ok {n : Nat} {i : Int32} {v : Nat} (h : rdN n i = some v) : vp_in i n ∧ v = i.toNatClampNeg ∧ v < n := by
  unfold rdN at h
  split at h
  next c =>
    have hv := (Option.some.inj h).symm
    refine ⟨inB_in c, hv, ?_⟩
    simp only [inB, Bool.and_eq_true, decide_eq_true_eq] at c
    omega
  next => cases h
def b2i (b : Bool) : Int32 := if b then 1 else 0
/-! THE SURROUNDINGS: the String constants (at the numbers 60 to 69 of the addresses), the statics that are read -/
def strs : List (String × Nat × String × Nat) := [("RunningCount$Tape", 60, "shelves", 0), ("RunningCount$Tape", 66, "item", 1), ("RunningCount$Tape", 68, "stock", 2), ("RunningCount$Tape", 70, "move", 3), ("RunningCount$Tape", 72, "from", 4), ("RunningCount$Tape", 74, "to", 5), ("RunningCount", 119, "no such move", 6), ("RunningCount", 143, "no such property of a move", 7), ("RunningCount", 186, "no such count", 8), ("RunningCount", 209, "no such property of a count", 9)]
def lenS : List Nat := [7, 4, 5, 4, 4, 2, 12, 26, 13, 27]
def bytS : List (List Int32) := [[115, 104, 101, 108, 118, 101, 115], [105, 116, 101, 109], [115, 116, 111, 99, 107], [109, 111, 118, 101], [102, 114, 111, 109], [116, 111], [110, 111, 32, 115, 117, 99, 104, 32, 109, 111, 118, 101], [110, 111, 32, 115, 117, 99, 104, 32, 112, 114, 111, 112, 101, 114, 116, 121, 32, 111, 102, 32, 97, 32, 109, 111, 118, 101], [110, 111, 32, 115, 117, 99, 104, 32, 99, 111, 117, 110, 116], [110, 111, 32, 115, 117, 99, 104, 32, 112, 114, 111, 112, 101, 114, 116, 121, 32, 111, 102, 32, 97, 32, 99, 111, 117, 110, 116]]
def dcl : List MethodName := [⟨"java/lang/RuntimeException", "<init>", "(Ljava/lang/String;)V"⟩, ⟨"java/lang/Exception", "<init>", "(Ljava/lang/String;)V"⟩, ⟨"java/lang/Throwable", "<init>", "(Ljava/lang/String;)V"⟩]
def envA (X : Xc) (A : Nat → Prop) (U : State) (H : Heap) : Prop := vk_S 10 lenS bytS (fun i => X.2.1 (60 + i)) (fun i => X.2.1 (80 + i)) A U H ∧ (∀ q ∈ strs, vk_R q.1 q.2.1 q.2.2.1 (X.2.1 (60 + q.2.2.2)) U) ∧ va_Z "java/lang/String" "COMPACT_STRINGS" "Z" (.int 1) A U H ∧ va_Zq "jdk/internal/util/Preconditions" "SIOOBE_FORMATTER" "Ljava/util/function/BiFunction;" A U H ∧ vx_Zq Bundle.tN "UNASSIGNED_STACK" Bundle.steD A U H ∧ vx_Zq Bundle.tN "SUPPRESSED_SENTINEL" Bundle.listD A U H ∧ ∀ x ∈ dcl, va_Nw (.declares x) U
def env (X : Xc) (U : State) : Prop := envA X (AX X) U U.heap
theorem envA.warm {X : Xc} {A : Nat → Prop} {s U : State} {H H1 : Heap} (hW : s.WarmedH U.vm) (hq : ∀ a : Nat, a < H.size → ¬ A a → H1[a]? = H[a]?) (h : envA X A s H) : envA X A U H1 := by
  obtain ⟨h1, h2, h3, h4, h5, h6, h7⟩ := h
  exact ⟨(h1.moved hW.alike).kept hq, fun q hq => (h2 q hq).warm hW, (h3.moved hW.alike).kept hq, (h4.moved hW.alike).kept hq, (h5.moved hW.alike).kept hq, (h6.moved hW.alike).kept hq, fun x hx => va_Nw.warmD hW (h7 x hx)⟩
theorem envA.narrow {X : Xc} {A B : Nat → Prop} {U : State} {H : Heap} (hAB : ∀ q, B q → A q) (h : envA X A U H) : envA X B U H := by
  obtain ⟨h1, h2, h3, h4, h5, h6, h7⟩ := h
  exact ⟨h1.narrow hAB, h2, h3.narrow hAB, h4.narrow hAB, h5.narrow hAB, h6.narrow hAB, h7⟩
theorem env.warm {X : Xc} {s U : State} (hW : s.WarmedH U.vm) (hq : ∀ a : Nat, a < s.heap.size → ¬ AX X a → U.heap[a]? = s.heap[a]?) (h : env X s) : env X U := envA.warm hW hq h
theorem env.same {X : Xc} {s U : State} (hv : s.vm = U.vm) (hh : U.heap = s.heap) (h : env X s) : env X U := by
  obtain ⟨h1, h2, h3, h4, h5, h6, h7⟩ := h
  have ha : s.vm.Alike U.vm := by rw [hv]; exact Vm.Alike.refl _
  have hq : ∀ a : Nat, a < s.heap.size → ¬ AX X a → U.heap[a]? = s.heap[a]? := fun a _ _ => by rw [hh]
  exact ⟨(h1.moved ha).kept hq, fun q hq => (h2 q hq).same hv.symm, (h3.moved ha).kept hq, (h4.moved ha).kept hq, (h5.moved ha).kept hq, (h6.moved ha).kept hq, fun x hx => va_Nw.same rfl hv (h7 x hx)⟩
/-! THE CONTEXT of a walk, THE WORLD at a place of it -/
def Cx (p : Program) (s : State) (m : MethodId) (args : Array Value) (c : Code) (X : Xc) (cc : ByteArray) (nL : Nat) (own : String) : Prop :=
  p.tables.exec = Jvm.exec ∧ c.code = cc ∧ c.maxLocals = nL ∧ s.vm.findClass own = some m.cls ∧ (∀ w ∈ GW, w.before args s = true) ∧ va_K X.1 vwCl (tyX X) s ∧ nwOk s ∧ inj X ∧ env X s
def At (X : Xc) (σ : St) (H0 H : Heap) (locs : List Loc) : Prop := va_P X.1 vwCl (wsX X σ) H ∧ va_S (AX X) H0 H locs ∧ wf σ
def PW (X : Xc) (σ : St) (U : State) : Prop := va_P X.1 vwCl (wsX X σ) U.heap ∧ va_K X.1 vwCl (tyX X) U ∧ nwOk U ∧ inj X ∧ wf σ ∧ env X U
def QV (X : Xc) (v : Option Value) (σ' : St) : Array Value → State → Outcome → State → Prop := fun _ st oc t => oc = .returned v ∧ va_P X.1 vwCl (wsX X σ') t.heap ∧ wf σ' ∧ va_F (AX X) st t
abbrev rmX (fr lo : Nat) : Room := { frames := fr, cells := 0, slots := 0, locals := lo }
/-- a method's contract: from σ, with the arguments av, it answers v, and σ' is the state behind it -/
def Ok (X : Xc) (l : Launch) (y : MethodName) (cc : ByteArray) (nL : Nat) (ret : Option FieldType) (fr lo : Nat) (av : List Value) (σ : St) (v : Option Value) (σ' : St) : Prop :=
  Met l y (.code y cc nL ret :: GW) (rmX fr lo) (va_Pc av (PW X σ)) (QV X v σ') 0 0 (AX X)
def Zq (X : Xc) (below : List Frame) (s : State) (args : Array Value) (v : Option Value) (σ' : St) : State → Prop := MQ below (QV X v σ') args s 0 0 (AX X)
theorem Ok.of {X : Xc} {l : Launch} {y : MethodName} {cc : ByteArray} {nL : Nat} {ret : Option FieldType} {fr lo : Nat} {av : List Value} {σ σ' : St} {v : Option Value} (hy : plainName y.cls = true) (hn : (lg_sl av).length ≤ nL)
    (body : ∀ (p : Program) (e : Env) (s : State) (m : MethodId) (args : Array Value) (below : List Frame) (meth : Method) (c : Code), Cx p s m args c X cc nL y.cls → meth.sig.returnType = ret → meth.locks = false → At X σ s.heap s.heap [] → ∀ ls : Array Slot, lv_has ls nL (lv_args 0 av) →
      W p l e (rmX fr lo) s m args below meth c s.heap [] 0 0 (Zq X below s args v σ') (F0 m 0 ls [])) : Ok X l y cc nL ret fr lo av σ v σ' := by
  refine Met.ofW (cc := cc) (maxL := nL) (ret := ret) hy rfl ?_
  intro p e s m args below meth c s₁ B hml hv
  obtain ⟨rfl, hP, hK, hN, hI, hw, hE⟩ := hv
  have hl := lv_entry av hn
  rw [lg_entry_eq]
  generalize (lg_sl av ++ List.replicate (nL - (lg_sl av).length) Slot.unset).toArray = ls at hl ⊢
  exact body p e s m _ below meth c ⟨B.exec, B.bytes, hml, findClass_of_methodNamed B.named, fun w h => atoms_spec (ws := .code y cc nL ret :: GW) B.pre w (List.mem_cons_of_mem _ h), hK, hN, hI, hE⟩ B.returns B.notSynchronized ⟨hP, va_S.rf, hw⟩ ls hl
