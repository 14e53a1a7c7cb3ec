section RULES
variable {p : Program} {l : Launch} {e : Env} {R : Room} {s : State} {m : MethodId} {args : Array Value} {below : List Frame} {meth : Method} {c : Code} {H H0 : Heap} {locs : List Loc} {cells slots : Nat} {Q : State → Prop}
variable {X : Xc} {σ σ' : St} {cc : ByteArray} {nL : Nat} {own : String} {pc : Nat} {ls : Array Slot} {rest : List Value}
theorem ite_t {α : Sort _} {b : Prop} [Decidable b] {x y o : α} (hb : b) (h : (if b then x else y) = o) : x = o := by rw [if_pos hb] at h; exact h
theorem ite_f {α : Sort _} {b : Prop} [Decidable b] {x y o : α} (hb : ¬ b) (h : (if b then x else y) = o) : y = o := by rw [if_neg hb] at h; exact h
theorem bnd {α β : Type} {o : Option α} {f : α → Option β} {r : β} (h : o.bind f = some r) : ∃ a, o = some a ∧ f a = some r := by
  cases o with
  | none => cases h
  | some a => exact ⟨a, rfl, h⟩
/-- no other cell names goods or spare -/
theorem lay_no : ∀ q : Nat, q ≠ 0 → ∀ (ci : Nat) (cs : List Nat), lay[q]? = some (.inl (ci, cs)) → ∀ d : Nat, (d = 2 ∨ d = 3) → ∀ c ∈ cs, c ≠ d := by
  have key : ∀ q : Nat, q < 58 → q ≠ 0 → (match lay[q]? with | some (.inl (_, cs)) => cs.all (fun c => !(c == 2) && !(c == 3)) | _ => true) = true := by decide +kernel
  intro q hq ci cs h d hd c hc
  have h1 := key q (lay_lt h) hq
  rw [h] at h1
  have h2 := List.all_eq_true.mp h1 c hc
  simp only [Bool.and_eq_true, Bool.not_eq_true', beq_eq_false_iff_ne] at h2
  rcases hd with rfl | rfl
  · exact h2.1
  · exact h2.2
/-- a name for a value -/
def nm {α : Type} {β : Sort _} (a : α) (f : α → β) : β := f a
theorem nm_d {α : Type} {β : Sort _} {a : α} {f : α → β} {o : β} (h : nm a f = o) : ∃ x, x = a ∧ f x = o := ⟨a, rfl, h⟩
theorem no_some {α : Type} {o : α} {P : Prop} (h : (none : Option α) = some o) : P := by cases h
theorem lv_nm {x y : Int32} (e9 : y = x) (k : W p l e R s m args below meth c H locs cells slots Q (F0 m pc ls (.int y :: rest))) : W p l e R s m args below meth c H locs cells slots Q (F0 m pc ls (.int x :: rest)) := e9 ▸ k
theorem lv_nml {x y : Int64} (e9 : y = x) (k : W p l e R s m args below meth c H locs cells slots Q (F0 m pc ls (.long y :: rest))) : W p l e R s m args below meth c H locs cells slots Q (F0 m pc ls (.long x :: rest)) := e9 ▸ k
theorem r_get (C : Cx p s m args c X cc nL own) (h : At X σ H0 H locs) {k ci : Nat} {cs : List Nat} {Cn : String} {T : u_T} {N : Nat} (hk : lay[k]? = some (.inl (ci, cs))) (hcl : vwCl[ci]? = some (Cn, T, N)) (hin : ∀ w ∈ u_ws Cn T N, w ∈ GW) (j : Nat) {cd : Nat} (hj : cs[j]? = some cd) (hN : j < N) {index : Nat} {v : Value} (hlink : Cond.fieldLink own index (T j).1 (T j).2.1 (T j).2.2.1 ∈ GW) (hv : fv X.2.1 σ k cd j = v) (hdg : decode cc pc = .ok (.getfield index, 3))
    (kk : W p l e R s m args below meth c H locs cells slots Q (F0 m (pc + 3) ls (v :: rest))) : W p l e R s m args below meth c H locs cells slots Q (F0 m pc ls (.ref (X.2.1 k) :: rest)) := by
  subst hv
  have he := ws_get (X := X) (σ := σ) (lay_lt hk)
  rw [cel_obj hk] at he
  exact va_get C.1 C.2.1 C.2.2.2.2.1 hin C.2.2.2.1 C.2.2.2.2.2.1 h.1 k he hcl j hN (C.2.2.2.2.1 _ hlink) (fun _ h9 => h9) (fvs_get hj) hdg kk
theorem r_getN (C : Cx p s m args c X cc nL own) (h : At X σ H0 H locs) {k ci : Nat} {cs : List Nat} {Cn host : String} {T : u_T} {N : Nat} (hk : lay[k]? = some (.inl (ci, cs))) (hcl : vwCl[ci]? = some (Cn, T, N)) (hin : ∀ w ∈ u_ws Cn T N, w ∈ GW) (j : Nat) {cd : Nat} (hj : cs[j]? = some cd) (hN : j < N) {index : Nat} {v : Value} (hlink : Cond.fieldLinkNest own index (T j).1 (T j).2.1 (T j).2.2.1 host ∈ NW) (hv : fv X.2.1 σ k cd j = v) (hdg : decode cc pc = .ok (.getfield index, 3))
    (kk : W p l e R s m args below meth c H locs cells slots Q (F0 m (pc + 3) ls (v :: rest))) : W p l e R s m args below meth c H locs cells slots Q (F0 m pc ls (.ref (X.2.1 k) :: rest)) := by
  subst hv
  have he := ws_get (X := X) (σ := σ) (lay_lt hk)
  rw [cel_obj hk] at he
  exact va_getN C.1 C.2.1 C.2.2.2.2.1 hin C.2.2.2.1 C.2.2.2.2.2.1 h.1 k he hcl j hN (va_Nw.use rfl (C.2.2.2.2.2.2.1 _ hlink)) (fun _ h9 => h9) (fvs_get hj) hdg kk
/-- what a put of a field leaves -/
def isPut (X : Xc) (σ σ' : St) (k ci j : Nat) (cs : List Nat) (v : Value) : Prop := cel X σ' k = .inr (ci, (fvs X.2.1 σ k cs).set j v) ∧ (∀ q, q ≠ k → cel X σ' q = cel X σ q) ∧ (wf σ → wf σ')
theorem r_put (C : Cx p s m args c X cc nL own) (h : At X σ H0 H locs) {k ci : Nat} {cs : List Nat} {Cn : String} {T : u_T} {N : Nat} (hk : lay[k]? = some (.inl (ci, cs))) (hcl : vwCl[ci]? = some (Cn, T, N)) (hin : ∀ w ∈ u_ws Cn T N, w ∈ GW) (ty0 : Nat → FieldType) (hty : ∀ k, k < N → parseFieldDescriptor (T k).2.2.1 = some (ty0 k)) (hnm : ∀ a, a < N → ∀ b, b < N → a ≠ b → (T a).2.1 ≠ (T b).2.1) (j : Nat) (hjl : j < cs.length) (hN : j < N) {index : Nat} {v : Value} (hlink : Cond.fieldLink own index (T j).1 (T j).2.1 (T j).2.2.1 ∈ GW) (hfin : (T j).2.2.2 = false) (hn : narrow (ty0 j) v = v) (hfit : fits (ty0 j) v = true) (hp : isPut X σ σ' k ci j cs v) (hdg : decode cc pc = .ok (.putfield index, 3))
    (kk : ∀ (H1 : Heap) (locs1 : List Loc), At X σ' H0 H1 locs1 → W p l e R s m args below meth c H1 locs1 cells slots Q (F0 m (pc + 3) ls rest)) : W p l e R s m args below meth c H locs cells slots Q (F0 m pc ls (v :: .ref (X.2.1 k) :: rest)) := by
  have he := ws_get (X := X) (σ := σ) (lay_lt hk)
  rw [cel_obj hk] at he
  refine va_put C.1 C.2.1 C.2.2.2.2.1 hin ty0 hty hnm C.2.2.2.1 C.2.2.2.2.2.1 h.1 (ws_D σ C.2.2.2.2.2.2.2.1) h.2.1 k he hcl j hN (C.2.2.2.2.1 _ hlink) (fun _ h9 => h9) hfin (hty j hN) hn hfit (by simpa [fvs] using hjl) hdg (fun H1 locs1 hP _ hS => ?_)
  rw [ws_set (lay_lt hk) hp.1 hp.2.1] at hP
  exact kk H1 locs1 ⟨hP, hS, hp.2.2 h.2.2⟩
theorem r_putN (C : Cx p s m args c X cc nL own) (h : At X σ H0 H locs) {k ci : Nat} {cs : List Nat} {Cn host : String} {T : u_T} {N : Nat} (hk : lay[k]? = some (.inl (ci, cs))) (hcl : vwCl[ci]? = some (Cn, T, N)) (hin : ∀ w ∈ u_ws Cn T N, w ∈ GW) (ty0 : Nat → FieldType) (hty : ∀ k, k < N → parseFieldDescriptor (T k).2.2.1 = some (ty0 k)) (hnm : ∀ a, a < N → ∀ b, b < N → a ≠ b → (T a).2.1 ≠ (T b).2.1) (j : Nat) (hjl : j < cs.length) (hN : j < N) {index : Nat} {v : Value} (hlink : Cond.fieldLinkNest own index (T j).1 (T j).2.1 (T j).2.2.1 host ∈ NW) (hfin : (T j).2.2.2 = false) (hn : narrow (ty0 j) v = v) (hfit : fits (ty0 j) v = true) (hp : isPut X σ σ' k ci j cs v) (hdg : decode cc pc = .ok (.putfield index, 3))
    (kk : ∀ (H1 : Heap) (locs1 : List Loc), At X σ' H0 H1 locs1 → W p l e R s m args below meth c H1 locs1 cells slots Q (F0 m (pc + 3) ls rest)) : W p l e R s m args below meth c H locs cells slots Q (F0 m pc ls (v :: .ref (X.2.1 k) :: rest)) := by
  have he := ws_get (X := X) (σ := σ) (lay_lt hk)
  rw [cel_obj hk] at he
  refine va_putN C.1 C.2.1 C.2.2.2.2.1 hin ty0 hty hnm C.2.2.2.1 C.2.2.2.2.2.1 h.1 (ws_D σ C.2.2.2.2.2.2.2.1) h.2.1 k he hcl j hN (va_Nw.use rfl (C.2.2.2.2.2.2.1 _ hlink)) (fun _ h9 => h9) hfin (hty j hN) hn hfit (by simpa [fvs] using hjl) hdg (fun H1 locs1 hP _ hS => ?_)
  rw [ws_set (lay_lt hk) hp.1 hp.2.1] at hP
  exact kk H1 locs1 ⟨hP, hS, hp.2.2 h.2.2⟩
theorem put_i {k ci j : Nat} {cs : List Nat} {x : Int32} (h : lay[k]? = some (.inl (ci, cs))) (hj : cs[j]? = some 0) (e : σ' = upI σ k j x) : isPut X σ σ' k ci j cs (.int x) := by
  subst e
  exact ⟨cel_upI_obj h hj, fun _ hq => cel_upI_ne hq, fun h => h⟩
theorem one_l {cs : List Nat} {j : Nat} (h : (List.range cs.length).all (fun i => (i == j) || !(cs[i]? == some 1)) = true) : ∀ i, i ≠ j → cs[i]? ≠ some 1 := by
  intro i hi he
  have hl : i < cs.length := (List.getElem?_eq_some_iff.mp he).1
  have := List.all_eq_true.mp h i (List.mem_range.mpr hl)
  simp [he, hi] at this
theorem put_l {k ci j : Nat} {cs : List Nat} {x : Int64} (h : lay[k]? = some (.inl (ci, cs))) (hj : cs[j]? = some 1) (hu : (List.range cs.length).all (fun i => (i == j) || !(cs[i]? == some 1)) = true) (e : σ' = upL σ k x) : isPut X σ σ' k ci j cs (.long x) := by
  subst e
  exact ⟨cel_upL_obj h hj (one_l hu), fun _ hq => cel_upL_ne hq, fun h => h⟩
theorem put_G {g : Nat} (hg : isG g) (e : σ' = upG σ g) : isPut X σ σ' 0 8 1 [5, 2, 3, 28, 35, 40, 52] (.ref (X.2.1 g)) := by
  subst e
  refine ⟨rfl, fun q hq => ?_, fun h => ⟨hg, h.2⟩⟩
  have h0 : ∀ j c, c ≠ 2 → fv X.2.1 (upG σ g) q c j = fv X.2.1 σ q c j := by
    intro j c hc
    unfold fv
    split
    · rfl
    · rfl
    · exact absurd rfl hc
    · rfl
    · rfl
  unfold cel
  split
  next ci cs hl =>
    have hc : ∀ c ∈ cs, c ≠ 2 := lay_no q hq ci cs hl 2 (Or.inl rfl)
    have : fvs X.2.1 (upG σ g) q cs = fvs X.2.1 σ q cs := by
      apply List.ext_getElem?
      intro i
      cases h : cs[i]? with
      | none => simp [fvs, List.getElem?_mapIdx, h]
      | some d => rw [fvs_get h, fvs_get h, h0 i d (hc d (List.mem_of_getElem? h))]
    rw [this]
  next => rfl
  next => rfl
theorem put_S {g : Nat} (hg : isG g) (e : σ' = upS σ g) : isPut X σ σ' 0 8 2 [5, 2, 3, 28, 35, 40, 52] (.ref (X.2.1 g)) := by
  subst e
  refine ⟨rfl, fun q hq => ?_, fun h => ⟨h.1, hg⟩⟩
  have h0 : ∀ j c, c ≠ 3 → fv X.2.1 (upS σ g) q c j = fv X.2.1 σ q c j := by
    intro j c hc
    unfold fv
    split
    · rfl
    · rfl
    · rfl
    · exact absurd rfl hc
    · rfl
  unfold cel
  split
  next ci cs hl =>
    have hc : ∀ c ∈ cs, c ≠ 3 := lay_no q hq ci cs hl 3 (Or.inr rfl)
    have : fvs X.2.1 (upS σ g) q cs = fvs X.2.1 σ q cs := by
      apply List.ext_getElem?
      intro i
      cases h : cs[i]? with
      | none => simp [fvs, List.getElem?_mapIdx, h]
      | some d => rw [fvs_get h, fvs_get h, h0 i d (hc d (List.mem_of_getElem? h))]
    rw [this]
  next => rfl
  next => rfl
theorem r_ald {n : Nat} {v i : Int32} {k : Nat} (C : Cx p s m args c X cc nL own) (h : At X σ H0 H locs) (hk : lay[k]? = some (.inr (1, n))) (hr : rd σ k n i = some v) (hdg : decode cc pc = .ok (.iaload, 1))
    (kk : W p l e R s m args below meth c H locs cells slots Q (F0 m (pc + 1) ls (.int v :: rest))) : W p l e R s m args below meth c H locs cells slots Q (F0 m pc ls (.int i :: .ref (X.2.1 k) :: rest)) := by
  obtain ⟨h1, rfl⟩ := rd_ok hr
  have he := ws_get (X := X) (σ := σ) (lay_lt hk)
  rw [cel_ia hk (by decide)] at he
  exact va_iald C.1 C.2.1 C.2.2.2.2.2.1 h.1 k 1 he rfl h1 hdg kk
theorem r_bald {n : Nat} {v i : Int32} {k : Nat} (C : Cx p s m args c X cc nL own) (h : At X σ H0 H locs) (hk : lay[k]? = some (.inr (0, n))) (hr : rd σ k n i = some v) (hdg : decode cc pc = .ok (.baload, 1))
    (kk : W p l e R s m args below meth c H locs cells slots Q (F0 m (pc + 1) ls (.int v :: rest))) : W p l e R s m args below meth c H locs cells slots Q (F0 m pc ls (.int i :: .ref (X.2.1 k) :: rest)) := by
  obtain ⟨h1, rfl⟩ := rd_ok hr
  have he := ws_get (X := X) (σ := σ) (lay_lt hk)
  rw [cel_ia hk (by decide)] at he
  exact va_bald C.1 C.2.1 C.2.2.2.2.2.1 h.1 k 0 he rfl h1 hdg kk
theorem r_zald {n : Nat} {v i : Int32} {k : Nat} (C : Cx p s m args c X cc nL own) (h : At X σ H0 H locs) (hk : lay[k]? = some (.inr (2, n))) (hr : rd σ k n i = some v) (hdg : decode cc pc = .ok (.baload, 1))
    (kk : W p l e R s m args below meth c H locs cells slots Q (F0 m (pc + 1) ls (.int v :: rest))) : W p l e R s m args below meth c H locs cells slots Q (F0 m pc ls (.int i :: .ref (X.2.1 k) :: rest)) := by
  obtain ⟨h1, rfl⟩ := rd_ok hr
  have he := ws_get (X := X) (σ := σ) (lay_lt hk)
  rw [cel_ia hk (by decide)] at he
  exact va_zald C.1 C.2.1 C.2.2.2.2.2.1 h.1 k 2 he rfl h1 hdg kk
theorem r_ast {n : Nat} {x i : Int32} {k : Nat} (C : Cx p s m args c X cc nL own) (h : At X σ H0 H locs) (hk : lay[k]? = some (.inr (1, n))) (hr : wr σ k n i x = some σ') (hdg : decode cc pc = .ok (.iastore, 1))
    (kk : ∀ (H1 : Heap) (locs1 : List Loc), At X σ' H0 H1 locs1 → W p l e R s m args below meth c H1 locs1 cells slots Q (F0 m (pc + 1) ls rest)) : W p l e R s m args below meth c H locs cells slots Q (F0 m pc ls (.int x :: .int i :: .ref (X.2.1 k) :: rest)) := by
  obtain ⟨h1, rfl⟩ := wr_ok hr
  have he := ws_get (X := X) (σ := σ) (lay_lt hk)
  rw [cel_ia hk (by decide)] at he
  refine va_iast C.1 C.2.1 C.2.2.2.2.2.1 h.1 (ws_D σ C.2.2.2.2.2.2.2.1) h.2.1 k 1 he rfl h1 hdg (fun H1 locs1 hP _ hS => ?_)
  rw [ws_set (lay_lt hk) (cel_upI_arr hk (by decide)) (fun _ hq => cel_upI_ne hq)] at hP
  exact kk H1 locs1 ⟨hP, hS, h.2.2⟩
theorem r_bast {n : Nat} {x i : Int32} {k : Nat} (C : Cx p s m args c X cc nL own) (h : At X σ H0 H locs) (hk : lay[k]? = some (.inr (0, n))) (hr : wr σ k n i (vp_nar .byte x) = some σ') (hdg : decode cc pc = .ok (.bastore, 1))
    (kk : ∀ (H1 : Heap) (locs1 : List Loc), At X σ' H0 H1 locs1 → W p l e R s m args below meth c H1 locs1 cells slots Q (F0 m (pc + 1) ls rest)) : W p l e R s m args below meth c H locs cells slots Q (F0 m pc ls (.int x :: .int i :: .ref (X.2.1 k) :: rest)) := by
  obtain ⟨h1, rfl⟩ := wr_ok hr
  have he := ws_get (X := X) (σ := σ) (lay_lt hk)
  rw [cel_ia hk (by decide)] at he
  refine va_bast C.1 C.2.1 C.2.2.2.2.2.1 h.1 (ws_D σ C.2.2.2.2.2.2.2.1) h.2.1 k 0 he rfl h1 hdg (fun H1 locs1 hP _ hS => ?_)
  rw [ws_set (lay_lt hk) (cel_upI_arr hk (by decide)) (fun _ hq => cel_upI_ne hq)] at hP
  exact kk H1 locs1 ⟨hP, hS, h.2.2⟩
theorem r_zast {n : Nat} {x i : Int32} {k : Nat} (C : Cx p s m args c X cc nL own) (h : At X σ H0 H locs) (hk : lay[k]? = some (.inr (2, n))) (hr : wr σ k n i (vp_nar .boolean x) = some σ') (hdg : decode cc pc = .ok (.bastore, 1))
    (kk : ∀ (H1 : Heap) (locs1 : List Loc), At X σ' H0 H1 locs1 → W p l e R s m args below meth c H1 locs1 cells slots Q (F0 m (pc + 1) ls rest)) : W p l e R s m args below meth c H locs cells slots Q (F0 m pc ls (.int x :: .int i :: .ref (X.2.1 k) :: rest)) := by
  obtain ⟨h1, rfl⟩ := wr_ok hr
  have he := ws_get (X := X) (σ := σ) (lay_lt hk)
  rw [cel_ia hk (by decide)] at he
  refine va_zast C.1 C.2.1 C.2.2.2.2.2.1 h.1 (ws_D σ C.2.2.2.2.2.2.2.1) h.2.1 k 2 he rfl h1 hdg (fun H1 locs1 hP _ hS => ?_)
  rw [ws_set (lay_lt hk) (cel_upI_arr hk (by decide)) (fun _ hq => cel_upI_ne hq)] at hP
  exact kk H1 locs1 ⟨hP, hS, h.2.2⟩
theorem r_alen {n t : Nat} {v : Int32} {k : Nat} (C : Cx p s m args c X cc nL own) (h : At X σ H0 H locs) (hk : lay[k]? = some (.inr (t, n))) (ht : t < 3) (hv : Int32.ofNat n = v) (hdg : decode cc pc = .ok (.arraylength, 1))
    (kk : W p l e R s m args below meth c H locs cells slots Q (F0 m (pc + 1) ls (.int v :: rest))) : W p l e R s m args below meth c H locs cells slots Q (F0 m pc ls (.ref (X.2.1 k) :: rest)) := by
  have he := ws_get (X := X) (σ := σ) (lay_lt hk)
  rw [cel_ia hk ht] at he
  rcases (show t = 0 ∨ t = 1 ∨ t = 2 by omega) with rfl | rfl | rfl
  · exact va_alen C.1 C.2.1 C.2.2.2.2.2.1 h.1 k 0 he rfl hv hdg kk
  · exact va_alen C.1 C.2.1 C.2.2.2.2.2.1 h.1 k 1 he rfl hv hdg kk
  · exact va_alen C.1 C.2.1 C.2.2.2.2.2.1 h.1 k 2 he rfl hv hdg kk
theorem r_aald {n : Nat} {i : Int32} {k v : Nat} (C : Cx p s m args c X cc nL own) (h : At X σ H0 H locs) (hk : lay[k]? = some (.inr (4, n))) (hr : rdN n i = some v) (hdg : decode cc pc = .ok (.aaload, 1))
    (kk : W p l e R s m args below meth c H locs cells slots Q (F0 m (pc + 1) ls (.ref (X.2.1 (k + 1 + v)) :: rest))) : W p l e R s m args below meth c H locs cells slots Q (F0 m pc ls (.int i :: .ref (X.2.1 k) :: rest)) := by
  obtain ⟨h1, rfl, -⟩ := rdN_ok hr
  have he := ws_get (X := X) (σ := σ) (lay_lt hk)
  rw [cel_arr hk] at he
  exact va_aldq C.1 C.2.1 C.2.2.2.2.2.1 h.1 k 4 he rfl h1 hdg kk
/-! ends -/
theorem at_end {v0 : Option Value} (h : At X σ s.heap H locs) : ∀ t : State, t.heap = H → QV X v0 σ args s (.returned v0) t := fun t ht => ⟨rfl, by rw [ht]; exact h.1, h.2.2, h.2.1.F ht⟩
theorem r_iret (C : Cx p s m args c X cc nL own) (hr : meth.sig.returnType = some .int) (hlk : meth.locks = false) (h : At X σ s.heap H locs) {x r : Int32} (hx : x = r) (hs : σ = σ') (hdg : decode cc pc = .ok (.ireturn, 1)) : W p l e R s m args below meth c H locs 0 0 (Zq X below s args (some (.int r)) σ') (F0 m pc ls [.int x]) := by
  subst hx; subst hs
  exact W.iret C.1 C.2.1 hr (fun t ht _ => at_end h t ht) h.2.1.2.2 hdg hlk
theorem b2i_nar (b : Bool) : narrow .boolean (.int (b2i b)) = .int (b2i b) := by cases b <;> rfl
theorem r_zret (C : Cx p s m args c X cc nL own) (hr : meth.sig.returnType = some .boolean) (hlk : meth.locks = false) (h : At X σ s.heap H locs) {x : Int32} {b r : Bool} (hb : b2i b = x) (hx : b = r) (hs : σ = σ') (hdg : decode cc pc = .ok (.ireturn, 1)) : W p l e R s m args below meth c H locs 0 0 (Zq X below s args (some (.int (b2i r))) σ') (F0 m pc ls [.int x]) := by
  subst hb; subst hx; subst hs
  exact W.zret C.1 C.2.1 hr (b2i_nar b) (fun t ht _ => at_end h t ht) h.2.1.2.2 hdg hlk
theorem r_lret (C : Cx p s m args c X cc nL own) (hr : meth.sig.returnType = some .long) (hlk : meth.locks = false) (h : At X σ s.heap H locs) {x r : Int64} (hx : x = r) (hs : σ = σ') (hdg : decode cc pc = .ok (.lreturn, 1)) : W p l e R s m args below meth c H locs 0 0 (Zq X below s args (some (.long r)) σ') (F0 m pc ls [.long x]) := by
  subst hx; subst hs
  exact W.lret C.1 C.2.1 hr (fun t ht _ => at_end h t ht) h.2.1.2.2 hdg hlk
theorem r_vret (C : Cx p s m args c X cc nL own) (hr : meth.sig.returnType = none) (hlk : meth.locks = false) (h : At X σ s.heap H locs) (hs : σ = σ') (hdg : decode cc pc = .ok (.return_, 1)) : W p l e R s m args below meth c H locs 0 0 (Zq X below s args none σ') (F0 m pc ls []) := by
  subst hs
  exact W.vret C.1 C.2.1 hr (fun t ht _ => at_end h t ht) h.2.1.2.2 hdg hlk
theorem r_aret (C : Cx p s m args c X cc nL own) {cn : String} (hr : meth.sig.returnType = some (.object cn)) (hlk : meth.locks = false) (h : At X σ s.heap H locs) {x r : Nat} (hx : x = r) (hs : σ = σ') (hdg : decode cc pc = .ok (.areturn, 1)) : W p l e R s m args below meth c H locs 0 0 (Zq X below s args (some (.ref (X.2.1 r))) σ') (F0 m pc ls [.ref (X.2.1 x)]) := by
  subst hx; subst hs
  exact W.aret C.1 C.2.1 hr (Or.inl ⟨_, rfl⟩) (Or.inr ⟨_, rfl⟩) (fun t ht _ => at_end h t ht) h.2.1.2.2 hdg hlk
/-! calls -/
theorem pw_blind {av : List Value} : FrameBlind (va_Pc av (PW X σ)) := fun a U g mk q => ⟨q.1, q.2.1, va_K.moved (u := U) (U := U.calling g mk a) (Vm.Alike.refl U.vm) q.2.2.1, nwOk.same (s := U) (U := U.calling g mk a) rfl q.2.2.2.1, q.2.2.2.2.1, q.2.2.2.2.2.1, env.same (s := U) (U := U.calling g mk a) rfl rfl q.2.2.2.2.2.2⟩
theorem pw_at (C : Cx p s m args c X cc nL own) (h : At X σ s.heap H locs) {av : List Value} : ∀ U : State, U.heap = H → s.WarmedH U.vm → va_Pc av (PW X σ) av.toArray U := fun U hU hW => ⟨rfl, by rw [hU]; exact h.1, va_K.moved hW.alike C.2.2.2.2.2.1, nwOk.warm hW C.2.2.2.2.2.2.1, C.2.2.2.2.2.2.2.1, h.2.2, env.warm hW (by rw [hU]; exact h.2.1.2.1) C.2.2.2.2.2.2.2.2⟩
theorem r_back {v : Option Value} {st0 : List Value} {a : Array Value} (C : Cx p s m args c X cc nL own) (h : At X σ s.heap H locs) (hr : va_Run p l e R s m args below meth c H locs cells slots 0 0 (F0 m pc ls st0) rest (QV X v σ' a) (AX X))
    (kk : ∀ (H1 : Heap) (locs1 : List Loc), At X σ' s.heap H1 locs1 → W p l e R s m args below meth c H1 locs1 cells slots Q (F0 m (pc + 3) ls (v.toList ++ rest))) : W p l e R s m args below meth c H locs cells slots Q (F0 m pc ls st0) := by
  intro T hT Y
  obtain ⟨v', st₀, t, T', L, h0, X', hL, e1, e2, ⟨hv, hP, hw, hz, hk⟩, st⟩ := hr T hT Y
  cases hv
  rw [h0] at hz hk
  have hS := h.2.1
  obtain ⟨t2, a1, b1⟩ := kk T'.heap (locs ++ L) ⟨by rw [e1]; exact hP, ⟨Nat.le_trans hS.1 (by rw [e1]; exact hz), fun q h1 h2 => by rw [e1, hk q (Nat.lt_of_lt_of_le h1 hS.1) h2]; exact hS.2.1 q h1 h2, fun q hq => by
      rcases List.mem_append.mp hq with h | h
      · exact hS.2.2 q h
      · exact hL q h⟩, hw⟩ T' rfl X'
  exact ⟨t2, st t2 a1, b1⟩
theorem r_callV {y : MethodName} {cY : ByteArray} {nY fr lo k ci idx : Nat} {cs : List Nat} {T : u_T} {N : Nat} {ret : Option FieldType} {As : List Value} {v : Option Value} (C : Cx p s m args c X cc nL own) (h : At X σ s.heap H locs)
    (hM : Ok X l y cY nY ret fr lo (.ref (X.2.1 k) :: As) σ v σ') (hk : lay[k]? = some (.inl (ci, cs))) (hcl : vwCl[ci]? = some (y.cls, T, N)) (hcode : Cond.code y cY nY ret ∈ GW) (hlink : Cond.methodLink own idx y ∈ GW) (hinst : Cond.instanceMethod y ∈ GW) (hsel : Cond.selects y.cls y y ∈ GW) (hini : Cond.initialized y.cls ∈ GW) (hls : ls.size = nL)
    (hd : y.cls ≠ "java/lang/invoke/MethodHandle" ∧ y.cls ≠ "java/lang/invoke/VarHandle" ∧ (parseMethodDescriptor y.desc).map (fun d => d.parameters.length) = some As.length) (hR : fr + 1 ≤ R.frames ∧ 8 + (nY + 11) + lo ≤ R.locals) (hc : cells ≤ R.cells ∧ slots ≤ R.slots) (hrm : (rest.map fun v => v.category).sum ≤ 8) (hdg : decode cc pc = .ok (.invokevirtual idx, 3)) {st0 : List Value} (hst : st0 = As.reverse ++ .ref (X.2.1 k) :: rest)
    (kk : ∀ (H1 : Heap) (locs1 : List Loc), At X σ' s.heap H1 locs1 → W p l e R s m args below meth c H1 locs1 cells slots Q (F0 m (pc + 3) ls (v.toList ++ rest))) : W p l e R s m args below meth c H locs cells slots Q (F0 m pc ls st0) := by
  have hts := C.2.2.2.2.1
  have he := ws_get (X := X) (σ := σ) (lay_lt hk)
  rw [cel_obj hk] at he
  exact r_back C h (va_runV (Ts := GW) (rest := rest) ⟨C.1, C.2.1, C.2.2.1, C.2.2.2.1, hts⟩ hM ⟨callB_of As.length hts (gw_tbl hcode) rfl rfl rfl (hts _ hini) (hts _ hlink) hd hR, hts _ hinst, hts _ hsel⟩ ⟨pw_blind, va_recv C.2.2.2.2.2.1 h.1 hcl he, pw_at C h⟩ rfl rfl hls hst (lv_room hrm) hdg hc) kk
theorem r_callVN {y : MethodName} {host : String} {cY : ByteArray} {nY fr lo k ci idx : Nat} {cs : List Nat} {T : u_T} {N : Nat} {ret : Option FieldType} {As : List Value} {v : Option Value} (C : Cx p s m args c X cc nL own) (h : At X σ s.heap H locs)
    (hM : Ok X l y cY nY ret fr lo (.ref (X.2.1 k) :: As) σ v σ') (hk : lay[k]? = some (.inl (ci, cs))) (hcl : vwCl[ci]? = some (y.cls, T, N)) (hcode : Cond.code y cY nY ret ∈ GW) (hlink : Cond.methodLinkNest own idx y host ∈ NW) (hinst : Cond.instanceMethod y ∈ GW) (hsel : Cond.selects y.cls y y ∈ GW) (hini : Cond.initialized y.cls ∈ GW) (hls : ls.size = nL)
    (hd : y.cls ≠ "java/lang/invoke/MethodHandle" ∧ y.cls ≠ "java/lang/invoke/VarHandle" ∧ (parseMethodDescriptor y.desc).map (fun d => d.parameters.length) = some As.length) (hR : fr + 1 ≤ R.frames ∧ 8 + (nY + 11) + lo ≤ R.locals) (hc : cells ≤ R.cells ∧ slots ≤ R.slots) (hrm : (rest.map fun v => v.category).sum ≤ 8) (hdg : decode cc pc = .ok (.invokevirtual idx, 3)) {st0 : List Value} (hst : st0 = As.reverse ++ .ref (X.2.1 k) :: rest)
    (kk : ∀ (H1 : Heap) (locs1 : List Loc), At X σ' s.heap H1 locs1 → W p l e R s m args below meth c H1 locs1 cells slots Q (F0 m (pc + 3) ls (v.toList ++ rest))) : W p l e R s m args below meth c H locs cells slots Q (F0 m pc ls st0) := by
  have hts := C.2.2.2.2.1
  have he := ws_get (X := X) (σ := σ) (lay_lt hk)
  rw [cel_obj hk] at he
  exact r_back C h (va_runVN (Ts := GW) (rest := rest) ⟨C.1, C.2.1, C.2.2.1, C.2.2.2.1, hts⟩ hM ⟨va_cnB As.length hts (gw_tbl hcode) rfl rfl rfl (C.2.2.2.2.2.2.1 _ hlink) (hts _ hini) hd hR, hts _ hinst, hts _ hsel⟩ ⟨pw_blind, va_recv C.2.2.2.2.2.1 h.1 hcl he, pw_at C h⟩ rfl rfl hls hst (lv_room hrm) hdg hc) kk
theorem r_callS {y : MethodName} {cY : ByteArray} {nY fr lo idx : Nat} {ret : Option FieldType} {As : List Value} {v : Option Value} (C : Cx p s m args c X cc nL own) (h : At X σ s.heap H locs)
    (hM : Ok X l y cY nY ret fr lo As σ v σ') (hcode : Cond.code y cY nY ret ∈ GW) (hlink : Cond.methodLink own idx y ∈ GW) (hstat : Cond.static y ∈ GW) (hini : Cond.initialized y.cls ∈ GW) (hls : ls.size = nL)
    (hd : y.cls ≠ "java/lang/invoke/MethodHandle" ∧ y.cls ≠ "java/lang/invoke/VarHandle" ∧ (parseMethodDescriptor y.desc).map (fun d => d.parameters.length) = some As.length) (hR : fr + 1 ≤ R.frames ∧ 8 + (nY + 11) + lo ≤ R.locals) (hc : cells ≤ R.cells ∧ slots ≤ R.slots) (hrm : (rest.map fun v => v.category).sum ≤ 8) (hdg : decode cc pc = .ok (.invokestatic idx, 3)) {st0 : List Value} (hst : st0 = As.reverse ++ rest)
    (kk : ∀ (H1 : Heap) (locs1 : List Loc), At X σ' s.heap H1 locs1 → W p l e R s m args below meth c H1 locs1 cells slots Q (F0 m (pc + 3) ls (v.toList ++ rest))) : W p l e R s m args below meth c H locs cells slots Q (F0 m pc ls st0) := by
  have hts := C.2.2.2.2.1
  exact r_back C h (va_runS (Ts := GW) (rest := rest) ⟨C.1, C.2.1, C.2.2.1, C.2.2.2.1, hts⟩ hM ⟨callB_of As.length hts (gw_tbl hcode) rfl rfl rfl (hts _ hini) (hts _ hlink) hd hR, hts _ hstat⟩ ⟨pw_blind, pw_at C h⟩ rfl rfl hls hst (lv_room hrm) hdg hc) kk
theorem r_callSN {y : MethodName} {host : String} {cY : ByteArray} {nY fr lo idx : Nat} {ret : Option FieldType} {As : List Value} {v : Option Value} (C : Cx p s m args c X cc nL own) (h : At X σ s.heap H locs)
    (hM : Ok X l y cY nY ret fr lo As σ v σ') (hcode : Cond.code y cY nY ret ∈ GW) (hlink : Cond.methodLinkNest own idx y host ∈ NW) (hstat : Cond.static y ∈ GW) (hini : Cond.initialized y.cls ∈ GW) (hls : ls.size = nL)
    (hd : y.cls ≠ "java/lang/invoke/MethodHandle" ∧ y.cls ≠ "java/lang/invoke/VarHandle" ∧ (parseMethodDescriptor y.desc).map (fun d => d.parameters.length) = some As.length) (hR : fr + 1 ≤ R.frames ∧ 8 + (nY + 11) + lo ≤ R.locals) (hc : cells ≤ R.cells ∧ slots ≤ R.slots) (hrm : (rest.map fun v => v.category).sum ≤ 8) (hdg : decode cc pc = .ok (.invokestatic idx, 3)) {st0 : List Value} (hst : st0 = As.reverse ++ rest)
    (kk : ∀ (H1 : Heap) (locs1 : List Loc), At X σ' s.heap H1 locs1 → W p l e R s m args below meth c H1 locs1 cells slots Q (F0 m (pc + 3) ls (v.toList ++ rest))) : W p l e R s m args below meth c H locs cells slots Q (F0 m pc ls st0) := by
  have hts := C.2.2.2.2.1
  exact r_back C h (va_runSN (Ts := GW) (rest := rest) ⟨C.1, C.2.1, C.2.2.1, C.2.2.2.1, hts⟩ hM ⟨va_cnB As.length hts (gw_tbl hcode) rfl rfl rfl (C.2.2.2.2.2.2.1 _ hlink) (hts _ hini) hd hR, hts _ hstat, trivial⟩ ⟨pw_blind, pw_at C h⟩ rfl rfl hls hst (lv_room hrm) hdg hc) kk
end RULES
