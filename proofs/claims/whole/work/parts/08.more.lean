section MORE
variable {p : Program} {l : Launch} {e : Env} {R : Room} {s : State} {m : MethodId} {args : Array Value} {below : List Frame} {meth : Method} {c : Code} {H H0 : Heap} {locs : List Loc} {cells slots : Nat} {Q : State → Prop}
variable {cc : ByteArray} {pc : Nat} {ls : Array Slot} {rest : List Value}
def ckN (x : UInt32) : Option Unit := if x &&& 0x7fffffff ≤ 0x7f800000 then some () else none
theorem ckN_ok {x : UInt32} {q : Unit} (h : ckN x = some q) : vf_n32 x := by
  unfold ckN at h
  split at h
  next c => exact c
  next => cases h
def ckZ (x : Int32) : Option Unit := if x = 0 then none else some ()
theorem ckZ_ok {x : Int32} {q : Unit} (h : ckZ x = some q) : ¬ x = 0 := by
  unfold ckZ at h
  split at h
  next => cases h
  next c => exact c
/-- the default of a table: outside it, or a place of it that goes there -/
theorem sw_out (hexec : p.tables.exec = Jvm.exec) (hb : c.code = cc) {dflt lo hi : Int} {offs : Array Int} {len ts : Nat} {x : Int32} (hdg : decode cc pc = .ok (.tableswitch dflt lo hi offs, len)) (ks : List Int)
    (hall : (List.range offs.size).all (fun i => ks.contains (lo + i) || offs[i]? == some dflt) = true) (hsz : (offs.size : Int) = hi - lo + 1) (hx : ∀ k ∈ ks, ¬ x = Int32.ofInt k) (ht : (pc : Int) + dflt = (ts : Int))
    (k : W p l e R s m args below meth c H locs cells slots Q (F0 m ts ls rest)) : W p l e R s m args below meth c H locs cells slots Q (F0 m pc ls (.int x :: rest)) := by
  by_cases h : x.toInt < lo ∨ hi < x.toInt
  · exact lv_tableOut hexec hb hdg h ht k
  · have h1 : ¬ x.toInt < lo := fun z => h (Or.inl z)
    have h2 : ¬ hi < x.toInt := fun z => h (Or.inr z)
    refine lv_tableIn (off := dflt) hexec hb hdg h1 h2 ?_ ht k
    have hi' : (x.toInt - lo).toNat < offs.size := by omega
    have h3 := List.all_eq_true.mp hall _ (List.mem_range.mpr hi')
    have h4 : lo + ((x.toInt - lo).toNat : Int) = x.toInt := by omega
    simp only [Bool.or_eq_true, beq_iff_eq] at h3
    rcases h3 with h3 | h3
    · rw [h4] at h3
      have h5 : x.toInt ∈ ks := by simpa using h3
      exact absurd (by rw [Int32.ofInt_toInt]) (hx _ h5)
    · exact h3
end MORE
theorem isA_dummy : isA 38 := ⟨by omega, by omega⟩
theorem toInt_ne {x : Int32} {k : Int} {y : Int32} (hy : y.toInt = k) (h : ¬ x = y) : ¬ x.toInt = k := fun z => h (Int32.toInt_inj.mp (z.trans hy.symm))
theorem lk_X8_item {x : Int32} (h0 : ¬ x = 0) (h1 : ¬ x = 1) : Op.lookupswitch.offset (#[(0, 26), (1, 36)] : Array (Int × Int)).toList 46 x.toInt = 46 := by
  have e0 : ¬ x.toInt = 0 := toInt_ne (y := 0) (by decide) h0
  have e1 : ¬ x.toInt = 1 := toInt_ne (y := 1) (by decide) h1
  show Op.lookupswitch.offset [(0, 26), (1, 36)] 46 x.toInt = 46
  rw [Op.lookupswitch.offset_cons, Op.lookupswitch.offset_cons, Op.lookupswitch.offset_nil]
  simp [e0, e1, Ne.symm e0, Ne.symm e1]
