def f_X9_isToCome (σ : St) (a1 : Int32) (a2 : Int32) (a3 : Int32) : Option Bool :=
  (f_X9_leg σ a1 a2 2).bind fun q1 => if q1 ≤ a3 then (some false) else (some true)
set_option maxRecDepth 100000 in
set_option maxHeartbeats 4000000 in
theorem ok_X9_isToCome (X : Xc) (l : Launch) (σ : St) (a1 : Int32) (a2 : Int32) (a3 : Int32) (r : Bool) (h : f_X9_isToCome σ a1 a2 a3 = some r) : Ok X l yX9_isToCome cX9_isToCome 4 (some .boolean) 1 23 [.ref (X.2.1 50), .int a1, .int a2, .int a3] σ (some (.int (b2i r))) σ := by
  refine Ok.of (by decide) (Nat.le_of_ble_eq_true rfl) ?_
  intro p e s m args below meth c C hr hlk hw ls hl
  have C : Cx p s m args c X cX9_isToCome 4 "RunningCountModel" := C
  have hl : lv_has ls 4 [(0, .ref (X.2.1 50)), (1, .int a1), (2, .int a2), (3, .int a3)] := hl
  rw [f_X9_isToCome] at h
  refine lv_aload_n C.1 C.2.1 dX9_isToCome_0 rfl (lv_at hl 0 rfl) ?_
  refine lv_iload_n C.1 C.2.1 dX9_isToCome_1 rfl (lv_at hl 1 rfl) ?_
  refine lv_iload_n C.1 C.2.1 dX9_isToCome_2 rfl (lv_at hl 2 rfl) ?_
  refine lv_iconst (v := 2) C.1 C.2.1 dX9_isToCome_3 (by decide) ?_
  obtain ⟨q1, eq1, h⟩ := bnd h
  refine r_callV (As := [.int a1, .int a2, .int 2]) C hw (ok_X9_leg X l σ a1 a2 2 _ eq1) l_50 vc_9 gw_1211 gw_1208 gw_1210 gw_94 gw_123 hl.1 pd_X9_leg ⟨Nat.le_of_ble_eq_true rfl, Nat.le_of_ble_eq_true rfl⟩ ⟨Nat.le_refl 0, Nat.le_refl 0⟩ (rest := []) (Nat.le_of_ble_eq_true rfl) dX9_isToCome_4 rfl (fun H locs hw => ?_)
  refine lv_iload_n C.1 C.2.1 dX9_isToCome_7 rfl (lv_at hl 3 rfl) ?_
  refine lv_icmp_le (tgt := 15) C.1 C.2.1 dX9_isToCome_8 (by decide) (fun c2 => ?_) (fun c2 => ?_)
  · have h := ite_t c2 h
    refine lv_iconst (v := 0) C.1 C.2.1 dX9_isToCome_15 (by decide) ?_
    exact r_zret C hr hlk hw rfl (Option.some.inj h) rfl dX9_isToCome_16
  · have h := ite_f c2 h
    refine lv_iconst (v := 1) C.1 C.2.1 dX9_isToCome_11 (by decide) ?_
    refine lv_goto (tgt := 16) C.1 C.2.1 dX9_isToCome_12 (by decide) ?_
    exact r_zret C hr hlk hw rfl (Option.some.inj h) rfl dX9_isToCome_16
def f_X9_isDoubtful (σ : St) (a1 : Int32) (a2 : Int32) (a3 : Int32) : Option Bool :=
  (f_X9_isOver σ a1 a2 a3).bind fun q1 => if (b2i q1) = 0 then ((f_X9_isToCome σ a1 a2 a3).bind fun q3 => if (b2i q3) = 0 then (some true) else (some false)) else (some false)
set_option maxRecDepth 100000 in
set_option maxHeartbeats 4000000 in
theorem ok_X9_isDoubtful (X : Xc) (l : Launch) (σ : St) (a1 : Int32) (a2 : Int32) (a3 : Int32) (r : Bool) (h : f_X9_isDoubtful σ a1 a2 a3 = some r) : Ok X l yX9_isDoubtful cX9_isDoubtful 4 (some .boolean) 2 46 [.ref (X.2.1 50), .int a1, .int a2, .int a3] σ (some (.int (b2i r))) σ := by
  refine Ok.of (by decide) (Nat.le_of_ble_eq_true rfl) ?_
  intro p e s m args below meth c C hr hlk hw ls hl
  have C : Cx p s m args c X cX9_isDoubtful 4 "RunningCountModel" := C
  have hl : lv_has ls 4 [(0, .ref (X.2.1 50)), (1, .int a1), (2, .int a2), (3, .int a3)] := hl
  rw [f_X9_isDoubtful] at h
  refine lv_aload_n C.1 C.2.1 dX9_isDoubtful_0 rfl (lv_at hl 0 rfl) ?_
  refine lv_iload_n C.1 C.2.1 dX9_isDoubtful_1 rfl (lv_at hl 1 rfl) ?_
  refine lv_iload_n C.1 C.2.1 dX9_isDoubtful_2 rfl (lv_at hl 2 rfl) ?_
  refine lv_iload_n C.1 C.2.1 dX9_isDoubtful_3 rfl (lv_at hl 3 rfl) ?_
  obtain ⟨q1, eq1, h⟩ := bnd h
  refine r_callV (As := [.int a1, .int a2, .int a3]) C hw (ok_X9_isOver X l σ a1 a2 a3 _ eq1) l_50 vc_9 gw_1235 gw_1232 gw_1234 gw_98 gw_123 hl.1 pd_X9_isOver ⟨Nat.le_of_ble_eq_true rfl, Nat.le_of_ble_eq_true rfl⟩ ⟨Nat.le_refl 0, Nat.le_refl 0⟩ (rest := []) (Nat.le_of_ble_eq_true rfl) dX9_isDoubtful_4 rfl (fun H locs hw => ?_)
  refine lv_if_ne (tgt := 24) C.1 C.2.1 dX9_isDoubtful_7 (by decide) (fun c2 => ?_) (fun c2 => ?_)
  · have h := ite_f c2 h
    refine lv_iconst (v := 0) C.1 C.2.1 dX9_isDoubtful_24 (by decide) ?_
    exact r_zret C hr hlk hw rfl (Option.some.inj h) rfl dX9_isDoubtful_25
  · have h := ite_t c2 h
    refine lv_aload_n C.1 C.2.1 dX9_isDoubtful_10 rfl (lv_at hl 0 rfl) ?_
    refine lv_iload_n C.1 C.2.1 dX9_isDoubtful_11 rfl (lv_at hl 1 rfl) ?_
    refine lv_iload_n C.1 C.2.1 dX9_isDoubtful_12 rfl (lv_at hl 2 rfl) ?_
    refine lv_iload_n C.1 C.2.1 dX9_isDoubtful_13 rfl (lv_at hl 3 rfl) ?_
    obtain ⟨q3, eq3, h⟩ := bnd h
    refine r_callV (As := [.int a1, .int a2, .int a3]) C hw (ok_X9_isToCome X l σ a1 a2 a3 _ eq3) l_50 vc_9 gw_1251 gw_1248 gw_1250 gw_102 gw_123 hl.1 pd_X9_isToCome ⟨Nat.le_of_ble_eq_true rfl, Nat.le_of_ble_eq_true rfl⟩ ⟨Nat.le_refl 0, Nat.le_refl 0⟩ (rest := []) (Nat.le_of_ble_eq_true rfl) dX9_isDoubtful_14 rfl (fun H locs hw => ?_)
    refine lv_if_ne (tgt := 24) C.1 C.2.1 dX9_isDoubtful_17 (by decide) (fun c4 => ?_) (fun c4 => ?_)
    · have h := ite_f c4 h
      refine lv_iconst (v := 0) C.1 C.2.1 dX9_isDoubtful_24 (by decide) ?_
      exact r_zret C hr hlk hw rfl (Option.some.inj h) rfl dX9_isDoubtful_25
    · have h := ite_t c4 h
      refine lv_iconst (v := 1) C.1 C.2.1 dX9_isDoubtful_20 (by decide) ?_
      refine lv_goto (tgt := 25) C.1 C.2.1 dX9_isDoubtful_21 (by decide) ?_
      exact r_zret C hr hlk hw rfl (Option.some.inj h) rfl dX9_isDoubtful_25
def f_X9_sure_b107 (σ : St) (a1 : Int32) (a2 : Int32) (a3 : Int32) : Nat → Int32 → Int32 → Option Int32
  | 0, _, _ => none
  | n + 1, x4, x5 => (rd σ 52 845 4).bind fun v4 => if v4 ≤ x5 then (some x4) else (nm (685 + (4 * x5)) fun v6 => (rd σ 52 845 v6).bind fun v7 => if v7 = a1 then ((rd σ 52 845 (v6 + 1)).bind fun v10 => if v10 = a2 then ((rd σ 52 845 (v6 + 2)).bind fun v13 => if a3 < v13 then (nm (x5 + 1) fun v15 => f_X9_sure_b107 σ a1 a2 a3 n x4 v15) else ((rd σ 52 845 (v6 + 3)).bind fun v16 => nm (x4 + v16) fun v17 => nm (x5 + 1) fun v18 => f_X9_sure_b107 σ a1 a2 a3 n v17 v18)) else (nm (x5 + 1) fun v12 => f_X9_sure_b107 σ a1 a2 a3 n x4 v12)) else (nm (x5 + 1) fun v9 => f_X9_sure_b107 σ a1 a2 a3 n x4 v9))
def f_X9_sure_b18 (σ : St) (a1 : Int32) (a2 : Int32) (a3 : Int32) : Nat → Int32 → Int32 → Option Int32
  | 0, _, _ => none
  | n + 1, x4, x5 => (rd σ 52 845 2).bind fun v2 => if (2 * v2) ≤ x5 then (f_X9_sure_b107 σ a1 a2 a3 10000 x4 0) else ((f_X9_isAt σ (x5 / 2) (x5 - x5 / 2 * 2) a1 a2).bind fun q19 => if (b2i q19) = 0 then (nm (x5 + 1) fun v21 => f_X9_sure_b18 σ a1 a2 a3 n x4 v21) else ((f_X9_isOver σ (x5 / 2) (x5 - x5 / 2 * 2) a3).bind fun q22 => if (b2i q22) = 0 then (nm (x5 + 1) fun v24 => f_X9_sure_b18 σ a1 a2 a3 n x4 v24) else (if (x5 - x5 / 2 * 2) = 0 then ((f_X9_moved σ (x5 / 2) 1).bind fun q29 => nm (x4 + (-q29)) fun v30 => nm (x5 + 1) fun v31 => f_X9_sure_b18 σ a1 a2 a3 n v30 v31) else ((f_X9_moved σ (x5 / 2) 1).bind fun q26 => nm (x4 + q26) fun v27 => nm (x5 + 1) fun v28 => f_X9_sure_b18 σ a1 a2 a3 n v27 v28))))
def f_X9_sure (σ : St) (a1 : Int32) (a2 : Int32) (a3 : Int32) : Option Int32 :=
  (rd σ 52 845 ((15 + (5 * a1)) + a2)).bind fun v1 => f_X9_sure_b18 σ a1 a2 a3 10000 v1 0
set_option maxRecDepth 100000 in
set_option maxHeartbeats 4000000 in
theorem ok_X9_sure (X : Xc) (l : Launch) (σ : St) (a1 : Int32) (a2 : Int32) (a3 : Int32) (r : Int32) (h : f_X9_sure σ a1 a2 a3 = some r) : Ok X l yX9_sure cX9_sure 7 (some .int) 3 69 [.ref (X.2.1 50), .int a1, .int a2, .int a3] σ (some (.int r)) σ := by
  refine Ok.of (by decide) (Nat.le_of_ble_eq_true rfl) ?_
  intro p e s m args below meth c C hr hlk hw ls hl
  have C : Cx p s m args c X cX9_sure 7 "RunningCountModel" := C
  have hl : lv_has ls 7 [(0, .ref (X.2.1 50)), (1, .int a1), (2, .int a2), (3, .int a3)] := hl
  have b107 : ∀ (n : Nat), ∀ (x4 : Int32) (x5 : Int32), f_X9_sure_b107 σ a1 a2 a3 n x4 x5 = some r → ∀ (H : Heap) (locs : List Loc), At X σ s.heap H locs → ∀ ls : Array Slot, lv_has ls 7 [(0, .ref (X.2.1 50)), (1, .int a1), (2, .int a2), (3, .int a3), (4, .int x4), (5, .int x5)] → W p l e (rmX 3 69) s m args below meth c H locs 0 0 (Zq X below s args (some (.int r)) σ) (F0 m 107 ls []) := by
    intro n
    induction n with
    | zero =>
      intro x4 x5 h
      exact no_some h
    | succ n ih =>
      intro x4 x5 h H locs hw ls hl
      rw [f_X9_sure_b107] at h
      refine lv_iload C.1 C.2.1 dX9_sure_107 (lv_at hl 5 rfl) ?_
      refine lv_aload_n C.1 C.2.1 dX9_sure_109 rfl (lv_at hl 0 rfl) ?_
      refine r_get (v := .ref (X.2.1 52)) C hw l_50 vc_9 kX9 11 rfl (by decide) gw_1025 rfl dX9_sure_110 ?_
      refine lv_iconst (v := 4) C.1 C.2.1 dX9_sure_113 (by decide) ?_
      obtain ⟨v4, ev4, h⟩ := bnd h
      refine r_ald C hw l_52 ev4 dX9_sure_114 ?_
      refine lv_icmp_ge (tgt := 185) C.1 C.2.1 dX9_sure_115 (by decide) (fun c5 => ?_) (fun c5 => ?_)
      · have h := ite_t c5 h
        refine lv_iload C.1 C.2.1 dX9_sure_185 (lv_at hl 4 rfl) ?_
        exact r_iret C hr hlk hw (Option.some.inj h) rfl dX9_sure_187
      · have h := ite_f c5 h
        refine lv_sipush (v := 685) C.1 C.2.1 dX9_sure_118 (by decide) ?_
        refine lv_iconst (v := 4) C.1 C.2.1 dX9_sure_121 (by decide) ?_
        refine lv_iload C.1 C.2.1 dX9_sure_122 (lv_at hl 5 rfl) ?_
        refine lv_imul C.1 C.2.1 dX9_sure_124 ?_
        refine lv_iadd C.1 C.2.1 dX9_sure_125 ?_
        obtain ⟨v6, ev6, h⟩ := nm_d h
        refine lv_nm ev6 ?_
        refine lv_istore (lv' := [(6, .int v6), (0, .ref (X.2.1 50)), (1, .int a1), (2, .int a2), (3, .int a3), (4, .int x4), (5, .int x5)]) C.1 C.2.1 dX9_sure_126 hl (by decide) rfl (fun ls hl => ?_)
        refine lv_aload_n C.1 C.2.1 dX9_sure_128 rfl (lv_at hl 1 rfl) ?_
        refine r_get (v := .ref (X.2.1 52)) C hw l_50 vc_9 kX9 11 rfl (by decide) gw_1025 rfl dX9_sure_129 ?_
        refine lv_iload C.1 C.2.1 dX9_sure_132 (lv_at hl 0 rfl) ?_
        obtain ⟨v7, ev7, h⟩ := bnd h
        refine r_ald C hw l_52 ev7 dX9_sure_134 ?_
        refine lv_iload_n C.1 C.2.1 dX9_sure_135 rfl (lv_at hl 2 rfl) ?_
        refine lv_icmp_ne (tgt := 179) C.1 C.2.1 dX9_sure_136 (by decide) (fun c8 => ?_) (fun c8 => ?_)
        · have h := ite_f c8 h
          obtain ⟨v9, ev9, h⟩ := nm_d h
          refine lv_iinc (v := v9) (lv' := [(5, .int v9), (6, .int v6), (0, .ref (X.2.1 50)), (1, .int a1), (2, .int a2), (3, .int a3), (4, .int x4)]) C.1 C.2.1 dX9_sure_179 hl (k := 6) rfl (by rw [ev9]; rfl) (by decide) rfl (fun ls hl => ?_)
          refine lv_goto (tgt := 107) C.1 C.2.1 dX9_sure_182 (by decide) ?_
          exact ih x4 v9 h _ _ hw ls (lv_sub hl [2, 3, 4, 5, 6, 0] rfl)
        · have h := ite_t c8 h
          refine lv_aload_n C.1 C.2.1 dX9_sure_139 rfl (lv_at hl 1 rfl) ?_
          refine r_get (v := .ref (X.2.1 52)) C hw l_50 vc_9 kX9 11 rfl (by decide) gw_1025 rfl dX9_sure_140 ?_
          refine lv_iload C.1 C.2.1 dX9_sure_143 (lv_at hl 0 rfl) ?_
          refine lv_iconst (v := 1) C.1 C.2.1 dX9_sure_145 (by decide) ?_
          refine lv_iadd C.1 C.2.1 dX9_sure_146 ?_
          obtain ⟨v10, ev10, h⟩ := bnd h
          refine r_ald C hw l_52 ev10 dX9_sure_147 ?_
          refine lv_iload_n C.1 C.2.1 dX9_sure_148 rfl (lv_at hl 3 rfl) ?_
          refine lv_icmp_ne (tgt := 179) C.1 C.2.1 dX9_sure_149 (by decide) (fun c11 => ?_) (fun c11 => ?_)
          · have h := ite_f c11 h
            obtain ⟨v12, ev12, h⟩ := nm_d h
            refine lv_iinc (v := v12) (lv' := [(5, .int v12), (6, .int v6), (0, .ref (X.2.1 50)), (1, .int a1), (2, .int a2), (3, .int a3), (4, .int x4)]) C.1 C.2.1 dX9_sure_179 hl (k := 6) rfl (by rw [ev12]; rfl) (by decide) rfl (fun ls hl => ?_)
            refine lv_goto (tgt := 107) C.1 C.2.1 dX9_sure_182 (by decide) ?_
            exact ih x4 v12 h _ _ hw ls (lv_sub hl [2, 3, 4, 5, 6, 0] rfl)
          · have h := ite_t c11 h
            refine lv_aload_n C.1 C.2.1 dX9_sure_152 rfl (lv_at hl 1 rfl) ?_
            refine r_get (v := .ref (X.2.1 52)) C hw l_50 vc_9 kX9 11 rfl (by decide) gw_1025 rfl dX9_sure_153 ?_
            refine lv_iload C.1 C.2.1 dX9_sure_156 (lv_at hl 0 rfl) ?_
            refine lv_iconst (v := 2) C.1 C.2.1 dX9_sure_158 (by decide) ?_
            refine lv_iadd C.1 C.2.1 dX9_sure_159 ?_
            obtain ⟨v13, ev13, h⟩ := bnd h
            refine r_ald C hw l_52 ev13 dX9_sure_160 ?_
            refine lv_iload_n C.1 C.2.1 dX9_sure_161 rfl (lv_at hl 4 rfl) ?_
            refine lv_icmp_gt (tgt := 179) C.1 C.2.1 dX9_sure_162 (by decide) (fun c14 => ?_) (fun c14 => ?_)
            · have h := ite_t c14 h
              obtain ⟨v15, ev15, h⟩ := nm_d h
              refine lv_iinc (v := v15) (lv' := [(5, .int v15), (6, .int v6), (0, .ref (X.2.1 50)), (1, .int a1), (2, .int a2), (3, .int a3), (4, .int x4)]) C.1 C.2.1 dX9_sure_179 hl (k := 6) rfl (by rw [ev15]; rfl) (by decide) rfl (fun ls hl => ?_)
              refine lv_goto (tgt := 107) C.1 C.2.1 dX9_sure_182 (by decide) ?_
              exact ih x4 v15 h _ _ hw ls (lv_sub hl [2, 3, 4, 5, 6, 0] rfl)
            · have h := ite_f c14 h
              refine lv_iload C.1 C.2.1 dX9_sure_165 (lv_at hl 5 rfl) ?_
              refine lv_aload_n C.1 C.2.1 dX9_sure_167 rfl (lv_at hl 1 rfl) ?_
              refine r_get (v := .ref (X.2.1 52)) C hw l_50 vc_9 kX9 11 rfl (by decide) gw_1025 rfl dX9_sure_168 ?_
              refine lv_iload C.1 C.2.1 dX9_sure_171 (lv_at hl 0 rfl) ?_
              refine lv_iconst (v := 3) C.1 C.2.1 dX9_sure_173 (by decide) ?_
              refine lv_iadd C.1 C.2.1 dX9_sure_174 ?_
              obtain ⟨v16, ev16, h⟩ := bnd h
              refine r_ald C hw l_52 ev16 dX9_sure_175 ?_
              refine lv_iadd C.1 C.2.1 dX9_sure_176 ?_
              obtain ⟨v17, ev17, h⟩ := nm_d h
              refine lv_nm ev17 ?_
              refine lv_istore (lv' := [(4, .int v17), (6, .int v6), (0, .ref (X.2.1 50)), (1, .int a1), (2, .int a2), (3, .int a3), (5, .int x5)]) C.1 C.2.1 dX9_sure_177 hl (by decide) rfl (fun ls hl => ?_)
              obtain ⟨v18, ev18, h⟩ := nm_d h
              refine lv_iinc (v := v18) (lv' := [(5, .int v18), (4, .int v17), (6, .int v6), (0, .ref (X.2.1 50)), (1, .int a1), (2, .int a2), (3, .int a3)]) C.1 C.2.1 dX9_sure_179 hl (k := 6) rfl (by rw [ev18]; rfl) (by decide) rfl (fun ls hl => ?_)
              refine lv_goto (tgt := 107) C.1 C.2.1 dX9_sure_182 (by decide) ?_
              exact ih v17 v18 h _ _ hw ls (lv_sub hl [3, 4, 5, 6, 1, 0] rfl)
  have b18 : ∀ (n : Nat), ∀ (x4 : Int32) (x5 : Int32), f_X9_sure_b18 σ a1 a2 a3 n x4 x5 = some r → ∀ (H : Heap) (locs : List Loc), At X σ s.heap H locs → ∀ ls : Array Slot, lv_has ls 7 [(0, .ref (X.2.1 50)), (1, .int a1), (2, .int a2), (3, .int a3), (4, .int x4), (5, .int x5)] → W p l e (rmX 3 69) s m args below meth c H locs 0 0 (Zq X below s args (some (.int r)) σ) (F0 m 18 ls []) := by
    intro n
    induction n with
    | zero =>
      intro x4 x5 h
      exact no_some h
    | succ n ih =>
      intro x4 x5 h H locs hw ls hl
      rw [f_X9_sure_b18] at h
      refine lv_iload C.1 C.2.1 dX9_sure_18 (lv_at hl 5 rfl) ?_
      refine lv_iconst (v := 2) C.1 C.2.1 dX9_sure_20 (by decide) ?_
      refine lv_aload_n C.1 C.2.1 dX9_sure_21 rfl (lv_at hl 0 rfl) ?_
      refine r_get (v := .ref (X.2.1 52)) C hw l_50 vc_9 kX9 11 rfl (by decide) gw_1025 rfl dX9_sure_22 ?_
      refine lv_iconst (v := 2) C.1 C.2.1 dX9_sure_25 (by decide) ?_
      obtain ⟨v2, ev2, h⟩ := bnd h
      refine r_ald C hw l_52 ev2 dX9_sure_26 ?_
      refine lv_imul C.1 C.2.1 dX9_sure_27 ?_
      refine lv_icmp_ge (tgt := 104) C.1 C.2.1 dX9_sure_28 (by decide) (fun c3 => ?_) (fun c3 => ?_)
      · have h := ite_t c3 h
        refine lv_iconst (v := 0) C.1 C.2.1 dX9_sure_104 (by decide) ?_
        refine lv_istore (lv' := [(5, .int 0), (0, .ref (X.2.1 50)), (1, .int a1), (2, .int a2), (3, .int a3), (4, .int x4)]) C.1 C.2.1 dX9_sure_105 hl (by decide) rfl (fun ls hl => ?_)
        exact b107 10000 x4 0 h _ _ hw ls (lv_sub hl [1, 2, 3, 4, 5, 0] rfl)
      · have h := ite_f c3 h
        refine lv_aload_n C.1 C.2.1 dX9_sure_31 rfl (lv_at hl 0 rfl) ?_
        refine lv_iload C.1 C.2.1 dX9_sure_32 (lv_at hl 5 rfl) ?_
        refine lv_iconst (v := 2) C.1 C.2.1 dX9_sure_34 (by decide) ?_
        refine lv_idiv C.1 C.2.1 dX9_sure_35 (by decide) ?_
        refine lv_iload C.1 C.2.1 dX9_sure_36 (lv_at hl 5 rfl) ?_
        refine lv_iconst (v := 2) C.1 C.2.1 dX9_sure_38 (by decide) ?_
        refine lv_irem C.1 C.2.1 dX9_sure_39 (by decide) ?_
        refine lv_iload_n C.1 C.2.1 dX9_sure_40 rfl (lv_at hl 1 rfl) ?_
        refine lv_iload_n C.1 C.2.1 dX9_sure_41 rfl (lv_at hl 2 rfl) ?_
        obtain ⟨q19, eq19, h⟩ := bnd h
        refine r_callV (As := [.int (x5 / 2), .int (x5 - x5 / 2 * 2), .int a1, .int a2]) C hw (ok_X9_isAt X l σ (x5 / 2) (x5 - x5 / 2 * 2) a1 a2 _ eq19) l_50 vc_9 gw_1231 gw_1228 gw_1230 gw_97 gw_123 hl.1 pd_X9_isAt ⟨Nat.le_of_ble_eq_true rfl, Nat.le_of_ble_eq_true rfl⟩ ⟨Nat.le_refl 0, Nat.le_refl 0⟩ (rest := []) (Nat.le_of_ble_eq_true rfl) dX9_sure_42 rfl (fun H locs hw => ?_)
        refine lv_if_eq (tgt := 98) C.1 C.2.1 dX9_sure_45 (by decide) (fun c20 => ?_) (fun c20 => ?_)
        · have h := ite_t c20 h
          obtain ⟨v21, ev21, h⟩ := nm_d h
          refine lv_iinc (v := v21) (lv' := [(5, .int v21), (0, .ref (X.2.1 50)), (1, .int a1), (2, .int a2), (3, .int a3), (4, .int x4)]) C.1 C.2.1 dX9_sure_98 hl (k := 5) rfl (by rw [ev21]; rfl) (by decide) rfl (fun ls hl => ?_)
          refine lv_goto (tgt := 18) C.1 C.2.1 dX9_sure_101 (by decide) ?_
          exact ih x4 v21 h _ _ hw ls (lv_sub hl [1, 2, 3, 4, 5, 0] rfl)
        · have h := ite_f c20 h
          refine lv_aload_n C.1 C.2.1 dX9_sure_48 rfl (lv_at hl 0 rfl) ?_
          refine lv_iload C.1 C.2.1 dX9_sure_49 (lv_at hl 5 rfl) ?_
          refine lv_iconst (v := 2) C.1 C.2.1 dX9_sure_51 (by decide) ?_
          refine lv_idiv C.1 C.2.1 dX9_sure_52 (by decide) ?_
          refine lv_iload C.1 C.2.1 dX9_sure_53 (lv_at hl 5 rfl) ?_
          refine lv_iconst (v := 2) C.1 C.2.1 dX9_sure_55 (by decide) ?_
          refine lv_irem C.1 C.2.1 dX9_sure_56 (by decide) ?_
          refine lv_iload_n C.1 C.2.1 dX9_sure_57 rfl (lv_at hl 3 rfl) ?_
          obtain ⟨q22, eq22, h⟩ := bnd h
          refine r_callV (As := [.int (x5 / 2), .int (x5 - x5 / 2 * 2), .int a3]) C hw (ok_X9_isOver X l σ (x5 / 2) (x5 - x5 / 2 * 2) a3 _ eq22) l_50 vc_9 gw_1235 gw_1232 gw_1234 gw_98 gw_123 hl.1 pd_X9_isOver ⟨Nat.le_of_ble_eq_true rfl, Nat.le_of_ble_eq_true rfl⟩ ⟨Nat.le_refl 0, Nat.le_refl 0⟩ (rest := []) (Nat.le_of_ble_eq_true rfl) dX9_sure_58 rfl (fun H locs hw => ?_)
          refine lv_if_eq (tgt := 98) C.1 C.2.1 dX9_sure_61 (by decide) (fun c23 => ?_) (fun c23 => ?_)
          · have h := ite_t c23 h
            obtain ⟨v24, ev24, h⟩ := nm_d h
            refine lv_iinc (v := v24) (lv' := [(5, .int v24), (0, .ref (X.2.1 50)), (1, .int a1), (2, .int a2), (3, .int a3), (4, .int x4)]) C.1 C.2.1 dX9_sure_98 hl (k := 5) rfl (by rw [ev24]; rfl) (by decide) rfl (fun ls hl => ?_)
            refine lv_goto (tgt := 18) C.1 C.2.1 dX9_sure_101 (by decide) ?_
            exact ih x4 v24 h _ _ hw ls (lv_sub hl [1, 2, 3, 4, 5, 0] rfl)
          · have h := ite_f c23 h
            refine lv_iload C.1 C.2.1 dX9_sure_64 (lv_at hl 4 rfl) ?_
            refine lv_iload C.1 C.2.1 dX9_sure_66 (lv_at hl 5 rfl) ?_
            refine lv_iconst (v := 2) C.1 C.2.1 dX9_sure_68 (by decide) ?_
            refine lv_irem C.1 C.2.1 dX9_sure_69 (by decide) ?_
            refine lv_if_ne (tgt := 86) C.1 C.2.1 dX9_sure_70 (by decide) (fun c25 => ?_) (fun c25 => ?_)
            · have h := ite_f c25 h
              refine lv_aload_n C.1 C.2.1 dX9_sure_86 rfl (lv_at hl 0 rfl) ?_
              refine lv_iload C.1 C.2.1 dX9_sure_87 (lv_at hl 5 rfl) ?_
              refine lv_iconst (v := 2) C.1 C.2.1 dX9_sure_89 (by decide) ?_
              refine lv_idiv C.1 C.2.1 dX9_sure_90 (by decide) ?_
              refine lv_iconst (v := 1) C.1 C.2.1 dX9_sure_91 (by decide) ?_
              obtain ⟨q26, eq26, h⟩ := bnd h
              refine r_callV (As := [.int (x5 / 2), .int 1]) C hw (ok_X9_moved X l σ (x5 / 2) 1 _ eq26) l_50 vc_9 gw_1203 gw_1200 gw_1202 gw_92 gw_123 hl.1 pd_X9_moved ⟨Nat.le_of_ble_eq_true rfl, Nat.le_of_ble_eq_true rfl⟩ ⟨Nat.le_refl 0, Nat.le_refl 0⟩ (rest := [.int x4]) (Nat.le_of_ble_eq_true rfl) dX9_sure_92 rfl (fun H locs hw => ?_)
              refine lv_iadd C.1 C.2.1 dX9_sure_95 ?_
              obtain ⟨v27, ev27, h⟩ := nm_d h
              refine lv_nm ev27 ?_
              refine lv_istore (lv' := [(4, .int v27), (0, .ref (X.2.1 50)), (1, .int a1), (2, .int a2), (3, .int a3), (5, .int x5)]) C.1 C.2.1 dX9_sure_96 hl (by decide) rfl (fun ls hl => ?_)
              obtain ⟨v28, ev28, h⟩ := nm_d h
              refine lv_iinc (v := v28) (lv' := [(5, .int v28), (4, .int v27), (0, .ref (X.2.1 50)), (1, .int a1), (2, .int a2), (3, .int a3)]) C.1 C.2.1 dX9_sure_98 hl (k := 5) rfl (by rw [ev28]; rfl) (by decide) rfl (fun ls hl => ?_)
              refine lv_goto (tgt := 18) C.1 C.2.1 dX9_sure_101 (by decide) ?_
              exact ih v27 v28 h _ _ hw ls (lv_sub hl [2, 3, 4, 5, 1, 0] rfl)
            · have h := ite_t c25 h
              refine lv_aload_n C.1 C.2.1 dX9_sure_73 rfl (lv_at hl 0 rfl) ?_
              refine lv_iload C.1 C.2.1 dX9_sure_74 (lv_at hl 5 rfl) ?_
              refine lv_iconst (v := 2) C.1 C.2.1 dX9_sure_76 (by decide) ?_
              refine lv_idiv C.1 C.2.1 dX9_sure_77 (by decide) ?_
              refine lv_iconst (v := 1) C.1 C.2.1 dX9_sure_78 (by decide) ?_
              obtain ⟨q29, eq29, h⟩ := bnd h
              refine r_callV (As := [.int (x5 / 2), .int 1]) C hw (ok_X9_moved X l σ (x5 / 2) 1 _ eq29) l_50 vc_9 gw_1203 gw_1200 gw_1202 gw_92 gw_123 hl.1 pd_X9_moved ⟨Nat.le_of_ble_eq_true rfl, Nat.le_of_ble_eq_true rfl⟩ ⟨Nat.le_refl 0, Nat.le_refl 0⟩ (rest := [.int x4]) (Nat.le_of_ble_eq_true rfl) dX9_sure_79 rfl (fun H locs hw => ?_)
              refine lv_ineg C.1 C.2.1 dX9_sure_82 ?_
              refine lv_goto (tgt := 95) C.1 C.2.1 dX9_sure_83 (by decide) ?_
              refine lv_iadd C.1 C.2.1 dX9_sure_95 ?_
              obtain ⟨v30, ev30, h⟩ := nm_d h
              refine lv_nm ev30 ?_
              refine lv_istore (lv' := [(4, .int v30), (0, .ref (X.2.1 50)), (1, .int a1), (2, .int a2), (3, .int a3), (5, .int x5)]) C.1 C.2.1 dX9_sure_96 hl (by decide) rfl (fun ls hl => ?_)
              obtain ⟨v31, ev31, h⟩ := nm_d h
              refine lv_iinc (v := v31) (lv' := [(5, .int v31), (4, .int v30), (0, .ref (X.2.1 50)), (1, .int a1), (2, .int a2), (3, .int a3)]) C.1 C.2.1 dX9_sure_98 hl (k := 5) rfl (by rw [ev31]; rfl) (by decide) rfl (fun ls hl => ?_)
              refine lv_goto (tgt := 18) C.1 C.2.1 dX9_sure_101 (by decide) ?_
              exact ih v30 v31 h _ _ hw ls (lv_sub hl [2, 3, 4, 5, 1, 0] rfl)
  rw [f_X9_sure] at h
  refine lv_aload_n C.1 C.2.1 dX9_sure_0 rfl (lv_at hl 0 rfl) ?_
  refine r_get (v := .ref (X.2.1 52)) C hw l_50 vc_9 kX9 11 rfl (by decide) gw_1025 rfl dX9_sure_1 ?_
  refine lv_bipush (v := 15) C.1 C.2.1 dX9_sure_4 (by decide) ?_
  refine lv_iconst (v := 5) C.1 C.2.1 dX9_sure_6 (by decide) ?_
  refine lv_iload_n C.1 C.2.1 dX9_sure_7 rfl (lv_at hl 1 rfl) ?_
  refine lv_imul C.1 C.2.1 dX9_sure_8 ?_
  refine lv_iadd C.1 C.2.1 dX9_sure_9 ?_
  refine lv_iload_n C.1 C.2.1 dX9_sure_10 rfl (lv_at hl 2 rfl) ?_
  refine lv_iadd C.1 C.2.1 dX9_sure_11 ?_
  obtain ⟨v1, ev1, h⟩ := bnd h
  refine r_ald C hw l_52 ev1 dX9_sure_12 ?_
  refine lv_istore (lv' := [(4, .int v1), (0, .ref (X.2.1 50)), (1, .int a1), (2, .int a2), (3, .int a3)]) C.1 C.2.1 dX9_sure_13 hl (by decide) rfl (fun ls hl => ?_)
  refine lv_iconst (v := 0) C.1 C.2.1 dX9_sure_15 (by decide) ?_
  refine lv_istore (lv' := [(5, .int 0), (4, .int v1), (0, .ref (X.2.1 50)), (1, .int a1), (2, .int a2), (3, .int a3)]) C.1 C.2.1 dX9_sure_16 hl (by decide) rfl (fun ls hl => ?_)
  exact b18 10000 v1 0 h _ _ hw ls (lv_sub hl [2, 3, 4, 5, 1, 0] rfl)
def f_X9_doubtful_b6 (σ : St) (a1 : Int32) (a2 : Int32) (a3 : Int32) (a4 : Int32) : Nat → Int32 → Int32 → Option Int32
  | 0, _, _ => none
  | n + 1, x5, x6 => (rd σ 52 845 2).bind fun v1 => if (2 * v1) ≤ x6 then (some x5) else ((f_X9_isAt σ (x6 / 2) (x6 - x6 / 2 * 2) a1 a2).bind fun q3 => if (b2i q3) = 0 then (nm (x6 + 1) fun v5 => f_X9_doubtful_b6 σ a1 a2 a3 a4 n x5 v5) else ((f_X9_isDoubtful σ (x6 / 2) (x6 - x6 / 2 * 2) a3).bind fun q6 => if (b2i q6) = 0 then (nm (x6 + 1) fun v17 => f_X9_doubtful_b6 σ a1 a2 a3 a4 n x5 v17) else (if a4 = 2 then (nm (x5 + 1) fun v15 => nm (x6 + 1) fun v16 => f_X9_doubtful_b6 σ a1 a2 a3 a4 n v15 v16) else (if (x6 - x6 / 2 * 2) = a4 then ((f_X9_moved σ (x6 / 2) 1).bind fun q12 => nm (x5 + q12) fun v13 => nm (x6 + 1) fun v14 => f_X9_doubtful_b6 σ a1 a2 a3 a4 n v13 v14) else (nm (x5 + 0) fun v10 => nm (x6 + 1) fun v11 => f_X9_doubtful_b6 σ a1 a2 a3 a4 n v10 v11)))))
def f_X9_doubtful (σ : St) (a1 : Int32) (a2 : Int32) (a3 : Int32) (a4 : Int32) : Option Int32 :=
  f_X9_doubtful_b6 σ a1 a2 a3 a4 10000 0 0
set_option maxRecDepth 100000 in
set_option maxHeartbeats 4000000 in
theorem ok_X9_doubtful (X : Xc) (l : Launch) (σ : St) (a1 : Int32) (a2 : Int32) (a3 : Int32) (a4 : Int32) (r : Int32) (h : f_X9_doubtful σ a1 a2 a3 a4 = some r) : Ok X l yX9_doubtful cX9_doubtful 7 (some .int) 3 69 [.ref (X.2.1 50), .int a1, .int a2, .int a3, .int a4] σ (some (.int r)) σ := by
  refine Ok.of (by decide) (Nat.le_of_ble_eq_true rfl) ?_
  intro p e s m args below meth c C hr hlk hw ls hl
  have C : Cx p s m args c X cX9_doubtful 7 "RunningCountModel" := C
  have hl : lv_has ls 7 [(0, .ref (X.2.1 50)), (1, .int a1), (2, .int a2), (3, .int a3), (4, .int a4)] := hl
  have b6 : ∀ (n : Nat), ∀ (x5 : Int32) (x6 : Int32), f_X9_doubtful_b6 σ a1 a2 a3 a4 n x5 x6 = some r → ∀ (H : Heap) (locs : List Loc), At X σ s.heap H locs → ∀ ls : Array Slot, lv_has ls 7 [(0, .ref (X.2.1 50)), (1, .int a1), (2, .int a2), (3, .int a3), (4, .int a4), (5, .int x5), (6, .int x6)] → W p l e (rmX 3 69) s m args below meth c H locs 0 0 (Zq X below s args (some (.int r)) σ) (F0 m 6 ls []) := by
    intro n
    induction n with
    | zero =>
      intro x5 x6 h
      exact no_some h
    | succ n ih =>
      intro x5 x6 h H locs hw ls hl
      rw [f_X9_doubtful_b6] at h
      refine lv_iload C.1 C.2.1 dX9_doubtful_6 (lv_at hl 6 rfl) ?_
      refine lv_iconst (v := 2) C.1 C.2.1 dX9_doubtful_8 (by decide) ?_
      refine lv_aload_n C.1 C.2.1 dX9_doubtful_9 rfl (lv_at hl 0 rfl) ?_
      refine r_get (v := .ref (X.2.1 52)) C hw l_50 vc_9 kX9 11 rfl (by decide) gw_1025 rfl dX9_doubtful_10 ?_
      refine lv_iconst (v := 2) C.1 C.2.1 dX9_doubtful_13 (by decide) ?_
      obtain ⟨v1, ev1, h⟩ := bnd h
      refine r_ald C hw l_52 ev1 dX9_doubtful_14 ?_
      refine lv_imul C.1 C.2.1 dX9_doubtful_15 ?_
      refine lv_icmp_ge (tgt := 98) C.1 C.2.1 dX9_doubtful_16 (by decide) (fun c2 => ?_) (fun c2 => ?_)
      · have h := ite_t c2 h
        refine lv_iload C.1 C.2.1 dX9_doubtful_98 (lv_at hl 5 rfl) ?_
        exact r_iret C hr hlk hw (Option.some.inj h) rfl dX9_doubtful_100
      · have h := ite_f c2 h
        refine lv_aload_n C.1 C.2.1 dX9_doubtful_19 rfl (lv_at hl 0 rfl) ?_
        refine lv_iload C.1 C.2.1 dX9_doubtful_20 (lv_at hl 6 rfl) ?_
        refine lv_iconst (v := 2) C.1 C.2.1 dX9_doubtful_22 (by decide) ?_
        refine lv_idiv C.1 C.2.1 dX9_doubtful_23 (by decide) ?_
        refine lv_iload C.1 C.2.1 dX9_doubtful_24 (lv_at hl 6 rfl) ?_
        refine lv_iconst (v := 2) C.1 C.2.1 dX9_doubtful_26 (by decide) ?_
        refine lv_irem C.1 C.2.1 dX9_doubtful_27 (by decide) ?_
        refine lv_iload_n C.1 C.2.1 dX9_doubtful_28 rfl (lv_at hl 1 rfl) ?_
        refine lv_iload_n C.1 C.2.1 dX9_doubtful_29 rfl (lv_at hl 2 rfl) ?_
        obtain ⟨q3, eq3, h⟩ := bnd h
        refine r_callV (As := [.int (x6 / 2), .int (x6 - x6 / 2 * 2), .int a1, .int a2]) C hw (ok_X9_isAt X l σ (x6 / 2) (x6 - x6 / 2 * 2) a1 a2 _ eq3) l_50 vc_9 gw_1231 gw_1228 gw_1230 gw_97 gw_123 hl.1 pd_X9_isAt ⟨Nat.le_of_ble_eq_true rfl, Nat.le_of_ble_eq_true rfl⟩ ⟨Nat.le_refl 0, Nat.le_refl 0⟩ (rest := []) (Nat.le_of_ble_eq_true rfl) dX9_doubtful_30 rfl (fun H locs hw => ?_)
        refine lv_if_eq (tgt := 92) C.1 C.2.1 dX9_doubtful_33 (by decide) (fun c4 => ?_) (fun c4 => ?_)
        · have h := ite_t c4 h
          obtain ⟨v5, ev5, h⟩ := nm_d h
          refine lv_iinc (v := v5) (lv' := [(6, .int v5), (0, .ref (X.2.1 50)), (1, .int a1), (2, .int a2), (3, .int a3), (4, .int a4), (5, .int x5)]) C.1 C.2.1 dX9_doubtful_92 hl (k := 6) rfl (by rw [ev5]; rfl) (by decide) rfl (fun ls hl => ?_)
          refine lv_goto (tgt := 6) C.1 C.2.1 dX9_doubtful_95 (by decide) ?_
          exact ih x5 v5 h _ _ hw ls (lv_sub hl [1, 2, 3, 4, 5, 6, 0] rfl)
        · have h := ite_f c4 h
          refine lv_aload_n C.1 C.2.1 dX9_doubtful_36 rfl (lv_at hl 0 rfl) ?_
          refine lv_iload C.1 C.2.1 dX9_doubtful_37 (lv_at hl 6 rfl) ?_
          refine lv_iconst (v := 2) C.1 C.2.1 dX9_doubtful_39 (by decide) ?_
          refine lv_idiv C.1 C.2.1 dX9_doubtful_40 (by decide) ?_
          refine lv_iload C.1 C.2.1 dX9_doubtful_41 (lv_at hl 6 rfl) ?_
          refine lv_iconst (v := 2) C.1 C.2.1 dX9_doubtful_43 (by decide) ?_
          refine lv_irem C.1 C.2.1 dX9_doubtful_44 (by decide) ?_
          refine lv_iload_n C.1 C.2.1 dX9_doubtful_45 rfl (lv_at hl 3 rfl) ?_
          obtain ⟨q6, eq6, h⟩ := bnd h
          refine r_callV (As := [.int (x6 / 2), .int (x6 - x6 / 2 * 2), .int a3]) C hw (ok_X9_isDoubtful X l σ (x6 / 2) (x6 - x6 / 2 * 2) a3 _ eq6) l_50 vc_9 gw_1247 gw_1244 gw_1246 gw_101 gw_123 hl.1 pd_X9_isDoubtful ⟨Nat.le_of_ble_eq_true rfl, Nat.le_of_ble_eq_true rfl⟩ ⟨Nat.le_refl 0, Nat.le_refl 0⟩ (rest := []) (Nat.le_of_ble_eq_true rfl) dX9_doubtful_46 rfl (fun H locs hw => ?_)
          refine lv_if_ne (tgt := 55) C.1 C.2.1 dX9_doubtful_49 (by decide) (fun c7 => ?_) (fun c7 => ?_)
          · have h := ite_f c7 h
            refine lv_iload C.1 C.2.1 dX9_doubtful_55 (lv_at hl 5 rfl) ?_
            refine lv_iload C.1 C.2.1 dX9_doubtful_57 (lv_at hl 4 rfl) ?_
            refine lv_iconst (v := 2) C.1 C.2.1 dX9_doubtful_59 (by decide) ?_
            refine lv_icmp_ne (tgt := 67) C.1 C.2.1 dX9_doubtful_60 (by decide) (fun c8 => ?_) (fun c8 => ?_)
            · have h := ite_f c8 h
              refine lv_iload C.1 C.2.1 dX9_doubtful_67 (lv_at hl 6 rfl) ?_
              refine lv_iconst (v := 2) C.1 C.2.1 dX9_doubtful_69 (by decide) ?_
              refine lv_irem C.1 C.2.1 dX9_doubtful_70 (by decide) ?_
              refine lv_iload C.1 C.2.1 dX9_doubtful_71 (lv_at hl 4 rfl) ?_
              refine lv_icmp_ne (tgt := 88) C.1 C.2.1 dX9_doubtful_73 (by decide) (fun c9 => ?_) (fun c9 => ?_)
              · have h := ite_f c9 h
                refine lv_iconst (v := 0) C.1 C.2.1 dX9_doubtful_88 (by decide) ?_
                refine lv_iadd C.1 C.2.1 dX9_doubtful_89 ?_
                obtain ⟨v10, ev10, h⟩ := nm_d h
                refine lv_nm ev10 ?_
                refine lv_istore (lv' := [(5, .int v10), (0, .ref (X.2.1 50)), (1, .int a1), (2, .int a2), (3, .int a3), (4, .int a4), (6, .int x6)]) C.1 C.2.1 dX9_doubtful_90 hl (by decide) rfl (fun ls hl => ?_)
                obtain ⟨v11, ev11, h⟩ := nm_d h
                refine lv_iinc (v := v11) (lv' := [(6, .int v11), (5, .int v10), (0, .ref (X.2.1 50)), (1, .int a1), (2, .int a2), (3, .int a3), (4, .int a4)]) C.1 C.2.1 dX9_doubtful_92 hl (k := 6) rfl (by rw [ev11]; rfl) (by decide) rfl (fun ls hl => ?_)
                refine lv_goto (tgt := 6) C.1 C.2.1 dX9_doubtful_95 (by decide) ?_
                exact ih v10 v11 h _ _ hw ls (lv_sub hl [2, 3, 4, 5, 6, 1, 0] rfl)
              · have h := ite_t c9 h
                refine lv_aload_n C.1 C.2.1 dX9_doubtful_76 rfl (lv_at hl 0 rfl) ?_
                refine lv_iload C.1 C.2.1 dX9_doubtful_77 (lv_at hl 6 rfl) ?_
                refine lv_iconst (v := 2) C.1 C.2.1 dX9_doubtful_79 (by decide) ?_
                refine lv_idiv C.1 C.2.1 dX9_doubtful_80 (by decide) ?_
                refine lv_iconst (v := 1) C.1 C.2.1 dX9_doubtful_81 (by decide) ?_
                obtain ⟨q12, eq12, h⟩ := bnd h
                refine r_callV (As := [.int (x6 / 2), .int 1]) C hw (ok_X9_moved X l σ (x6 / 2) 1 _ eq12) l_50 vc_9 gw_1203 gw_1200 gw_1202 gw_92 gw_123 hl.1 pd_X9_moved ⟨Nat.le_of_ble_eq_true rfl, Nat.le_of_ble_eq_true rfl⟩ ⟨Nat.le_refl 0, Nat.le_refl 0⟩ (rest := [.int x5]) (Nat.le_of_ble_eq_true rfl) dX9_doubtful_82 rfl (fun H locs hw => ?_)
                refine lv_goto (tgt := 89) C.1 C.2.1 dX9_doubtful_85 (by decide) ?_
                refine lv_iadd C.1 C.2.1 dX9_doubtful_89 ?_
                obtain ⟨v13, ev13, h⟩ := nm_d h
                refine lv_nm ev13 ?_
                refine lv_istore (lv' := [(5, .int v13), (0, .ref (X.2.1 50)), (1, .int a1), (2, .int a2), (3, .int a3), (4, .int a4), (6, .int x6)]) C.1 C.2.1 dX9_doubtful_90 hl (by decide) rfl (fun ls hl => ?_)
                obtain ⟨v14, ev14, h⟩ := nm_d h
                refine lv_iinc (v := v14) (lv' := [(6, .int v14), (5, .int v13), (0, .ref (X.2.1 50)), (1, .int a1), (2, .int a2), (3, .int a3), (4, .int a4)]) C.1 C.2.1 dX9_doubtful_92 hl (k := 6) rfl (by rw [ev14]; rfl) (by decide) rfl (fun ls hl => ?_)
                refine lv_goto (tgt := 6) C.1 C.2.1 dX9_doubtful_95 (by decide) ?_
                exact ih v13 v14 h _ _ hw ls (lv_sub hl [2, 3, 4, 5, 6, 1, 0] rfl)
            · have h := ite_t c8 h
              refine lv_iconst (v := 1) C.1 C.2.1 dX9_doubtful_63 (by decide) ?_
              refine lv_goto (tgt := 89) C.1 C.2.1 dX9_doubtful_64 (by decide) ?_
              refine lv_iadd C.1 C.2.1 dX9_doubtful_89 ?_
              obtain ⟨v15, ev15, h⟩ := nm_d h
              refine lv_nm ev15 ?_
              refine lv_istore (lv' := [(5, .int v15), (0, .ref (X.2.1 50)), (1, .int a1), (2, .int a2), (3, .int a3), (4, .int a4), (6, .int x6)]) C.1 C.2.1 dX9_doubtful_90 hl (by decide) rfl (fun ls hl => ?_)
              obtain ⟨v16, ev16, h⟩ := nm_d h
              refine lv_iinc (v := v16) (lv' := [(6, .int v16), (5, .int v15), (0, .ref (X.2.1 50)), (1, .int a1), (2, .int a2), (3, .int a3), (4, .int a4)]) C.1 C.2.1 dX9_doubtful_92 hl (k := 6) rfl (by rw [ev16]; rfl) (by decide) rfl (fun ls hl => ?_)
              refine lv_goto (tgt := 6) C.1 C.2.1 dX9_doubtful_95 (by decide) ?_
              exact ih v15 v16 h _ _ hw ls (lv_sub hl [2, 3, 4, 5, 6, 1, 0] rfl)
          · have h := ite_t c7 h
            refine lv_goto (tgt := 92) C.1 C.2.1 dX9_doubtful_52 (by decide) ?_
            obtain ⟨v17, ev17, h⟩ := nm_d h
            refine lv_iinc (v := v17) (lv' := [(6, .int v17), (0, .ref (X.2.1 50)), (1, .int a1), (2, .int a2), (3, .int a3), (4, .int a4), (5, .int x5)]) C.1 C.2.1 dX9_doubtful_92 hl (k := 6) rfl (by rw [ev17]; rfl) (by decide) rfl (fun ls hl => ?_)
            refine lv_goto (tgt := 6) C.1 C.2.1 dX9_doubtful_95 (by decide) ?_
            exact ih x5 v17 h _ _ hw ls (lv_sub hl [1, 2, 3, 4, 5, 6, 0] rfl)
  rw [f_X9_doubtful] at h
  refine lv_iconst (v := 0) C.1 C.2.1 dX9_doubtful_0 (by decide) ?_
  refine lv_istore (lv' := [(5, .int 0), (0, .ref (X.2.1 50)), (1, .int a1), (2, .int a2), (3, .int a3), (4, .int a4)]) C.1 C.2.1 dX9_doubtful_1 hl (by decide) rfl (fun ls hl => ?_)
  refine lv_iconst (v := 0) C.1 C.2.1 dX9_doubtful_3 (by decide) ?_
  refine lv_istore (lv' := [(6, .int 0), (5, .int 0), (0, .ref (X.2.1 50)), (1, .int a1), (2, .int a2), (3, .int a3), (4, .int a4)]) C.1 C.2.1 dX9_doubtful_4 hl (by decide) rfl (fun ls hl => ?_)
  exact b6 10000 0 0 h _ _ hw ls (lv_sub hl [2, 3, 4, 5, 6, 1, 0] rfl)
def f_X9_least (σ : St) (a1 : Int32) (a2 : Int32) (a3 : Int32) : Option Int32 :=
  (f_X9_sure σ a1 a2 a3).bind fun q1 => (f_X9_doubtful σ a1 a2 a3 0).bind fun q2 => some (q1 - q2)
set_option maxRecDepth 100000 in
set_option maxHeartbeats 4000000 in
theorem ok_X9_least (X : Xc) (l : Launch) (σ : St) (a1 : Int32) (a2 : Int32) (a3 : Int32) (r : Int32) (h : f_X9_least σ a1 a2 a3 = some r) : Ok X l yX9_least cX9_least 4 (some .int) 4 95 [.ref (X.2.1 50), .int a1, .int a2, .int a3] σ (some (.int r)) σ := by
  refine Ok.of (by decide) (Nat.le_of_ble_eq_true rfl) ?_
  intro p e s m args below meth c C hr hlk hw ls hl
  have C : Cx p s m args c X cX9_least 4 "RunningCountModel" := C
  have hl : lv_has ls 4 [(0, .ref (X.2.1 50)), (1, .int a1), (2, .int a2), (3, .int a3)] := hl
  rw [f_X9_least] at h
  refine lv_aload_n C.1 C.2.1 dX9_least_0 rfl (lv_at hl 0 rfl) ?_
  refine lv_iload_n C.1 C.2.1 dX9_least_1 rfl (lv_at hl 1 rfl) ?_
  refine lv_iload_n C.1 C.2.1 dX9_least_2 rfl (lv_at hl 2 rfl) ?_
  refine lv_iload_n C.1 C.2.1 dX9_least_3 rfl (lv_at hl 3 rfl) ?_
  obtain ⟨q1, eq1, h⟩ := bnd h
  refine r_callV (As := [.int a1, .int a2, .int a3]) C hw (ok_X9_sure X l σ a1 a2 a3 _ eq1) l_50 vc_9 gw_1227 gw_1224 gw_1226 gw_96 gw_123 hl.1 pd_X9_sure ⟨Nat.le_of_ble_eq_true rfl, Nat.le_of_ble_eq_true rfl⟩ ⟨Nat.le_refl 0, Nat.le_refl 0⟩ (rest := []) (Nat.le_of_ble_eq_true rfl) dX9_least_4 rfl (fun H locs hw => ?_)
  refine lv_aload_n C.1 C.2.1 dX9_least_7 rfl (lv_at hl 0 rfl) ?_
  refine lv_iload_n C.1 C.2.1 dX9_least_8 rfl (lv_at hl 1 rfl) ?_
  refine lv_iload_n C.1 C.2.1 dX9_least_9 rfl (lv_at hl 2 rfl) ?_
  refine lv_iload_n C.1 C.2.1 dX9_least_10 rfl (lv_at hl 3 rfl) ?_
  refine lv_iconst (v := 0) C.1 C.2.1 dX9_least_11 (by decide) ?_
  obtain ⟨q2, eq2, h⟩ := bnd h
  refine r_callV (As := [.int a1, .int a2, .int a3, .int 0]) C hw (ok_X9_doubtful X l σ a1 a2 a3 0 _ eq2) l_50 vc_9 gw_1243 gw_1240 gw_1242 gw_100 gw_123 hl.1 pd_X9_doubtful ⟨Nat.le_of_ble_eq_true rfl, Nat.le_of_ble_eq_true rfl⟩ ⟨Nat.le_refl 0, Nat.le_refl 0⟩ (rest := [.int q1]) (Nat.le_of_ble_eq_true rfl) dX9_least_12 rfl (fun H locs hw => ?_)
  refine lv_isub C.1 C.2.1 dX9_least_15 ?_
  exact r_iret C hr hlk hw (Option.some.inj h) rfl dX9_least_16
def f_X9_most (σ : St) (a1 : Int32) (a2 : Int32) (a3 : Int32) : Option Int32 :=
  (f_X9_sure σ a1 a2 a3).bind fun q1 => (f_X9_doubtful σ a1 a2 a3 1).bind fun q2 => some (q1 + q2)
set_option maxRecDepth 100000 in
set_option maxHeartbeats 4000000 in
theorem ok_X9_most (X : Xc) (l : Launch) (σ : St) (a1 : Int32) (a2 : Int32) (a3 : Int32) (r : Int32) (h : f_X9_most σ a1 a2 a3 = some r) : Ok X l yX9_most cX9_most 4 (some .int) 4 95 [.ref (X.2.1 50), .int a1, .int a2, .int a3] σ (some (.int r)) σ := by
  refine Ok.of (by decide) (Nat.le_of_ble_eq_true rfl) ?_
  intro p e s m args below meth c C hr hlk hw ls hl
  have C : Cx p s m args c X cX9_most 4 "RunningCountModel" := C
  have hl : lv_has ls 4 [(0, .ref (X.2.1 50)), (1, .int a1), (2, .int a2), (3, .int a3)] := hl
  rw [f_X9_most] at h
  refine lv_aload_n C.1 C.2.1 dX9_most_0 rfl (lv_at hl 0 rfl) ?_
  refine lv_iload_n C.1 C.2.1 dX9_most_1 rfl (lv_at hl 1 rfl) ?_
  refine lv_iload_n C.1 C.2.1 dX9_most_2 rfl (lv_at hl 2 rfl) ?_
  refine lv_iload_n C.1 C.2.1 dX9_most_3 rfl (lv_at hl 3 rfl) ?_
  obtain ⟨q1, eq1, h⟩ := bnd h
  refine r_callV (As := [.int a1, .int a2, .int a3]) C hw (ok_X9_sure X l σ a1 a2 a3 _ eq1) l_50 vc_9 gw_1227 gw_1224 gw_1226 gw_96 gw_123 hl.1 pd_X9_sure ⟨Nat.le_of_ble_eq_true rfl, Nat.le_of_ble_eq_true rfl⟩ ⟨Nat.le_refl 0, Nat.le_refl 0⟩ (rest := []) (Nat.le_of_ble_eq_true rfl) dX9_most_4 rfl (fun H locs hw => ?_)
  refine lv_aload_n C.1 C.2.1 dX9_most_7 rfl (lv_at hl 0 rfl) ?_
  refine lv_iload_n C.1 C.2.1 dX9_most_8 rfl (lv_at hl 1 rfl) ?_
  refine lv_iload_n C.1 C.2.1 dX9_most_9 rfl (lv_at hl 2 rfl) ?_
  refine lv_iload_n C.1 C.2.1 dX9_most_10 rfl (lv_at hl 3 rfl) ?_
  refine lv_iconst (v := 1) C.1 C.2.1 dX9_most_11 (by decide) ?_
  obtain ⟨q2, eq2, h⟩ := bnd h
  refine r_callV (As := [.int a1, .int a2, .int a3, .int 1]) C hw (ok_X9_doubtful X l σ a1 a2 a3 1 _ eq2) l_50 vc_9 gw_1243 gw_1240 gw_1242 gw_100 gw_123 hl.1 pd_X9_doubtful ⟨Nat.le_of_ble_eq_true rfl, Nat.le_of_ble_eq_true rfl⟩ ⟨Nat.le_refl 0, Nat.le_refl 0⟩ (rest := [.int q1]) (Nat.le_of_ble_eq_true rfl) dX9_most_12 rfl (fun H locs hw => ?_)
  refine lv_iadd C.1 C.2.1 dX9_most_15 ?_
  exact r_iret C hr hlk hw (Option.some.inj h) rfl dX9_most_16
def f_X9_counted (σ : St) (a1 : Int32) (a2 : Int32) : Option Int32 :=
  (rd σ 52 845 ((445 + (6 * a1)) + a2)).bind fun v1 => some v1
set_option maxRecDepth 100000 in
set_option maxHeartbeats 4000000 in
theorem ok_X9_counted (X : Xc) (l : Launch) (σ : St) (a1 : Int32) (a2 : Int32) (r : Int32) (h : f_X9_counted σ a1 a2 = some r) : Ok X l yX9_counted cX9_counted 3 (some .int) 0 0 [.ref (X.2.1 50), .int a1, .int a2] σ (some (.int r)) σ := by
  refine Ok.of (by decide) (Nat.le_of_ble_eq_true rfl) ?_
  intro p e s m args below meth c C hr hlk hw ls hl
  have C : Cx p s m args c X cX9_counted 3 "RunningCountModel" := C
  have hl : lv_has ls 3 [(0, .ref (X.2.1 50)), (1, .int a1), (2, .int a2)] := hl
  rw [f_X9_counted] at h
  refine lv_aload_n C.1 C.2.1 dX9_counted_0 rfl (lv_at hl 0 rfl) ?_
  refine r_get (v := .ref (X.2.1 52)) C hw l_50 vc_9 kX9 11 rfl (by decide) gw_1025 rfl dX9_counted_1 ?_
  refine lv_sipush (v := 445) C.1 C.2.1 dX9_counted_4 (by decide) ?_
  refine lv_bipush (v := 6) C.1 C.2.1 dX9_counted_7 (by decide) ?_
  refine lv_iload_n C.1 C.2.1 dX9_counted_9 rfl (lv_at hl 1 rfl) ?_
  refine lv_imul C.1 C.2.1 dX9_counted_10 ?_
  refine lv_iadd C.1 C.2.1 dX9_counted_11 ?_
  refine lv_iload_n C.1 C.2.1 dX9_counted_12 rfl (lv_at hl 2 rfl) ?_
  refine lv_iadd C.1 C.2.1 dX9_counted_13 ?_
  obtain ⟨v1, ev1, h⟩ := bnd h
  refine r_ald C hw l_52 ev1 dX9_counted_14 ?_
  exact r_iret C hr hlk hw (Option.some.inj h) rfl dX9_counted_15
def f_X9_openMany_b4 (σ : St) : Nat → Int32 → Int32 → Option Int32
  | 0, _, _ => none
  | n + 1, x1, x2 => (rd σ 52 845 3).bind fun v1 => if v1 ≤ x2 then (some x1) else ((f_X9_counted σ x2 5).bind fun q3 => if q3 = 0 then (nm (x1 + 1) fun v6 => nm (x2 + 1) fun v7 => f_X9_openMany_b4 σ n v6 v7) else (nm (x2 + 1) fun v5 => f_X9_openMany_b4 σ n x1 v5))
def f_X9_openMany (σ : St) : Option Int32 :=
  f_X9_openMany_b4 σ 10000 0 0
set_option maxRecDepth 100000 in
set_option maxHeartbeats 4000000 in
theorem ok_X9_openMany (X : Xc) (l : Launch) (σ : St) (r : Int32) (h : f_X9_openMany σ = some r) : Ok X l yX9_openMany cX9_openMany 3 (some .int) 1 22 [.ref (X.2.1 50)] σ (some (.int r)) σ := by
  refine Ok.of (by decide) (Nat.le_of_ble_eq_true rfl) ?_
  intro p e s m args below meth c C hr hlk hw ls hl
  have C : Cx p s m args c X cX9_openMany 3 "RunningCountModel" := C
  have hl : lv_has ls 3 [(0, .ref (X.2.1 50))] := hl
  have b4 : ∀ (n : Nat), ∀ (x1 : Int32) (x2 : Int32), f_X9_openMany_b4 σ n x1 x2 = some r → ∀ (H : Heap) (locs : List Loc), At X σ s.heap H locs → ∀ ls : Array Slot, lv_has ls 3 [(0, .ref (X.2.1 50)), (1, .int x1), (2, .int x2)] → W p l e (rmX 1 22) s m args below meth c H locs 0 0 (Zq X below s args (some (.int r)) σ) (F0 m 4 ls []) := by
    intro n
    induction n with
    | zero =>
      intro x1 x2 h
      exact no_some h
    | succ n ih =>
      intro x1 x2 h H locs hw ls hl
      rw [f_X9_openMany_b4] at h
      refine lv_iload_n C.1 C.2.1 dX9_openMany_4 rfl (lv_at hl 2 rfl) ?_
      refine lv_aload_n C.1 C.2.1 dX9_openMany_5 rfl (lv_at hl 0 rfl) ?_
      refine r_get (v := .ref (X.2.1 52)) C hw l_50 vc_9 kX9 11 rfl (by decide) gw_1025 rfl dX9_openMany_6 ?_
      refine lv_iconst (v := 3) C.1 C.2.1 dX9_openMany_9 (by decide) ?_
      obtain ⟨v1, ev1, h⟩ := bnd h
      refine r_ald C hw l_52 ev1 dX9_openMany_10 ?_
      refine lv_icmp_ge (tgt := 32) C.1 C.2.1 dX9_openMany_11 (by decide) (fun c2 => ?_) (fun c2 => ?_)
      · have h := ite_t c2 h
        refine lv_iload_n C.1 C.2.1 dX9_openMany_32 rfl (lv_at hl 1 rfl) ?_
        exact r_iret C hr hlk hw (Option.some.inj h) rfl dX9_openMany_33
      · have h := ite_f c2 h
        refine lv_aload_n C.1 C.2.1 dX9_openMany_14 rfl (lv_at hl 0 rfl) ?_
        refine lv_iload_n C.1 C.2.1 dX9_openMany_15 rfl (lv_at hl 2 rfl) ?_
        refine lv_iconst (v := 5) C.1 C.2.1 dX9_openMany_16 (by decide) ?_
        obtain ⟨q3, eq3, h⟩ := bnd h
        refine r_callV (As := [.int x2, .int 5]) C hw (ok_X9_counted X l σ x2 5 _ eq3) l_50 vc_9 gw_1179 gw_1176 gw_1178 gw_88 gw_123 hl.1 pd_X9_counted ⟨Nat.le_of_ble_eq_true rfl, Nat.le_of_ble_eq_true rfl⟩ ⟨Nat.le_refl 0, Nat.le_refl 0⟩ (rest := []) (Nat.le_of_ble_eq_true rfl) dX9_openMany_17 rfl (fun H locs hw => ?_)
        refine lv_if_ne (tgt := 26) C.1 C.2.1 dX9_openMany_20 (by decide) (fun c4 => ?_) (fun c4 => ?_)
        · have h := ite_f c4 h
          obtain ⟨v5, ev5, h⟩ := nm_d h
          refine lv_iinc (v := v5) (lv' := [(2, .int v5), (0, .ref (X.2.1 50)), (1, .int x1)]) C.1 C.2.1 dX9_openMany_26 hl (k := 2) rfl (by rw [ev5]; rfl) (by decide) rfl (fun ls hl => ?_)
          refine lv_goto (tgt := 4) C.1 C.2.1 dX9_openMany_29 (by decide) ?_
          exact ih x1 v5 h _ _ hw ls (lv_sub hl [1, 2, 0] rfl)
        · have h := ite_t c4 h
          obtain ⟨v6, ev6, h⟩ := nm_d h
          refine lv_iinc (v := v6) (lv' := [(1, .int v6), (0, .ref (X.2.1 50)), (2, .int x2)]) C.1 C.2.1 dX9_openMany_23 hl (k := 1) rfl (by rw [ev6]; rfl) (by decide) rfl (fun ls hl => ?_)
          obtain ⟨v7, ev7, h⟩ := nm_d h
          refine lv_iinc (v := v7) (lv' := [(2, .int v7), (1, .int v6), (0, .ref (X.2.1 50))]) C.1 C.2.1 dX9_openMany_26 hl (k := 2) rfl (by rw [ev7]; rfl) (by decide) rfl (fun ls hl => ?_)
          refine lv_goto (tgt := 4) C.1 C.2.1 dX9_openMany_29 (by decide) ?_
          exact ih v6 v7 h _ _ hw ls (lv_sub hl [2, 1, 0] rfl)
  rw [f_X9_openMany] at h
  refine lv_iconst (v := 0) C.1 C.2.1 dX9_openMany_0 (by decide) ?_
  refine lv_istore_n (lv' := [(1, .int 0), (0, .ref (X.2.1 50))]) C.1 C.2.1 dX9_openMany_1 rfl hl (by decide) rfl (fun ls hl => ?_)
  refine lv_iconst (v := 0) C.1 C.2.1 dX9_openMany_2 (by decide) ?_
  refine lv_istore_n (lv' := [(2, .int 0), (1, .int 0), (0, .ref (X.2.1 50))]) C.1 C.2.1 dX9_openMany_3 rfl hl (by decide) rfl (fun ls hl => ?_)
  exact b4 10000 0 0 h _ _ hw ls (lv_sub hl [2, 1, 0] rfl)
def f_X9_now (σ : St) (a1 : Int32) : Option (Int32 × St) :=
  nm (upI σ 50 0 0) fun σ1 => if a1 = 0 then ((rd σ1 52 845 0).bind fun v15 => some (v15, σ1)) else (if a1 = 1 then ((rd σ1 52 845 1).bind fun v14 => some (v14, σ1)) else (if a1 = 2 then ((rd σ1 52 845 2).bind fun v13 => some (v13, σ1)) else (if a1 = 3 then ((rd σ1 52 845 3).bind fun v12 => some (v12, σ1)) else (if a1 = 4 then ((f_X9_openMany σ1).bind fun q11 => some (q11, σ1)) else (if a1 = 5 then ((rd σ1 52 845 4).bind fun v10 => some (v10, σ1)) else (if a1 = 6 then (some (σ1.1 50 14, σ1)) else (if a1 = 7 then (some (σ1.1 50 2, σ1)) else (some ((-1), σ1)))))))))
set_option maxRecDepth 100000 in
set_option maxHeartbeats 4000000 in
theorem ok_X9_now (X : Xc) (l : Launch) (σ : St) (a1 : Int32) (r : Int32) (σ' : St) (h : f_X9_now σ a1 = some (r, σ')) : Ok X l yX9_now cX9_now 2 (some .int) 2 44 [.ref (X.2.1 50), .int a1] σ (some (.int r)) σ' := by
  refine Ok.of (by decide) (Nat.le_of_ble_eq_true rfl) ?_
  intro p e s m args below meth c C hr hlk hw ls hl
  have C : Cx p s m args c X cX9_now 2 "RunningCountModel" := C
  have hl : lv_has ls 2 [(0, .ref (X.2.1 50)), (1, .int a1)] := hl
  rw [f_X9_now] at h
  refine lv_aload_n C.1 C.2.1 dX9_now_0 rfl (lv_at hl 0 rfl) ?_
  refine lv_iconst (v := 0) C.1 C.2.1 dX9_now_1 (by decide) ?_
  obtain ⟨σ1, eσ1, h⟩ := nm_d h
  refine r_put C hw l_50 vc_9 kX9 tyX9 tyX9_ok nmX9 0 (by decide) (by decide) gw_1014 rfl rfl rfl (put_i l_50 rfl eσ1) dX9_now_2 (fun H locs hw => ?_)
  refine lv_iload_n C.1 C.2.1 dX9_now_5 rfl (lv_at hl 1 rfl) ?_
  by_cases c2 : a1 = 0
  · have h := ite_t c2 h
    refine lv_tableIn (tgt := 52) C.1 C.2.1 dX9_now_6 (by rw [c2]; decide) (by rw [c2]; decide) (by rw [c2]; rfl) (by decide) ?_
    refine lv_aload_n C.1 C.2.1 dX9_now_52 rfl (lv_at hl 0 rfl) ?_
    refine r_get (v := .ref (X.2.1 52)) C hw l_50 vc_9 kX9 11 rfl (by decide) gw_1025 rfl dX9_now_53 ?_
    refine lv_iconst (v := 0) C.1 C.2.1 dX9_now_56 (by decide) ?_
    obtain ⟨v15, ev15, h⟩ := bnd h
    refine r_ald C hw l_52 ev15 dX9_now_57 ?_
    exact r_iret C hr hlk hw (Prod.mk.inj (Option.some.inj h)).1 (Prod.mk.inj (Option.some.inj h)).2 dX9_now_58
  · have h := ite_f c2 h
    by_cases c3 : a1 = 1
    · have h := ite_t c3 h
      refine lv_tableIn (tgt := 59) C.1 C.2.1 dX9_now_6 (by rw [c3]; decide) (by rw [c3]; decide) (by rw [c3]; rfl) (by decide) ?_
      refine lv_aload_n C.1 C.2.1 dX9_now_59 rfl (lv_at hl 0 rfl) ?_
      refine r_get (v := .ref (X.2.1 52)) C hw l_50 vc_9 kX9 11 rfl (by decide) gw_1025 rfl dX9_now_60 ?_
      refine lv_iconst (v := 1) C.1 C.2.1 dX9_now_63 (by decide) ?_
      obtain ⟨v14, ev14, h⟩ := bnd h
      refine r_ald C hw l_52 ev14 dX9_now_64 ?_
      exact r_iret C hr hlk hw (Prod.mk.inj (Option.some.inj h)).1 (Prod.mk.inj (Option.some.inj h)).2 dX9_now_65
    · have h := ite_f c3 h
      by_cases c4 : a1 = 2
      · have h := ite_t c4 h
        refine lv_tableIn (tgt := 66) C.1 C.2.1 dX9_now_6 (by rw [c4]; decide) (by rw [c4]; decide) (by rw [c4]; rfl) (by decide) ?_
        refine lv_aload_n C.1 C.2.1 dX9_now_66 rfl (lv_at hl 0 rfl) ?_
        refine r_get (v := .ref (X.2.1 52)) C hw l_50 vc_9 kX9 11 rfl (by decide) gw_1025 rfl dX9_now_67 ?_
        refine lv_iconst (v := 2) C.1 C.2.1 dX9_now_70 (by decide) ?_
        obtain ⟨v13, ev13, h⟩ := bnd h
        refine r_ald C hw l_52 ev13 dX9_now_71 ?_
        exact r_iret C hr hlk hw (Prod.mk.inj (Option.some.inj h)).1 (Prod.mk.inj (Option.some.inj h)).2 dX9_now_72
      · have h := ite_f c4 h
        by_cases c5 : a1 = 3
        · have h := ite_t c5 h
          refine lv_tableIn (tgt := 73) C.1 C.2.1 dX9_now_6 (by rw [c5]; decide) (by rw [c5]; decide) (by rw [c5]; rfl) (by decide) ?_
          refine lv_aload_n C.1 C.2.1 dX9_now_73 rfl (lv_at hl 0 rfl) ?_
          refine r_get (v := .ref (X.2.1 52)) C hw l_50 vc_9 kX9 11 rfl (by decide) gw_1025 rfl dX9_now_74 ?_
          refine lv_iconst (v := 3) C.1 C.2.1 dX9_now_77 (by decide) ?_
          obtain ⟨v12, ev12, h⟩ := bnd h
          refine r_ald C hw l_52 ev12 dX9_now_78 ?_
          exact r_iret C hr hlk hw (Prod.mk.inj (Option.some.inj h)).1 (Prod.mk.inj (Option.some.inj h)).2 dX9_now_79
        · have h := ite_f c5 h
          by_cases c6 : a1 = 4
          · have h := ite_t c6 h
            refine lv_tableIn (tgt := 80) C.1 C.2.1 dX9_now_6 (by rw [c6]; decide) (by rw [c6]; decide) (by rw [c6]; rfl) (by decide) ?_
            refine lv_aload_n C.1 C.2.1 dX9_now_80 rfl (lv_at hl 0 rfl) ?_
            obtain ⟨q11, eq11, h⟩ := bnd h
            refine r_callV (As := []) C hw (ok_X9_openMany X l σ1 _ eq11) l_50 vc_9 gw_1175 gw_1172 gw_1174 gw_87 gw_123 hl.1 pd_X9_openMany ⟨Nat.le_of_ble_eq_true rfl, Nat.le_of_ble_eq_true rfl⟩ ⟨Nat.le_refl 0, Nat.le_refl 0⟩ (rest := []) (Nat.le_of_ble_eq_true rfl) dX9_now_81 rfl (fun H locs hw => ?_)
            exact r_iret C hr hlk hw (Prod.mk.inj (Option.some.inj h)).1 (Prod.mk.inj (Option.some.inj h)).2 dX9_now_84
          · have h := ite_f c6 h
            by_cases c7 : a1 = 5
            · have h := ite_t c7 h
              refine lv_tableIn (tgt := 85) C.1 C.2.1 dX9_now_6 (by rw [c7]; decide) (by rw [c7]; decide) (by rw [c7]; rfl) (by decide) ?_
              refine lv_aload_n C.1 C.2.1 dX9_now_85 rfl (lv_at hl 0 rfl) ?_
              refine r_get (v := .ref (X.2.1 52)) C hw l_50 vc_9 kX9 11 rfl (by decide) gw_1025 rfl dX9_now_86 ?_
              refine lv_iconst (v := 4) C.1 C.2.1 dX9_now_89 (by decide) ?_
              obtain ⟨v10, ev10, h⟩ := bnd h
              refine r_ald C hw l_52 ev10 dX9_now_90 ?_
              exact r_iret C hr hlk hw (Prod.mk.inj (Option.some.inj h)).1 (Prod.mk.inj (Option.some.inj h)).2 dX9_now_91
            · have h := ite_f c7 h
              by_cases c8 : a1 = 6
              · have h := ite_t c8 h
                refine lv_tableIn (tgt := 92) C.1 C.2.1 dX9_now_6 (by rw [c8]; decide) (by rw [c8]; decide) (by rw [c8]; rfl) (by decide) ?_
                refine lv_aload_n C.1 C.2.1 dX9_now_92 rfl (lv_at hl 0 rfl) ?_
                refine r_get (v := .int (σ1.1 50 14)) C hw l_50 vc_9 kX9 14 rfl (by decide) gw_1028 rfl dX9_now_93 ?_
                exact r_iret C hr hlk hw (Prod.mk.inj (Option.some.inj h)).1 (Prod.mk.inj (Option.some.inj h)).2 dX9_now_96
              · have h := ite_f c8 h
                by_cases c9 : a1 = 7
                · have h := ite_t c9 h
                  refine lv_tableIn (tgt := 97) C.1 C.2.1 dX9_now_6 (by rw [c9]; decide) (by rw [c9]; decide) (by rw [c9]; rfl) (by decide) ?_
                  refine lv_aload_n C.1 C.2.1 dX9_now_97 rfl (lv_at hl 0 rfl) ?_
                  refine r_get (v := .int (σ1.1 50 2)) C hw l_50 vc_9 kX9 2 rfl (by decide) gw_1016 rfl dX9_now_98 ?_
                  exact r_iret C hr hlk hw (Prod.mk.inj (Option.some.inj h)).1 (Prod.mk.inj (Option.some.inj h)).2 dX9_now_101
                · have h := ite_f c9 h
                  refine sw_out (ts := 102) C.1 C.2.1 dX9_now_6 [0, 1, 2, 3, 4, 5, 6, 7] (by decide) (by decide) (List.forall_mem_cons.mpr ⟨c2, (List.forall_mem_cons.mpr ⟨c3, (List.forall_mem_cons.mpr ⟨c4, (List.forall_mem_cons.mpr ⟨c5, (List.forall_mem_cons.mpr ⟨c6, (List.forall_mem_cons.mpr ⟨c7, (List.forall_mem_cons.mpr ⟨c8, (List.forall_mem_cons.mpr ⟨c9, fun _ h => absurd h List.not_mem_nil⟩)⟩)⟩)⟩)⟩)⟩)⟩)⟩) (by decide) ?_
                  refine lv_iconst (v := (-1)) C.1 C.2.1 dX9_now_102 (by decide) ?_
                  exact r_iret C hr hlk hw (Prod.mk.inj (Option.some.inj h)).1 (Prod.mk.inj (Option.some.inj h)).2 dX9_now_103
def f_X9_item (σ : St) (a1 : Int32) (a2 : Int32) : Option (Int32 × St) :=
  nm (upI σ 50 0 0) fun σ1 => (f_X9_isItem σ1 a1).bind fun q2 => if (b2i q2) = 0 then (some ((-1), σ1)) else (if (b2i (f_X9_isIn σ1 a2 0 1)) = 0 then (some ((-1), σ1)) else ((rd σ1 52 845 ((5 + (2 * a1)) + a2)).bind fun v6 => some (v6, σ1)))
set_option maxRecDepth 100000 in
set_option maxHeartbeats 4000000 in
theorem ok_X9_item (X : Xc) (l : Launch) (σ : St) (a1 : Int32) (a2 : Int32) (r : Int32) (σ' : St) (h : f_X9_item σ a1 a2 = some (r, σ')) : Ok X l yX9_item cX9_item 3 (some .int) 2 43 [.ref (X.2.1 50), .int a1, .int a2] σ (some (.int r)) σ' := by
  refine Ok.of (by decide) (Nat.le_of_ble_eq_true rfl) ?_
  intro p e s m args below meth c C hr hlk hw ls hl
  have C : Cx p s m args c X cX9_item 3 "RunningCountModel" := C
  have hl : lv_has ls 3 [(0, .ref (X.2.1 50)), (1, .int a1), (2, .int a2)] := hl
  rw [f_X9_item] at h
  refine lv_aload_n C.1 C.2.1 dX9_item_0 rfl (lv_at hl 0 rfl) ?_
  refine lv_iconst (v := 0) C.1 C.2.1 dX9_item_1 (by decide) ?_
  obtain ⟨σ1, eσ1, h⟩ := nm_d h
  refine r_put C hw l_50 vc_9 kX9 tyX9 tyX9_ok nmX9 0 (by decide) (by decide) gw_1014 rfl rfl rfl (put_i l_50 rfl eσ1) dX9_item_2 (fun H locs hw => ?_)
  refine lv_aload_n C.1 C.2.1 dX9_item_5 rfl (lv_at hl 0 rfl) ?_
  refine lv_iload_n C.1 C.2.1 dX9_item_6 rfl (lv_at hl 1 rfl) ?_
  obtain ⟨q2, eq2, h⟩ := bnd h
  refine r_callV (As := [.int a1]) C hw (ok_X9_isItem X l σ1 a1 _ eq2) l_50 vc_9 gw_1187 gw_1184 gw_1186 gw_89 gw_123 hl.1 pd_X9_isItem ⟨Nat.le_of_ble_eq_true rfl, Nat.le_of_ble_eq_true rfl⟩ ⟨Nat.le_refl 0, Nat.le_refl 0⟩ (rest := []) (Nat.le_of_ble_eq_true rfl) dX9_item_7 rfl (fun H locs hw => ?_)
  refine lv_if_eq (tgt := 37) C.1 C.2.1 dX9_item_10 (by decide) (fun c3 => ?_) (fun c3 => ?_)
  · have h := ite_t c3 h
    refine lv_iconst (v := (-1)) C.1 C.2.1 dX9_item_37 (by decide) ?_
    exact r_iret C hr hlk hw (Prod.mk.inj (Option.some.inj h)).1 (Prod.mk.inj (Option.some.inj h)).2 dX9_item_38
  · have h := ite_f c3 h
    refine lv_iload_n C.1 C.2.1 dX9_item_13 rfl (lv_at hl 2 rfl) ?_
    refine lv_iconst (v := 0) C.1 C.2.1 dX9_item_14 (by decide) ?_
    refine lv_iconst (v := 1) C.1 C.2.1 dX9_item_15 (by decide) ?_
    refine r_callS (As := [.int a2, .int 0, .int 1]) C hw (ok_X9_isIn X l σ1 a2 0 1 _ rfl) gw_1130 gw_1128 gw_1129 gw_123 hl.1 pd_X9_isIn ⟨Nat.le_of_ble_eq_true rfl, Nat.le_of_ble_eq_true rfl⟩ ⟨Nat.le_refl 0, Nat.le_refl 0⟩ (rest := []) (Nat.le_of_ble_eq_true rfl) dX9_item_16 rfl (fun H locs hw => ?_)
    refine lv_if_eq (tgt := 37) C.1 C.2.1 dX9_item_19 (by decide) (fun c5 => ?_) (fun c5 => ?_)
    · have h := ite_t c5 h
      refine lv_iconst (v := (-1)) C.1 C.2.1 dX9_item_37 (by decide) ?_
      exact r_iret C hr hlk hw (Prod.mk.inj (Option.some.inj h)).1 (Prod.mk.inj (Option.some.inj h)).2 dX9_item_38
    · have h := ite_f c5 h
      refine lv_aload_n C.1 C.2.1 dX9_item_22 rfl (lv_at hl 0 rfl) ?_
      refine r_get (v := .ref (X.2.1 52)) C hw l_50 vc_9 kX9 11 rfl (by decide) gw_1025 rfl dX9_item_23 ?_
      refine lv_iconst (v := 5) C.1 C.2.1 dX9_item_26 (by decide) ?_
      refine lv_iconst (v := 2) C.1 C.2.1 dX9_item_27 (by decide) ?_
      refine lv_iload_n C.1 C.2.1 dX9_item_28 rfl (lv_at hl 1 rfl) ?_
      refine lv_imul C.1 C.2.1 dX9_item_29 ?_
      refine lv_iadd C.1 C.2.1 dX9_item_30 ?_
      refine lv_iload_n C.1 C.2.1 dX9_item_31 rfl (lv_at hl 2 rfl) ?_
      refine lv_iadd C.1 C.2.1 dX9_item_32 ?_
      obtain ⟨v6, ev6, h⟩ := bnd h
      refine r_ald C hw l_52 ev6 dX9_item_33 ?_
      refine lv_goto (tgt := 38) C.1 C.2.1 dX9_item_34 (by decide) ?_
      exact r_iret C hr hlk hw (Prod.mk.inj (Option.some.inj h)).1 (Prod.mk.inj (Option.some.inj h)).2 dX9_item_38
def f_X9_move_b59 (a1 : Int32) (a2 : Int32) (σ : St) (x3 : Int32) : Option (Int32 × St) :=
  if x3 = 0 then ((f_X9_moved σ a1 a2).bind fun q14 => some (q14, σ)) else (nm ((a2 / 10) - 1) fun v10 => (f_X9_isThere σ a1 v10).bind fun q11 => if (b2i q11) = 0 then (some ((-1), σ)) else ((f_X9_leg σ a1 v10 (1 + (a2 - a2 / 10 * 10))).bind fun q13 => some (q13, σ)))
def f_X9_move_b32 (a1 : Int32) (a2 : Int32) (σ : St) (s0 : Int32) : Option (Int32 × St) :=
  (f_X9_isMove σ a1).bind fun q4 => if (b2i q4) = 0 then ((f_X9_refuse σ).bind fun q6 => some (q6.1, q6.2)) else (if (b2i (f_X9_isIn σ a2 0 1)) = 0 then (if s0 = 0 then ((f_X9_refuse σ).bind fun q16 => some (q16.1, q16.2)) else (f_X9_move_b59 a1 a2 σ s0)) else (f_X9_move_b59 a1 a2 σ s0))
def f_X9_move (σ : St) (a1 : Int32) (a2 : Int32) : Option (Int32 × St) :=
  nm (upI σ 50 0 0) fun σ1 => if (b2i (f_X9_isIn σ1 a2 10 12)) = 0 then (if (b2i (f_X9_isIn σ1 a2 20 22)) = 0 then (f_X9_move_b32 a1 a2 σ1 0) else (f_X9_move_b32 a1 a2 σ1 1)) else (f_X9_move_b32 a1 a2 σ1 1)
set_option maxRecDepth 100000 in
set_option maxHeartbeats 4000000 in
theorem ok_X9_move (X : Xc) (l : Launch) (σ : St) (a1 : Int32) (a2 : Int32) (r : Int32) (σ' : St) (h : f_X9_move σ a1 a2 = some (r, σ')) : Ok X l yX9_move cX9_move 5 (some .int) 2 45 [.ref (X.2.1 50), .int a1, .int a2] σ (some (.int r)) σ' := by
  refine Ok.of (by decide) (Nat.le_of_ble_eq_true rfl) ?_
  intro p e s m args below meth c C hr hlk hw ls hl
  have C : Cx p s m args c X cX9_move 5 "RunningCountModel" := C
  have hl : lv_has ls 5 [(0, .ref (X.2.1 50)), (1, .int a1), (2, .int a2)] := hl
  have b59 : ∀ (σ : St) (x3 : Int32), f_X9_move_b59 a1 a2 σ x3 = some (r, σ') → ∀ (H : Heap) (locs : List Loc), At X σ s.heap H locs → ∀ ls : Array Slot, lv_has ls 5 [(0, .ref (X.2.1 50)), (1, .int a1), (2, .int a2), (3, .int x3)] → W p l e (rmX 2 45) s m args below meth c H locs 0 0 (Zq X below s args (some (.int r)) σ') (F0 m 59 ls []) := by
    intro σ x3 h H locs hw ls hl
    rw [f_X9_move_b59] at h
    refine lv_iload_n C.1 C.2.1 dX9_move_59 rfl (lv_at hl 3 rfl) ?_
    refine lv_if_ne (tgt := 70) C.1 C.2.1 dX9_move_60 (by decide) (fun c9 => ?_) (fun c9 => ?_)
    · have h := ite_f c9 h
      refine lv_iload_n C.1 C.2.1 dX9_move_70 rfl (lv_at hl 2 rfl) ?_
      refine lv_bipush (v := 10) C.1 C.2.1 dX9_move_71 (by decide) ?_
      refine lv_idiv C.1 C.2.1 dX9_move_73 (by decide) ?_
      refine lv_iconst (v := 1) C.1 C.2.1 dX9_move_74 (by decide) ?_
      refine lv_isub C.1 C.2.1 dX9_move_75 ?_
      obtain ⟨v10, ev10, h⟩ := nm_d h
      refine lv_nm ev10 ?_
      refine lv_istore (lv' := [(4, .int v10), (0, .ref (X.2.1 50)), (1, .int a1), (2, .int a2), (3, .int x3)]) C.1 C.2.1 dX9_move_76 hl (by decide) rfl (fun ls hl => ?_)
      refine lv_aload_n C.1 C.2.1 dX9_move_78 rfl (lv_at hl 1 rfl) ?_
      refine lv_iload_n C.1 C.2.1 dX9_move_79 rfl (lv_at hl 2 rfl) ?_
      refine lv_iload C.1 C.2.1 dX9_move_80 (lv_at hl 0 rfl) ?_
      obtain ⟨q11, eq11, h⟩ := bnd h
      refine r_callV (As := [.int a1, .int v10]) C hw (ok_X9_isThere X l σ a1 v10 _ eq11) l_50 vc_9 gw_1207 gw_1204 gw_1206 gw_93 gw_123 hl.1 pd_X9_isThere ⟨Nat.le_of_ble_eq_true rfl, Nat.le_of_ble_eq_true rfl⟩ ⟨Nat.le_refl 0, Nat.le_refl 0⟩ (rest := []) (Nat.le_of_ble_eq_true rfl) dX9_move_82 rfl (fun H locs hw => ?_)
      refine lv_if_eq (tgt := 104) C.1 C.2.1 dX9_move_85 (by decide) (fun c12 => ?_) (fun c12 => ?_)
      · have h := ite_t c12 h
        refine lv_iconst (v := (-1)) C.1 C.2.1 dX9_move_104 (by decide) ?_
        exact r_iret C hr hlk hw (Prod.mk.inj (Option.some.inj h)).1 (Prod.mk.inj (Option.some.inj h)).2 dX9_move_105
      · have h := ite_f c12 h
        refine lv_aload_n C.1 C.2.1 dX9_move_88 rfl (lv_at hl 1 rfl) ?_
        refine lv_iload_n C.1 C.2.1 dX9_move_89 rfl (lv_at hl 2 rfl) ?_
        refine lv_iload C.1 C.2.1 dX9_move_90 (lv_at hl 0 rfl) ?_
        refine lv_iconst (v := 1) C.1 C.2.1 dX9_move_92 (by decide) ?_
        refine lv_iload_n C.1 C.2.1 dX9_move_93 rfl (lv_at hl 3 rfl) ?_
        refine lv_bipush (v := 10) C.1 C.2.1 dX9_move_94 (by decide) ?_
        refine lv_irem C.1 C.2.1 dX9_move_96 (by decide) ?_
        refine lv_iadd C.1 C.2.1 dX9_move_97 ?_
        obtain ⟨q13, eq13, h⟩ := bnd h
        refine r_callV (As := [.int a1, .int v10, .int (1 + (a2 - a2 / 10 * 10))]) C hw (ok_X9_leg X l σ a1 v10 (1 + (a2 - a2 / 10 * 10)) _ eq13) l_50 vc_9 gw_1211 gw_1208 gw_1210 gw_94 gw_123 hl.1 pd_X9_leg ⟨Nat.le_of_ble_eq_true rfl, Nat.le_of_ble_eq_true rfl⟩ ⟨Nat.le_refl 0, Nat.le_refl 0⟩ (rest := []) (Nat.le_of_ble_eq_true rfl) dX9_move_98 rfl (fun H locs hw => ?_)
        refine lv_goto (tgt := 105) C.1 C.2.1 dX9_move_101 (by decide) ?_
        exact r_iret C hr hlk hw (Prod.mk.inj (Option.some.inj h)).1 (Prod.mk.inj (Option.some.inj h)).2 dX9_move_105
    · have h := ite_t c9 h
      refine lv_aload_n C.1 C.2.1 dX9_move_63 rfl (lv_at hl 0 rfl) ?_
      refine lv_iload_n C.1 C.2.1 dX9_move_64 rfl (lv_at hl 1 rfl) ?_
      refine lv_iload_n C.1 C.2.1 dX9_move_65 rfl (lv_at hl 2 rfl) ?_
      obtain ⟨q14, eq14, h⟩ := bnd h
      refine r_callV (As := [.int a1, .int a2]) C hw (ok_X9_moved X l σ a1 a2 _ eq14) l_50 vc_9 gw_1203 gw_1200 gw_1202 gw_92 gw_123 hl.1 pd_X9_moved ⟨Nat.le_of_ble_eq_true rfl, Nat.le_of_ble_eq_true rfl⟩ ⟨Nat.le_refl 0, Nat.le_refl 0⟩ (rest := []) (Nat.le_of_ble_eq_true rfl) dX9_move_66 rfl (fun H locs hw => ?_)
      exact r_iret C hr hlk hw (Prod.mk.inj (Option.some.inj h)).1 (Prod.mk.inj (Option.some.inj h)).2 dX9_move_69
  have b32 : ∀ (σ : St) (s0 : Int32), f_X9_move_b32 a1 a2 σ s0 = some (r, σ') → ∀ (H : Heap) (locs : List Loc), At X σ s.heap H locs → ∀ ls : Array Slot, lv_has ls 5 [(0, .ref (X.2.1 50)), (1, .int a1), (2, .int a2)] → W p l e (rmX 2 45) s m args below meth c H locs 0 0 (Zq X below s args (some (.int r)) σ') (F0 m 32 ls [.int s0]) := by
    intro σ s0 h H locs hw ls hl
    rw [f_X9_move_b32] at h
    refine lv_istore_n (lv' := [(3, .int s0), (0, .ref (X.2.1 50)), (1, .int a1), (2, .int a2)]) C.1 C.2.1 dX9_move_32 rfl hl (by decide) rfl (fun ls hl => ?_)
    refine lv_aload_n C.1 C.2.1 dX9_move_33 rfl (lv_at hl 1 rfl) ?_
    refine lv_iload_n C.1 C.2.1 dX9_move_34 rfl (lv_at hl 2 rfl) ?_
    obtain ⟨q4, eq4, h⟩ := bnd h
    refine r_callV (As := [.int a1]) C hw (ok_X9_isMove X l σ a1 _ eq4) l_50 vc_9 gw_1195 gw_1192 gw_1194 gw_90 gw_123 hl.1 pd_X9_isMove ⟨Nat.le_of_ble_eq_true rfl, Nat.le_of_ble_eq_true rfl⟩ ⟨Nat.le_refl 0, Nat.le_refl 0⟩ (rest := []) (Nat.le_of_ble_eq_true rfl) dX9_move_35 rfl (fun H locs hw => ?_)
    refine lv_if_eq (tgt := 54) C.1 C.2.1 dX9_move_38 (by decide) (fun c5 => ?_) (fun c5 => ?_)
    · have h := ite_t c5 h
      refine lv_aload_n C.1 C.2.1 dX9_move_54 rfl (lv_at hl 1 rfl) ?_
      obtain ⟨q6, eq6, h⟩ := bnd h
      refine r_callV (As := []) C hw (ok_X9_refuse X l σ _ _ eq6) l_50 vc_9 gw_1199 gw_1196 gw_1198 gw_91 gw_123 hl.1 pd_X9_refuse ⟨Nat.le_of_ble_eq_true rfl, Nat.le_of_ble_eq_true rfl⟩ ⟨Nat.le_refl 0, Nat.le_refl 0⟩ (rest := []) (Nat.le_of_ble_eq_true rfl) dX9_move_55 rfl (fun H locs hw => ?_)
      exact r_iret C hr hlk hw (Prod.mk.inj (Option.some.inj h)).1 (Prod.mk.inj (Option.some.inj h)).2 dX9_move_58
    · have h := ite_f c5 h
      refine lv_iload_n C.1 C.2.1 dX9_move_41 rfl (lv_at hl 3 rfl) ?_
      refine lv_iconst (v := 0) C.1 C.2.1 dX9_move_42 (by decide) ?_
      refine lv_iconst (v := 1) C.1 C.2.1 dX9_move_43 (by decide) ?_
      refine r_callS (As := [.int a2, .int 0, .int 1]) C hw (ok_X9_isIn X l σ a2 0 1 _ rfl) gw_1130 gw_1128 gw_1129 gw_123 hl.1 pd_X9_isIn ⟨Nat.le_of_ble_eq_true rfl, Nat.le_of_ble_eq_true rfl⟩ ⟨Nat.le_refl 0, Nat.le_refl 0⟩ (rest := []) (Nat.le_of_ble_eq_true rfl) dX9_move_44 rfl (fun H locs hw => ?_)
      refine lv_if_ne (tgt := 59) C.1 C.2.1 dX9_move_47 (by decide) (fun c8 => ?_) (fun c8 => ?_)
      · have h := ite_f c8 h
        exact b59 σ s0 h _ _ hw ls (lv_sub hl [1, 2, 3, 0] rfl)
      · have h := ite_t c8 h
        refine lv_iload_n C.1 C.2.1 dX9_move_50 rfl (lv_at hl 0 rfl) ?_
        refine lv_if_ne (tgt := 59) C.1 C.2.1 dX9_move_51 (by decide) (fun c15 => ?_) (fun c15 => ?_)
        · have h := ite_f c15 h
          exact b59 σ s0 h _ _ hw ls (lv_sub hl [1, 2, 3, 0] rfl)
        · have h := ite_t c15 h
          refine lv_aload_n C.1 C.2.1 dX9_move_54 rfl (lv_at hl 1 rfl) ?_
          obtain ⟨q16, eq16, h⟩ := bnd h
          refine r_callV (As := []) C hw (ok_X9_refuse X l σ _ _ eq16) l_50 vc_9 gw_1199 gw_1196 gw_1198 gw_91 gw_123 hl.1 pd_X9_refuse ⟨Nat.le_of_ble_eq_true rfl, Nat.le_of_ble_eq_true rfl⟩ ⟨Nat.le_refl 0, Nat.le_refl 0⟩ (rest := []) (Nat.le_of_ble_eq_true rfl) dX9_move_55 rfl (fun H locs hw => ?_)
          exact r_iret C hr hlk hw (Prod.mk.inj (Option.some.inj h)).1 (Prod.mk.inj (Option.some.inj h)).2 dX9_move_58
  rw [f_X9_move] at h
  refine lv_aload_n C.1 C.2.1 dX9_move_0 rfl (lv_at hl 0 rfl) ?_
  refine lv_iconst (v := 0) C.1 C.2.1 dX9_move_1 (by decide) ?_
  obtain ⟨σ1, eσ1, h⟩ := nm_d h
  refine r_put C hw l_50 vc_9 kX9 tyX9 tyX9_ok nmX9 0 (by decide) (by decide) gw_1014 rfl rfl rfl (put_i l_50 rfl eσ1) dX9_move_2 (fun H locs hw => ?_)
  refine lv_iload_n C.1 C.2.1 dX9_move_5 rfl (lv_at hl 2 rfl) ?_
  refine lv_bipush (v := 10) C.1 C.2.1 dX9_move_6 (by decide) ?_
  refine lv_bipush (v := 12) C.1 C.2.1 dX9_move_8 (by decide) ?_
  refine r_callS (As := [.int a2, .int 10, .int 12]) C hw (ok_X9_isIn X l σ1 a2 10 12 _ rfl) gw_1130 gw_1128 gw_1129 gw_123 hl.1 pd_X9_isIn ⟨Nat.le_of_ble_eq_true rfl, Nat.le_of_ble_eq_true rfl⟩ ⟨Nat.le_refl 0, Nat.le_refl 0⟩ (rest := []) (Nat.le_of_ble_eq_true rfl) dX9_move_10 rfl (fun H locs hw => ?_)
  refine lv_if_ne (tgt := 27) C.1 C.2.1 dX9_move_13 (by decide) (fun c3 => ?_) (fun c3 => ?_)
  · have h := ite_f c3 h
    refine lv_iconst (v := 1) C.1 C.2.1 dX9_move_27 (by decide) ?_
    refine lv_goto (tgt := 32) C.1 C.2.1 dX9_move_28 (by decide) ?_
    exact b32 σ1 1 h _ _ hw ls (lv_sub hl [0, 1, 2] rfl)
  · have h := ite_t c3 h
    refine lv_iload_n C.1 C.2.1 dX9_move_16 rfl (lv_at hl 2 rfl) ?_
    refine lv_bipush (v := 20) C.1 C.2.1 dX9_move_17 (by decide) ?_
    refine lv_bipush (v := 22) C.1 C.2.1 dX9_move_19 (by decide) ?_
    refine r_callS (As := [.int a2, .int 20, .int 22]) C hw (ok_X9_isIn X l σ1 a2 20 22 _ rfl) gw_1130 gw_1128 gw_1129 gw_123 hl.1 pd_X9_isIn ⟨Nat.le_of_ble_eq_true rfl, Nat.le_of_ble_eq_true rfl⟩ ⟨Nat.le_refl 0, Nat.le_refl 0⟩ (rest := []) (Nat.le_of_ble_eq_true rfl) dX9_move_21 rfl (fun H locs hw => ?_)
    refine lv_if_eq (tgt := 31) C.1 C.2.1 dX9_move_24 (by decide) (fun c18 => ?_) (fun c18 => ?_)
    · have h := ite_t c18 h
      refine lv_iconst (v := 0) C.1 C.2.1 dX9_move_31 (by decide) ?_
      exact b32 σ1 0 h _ _ hw ls (lv_sub hl [0, 1, 2] rfl)
    · have h := ite_f c18 h
      refine lv_iconst (v := 1) C.1 C.2.1 dX9_move_27 (by decide) ?_
      refine lv_goto (tgt := 32) C.1 C.2.1 dX9_move_28 (by decide) ?_
      exact b32 σ1 1 h _ _ hw ls (lv_sub hl [0, 1, 2] rfl)
def f_X9_book (σ : St) (a1 : Int32) (a2 : Int32) (a3 : Int32) (a4 : Int32) : Option (Int32 × St) :=
  nm (upI σ 50 0 0) fun σ1 => (f_X9_isShelf σ1 a1).bind fun q2 => if (b2i q2) = 0 then (some ((-100000000), σ1)) else ((f_X9_isItem σ1 a2).bind fun q4 => if (b2i q4) = 0 then (some ((-100000000), σ1)) else (if (b2i (f_X9_isInstant σ1 a3)) = 0 then (some ((-100000000), σ1)) else (if (b2i (f_X9_isIn σ1 a4 0 3)) = 0 then (some ((-100000000), σ1)) else (if a4 = 0 then ((f_X9_sure σ1 a1 a2 a3).bind fun q16 => some (q16, σ1)) else (if a4 = 1 then ((f_X9_least σ1 a1 a2 a3).bind fun q15 => some (q15, σ1)) else (if a4 = 2 then ((f_X9_most σ1 a1 a2 a3).bind fun q14 => some (q14, σ1)) else ((f_X9_doubtful σ1 a1 a2 a3 2).bind fun q13 => some (q13, σ1))))))))
set_option maxRecDepth 100000 in
set_option maxHeartbeats 4000000 in
theorem ok_X9_book (X : Xc) (l : Launch) (σ : St) (a1 : Int32) (a2 : Int32) (a3 : Int32) (a4 : Int32) (r : Int32) (σ' : St) (h : f_X9_book σ a1 a2 a3 a4 = some (r, σ')) : Ok X l yX9_book cX9_book 5 (some .int) 5 118 [.ref (X.2.1 50), .int a1, .int a2, .int a3, .int a4] σ (some (.int r)) σ' := by
  refine Ok.of (by decide) (Nat.le_of_ble_eq_true rfl) ?_
  intro p e s m args below meth c C hr hlk hw ls hl
  have C : Cx p s m args c X cX9_book 5 "RunningCountModel" := C
  have hl : lv_has ls 5 [(0, .ref (X.2.1 50)), (1, .int a1), (2, .int a2), (3, .int a3), (4, .int a4)] := hl
  rw [f_X9_book] at h
  refine lv_aload_n C.1 C.2.1 dX9_book_0 rfl (lv_at hl 0 rfl) ?_
  refine lv_iconst (v := 0) C.1 C.2.1 dX9_book_1 (by decide) ?_
  obtain ⟨σ1, eσ1, h⟩ := nm_d h
  refine r_put C hw l_50 vc_9 kX9 tyX9 tyX9_ok nmX9 0 (by decide) (by decide) gw_1014 rfl rfl rfl (put_i l_50 rfl eσ1) dX9_book_2 (fun H locs hw => ?_)
  refine lv_aload_n C.1 C.2.1 dX9_book_5 rfl (lv_at hl 0 rfl) ?_
  refine lv_iload_n C.1 C.2.1 dX9_book_6 rfl (lv_at hl 1 rfl) ?_
  obtain ⟨q2, eq2, h⟩ := bnd h
  refine r_callV (As := [.int a1]) C hw (ok_X9_isShelf X l σ1 a1 _ eq2) l_50 vc_9 gw_1219 gw_1216 gw_1218 gw_95 gw_123 hl.1 pd_X9_isShelf ⟨Nat.le_of_ble_eq_true rfl, Nat.le_of_ble_eq_true rfl⟩ ⟨Nat.le_refl 0, Nat.le_refl 0⟩ (rest := []) (Nat.le_of_ble_eq_true rfl) dX9_book_7 rfl (fun H locs hw => ?_)
  refine lv_if_eq (tgt := 38) C.1 C.2.1 dX9_book_10 (by decide) (fun c3 => ?_) (fun c3 => ?_)
  · have h := ite_t c3 h
    refine lv_ldc (v := (-100000000)) C.1 C.2.1 C.2.2.2.1 (C.2.2.2.2.1 _ gw_1223) dX9_book_38 ?_
    exact r_iret C hr hlk hw (Prod.mk.inj (Option.some.inj h)).1 (Prod.mk.inj (Option.some.inj h)).2 dX9_book_40
  · have h := ite_f c3 h
    refine lv_aload_n C.1 C.2.1 dX9_book_13 rfl (lv_at hl 0 rfl) ?_
    refine lv_iload_n C.1 C.2.1 dX9_book_14 rfl (lv_at hl 2 rfl) ?_
    obtain ⟨q4, eq4, h⟩ := bnd h
    refine r_callV (As := [.int a2]) C hw (ok_X9_isItem X l σ1 a2 _ eq4) l_50 vc_9 gw_1187 gw_1184 gw_1186 gw_89 gw_123 hl.1 pd_X9_isItem ⟨Nat.le_of_ble_eq_true rfl, Nat.le_of_ble_eq_true rfl⟩ ⟨Nat.le_refl 0, Nat.le_refl 0⟩ (rest := []) (Nat.le_of_ble_eq_true rfl) dX9_book_15 rfl (fun H locs hw => ?_)
    refine lv_if_eq (tgt := 38) C.1 C.2.1 dX9_book_18 (by decide) (fun c5 => ?_) (fun c5 => ?_)
    · have h := ite_t c5 h
      refine lv_ldc (v := (-100000000)) C.1 C.2.1 C.2.2.2.1 (C.2.2.2.2.1 _ gw_1223) dX9_book_38 ?_
      exact r_iret C hr hlk hw (Prod.mk.inj (Option.some.inj h)).1 (Prod.mk.inj (Option.some.inj h)).2 dX9_book_40
    · have h := ite_f c5 h
      refine lv_iload_n C.1 C.2.1 dX9_book_21 rfl (lv_at hl 3 rfl) ?_
      refine r_callS (As := [.int a3]) C hw (ok_X9_isInstant X l σ1 a3 _ rfl) gw_1222 gw_1220 gw_1221 gw_123 hl.1 pd_X9_isInstant ⟨Nat.le_of_ble_eq_true rfl, Nat.le_of_ble_eq_true rfl⟩ ⟨Nat.le_refl 0, Nat.le_refl 0⟩ (rest := []) (Nat.le_of_ble_eq_true rfl) dX9_book_22 rfl (fun H locs hw => ?_)
      refine lv_if_eq (tgt := 38) C.1 C.2.1 dX9_book_25 (by decide) (fun c7 => ?_) (fun c7 => ?_)
      · have h := ite_t c7 h
        refine lv_ldc (v := (-100000000)) C.1 C.2.1 C.2.2.2.1 (C.2.2.2.2.1 _ gw_1223) dX9_book_38 ?_
        exact r_iret C hr hlk hw (Prod.mk.inj (Option.some.inj h)).1 (Prod.mk.inj (Option.some.inj h)).2 dX9_book_40
      · have h := ite_f c7 h
        refine lv_iload C.1 C.2.1 dX9_book_28 (lv_at hl 4 rfl) ?_
        refine lv_iconst (v := 0) C.1 C.2.1 dX9_book_30 (by decide) ?_
        refine lv_iconst (v := 3) C.1 C.2.1 dX9_book_31 (by decide) ?_
        refine r_callS (As := [.int a4, .int 0, .int 3]) C hw (ok_X9_isIn X l σ1 a4 0 3 _ rfl) gw_1130 gw_1128 gw_1129 gw_123 hl.1 pd_X9_isIn ⟨Nat.le_of_ble_eq_true rfl, Nat.le_of_ble_eq_true rfl⟩ ⟨Nat.le_refl 0, Nat.le_refl 0⟩ (rest := []) (Nat.le_of_ble_eq_true rfl) dX9_book_32 rfl (fun H locs hw => ?_)
        refine lv_if_ne (tgt := 41) C.1 C.2.1 dX9_book_35 (by decide) (fun c9 => ?_) (fun c9 => ?_)
        · have h := ite_f c9 h
          refine lv_iload C.1 C.2.1 dX9_book_41 (lv_at hl 4 rfl) ?_
          refine lv_if_ne (tgt := 56) C.1 C.2.1 dX9_book_43 (by decide) (fun c10 => ?_) (fun c10 => ?_)
          · have h := ite_f c10 h
            refine lv_iload C.1 C.2.1 dX9_book_56 (lv_at hl 4 rfl) ?_
            refine lv_iconst (v := 1) C.1 C.2.1 dX9_book_58 (by decide) ?_
            refine lv_icmp_ne (tgt := 72) C.1 C.2.1 dX9_book_59 (by decide) (fun c11 => ?_) (fun c11 => ?_)
            · have h := ite_f c11 h
              refine lv_iload C.1 C.2.1 dX9_book_72 (lv_at hl 4 rfl) ?_
              refine lv_iconst (v := 2) C.1 C.2.1 dX9_book_74 (by decide) ?_
              refine lv_icmp_ne (tgt := 88) C.1 C.2.1 dX9_book_75 (by decide) (fun c12 => ?_) (fun c12 => ?_)
              · have h := ite_f c12 h
                refine lv_aload_n C.1 C.2.1 dX9_book_88 rfl (lv_at hl 0 rfl) ?_
                refine lv_iload_n C.1 C.2.1 dX9_book_89 rfl (lv_at hl 1 rfl) ?_
                refine lv_iload_n C.1 C.2.1 dX9_book_90 rfl (lv_at hl 2 rfl) ?_
                refine lv_iload_n C.1 C.2.1 dX9_book_91 rfl (lv_at hl 3 rfl) ?_
                refine lv_iconst (v := 2) C.1 C.2.1 dX9_book_92 (by decide) ?_
                obtain ⟨q13, eq13, h⟩ := bnd h
                refine r_callV (As := [.int a1, .int a2, .int a3, .int 2]) C hw (ok_X9_doubtful X l σ1 a1 a2 a3 2 _ eq13) l_50 vc_9 gw_1243 gw_1240 gw_1242 gw_100 gw_123 hl.1 pd_X9_doubtful ⟨Nat.le_of_ble_eq_true rfl, Nat.le_of_ble_eq_true rfl⟩ ⟨Nat.le_refl 0, Nat.le_refl 0⟩ (rest := []) (Nat.le_of_ble_eq_true rfl) dX9_book_93 rfl (fun H locs hw => ?_)
                exact r_iret C hr hlk hw (Prod.mk.inj (Option.some.inj h)).1 (Prod.mk.inj (Option.some.inj h)).2 dX9_book_96
              · have h := ite_t c12 h
                refine lv_aload_n C.1 C.2.1 dX9_book_78 rfl (lv_at hl 0 rfl) ?_
                refine lv_iload_n C.1 C.2.1 dX9_book_79 rfl (lv_at hl 1 rfl) ?_
                refine lv_iload_n C.1 C.2.1 dX9_book_80 rfl (lv_at hl 2 rfl) ?_
                refine lv_iload_n C.1 C.2.1 dX9_book_81 rfl (lv_at hl 3 rfl) ?_
                obtain ⟨q14, eq14, h⟩ := bnd h
                refine r_callV (As := [.int a1, .int a2, .int a3]) C hw (ok_X9_most X l σ1 a1 a2 a3 _ eq14) l_50 vc_9 gw_1255 gw_1252 gw_1254 gw_103 gw_123 hl.1 pd_X9_most ⟨Nat.le_of_ble_eq_true rfl, Nat.le_of_ble_eq_true rfl⟩ ⟨Nat.le_refl 0, Nat.le_refl 0⟩ (rest := []) (Nat.le_of_ble_eq_true rfl) dX9_book_82 rfl (fun H locs hw => ?_)
                refine lv_goto (tgt := 96) C.1 C.2.1 dX9_book_85 (by decide) ?_
                exact r_iret C hr hlk hw (Prod.mk.inj (Option.some.inj h)).1 (Prod.mk.inj (Option.some.inj h)).2 dX9_book_96
            · have h := ite_t c11 h
              refine lv_aload_n C.1 C.2.1 dX9_book_62 rfl (lv_at hl 0 rfl) ?_
              refine lv_iload_n C.1 C.2.1 dX9_book_63 rfl (lv_at hl 1 rfl) ?_
              refine lv_iload_n C.1 C.2.1 dX9_book_64 rfl (lv_at hl 2 rfl) ?_
              refine lv_iload_n C.1 C.2.1 dX9_book_65 rfl (lv_at hl 3 rfl) ?_
              obtain ⟨q15, eq15, h⟩ := bnd h
              refine r_callV (As := [.int a1, .int a2, .int a3]) C hw (ok_X9_least X l σ1 a1 a2 a3 _ eq15) l_50 vc_9 gw_1239 gw_1236 gw_1238 gw_99 gw_123 hl.1 pd_X9_least ⟨Nat.le_of_ble_eq_true rfl, Nat.le_of_ble_eq_true rfl⟩ ⟨Nat.le_refl 0, Nat.le_refl 0⟩ (rest := []) (Nat.le_of_ble_eq_true rfl) dX9_book_66 rfl (fun H locs hw => ?_)
              refine lv_goto (tgt := 96) C.1 C.2.1 dX9_book_69 (by decide) ?_
              exact r_iret C hr hlk hw (Prod.mk.inj (Option.some.inj h)).1 (Prod.mk.inj (Option.some.inj h)).2 dX9_book_96
          · have h := ite_t c10 h
            refine lv_aload_n C.1 C.2.1 dX9_book_46 rfl (lv_at hl 0 rfl) ?_
            refine lv_iload_n C.1 C.2.1 dX9_book_47 rfl (lv_at hl 1 rfl) ?_
            refine lv_iload_n C.1 C.2.1 dX9_book_48 rfl (lv_at hl 2 rfl) ?_
            refine lv_iload_n C.1 C.2.1 dX9_book_49 rfl (lv_at hl 3 rfl) ?_
            obtain ⟨q16, eq16, h⟩ := bnd h
            refine r_callV (As := [.int a1, .int a2, .int a3]) C hw (ok_X9_sure X l σ1 a1 a2 a3 _ eq16) l_50 vc_9 gw_1227 gw_1224 gw_1226 gw_96 gw_123 hl.1 pd_X9_sure ⟨Nat.le_of_ble_eq_true rfl, Nat.le_of_ble_eq_true rfl⟩ ⟨Nat.le_refl 0, Nat.le_refl 0⟩ (rest := []) (Nat.le_of_ble_eq_true rfl) dX9_book_50 rfl (fun H locs hw => ?_)
            refine lv_goto (tgt := 96) C.1 C.2.1 dX9_book_53 (by decide) ?_
            exact r_iret C hr hlk hw (Prod.mk.inj (Option.some.inj h)).1 (Prod.mk.inj (Option.some.inj h)).2 dX9_book_96
        · have h := ite_t c9 h
          refine lv_ldc (v := (-100000000)) C.1 C.2.1 C.2.2.2.1 (C.2.2.2.2.1 _ gw_1223) dX9_book_38 ?_
          exact r_iret C hr hlk hw (Prod.mk.inj (Option.some.inj h)).1 (Prod.mk.inj (Option.some.inj h)).2 dX9_book_40
def f_X9_transit_b122 (a1 : Int32) (a2 : Int32) (a3 : Int32) (k37 : St → Int32 → Int32 → Option (Int32 × St)) (σ : St) (x4 : Int32) (x5 : Int32) : Option (Int32 × St) :=
  (f_X9_moved σ x5 1).bind fun q25 => nm (x4 + q25) fun v26 => nm (x5 + 1) fun v27 => k37 σ v26 v27
def f_X9_transit_b37 (a1 : Int32) (a2 : Int32) (a3 : Int32) : Nat → St → Int32 → Int32 → Option (Int32 × St)
  | 0, _, _, _ => none
  | n + 1, σ, x4, x5 => (rd σ 52 845 2).bind fun v8 => if v8 ≤ x5 then (some (x4, σ)) else ((f_X9_moved σ x5 0).bind fun q10 => if q10 = a1 then ((f_X9_isThere σ x5 0).bind fun q13 => if (b2i q13) = 0 then (nm (x5 + 1) fun v15 => f_X9_transit_b37 a1 a2 a3 n σ x4 v15) else ((f_X9_isThere σ x5 1).bind fun q16 => if (b2i q16) = 0 then (nm (x5 + 1) fun v18 => f_X9_transit_b37 a1 a2 a3 n σ x4 v18) else ((f_X9_isOver σ x5 0 a2).bind fun q19 => if (b2i q19) = 0 then (nm (x5 + 1) fun v31 => f_X9_transit_b37 a1 a2 a3 n σ x4 v31) else (if a3 = 0 then ((f_X9_isToCome σ x5 1 a2).bind fun q28 => if (b2i q28) = 0 then (nm (x5 + 1) fun v30 => f_X9_transit_b37 a1 a2 a3 n σ x4 v30) else (f_X9_transit_b122 a1 a2 a3 (fun σ x4 x5 => f_X9_transit_b37 a1 a2 a3 n σ x4 x5) σ x4 x5)) else ((f_X9_isDoubtful σ x5 1 a2).bind fun q22 => if (b2i q22) = 0 then (nm (x5 + 1) fun v24 => f_X9_transit_b37 a1 a2 a3 n σ x4 v24) else (f_X9_transit_b122 a1 a2 a3 (fun σ x4 x5 => f_X9_transit_b37 a1 a2 a3 n σ x4 x5) σ x4 x5)))))) else (nm (x5 + 1) fun v12 => f_X9_transit_b37 a1 a2 a3 n σ x4 v12))
def f_X9_transit (σ : St) (a1 : Int32) (a2 : Int32) (a3 : Int32) : Option (Int32 × St) :=
  nm (upI σ 50 0 0) fun σ1 => (f_X9_isItem σ1 a1).bind fun q2 => if (b2i q2) = 0 then (some ((-1), σ1)) else (if (b2i (f_X9_isInstant σ1 a2)) = 0 then (some ((-1), σ1)) else (if (b2i (f_X9_isIn σ1 a3 0 1)) = 0 then (some ((-1), σ1)) else (f_X9_transit_b37 a1 a2 a3 10000 σ1 0 0)))
set_option maxRecDepth 100000 in
set_option maxHeartbeats 4000000 in
theorem ok_X9_transit (X : Xc) (l : Launch) (σ : St) (a1 : Int32) (a2 : Int32) (a3 : Int32) (r : Int32) (σ' : St) (h : f_X9_transit σ a1 a2 a3 = some (r, σ')) : Ok X l yX9_transit cX9_transit 6 (some .int) 3 69 [.ref (X.2.1 50), .int a1, .int a2, .int a3] σ (some (.int r)) σ' := by
  refine Ok.of (by decide) (Nat.le_of_ble_eq_true rfl) ?_
  intro p e s m args below meth c C hr hlk hw ls hl
  have C : Cx p s m args c X cX9_transit 6 "RunningCountModel" := C
  have hl : lv_has ls 6 [(0, .ref (X.2.1 50)), (1, .int a1), (2, .int a2), (3, .int a3)] := hl
  have b122 : ∀ (k37 : St → Int32 → Int32 → Option (Int32 × St)) (hk37 : ∀ (σ : St) (x4 : Int32) (x5 : Int32), k37 σ x4 x5 = some (r, σ') → ∀ (H : Heap) (locs : List Loc), At X σ s.heap H locs → ∀ ls : Array Slot, lv_has ls 6 [(0, .ref (X.2.1 50)), (1, .int a1), (2, .int a2), (3, .int a3), (4, .int x4), (5, .int x5)] → W p l e (rmX 3 69) s m args below meth c H locs 0 0 (Zq X below s args (some (.int r)) σ') (F0 m 37 ls [])), ∀ (σ : St) (x4 : Int32) (x5 : Int32), f_X9_transit_b122 a1 a2 a3 k37 σ x4 x5 = some (r, σ') → ∀ (H : Heap) (locs : List Loc), At X σ s.heap H locs → ∀ ls : Array Slot, lv_has ls 6 [(0, .ref (X.2.1 50)), (1, .int a1), (2, .int a2), (3, .int a3), (4, .int x4), (5, .int x5)] → W p l e (rmX 3 69) s m args below meth c H locs 0 0 (Zq X below s args (some (.int r)) σ') (F0 m 122 ls []) := by
    intro k37 hk37
    intro σ x4 x5 h H locs hw ls hl
    rw [f_X9_transit_b122] at h
    refine lv_iload C.1 C.2.1 dX9_transit_122 (lv_at hl 4 rfl) ?_
    refine lv_aload_n C.1 C.2.1 dX9_transit_124 rfl (lv_at hl 0 rfl) ?_
    refine lv_iload C.1 C.2.1 dX9_transit_125 (lv_at hl 5 rfl) ?_
    refine lv_iconst (v := 1) C.1 C.2.1 dX9_transit_127 (by decide) ?_
    obtain ⟨q25, eq25, h⟩ := bnd h
    refine r_callV (As := [.int x5, .int 1]) C hw (ok_X9_moved X l σ x5 1 _ eq25) l_50 vc_9 gw_1203 gw_1200 gw_1202 gw_92 gw_123 hl.1 pd_X9_moved ⟨Nat.le_of_ble_eq_true rfl, Nat.le_of_ble_eq_true rfl⟩ ⟨Nat.le_refl 0, Nat.le_refl 0⟩ (rest := [.int x4]) (Nat.le_of_ble_eq_true rfl) dX9_transit_128 rfl (fun H locs hw => ?_)
    refine lv_iadd C.1 C.2.1 dX9_transit_131 ?_
    obtain ⟨v26, ev26, h⟩ := nm_d h
    refine lv_nm ev26 ?_
    refine lv_istore (lv' := [(4, .int v26), (0, .ref (X.2.1 50)), (1, .int a1), (2, .int a2), (3, .int a3), (5, .int x5)]) C.1 C.2.1 dX9_transit_132 hl (by decide) rfl (fun ls hl => ?_)
    obtain ⟨v27, ev27, h⟩ := nm_d h
    refine lv_iinc (v := v27) (lv' := [(5, .int v27), (4, .int v26), (0, .ref (X.2.1 50)), (1, .int a1), (2, .int a2), (3, .int a3)]) C.1 C.2.1 dX9_transit_134 hl (k := 5) rfl (by rw [ev27]; rfl) (by decide) rfl (fun ls hl => ?_)
    refine lv_goto (tgt := 37) C.1 C.2.1 dX9_transit_137 (by decide) ?_
    exact hk37 σ v26 v27 h _ _ hw ls (lv_sub hl [2, 3, 4, 5, 1, 0] rfl)
  have b37 : ∀ (n : Nat), ∀ (σ : St) (x4 : Int32) (x5 : Int32), f_X9_transit_b37 a1 a2 a3 n σ x4 x5 = some (r, σ') → ∀ (H : Heap) (locs : List Loc), At X σ s.heap H locs → ∀ ls : Array Slot, lv_has ls 6 [(0, .ref (X.2.1 50)), (1, .int a1), (2, .int a2), (3, .int a3), (4, .int x4), (5, .int x5)] → W p l e (rmX 3 69) s m args below meth c H locs 0 0 (Zq X below s args (some (.int r)) σ') (F0 m 37 ls []) := by
    intro n
    induction n with
    | zero =>
      intro σ x4 x5 h
      exact no_some h
    | succ n ih =>
      intro σ x4 x5 h H locs hw ls hl
      rw [f_X9_transit_b37] at h
      refine lv_iload C.1 C.2.1 dX9_transit_37 (lv_at hl 5 rfl) ?_
      refine lv_aload_n C.1 C.2.1 dX9_transit_39 rfl (lv_at hl 0 rfl) ?_
      refine r_get (v := .ref (X.2.1 52)) C hw l_50 vc_9 kX9 11 rfl (by decide) gw_1025 rfl dX9_transit_40 ?_
      refine lv_iconst (v := 2) C.1 C.2.1 dX9_transit_43 (by decide) ?_
      obtain ⟨v8, ev8, h⟩ := bnd h
      refine r_ald C hw l_52 ev8 dX9_transit_44 ?_
      refine lv_icmp_ge (tgt := 140) C.1 C.2.1 dX9_transit_45 (by decide) (fun c9 => ?_) (fun c9 => ?_)
      · have h := ite_t c9 h
        refine lv_iload C.1 C.2.1 dX9_transit_140 (lv_at hl 4 rfl) ?_
        exact r_iret C hr hlk hw (Prod.mk.inj (Option.some.inj h)).1 (Prod.mk.inj (Option.some.inj h)).2 dX9_transit_142
      · have h := ite_f c9 h
        refine lv_aload_n C.1 C.2.1 dX9_transit_48 rfl (lv_at hl 0 rfl) ?_
        refine lv_iload C.1 C.2.1 dX9_transit_49 (lv_at hl 5 rfl) ?_
        refine lv_iconst (v := 0) C.1 C.2.1 dX9_transit_51 (by decide) ?_
        obtain ⟨q10, eq10, h⟩ := bnd h
        refine r_callV (As := [.int x5, .int 0]) C hw (ok_X9_moved X l σ x5 0 _ eq10) l_50 vc_9 gw_1203 gw_1200 gw_1202 gw_92 gw_123 hl.1 pd_X9_moved ⟨Nat.le_of_ble_eq_true rfl, Nat.le_of_ble_eq_true rfl⟩ ⟨Nat.le_refl 0, Nat.le_refl 0⟩ (rest := []) (Nat.le_of_ble_eq_true rfl) dX9_transit_52 rfl (fun H locs hw => ?_)
        refine lv_iload_n C.1 C.2.1 dX9_transit_55 rfl (lv_at hl 1 rfl) ?_
        refine lv_icmp_ne (tgt := 134) C.1 C.2.1 dX9_transit_56 (by decide) (fun c11 => ?_) (fun c11 => ?_)
        · have h := ite_f c11 h
          obtain ⟨v12, ev12, h⟩ := nm_d h
          refine lv_iinc (v := v12) (lv' := [(5, .int v12), (0, .ref (X.2.1 50)), (1, .int a1), (2, .int a2), (3, .int a3), (4, .int x4)]) C.1 C.2.1 dX9_transit_134 hl (k := 5) rfl (by rw [ev12]; rfl) (by decide) rfl (fun ls hl => ?_)
          refine lv_goto (tgt := 37) C.1 C.2.1 dX9_transit_137 (by decide) ?_
          exact ih σ x4 v12 h _ _ hw ls (lv_sub hl [1, 2, 3, 4, 5, 0] rfl)
        · have h := ite_t c11 h
          refine lv_aload_n C.1 C.2.1 dX9_transit_59 rfl (lv_at hl 0 rfl) ?_
          refine lv_iload C.1 C.2.1 dX9_transit_60 (lv_at hl 5 rfl) ?_
          refine lv_iconst (v := 0) C.1 C.2.1 dX9_transit_62 (by decide) ?_
          obtain ⟨q13, eq13, h⟩ := bnd h
          refine r_callV (As := [.int x5, .int 0]) C hw (ok_X9_isThere X l σ x5 0 _ eq13) l_50 vc_9 gw_1207 gw_1204 gw_1206 gw_93 gw_123 hl.1 pd_X9_isThere ⟨Nat.le_of_ble_eq_true rfl, Nat.le_of_ble_eq_true rfl⟩ ⟨Nat.le_refl 0, Nat.le_refl 0⟩ (rest := []) (Nat.le_of_ble_eq_true rfl) dX9_transit_63 rfl (fun H locs hw => ?_)
          refine lv_if_eq (tgt := 134) C.1 C.2.1 dX9_transit_66 (by decide) (fun c14 => ?_) (fun c14 => ?_)
          · have h := ite_t c14 h
            obtain ⟨v15, ev15, h⟩ := nm_d h
            refine lv_iinc (v := v15) (lv' := [(5, .int v15), (0, .ref (X.2.1 50)), (1, .int a1), (2, .int a2), (3, .int a3), (4, .int x4)]) C.1 C.2.1 dX9_transit_134 hl (k := 5) rfl (by rw [ev15]; rfl) (by decide) rfl (fun ls hl => ?_)
            refine lv_goto (tgt := 37) C.1 C.2.1 dX9_transit_137 (by decide) ?_
            exact ih σ x4 v15 h _ _ hw ls (lv_sub hl [1, 2, 3, 4, 5, 0] rfl)
          · have h := ite_f c14 h
            refine lv_aload_n C.1 C.2.1 dX9_transit_69 rfl (lv_at hl 0 rfl) ?_
            refine lv_iload C.1 C.2.1 dX9_transit_70 (lv_at hl 5 rfl) ?_
            refine lv_iconst (v := 1) C.1 C.2.1 dX9_transit_72 (by decide) ?_
            obtain ⟨q16, eq16, h⟩ := bnd h
            refine r_callV (As := [.int x5, .int 1]) C hw (ok_X9_isThere X l σ x5 1 _ eq16) l_50 vc_9 gw_1207 gw_1204 gw_1206 gw_93 gw_123 hl.1 pd_X9_isThere ⟨Nat.le_of_ble_eq_true rfl, Nat.le_of_ble_eq_true rfl⟩ ⟨Nat.le_refl 0, Nat.le_refl 0⟩ (rest := []) (Nat.le_of_ble_eq_true rfl) dX9_transit_73 rfl (fun H locs hw => ?_)
            refine lv_if_eq (tgt := 134) C.1 C.2.1 dX9_transit_76 (by decide) (fun c17 => ?_) (fun c17 => ?_)
            · have h := ite_t c17 h
              obtain ⟨v18, ev18, h⟩ := nm_d h
              refine lv_iinc (v := v18) (lv' := [(5, .int v18), (0, .ref (X.2.1 50)), (1, .int a1), (2, .int a2), (3, .int a3), (4, .int x4)]) C.1 C.2.1 dX9_transit_134 hl (k := 5) rfl (by rw [ev18]; rfl) (by decide) rfl (fun ls hl => ?_)
              refine lv_goto (tgt := 37) C.1 C.2.1 dX9_transit_137 (by decide) ?_
              exact ih σ x4 v18 h _ _ hw ls (lv_sub hl [1, 2, 3, 4, 5, 0] rfl)
            · have h := ite_f c17 h
              refine lv_aload_n C.1 C.2.1 dX9_transit_79 rfl (lv_at hl 0 rfl) ?_
              refine lv_iload C.1 C.2.1 dX9_transit_80 (lv_at hl 5 rfl) ?_
              refine lv_iconst (v := 0) C.1 C.2.1 dX9_transit_82 (by decide) ?_
              refine lv_iload_n C.1 C.2.1 dX9_transit_83 rfl (lv_at hl 2 rfl) ?_
              obtain ⟨q19, eq19, h⟩ := bnd h
              refine r_callV (As := [.int x5, .int 0, .int a2]) C hw (ok_X9_isOver X l σ x5 0 a2 _ eq19) l_50 vc_9 gw_1235 gw_1232 gw_1234 gw_98 gw_123 hl.1 pd_X9_isOver ⟨Nat.le_of_ble_eq_true rfl, Nat.le_of_ble_eq_true rfl⟩ ⟨Nat.le_refl 0, Nat.le_refl 0⟩ (rest := []) (Nat.le_of_ble_eq_true rfl) dX9_transit_84 rfl (fun H locs hw => ?_)
              refine lv_if_ne (tgt := 93) C.1 C.2.1 dX9_transit_87 (by decide) (fun c20 => ?_) (fun c20 => ?_)
              · have h := ite_f c20 h
                refine lv_iload_n C.1 C.2.1 dX9_transit_93 rfl (lv_at hl 3 rfl) ?_
                refine lv_if_ne (tgt := 111) C.1 C.2.1 dX9_transit_94 (by decide) (fun c21 => ?_) (fun c21 => ?_)
                · have h := ite_f c21 h
                  refine lv_aload_n C.1 C.2.1 dX9_transit_111 rfl (lv_at hl 0 rfl) ?_
                  refine lv_iload C.1 C.2.1 dX9_transit_112 (lv_at hl 5 rfl) ?_
                  refine lv_iconst (v := 1) C.1 C.2.1 dX9_transit_114 (by decide) ?_
                  refine lv_iload_n C.1 C.2.1 dX9_transit_115 rfl (lv_at hl 2 rfl) ?_
                  obtain ⟨q22, eq22, h⟩ := bnd h
                  refine r_callV (As := [.int x5, .int 1, .int a2]) C hw (ok_X9_isDoubtful X l σ x5 1 a2 _ eq22) l_50 vc_9 gw_1247 gw_1244 gw_1246 gw_101 gw_123 hl.1 pd_X9_isDoubtful ⟨Nat.le_of_ble_eq_true rfl, Nat.le_of_ble_eq_true rfl⟩ ⟨Nat.le_refl 0, Nat.le_refl 0⟩ (rest := []) (Nat.le_of_ble_eq_true rfl) dX9_transit_116 rfl (fun H locs hw => ?_)
                  refine lv_if_eq (tgt := 134) C.1 C.2.1 dX9_transit_119 (by decide) (fun c23 => ?_) (fun c23 => ?_)
                  · have h := ite_t c23 h
                    obtain ⟨v24, ev24, h⟩ := nm_d h
                    refine lv_iinc (v := v24) (lv' := [(5, .int v24), (0, .ref (X.2.1 50)), (1, .int a1), (2, .int a2), (3, .int a3), (4, .int x4)]) C.1 C.2.1 dX9_transit_134 hl (k := 5) rfl (by rw [ev24]; rfl) (by decide) rfl (fun ls hl => ?_)
                    refine lv_goto (tgt := 37) C.1 C.2.1 dX9_transit_137 (by decide) ?_
                    exact ih σ x4 v24 h _ _ hw ls (lv_sub hl [1, 2, 3, 4, 5, 0] rfl)
                  · have h := ite_f c23 h
                    exact b122 (fun σ x4 x5 => f_X9_transit_b37 a1 a2 a3 n σ x4 x5) ih σ x4 x5 h _ _ hw ls (lv_sub hl [0, 1, 2, 3, 4, 5] rfl)
                · have h := ite_t c21 h
                  refine lv_aload_n C.1 C.2.1 dX9_transit_97 rfl (lv_at hl 0 rfl) ?_
                  refine lv_iload C.1 C.2.1 dX9_transit_98 (lv_at hl 5 rfl) ?_
                  refine lv_iconst (v := 1) C.1 C.2.1 dX9_transit_100 (by decide) ?_
                  refine lv_iload_n C.1 C.2.1 dX9_transit_101 rfl (lv_at hl 2 rfl) ?_
                  obtain ⟨q28, eq28, h⟩ := bnd h
                  refine r_callV (As := [.int x5, .int 1, .int a2]) C hw (ok_X9_isToCome X l σ x5 1 a2 _ eq28) l_50 vc_9 gw_1251 gw_1248 gw_1250 gw_102 gw_123 hl.1 pd_X9_isToCome ⟨Nat.le_of_ble_eq_true rfl, Nat.le_of_ble_eq_true rfl⟩ ⟨Nat.le_refl 0, Nat.le_refl 0⟩ (rest := []) (Nat.le_of_ble_eq_true rfl) dX9_transit_102 rfl (fun H locs hw => ?_)
                  refine lv_if_eq (tgt := 134) C.1 C.2.1 dX9_transit_105 (by decide) (fun c29 => ?_) (fun c29 => ?_)
                  · have h := ite_t c29 h
                    obtain ⟨v30, ev30, h⟩ := nm_d h
                    refine lv_iinc (v := v30) (lv' := [(5, .int v30), (0, .ref (X.2.1 50)), (1, .int a1), (2, .int a2), (3, .int a3), (4, .int x4)]) C.1 C.2.1 dX9_transit_134 hl (k := 5) rfl (by rw [ev30]; rfl) (by decide) rfl (fun ls hl => ?_)
                    refine lv_goto (tgt := 37) C.1 C.2.1 dX9_transit_137 (by decide) ?_
                    exact ih σ x4 v30 h _ _ hw ls (lv_sub hl [1, 2, 3, 4, 5, 0] rfl)
                  · have h := ite_f c29 h
                    refine lv_goto (tgt := 122) C.1 C.2.1 dX9_transit_108 (by decide) ?_
                    exact b122 (fun σ x4 x5 => f_X9_transit_b37 a1 a2 a3 n σ x4 x5) ih σ x4 x5 h _ _ hw ls (lv_sub hl [0, 1, 2, 3, 4, 5] rfl)
              · have h := ite_t c20 h
                refine lv_goto (tgt := 134) C.1 C.2.1 dX9_transit_90 (by decide) ?_
                obtain ⟨v31, ev31, h⟩ := nm_d h
                refine lv_iinc (v := v31) (lv' := [(5, .int v31), (0, .ref (X.2.1 50)), (1, .int a1), (2, .int a2), (3, .int a3), (4, .int x4)]) C.1 C.2.1 dX9_transit_134 hl (k := 5) rfl (by rw [ev31]; rfl) (by decide) rfl (fun ls hl => ?_)
                refine lv_goto (tgt := 37) C.1 C.2.1 dX9_transit_137 (by decide) ?_
                exact ih σ x4 v31 h _ _ hw ls (lv_sub hl [1, 2, 3, 4, 5, 0] rfl)
  rw [f_X9_transit] at h
  refine lv_aload_n C.1 C.2.1 dX9_transit_0 rfl (lv_at hl 0 rfl) ?_
  refine lv_iconst (v := 0) C.1 C.2.1 dX9_transit_1 (by decide) ?_
  obtain ⟨σ1, eσ1, h⟩ := nm_d h
  refine r_put C hw l_50 vc_9 kX9 tyX9 tyX9_ok nmX9 0 (by decide) (by decide) gw_1014 rfl rfl rfl (put_i l_50 rfl eσ1) dX9_transit_2 (fun H locs hw => ?_)
  refine lv_aload_n C.1 C.2.1 dX9_transit_5 rfl (lv_at hl 0 rfl) ?_
  refine lv_iload_n C.1 C.2.1 dX9_transit_6 rfl (lv_at hl 1 rfl) ?_
  obtain ⟨q2, eq2, h⟩ := bnd h
  refine r_callV (As := [.int a1]) C hw (ok_X9_isItem X l σ1 a1 _ eq2) l_50 vc_9 gw_1187 gw_1184 gw_1186 gw_89 gw_123 hl.1 pd_X9_isItem ⟨Nat.le_of_ble_eq_true rfl, Nat.le_of_ble_eq_true rfl⟩ ⟨Nat.le_refl 0, Nat.le_refl 0⟩ (rest := []) (Nat.le_of_ble_eq_true rfl) dX9_transit_7 rfl (fun H locs hw => ?_)
  refine lv_if_eq (tgt := 29) C.1 C.2.1 dX9_transit_10 (by decide) (fun c3 => ?_) (fun c3 => ?_)
  · have h := ite_t c3 h
    refine lv_iconst (v := (-1)) C.1 C.2.1 dX9_transit_29 (by decide) ?_
    exact r_iret C hr hlk hw (Prod.mk.inj (Option.some.inj h)).1 (Prod.mk.inj (Option.some.inj h)).2 dX9_transit_30
  · have h := ite_f c3 h
    refine lv_iload_n C.1 C.2.1 dX9_transit_13 rfl (lv_at hl 2 rfl) ?_
    refine r_callS (As := [.int a2]) C hw (ok_X9_isInstant X l σ1 a2 _ rfl) gw_1222 gw_1220 gw_1221 gw_123 hl.1 pd_X9_isInstant ⟨Nat.le_of_ble_eq_true rfl, Nat.le_of_ble_eq_true rfl⟩ ⟨Nat.le_refl 0, Nat.le_refl 0⟩ (rest := []) (Nat.le_of_ble_eq_true rfl) dX9_transit_14 rfl (fun H locs hw => ?_)
    refine lv_if_eq (tgt := 29) C.1 C.2.1 dX9_transit_17 (by decide) (fun c5 => ?_) (fun c5 => ?_)
    · have h := ite_t c5 h
      refine lv_iconst (v := (-1)) C.1 C.2.1 dX9_transit_29 (by decide) ?_
      exact r_iret C hr hlk hw (Prod.mk.inj (Option.some.inj h)).1 (Prod.mk.inj (Option.some.inj h)).2 dX9_transit_30
    · have h := ite_f c5 h
      refine lv_iload_n C.1 C.2.1 dX9_transit_20 rfl (lv_at hl 3 rfl) ?_
      refine lv_iconst (v := 0) C.1 C.2.1 dX9_transit_21 (by decide) ?_
      refine lv_iconst (v := 1) C.1 C.2.1 dX9_transit_22 (by decide) ?_
      refine r_callS (As := [.int a3, .int 0, .int 1]) C hw (ok_X9_isIn X l σ1 a3 0 1 _ rfl) gw_1130 gw_1128 gw_1129 gw_123 hl.1 pd_X9_isIn ⟨Nat.le_of_ble_eq_true rfl, Nat.le_of_ble_eq_true rfl⟩ ⟨Nat.le_refl 0, Nat.le_refl 0⟩ (rest := []) (Nat.le_of_ble_eq_true rfl) dX9_transit_23 rfl (fun H locs hw => ?_)
      refine lv_if_ne (tgt := 31) C.1 C.2.1 dX9_transit_26 (by decide) (fun c7 => ?_) (fun c7 => ?_)
      · have h := ite_f c7 h
        refine lv_iconst (v := 0) C.1 C.2.1 dX9_transit_31 (by decide) ?_
        refine lv_istore (lv' := [(4, .int 0), (0, .ref (X.2.1 50)), (1, .int a1), (2, .int a2), (3, .int a3)]) C.1 C.2.1 dX9_transit_32 hl (by decide) rfl (fun ls hl => ?_)
        refine lv_iconst (v := 0) C.1 C.2.1 dX9_transit_34 (by decide) ?_
        refine lv_istore (lv' := [(5, .int 0), (4, .int 0), (0, .ref (X.2.1 50)), (1, .int a1), (2, .int a2), (3, .int a3)]) C.1 C.2.1 dX9_transit_35 hl (by decide) rfl (fun ls hl => ?_)
        exact b37 10000 σ1 0 0 h _ _ hw ls (lv_sub hl [2, 3, 4, 5, 1, 0] rfl)
      · have h := ite_t c7 h
        refine lv_iconst (v := (-1)) C.1 C.2.1 dX9_transit_29 (by decide) ?_
        exact r_iret C hr hlk hw (Prod.mk.inj (Option.some.inj h)).1 (Prod.mk.inj (Option.some.inj h)).2 dX9_transit_30
def f_X9_below_b25 (a1 : Int32) (a2 : Int32) : Nat → St → Int32 → Option (Int32 × St)
  | 0, _, _ => none
  | n + 1, σ, x3 => if 999 < x3 then (some ((-1), σ)) else ((f_X9_most σ a1 a2 x3).bind fun q7 => if 0 ≤ q7 then (nm (x3 + 1) fun v9 => f_X9_below_b25 a1 a2 n σ v9) else (some (x3, σ)))
def f_X9_below (σ : St) (a1 : Int32) (a2 : Int32) : Option (Int32 × St) :=
  nm (upI σ 50 0 0) fun σ1 => (f_X9_isShelf σ1 a1).bind fun q2 => if (b2i q2) = 0 then (some ((-1), σ1)) else ((f_X9_isItem σ1 a2).bind fun q4 => if (b2i q4) = 0 then (some ((-1), σ1)) else (f_X9_below_b25 a1 a2 10000 σ1 0))
set_option maxRecDepth 100000 in
set_option maxHeartbeats 4000000 in
theorem ok_X9_below (X : Xc) (l : Launch) (σ : St) (a1 : Int32) (a2 : Int32) (r : Int32) (σ' : St) (h : f_X9_below σ a1 a2 = some (r, σ')) : Ok X l yX9_below cX9_below 4 (some .int) 5 118 [.ref (X.2.1 50), .int a1, .int a2] σ (some (.int r)) σ' := by
  refine Ok.of (by decide) (Nat.le_of_ble_eq_true rfl) ?_
  intro p e s m args below meth c C hr hlk hw ls hl
  have C : Cx p s m args c X cX9_below 4 "RunningCountModel" := C
  have hl : lv_has ls 4 [(0, .ref (X.2.1 50)), (1, .int a1), (2, .int a2)] := hl
  have b25 : ∀ (n : Nat), ∀ (σ : St) (x3 : Int32), f_X9_below_b25 a1 a2 n σ x3 = some (r, σ') → ∀ (H : Heap) (locs : List Loc), At X σ s.heap H locs → ∀ ls : Array Slot, lv_has ls 4 [(0, .ref (X.2.1 50)), (1, .int a1), (2, .int a2), (3, .int x3)] → W p l e (rmX 5 118) s m args below meth c H locs 0 0 (Zq X below s args (some (.int r)) σ') (F0 m 25 ls []) := by
    intro n
    induction n with
    | zero =>
      intro σ x3 h
      exact no_some h
    | succ n ih =>
      intro σ x3 h H locs hw ls hl
      rw [f_X9_below_b25] at h
      refine lv_iload_n C.1 C.2.1 dX9_below_25 rfl (lv_at hl 3 rfl) ?_
      refine lv_sipush (v := 999) C.1 C.2.1 dX9_below_26 (by decide) ?_
      refine lv_icmp_gt (tgt := 50) C.1 C.2.1 dX9_below_29 (by decide) (fun c6 => ?_) (fun c6 => ?_)
      · have h := ite_t c6 h
        refine lv_iconst (v := (-1)) C.1 C.2.1 dX9_below_50 (by decide) ?_
        exact r_iret C hr hlk hw (Prod.mk.inj (Option.some.inj h)).1 (Prod.mk.inj (Option.some.inj h)).2 dX9_below_51
      · have h := ite_f c6 h
        refine lv_aload_n C.1 C.2.1 dX9_below_32 rfl (lv_at hl 0 rfl) ?_
        refine lv_iload_n C.1 C.2.1 dX9_below_33 rfl (lv_at hl 1 rfl) ?_
        refine lv_iload_n C.1 C.2.1 dX9_below_34 rfl (lv_at hl 2 rfl) ?_
        refine lv_iload_n C.1 C.2.1 dX9_below_35 rfl (lv_at hl 3 rfl) ?_
        obtain ⟨q7, eq7, h⟩ := bnd h
        refine r_callV (As := [.int a1, .int a2, .int x3]) C hw (ok_X9_most X l σ a1 a2 x3 _ eq7) l_50 vc_9 gw_1255 gw_1252 gw_1254 gw_103 gw_123 hl.1 pd_X9_most ⟨Nat.le_of_ble_eq_true rfl, Nat.le_of_ble_eq_true rfl⟩ ⟨Nat.le_refl 0, Nat.le_refl 0⟩ (rest := []) (Nat.le_of_ble_eq_true rfl) dX9_below_36 rfl (fun H locs hw => ?_)
        refine lv_if_ge (tgt := 44) C.1 C.2.1 dX9_below_39 (by decide) (fun c8 => ?_) (fun c8 => ?_)
        · have h := ite_t c8 h
          obtain ⟨v9, ev9, h⟩ := nm_d h
          refine lv_iinc (v := v9) (lv' := [(3, .int v9), (0, .ref (X.2.1 50)), (1, .int a1), (2, .int a2)]) C.1 C.2.1 dX9_below_44 hl (k := 3) rfl (by rw [ev9]; rfl) (by decide) rfl (fun ls hl => ?_)
          refine lv_goto (tgt := 25) C.1 C.2.1 dX9_below_47 (by decide) ?_
          exact ih σ v9 h _ _ hw ls (lv_sub hl [1, 2, 3, 0] rfl)
        · have h := ite_f c8 h
          refine lv_iload_n C.1 C.2.1 dX9_below_42 rfl (lv_at hl 3 rfl) ?_
          exact r_iret C hr hlk hw (Prod.mk.inj (Option.some.inj h)).1 (Prod.mk.inj (Option.some.inj h)).2 dX9_below_43
  rw [f_X9_below] at h
  refine lv_aload_n C.1 C.2.1 dX9_below_0 rfl (lv_at hl 0 rfl) ?_
  refine lv_iconst (v := 0) C.1 C.2.1 dX9_below_1 (by decide) ?_
  obtain ⟨σ1, eσ1, h⟩ := nm_d h
  refine r_put C hw l_50 vc_9 kX9 tyX9 tyX9_ok nmX9 0 (by decide) (by decide) gw_1014 rfl rfl rfl (put_i l_50 rfl eσ1) dX9_below_2 (fun H locs hw => ?_)
  refine lv_aload_n C.1 C.2.1 dX9_below_5 rfl (lv_at hl 0 rfl) ?_
  refine lv_iload_n C.1 C.2.1 dX9_below_6 rfl (lv_at hl 1 rfl) ?_
  obtain ⟨q2, eq2, h⟩ := bnd h
  refine r_callV (As := [.int a1]) C hw (ok_X9_isShelf X l σ1 a1 _ eq2) l_50 vc_9 gw_1219 gw_1216 gw_1218 gw_95 gw_123 hl.1 pd_X9_isShelf ⟨Nat.le_of_ble_eq_true rfl, Nat.le_of_ble_eq_true rfl⟩ ⟨Nat.le_refl 0, Nat.le_refl 0⟩ (rest := []) (Nat.le_of_ble_eq_true rfl) dX9_below_7 rfl (fun H locs hw => ?_)
  refine lv_if_eq (tgt := 21) C.1 C.2.1 dX9_below_10 (by decide) (fun c3 => ?_) (fun c3 => ?_)
  · have h := ite_t c3 h
    refine lv_iconst (v := (-1)) C.1 C.2.1 dX9_below_21 (by decide) ?_
    exact r_iret C hr hlk hw (Prod.mk.inj (Option.some.inj h)).1 (Prod.mk.inj (Option.some.inj h)).2 dX9_below_22
  · have h := ite_f c3 h
    refine lv_aload_n C.1 C.2.1 dX9_below_13 rfl (lv_at hl 0 rfl) ?_
    refine lv_iload_n C.1 C.2.1 dX9_below_14 rfl (lv_at hl 2 rfl) ?_
    obtain ⟨q4, eq4, h⟩ := bnd h
    refine r_callV (As := [.int a2]) C hw (ok_X9_isItem X l σ1 a2 _ eq4) l_50 vc_9 gw_1187 gw_1184 gw_1186 gw_89 gw_123 hl.1 pd_X9_isItem ⟨Nat.le_of_ble_eq_true rfl, Nat.le_of_ble_eq_true rfl⟩ ⟨Nat.le_refl 0, Nat.le_refl 0⟩ (rest := []) (Nat.le_of_ble_eq_true rfl) dX9_below_15 rfl (fun H locs hw => ?_)
    refine lv_if_ne (tgt := 23) C.1 C.2.1 dX9_below_18 (by decide) (fun c5 => ?_) (fun c5 => ?_)
    · have h := ite_f c5 h
      refine lv_iconst (v := 0) C.1 C.2.1 dX9_below_23 (by decide) ?_
      refine lv_istore_n (lv' := [(3, .int 0), (0, .ref (X.2.1 50)), (1, .int a1), (2, .int a2)]) C.1 C.2.1 dX9_below_24 rfl hl (by decide) rfl (fun ls hl => ?_)
      exact b25 10000 σ1 0 h _ _ hw ls (lv_sub hl [1, 2, 3, 0] rfl)
    · have h := ite_t c5 h
      refine lv_iconst (v := (-1)) C.1 C.2.1 dX9_below_21 (by decide) ?_
      exact r_iret C hr hlk hw (Prod.mk.inj (Option.some.inj h)).1 (Prod.mk.inj (Option.some.inj h)).2 dX9_below_22
def f_X9_sureOf (σ : St) (a1 : Int32) : Option Int32 :=
  (f_X9_counted σ a1 0).bind fun q1 => (f_X9_counted σ a1 1).bind fun q2 => (f_X9_counted σ a1 2).bind fun q3 => (f_X9_sure σ q1 q2 q3).bind fun q4 => some q4
set_option maxRecDepth 100000 in
set_option maxHeartbeats 4000000 in
theorem ok_X9_sureOf (X : Xc) (l : Launch) (σ : St) (a1 : Int32) (r : Int32) (h : f_X9_sureOf σ a1 = some r) : Ok X l yX9_sureOf cX9_sureOf 2 (some .int) 4 95 [.ref (X.2.1 50), .int a1] σ (some (.int r)) σ := by
  refine Ok.of (by decide) (Nat.le_of_ble_eq_true rfl) ?_
  intro p e s m args below meth c C hr hlk hw ls hl
  have C : Cx p s m args c X cX9_sureOf 2 "RunningCountModel" := C
  have hl : lv_has ls 2 [(0, .ref (X.2.1 50)), (1, .int a1)] := hl
  rw [f_X9_sureOf] at h
  refine lv_aload_n C.1 C.2.1 dX9_sureOf_0 rfl (lv_at hl 0 rfl) ?_
  refine lv_aload_n C.1 C.2.1 dX9_sureOf_1 rfl (lv_at hl 0 rfl) ?_
  refine lv_iload_n C.1 C.2.1 dX9_sureOf_2 rfl (lv_at hl 1 rfl) ?_
  refine lv_iconst (v := 0) C.1 C.2.1 dX9_sureOf_3 (by decide) ?_
  obtain ⟨q1, eq1, h⟩ := bnd h
  refine r_callV (As := [.int a1, .int 0]) C hw (ok_X9_counted X l σ a1 0 _ eq1) l_50 vc_9 gw_1179 gw_1176 gw_1178 gw_88 gw_123 hl.1 pd_X9_counted ⟨Nat.le_of_ble_eq_true rfl, Nat.le_of_ble_eq_true rfl⟩ ⟨Nat.le_refl 0, Nat.le_refl 0⟩ (rest := [.ref (X.2.1 50)]) (Nat.le_of_ble_eq_true rfl) dX9_sureOf_4 rfl (fun H locs hw => ?_)
  refine lv_aload_n C.1 C.2.1 dX9_sureOf_7 rfl (lv_at hl 0 rfl) ?_
  refine lv_iload_n C.1 C.2.1 dX9_sureOf_8 rfl (lv_at hl 1 rfl) ?_
  refine lv_iconst (v := 1) C.1 C.2.1 dX9_sureOf_9 (by decide) ?_
  obtain ⟨q2, eq2, h⟩ := bnd h
  refine r_callV (As := [.int a1, .int 1]) C hw (ok_X9_counted X l σ a1 1 _ eq2) l_50 vc_9 gw_1179 gw_1176 gw_1178 gw_88 gw_123 hl.1 pd_X9_counted ⟨Nat.le_of_ble_eq_true rfl, Nat.le_of_ble_eq_true rfl⟩ ⟨Nat.le_refl 0, Nat.le_refl 0⟩ (rest := [.int q1, .ref (X.2.1 50)]) (Nat.le_of_ble_eq_true rfl) dX9_sureOf_10 rfl (fun H locs hw => ?_)
  refine lv_aload_n C.1 C.2.1 dX9_sureOf_13 rfl (lv_at hl 0 rfl) ?_
  refine lv_iload_n C.1 C.2.1 dX9_sureOf_14 rfl (lv_at hl 1 rfl) ?_
  refine lv_iconst (v := 2) C.1 C.2.1 dX9_sureOf_15 (by decide) ?_
  obtain ⟨q3, eq3, h⟩ := bnd h
  refine r_callV (As := [.int a1, .int 2]) C hw (ok_X9_counted X l σ a1 2 _ eq3) l_50 vc_9 gw_1179 gw_1176 gw_1178 gw_88 gw_123 hl.1 pd_X9_counted ⟨Nat.le_of_ble_eq_true rfl, Nat.le_of_ble_eq_true rfl⟩ ⟨Nat.le_refl 0, Nat.le_refl 0⟩ (rest := [.int q2, .int q1, .ref (X.2.1 50)]) (Nat.le_of_ble_eq_true rfl) dX9_sureOf_16 rfl (fun H locs hw => ?_)
  obtain ⟨q4, eq4, h⟩ := bnd h
  refine r_callV (As := [.int q1, .int q2, .int q3]) C hw (ok_X9_sure X l σ q1 q2 q3 _ eq4) l_50 vc_9 gw_1227 gw_1224 gw_1226 gw_96 gw_123 hl.1 pd_X9_sure ⟨Nat.le_of_ble_eq_true rfl, Nat.le_of_ble_eq_true rfl⟩ ⟨Nat.le_refl 0, Nat.le_refl 0⟩ (rest := []) (Nat.le_of_ble_eq_true rfl) dX9_sureOf_19 rfl (fun H locs hw => ?_)
  exact r_iret C hr hlk hw (Option.some.inj h) rfl dX9_sureOf_22
def f_X9_differenceOf (σ : St) (a1 : Int32) : Option Int32 :=
  (f_X9_counted σ a1 0).bind fun q1 => (f_X9_counted σ a1 1).bind fun q2 => (f_X9_counted σ a1 2).bind fun q3 => (f_X9_least σ q1 q2 q3).bind fun q4 => (f_X9_counted σ a1 0).bind fun q5 => (f_X9_counted σ a1 1).bind fun q6 => (f_X9_counted σ a1 2).bind fun q7 => (f_X9_most σ q5 q6 q7).bind fun q8 => (f_X9_counted σ a1 3).bind fun q9 => if q9 ≤ q8 then (if q4 ≤ q9 then (some 0) else (some (q9 - q4))) else (some (q9 - q8))
set_option maxRecDepth 100000 in
set_option maxHeartbeats 4000000 in
theorem ok_X9_differenceOf (X : Xc) (l : Launch) (σ : St) (a1 : Int32) (r : Int32) (h : f_X9_differenceOf σ a1 = some r) : Ok X l yX9_differenceOf cX9_differenceOf 5 (some .int) 5 118 [.ref (X.2.1 50), .int a1] σ (some (.int r)) σ := by
  refine Ok.of (by decide) (Nat.le_of_ble_eq_true rfl) ?_
  intro p e s m args below meth c C hr hlk hw ls hl
  have C : Cx p s m args c X cX9_differenceOf 5 "RunningCountModel" := C
  have hl : lv_has ls 5 [(0, .ref (X.2.1 50)), (1, .int a1)] := hl
  rw [f_X9_differenceOf] at h
  refine lv_aload_n C.1 C.2.1 dX9_differenceOf_0 rfl (lv_at hl 0 rfl) ?_
  refine lv_aload_n C.1 C.2.1 dX9_differenceOf_1 rfl (lv_at hl 0 rfl) ?_
  refine lv_iload_n C.1 C.2.1 dX9_differenceOf_2 rfl (lv_at hl 1 rfl) ?_
  refine lv_iconst (v := 0) C.1 C.2.1 dX9_differenceOf_3 (by decide) ?_
  obtain ⟨q1, eq1, h⟩ := bnd h
  refine r_callV (As := [.int a1, .int 0]) C hw (ok_X9_counted X l σ a1 0 _ eq1) l_50 vc_9 gw_1179 gw_1176 gw_1178 gw_88 gw_123 hl.1 pd_X9_counted ⟨Nat.le_of_ble_eq_true rfl, Nat.le_of_ble_eq_true rfl⟩ ⟨Nat.le_refl 0, Nat.le_refl 0⟩ (rest := [.ref (X.2.1 50)]) (Nat.le_of_ble_eq_true rfl) dX9_differenceOf_4 rfl (fun H locs hw => ?_)
  refine lv_aload_n C.1 C.2.1 dX9_differenceOf_7 rfl (lv_at hl 0 rfl) ?_
  refine lv_iload_n C.1 C.2.1 dX9_differenceOf_8 rfl (lv_at hl 1 rfl) ?_
  refine lv_iconst (v := 1) C.1 C.2.1 dX9_differenceOf_9 (by decide) ?_
  obtain ⟨q2, eq2, h⟩ := bnd h
  refine r_callV (As := [.int a1, .int 1]) C hw (ok_X9_counted X l σ a1 1 _ eq2) l_50 vc_9 gw_1179 gw_1176 gw_1178 gw_88 gw_123 hl.1 pd_X9_counted ⟨Nat.le_of_ble_eq_true rfl, Nat.le_of_ble_eq_true rfl⟩ ⟨Nat.le_refl 0, Nat.le_refl 0⟩ (rest := [.int q1, .ref (X.2.1 50)]) (Nat.le_of_ble_eq_true rfl) dX9_differenceOf_10 rfl (fun H locs hw => ?_)
  refine lv_aload_n C.1 C.2.1 dX9_differenceOf_13 rfl (lv_at hl 0 rfl) ?_
  refine lv_iload_n C.1 C.2.1 dX9_differenceOf_14 rfl (lv_at hl 1 rfl) ?_
  refine lv_iconst (v := 2) C.1 C.2.1 dX9_differenceOf_15 (by decide) ?_
  obtain ⟨q3, eq3, h⟩ := bnd h
  refine r_callV (As := [.int a1, .int 2]) C hw (ok_X9_counted X l σ a1 2 _ eq3) l_50 vc_9 gw_1179 gw_1176 gw_1178 gw_88 gw_123 hl.1 pd_X9_counted ⟨Nat.le_of_ble_eq_true rfl, Nat.le_of_ble_eq_true rfl⟩ ⟨Nat.le_refl 0, Nat.le_refl 0⟩ (rest := [.int q2, .int q1, .ref (X.2.1 50)]) (Nat.le_of_ble_eq_true rfl) dX9_differenceOf_16 rfl (fun H locs hw => ?_)
  obtain ⟨q4, eq4, h⟩ := bnd h
  refine r_callV (As := [.int q1, .int q2, .int q3]) C hw (ok_X9_least X l σ q1 q2 q3 _ eq4) l_50 vc_9 gw_1239 gw_1236 gw_1238 gw_99 gw_123 hl.1 pd_X9_least ⟨Nat.le_of_ble_eq_true rfl, Nat.le_of_ble_eq_true rfl⟩ ⟨Nat.le_refl 0, Nat.le_refl 0⟩ (rest := []) (Nat.le_of_ble_eq_true rfl) dX9_differenceOf_19 rfl (fun H locs hw => ?_)
  refine lv_istore_n (lv' := [(2, .int q4), (0, .ref (X.2.1 50)), (1, .int a1)]) C.1 C.2.1 dX9_differenceOf_22 rfl hl (by decide) rfl (fun ls hl => ?_)
  refine lv_aload_n C.1 C.2.1 dX9_differenceOf_23 rfl (lv_at hl 1 rfl) ?_
  refine lv_aload_n C.1 C.2.1 dX9_differenceOf_24 rfl (lv_at hl 1 rfl) ?_
  refine lv_iload_n C.1 C.2.1 dX9_differenceOf_25 rfl (lv_at hl 2 rfl) ?_
  refine lv_iconst (v := 0) C.1 C.2.1 dX9_differenceOf_26 (by decide) ?_
  obtain ⟨q5, eq5, h⟩ := bnd h
  refine r_callV (As := [.int a1, .int 0]) C hw (ok_X9_counted X l σ a1 0 _ eq5) l_50 vc_9 gw_1179 gw_1176 gw_1178 gw_88 gw_123 hl.1 pd_X9_counted ⟨Nat.le_of_ble_eq_true rfl, Nat.le_of_ble_eq_true rfl⟩ ⟨Nat.le_refl 0, Nat.le_refl 0⟩ (rest := [.ref (X.2.1 50)]) (Nat.le_of_ble_eq_true rfl) dX9_differenceOf_27 rfl (fun H locs hw => ?_)
  refine lv_aload_n C.1 C.2.1 dX9_differenceOf_30 rfl (lv_at hl 1 rfl) ?_
  refine lv_iload_n C.1 C.2.1 dX9_differenceOf_31 rfl (lv_at hl 2 rfl) ?_
  refine lv_iconst (v := 1) C.1 C.2.1 dX9_differenceOf_32 (by decide) ?_
  obtain ⟨q6, eq6, h⟩ := bnd h
  refine r_callV (As := [.int a1, .int 1]) C hw (ok_X9_counted X l σ a1 1 _ eq6) l_50 vc_9 gw_1179 gw_1176 gw_1178 gw_88 gw_123 hl.1 pd_X9_counted ⟨Nat.le_of_ble_eq_true rfl, Nat.le_of_ble_eq_true rfl⟩ ⟨Nat.le_refl 0, Nat.le_refl 0⟩ (rest := [.int q5, .ref (X.2.1 50)]) (Nat.le_of_ble_eq_true rfl) dX9_differenceOf_33 rfl (fun H locs hw => ?_)
  refine lv_aload_n C.1 C.2.1 dX9_differenceOf_36 rfl (lv_at hl 1 rfl) ?_
  refine lv_iload_n C.1 C.2.1 dX9_differenceOf_37 rfl (lv_at hl 2 rfl) ?_
  refine lv_iconst (v := 2) C.1 C.2.1 dX9_differenceOf_38 (by decide) ?_
  obtain ⟨q7, eq7, h⟩ := bnd h
  refine r_callV (As := [.int a1, .int 2]) C hw (ok_X9_counted X l σ a1 2 _ eq7) l_50 vc_9 gw_1179 gw_1176 gw_1178 gw_88 gw_123 hl.1 pd_X9_counted ⟨Nat.le_of_ble_eq_true rfl, Nat.le_of_ble_eq_true rfl⟩ ⟨Nat.le_refl 0, Nat.le_refl 0⟩ (rest := [.int q6, .int q5, .ref (X.2.1 50)]) (Nat.le_of_ble_eq_true rfl) dX9_differenceOf_39 rfl (fun H locs hw => ?_)
  obtain ⟨q8, eq8, h⟩ := bnd h
  refine r_callV (As := [.int q5, .int q6, .int q7]) C hw (ok_X9_most X l σ q5 q6 q7 _ eq8) l_50 vc_9 gw_1255 gw_1252 gw_1254 gw_103 gw_123 hl.1 pd_X9_most ⟨Nat.le_of_ble_eq_true rfl, Nat.le_of_ble_eq_true rfl⟩ ⟨Nat.le_refl 0, Nat.le_refl 0⟩ (rest := []) (Nat.le_of_ble_eq_true rfl) dX9_differenceOf_42 rfl (fun H locs hw => ?_)
  refine lv_istore_n (lv' := [(3, .int q8), (2, .int q4), (0, .ref (X.2.1 50)), (1, .int a1)]) C.1 C.2.1 dX9_differenceOf_45 rfl hl (by decide) rfl (fun ls hl => ?_)
  refine lv_aload_n C.1 C.2.1 dX9_differenceOf_46 rfl (lv_at hl 2 rfl) ?_
  refine lv_iload_n C.1 C.2.1 dX9_differenceOf_47 rfl (lv_at hl 3 rfl) ?_
  refine lv_iconst (v := 3) C.1 C.2.1 dX9_differenceOf_48 (by decide) ?_
  obtain ⟨q9, eq9, h⟩ := bnd h
  refine r_callV (As := [.int a1, .int 3]) C hw (ok_X9_counted X l σ a1 3 _ eq9) l_50 vc_9 gw_1179 gw_1176 gw_1178 gw_88 gw_123 hl.1 pd_X9_counted ⟨Nat.le_of_ble_eq_true rfl, Nat.le_of_ble_eq_true rfl⟩ ⟨Nat.le_refl 0, Nat.le_refl 0⟩ (rest := []) (Nat.le_of_ble_eq_true rfl) dX9_differenceOf_49 rfl (fun H locs hw => ?_)
  refine lv_istore (lv' := [(4, .int q9), (3, .int q8), (2, .int q4), (0, .ref (X.2.1 50)), (1, .int a1)]) C.1 C.2.1 dX9_differenceOf_52 hl (by decide) rfl (fun ls hl => ?_)
  refine lv_iload C.1 C.2.1 dX9_differenceOf_54 (lv_at hl 0 rfl) ?_
  refine lv_iload_n C.1 C.2.1 dX9_differenceOf_56 rfl (lv_at hl 1 rfl) ?_
  refine lv_icmp_le (tgt := 67) C.1 C.2.1 dX9_differenceOf_57 (by decide) (fun c10 => ?_) (fun c10 => ?_)
  · have h := ite_t c10 h
    refine lv_iload C.1 C.2.1 dX9_differenceOf_67 (lv_at hl 0 rfl) ?_
    refine lv_iload_n C.1 C.2.1 dX9_differenceOf_69 rfl (lv_at hl 2 rfl) ?_
    refine lv_icmp_ge (tgt := 80) C.1 C.2.1 dX9_differenceOf_70 (by decide) (fun c11 => ?_) (fun c11 => ?_)
    · have h := ite_t c11 h
      refine lv_iconst (v := 0) C.1 C.2.1 dX9_differenceOf_80 (by decide) ?_
      exact r_iret C hr hlk hw (Option.some.inj h) rfl dX9_differenceOf_81
    · have h := ite_f c11 h
      refine lv_iload C.1 C.2.1 dX9_differenceOf_73 (lv_at hl 0 rfl) ?_
      refine lv_iload_n C.1 C.2.1 dX9_differenceOf_75 rfl (lv_at hl 2 rfl) ?_
      refine lv_isub C.1 C.2.1 dX9_differenceOf_76 ?_
      refine lv_goto (tgt := 81) C.1 C.2.1 dX9_differenceOf_77 (by decide) ?_
      exact r_iret C hr hlk hw (Option.some.inj h) rfl dX9_differenceOf_81
  · have h := ite_f c10 h
    refine lv_iload C.1 C.2.1 dX9_differenceOf_60 (lv_at hl 0 rfl) ?_
    refine lv_iload_n C.1 C.2.1 dX9_differenceOf_62 rfl (lv_at hl 1 rfl) ?_
    refine lv_isub C.1 C.2.1 dX9_differenceOf_63 ?_
    refine lv_goto (tgt := 81) C.1 C.2.1 dX9_differenceOf_64 (by decide) ?_
    exact r_iret C hr hlk hw (Option.some.inj h) rfl dX9_differenceOf_81
def f_X9_allowed_b38 (σ : St) (a1 : Int32) (x2 : Int32) (s0 : Int32) : Option Int32 :=
  (rd σ 52 845 x2).bind fun v6 => if s0 ≤ v6 then ((rd σ 52 845 x2).bind fun v8 => some v8) else (some s0)
def f_X9_allowed (σ : St) (a1 : Int32) : Option Int32 :=
  (f_X9_counted σ a1 1).bind fun q1 => nm (5 + (2 * q1)) fun v2 => (f_X9_sureOf σ a1).bind fun q3 => if 0 ≤ q3 then ((rd σ 52 845 (v2 + 1)).bind fun v5 => f_X9_allowed_b38 σ a1 v2 ((v5 * q3) / 100)) else (f_X9_allowed_b38 σ a1 v2 0)
set_option maxRecDepth 100000 in
set_option maxHeartbeats 4000000 in
theorem ok_X9_allowed (X : Xc) (l : Launch) (σ : St) (a1 : Int32) (r : Int32) (h : f_X9_allowed σ a1 = some r) : Ok X l yX9_allowed cX9_allowed 5 (some .int) 5 116 [.ref (X.2.1 50), .int a1] σ (some (.int r)) σ := by
  refine Ok.of (by decide) (Nat.le_of_ble_eq_true rfl) ?_
  intro p e s m args below meth c C hr hlk hw ls hl
  have C : Cx p s m args c X cX9_allowed 5 "RunningCountModel" := C
  have hl : lv_has ls 5 [(0, .ref (X.2.1 50)), (1, .int a1)] := hl
  have b38 : ∀ (x2 : Int32) (s0 : Int32), f_X9_allowed_b38 σ a1 x2 s0 = some r → ∀ (H : Heap) (locs : List Loc), At X σ s.heap H locs → ∀ ls : Array Slot, lv_has ls 5 [(0, .ref (X.2.1 50)), (2, .int x2)] → W p l e (rmX 5 116) s m args below meth c H locs 0 0 (Zq X below s args (some (.int r)) σ) (F0 m 38 ls [.int s0]) := by
    intro x2 s0 h H locs hw ls hl
    rw [f_X9_allowed_b38] at h
    refine lv_istore (lv' := [(4, .int s0), (0, .ref (X.2.1 50)), (2, .int x2)]) C.1 C.2.1 dX9_allowed_38 hl (by decide) rfl (fun ls hl => ?_)
    refine lv_iload C.1 C.2.1 dX9_allowed_40 (lv_at hl 0 rfl) ?_
    refine lv_aload_n C.1 C.2.1 dX9_allowed_42 rfl (lv_at hl 1 rfl) ?_
    refine r_get (v := .ref (X.2.1 52)) C hw l_50 vc_9 kX9 11 rfl (by decide) gw_1025 rfl dX9_allowed_43 ?_
    refine lv_iload_n C.1 C.2.1 dX9_allowed_46 rfl (lv_at hl 2 rfl) ?_
    obtain ⟨v6, ev6, h⟩ := bnd h
    refine r_ald C hw l_52 ev6 dX9_allowed_47 ?_
    refine lv_icmp_le (tgt := 56) C.1 C.2.1 dX9_allowed_48 (by decide) (fun c7 => ?_) (fun c7 => ?_)
    · have h := ite_t c7 h
      refine lv_aload_n C.1 C.2.1 dX9_allowed_56 rfl (lv_at hl 1 rfl) ?_
      refine r_get (v := .ref (X.2.1 52)) C hw l_50 vc_9 kX9 11 rfl (by decide) gw_1025 rfl dX9_allowed_57 ?_
      refine lv_iload_n C.1 C.2.1 dX9_allowed_60 rfl (lv_at hl 2 rfl) ?_
      obtain ⟨v8, ev8, h⟩ := bnd h
      refine r_ald C hw l_52 ev8 dX9_allowed_61 ?_
      exact r_iret C hr hlk hw (Option.some.inj h) rfl dX9_allowed_62
    · have h := ite_f c7 h
      refine lv_iload C.1 C.2.1 dX9_allowed_51 (lv_at hl 0 rfl) ?_
      refine lv_goto (tgt := 62) C.1 C.2.1 dX9_allowed_53 (by decide) ?_
      exact r_iret C hr hlk hw (Option.some.inj h) rfl dX9_allowed_62
  rw [f_X9_allowed] at h
  refine lv_iconst (v := 5) C.1 C.2.1 dX9_allowed_0 (by decide) ?_
  refine lv_iconst (v := 2) C.1 C.2.1 dX9_allowed_1 (by decide) ?_
  refine lv_aload_n C.1 C.2.1 dX9_allowed_2 rfl (lv_at hl 0 rfl) ?_
  refine lv_iload_n C.1 C.2.1 dX9_allowed_3 rfl (lv_at hl 1 rfl) ?_
  refine lv_iconst (v := 1) C.1 C.2.1 dX9_allowed_4 (by decide) ?_
  obtain ⟨q1, eq1, h⟩ := bnd h
  refine r_callV (As := [.int a1, .int 1]) C hw (ok_X9_counted X l σ a1 1 _ eq1) l_50 vc_9 gw_1179 gw_1176 gw_1178 gw_88 gw_123 hl.1 pd_X9_counted ⟨Nat.le_of_ble_eq_true rfl, Nat.le_of_ble_eq_true rfl⟩ ⟨Nat.le_refl 0, Nat.le_refl 0⟩ (rest := [.int 2, .int 5]) (Nat.le_of_ble_eq_true rfl) dX9_allowed_5 rfl (fun H locs hw => ?_)
  refine lv_imul C.1 C.2.1 dX9_allowed_8 ?_
  refine lv_iadd C.1 C.2.1 dX9_allowed_9 ?_
  obtain ⟨v2, ev2, h⟩ := nm_d h
  refine lv_nm ev2 ?_
  refine lv_istore_n (lv' := [(2, .int v2), (0, .ref (X.2.1 50)), (1, .int a1)]) C.1 C.2.1 dX9_allowed_10 rfl hl (by decide) rfl (fun ls hl => ?_)
  refine lv_aload_n C.1 C.2.1 dX9_allowed_11 rfl (lv_at hl 1 rfl) ?_
  refine lv_iload_n C.1 C.2.1 dX9_allowed_12 rfl (lv_at hl 2 rfl) ?_
  obtain ⟨q3, eq3, h⟩ := bnd h
  refine r_callV (As := [.int a1]) C hw (ok_X9_sureOf X l σ a1 _ eq3) l_50 vc_9 gw_1279 gw_1276 gw_1278 gw_106 gw_123 hl.1 pd_X9_sureOf ⟨Nat.le_of_ble_eq_true rfl, Nat.le_of_ble_eq_true rfl⟩ ⟨Nat.le_refl 0, Nat.le_refl 0⟩ (rest := []) (Nat.le_of_ble_eq_true rfl) dX9_allowed_13 rfl (fun H locs hw => ?_)
  refine lv_istore_n (lv' := [(3, .int q3), (2, .int v2), (0, .ref (X.2.1 50)), (1, .int a1)]) C.1 C.2.1 dX9_allowed_16 rfl hl (by decide) rfl (fun ls hl => ?_)
  refine lv_iload_n C.1 C.2.1 dX9_allowed_17 rfl (lv_at hl 0 rfl) ?_
  refine lv_if_ge (tgt := 25) C.1 C.2.1 dX9_allowed_18 (by decide) (fun c4 => ?_) (fun c4 => ?_)
  · have h := ite_t c4 h
    refine lv_aload_n C.1 C.2.1 dX9_allowed_25 rfl (lv_at hl 2 rfl) ?_
    refine r_get (v := .ref (X.2.1 52)) C hw l_50 vc_9 kX9 11 rfl (by decide) gw_1025 rfl dX9_allowed_26 ?_
    refine lv_iload_n C.1 C.2.1 dX9_allowed_29 rfl (lv_at hl 1 rfl) ?_
    refine lv_iconst (v := 1) C.1 C.2.1 dX9_allowed_30 (by decide) ?_
    refine lv_iadd C.1 C.2.1 dX9_allowed_31 ?_
    obtain ⟨v5, ev5, h⟩ := bnd h
    refine r_ald C hw l_52 ev5 dX9_allowed_32 ?_
    refine lv_iload_n C.1 C.2.1 dX9_allowed_33 rfl (lv_at hl 0 rfl) ?_
    refine lv_imul C.1 C.2.1 dX9_allowed_34 ?_
    refine lv_bipush (v := 100) C.1 C.2.1 dX9_allowed_35 (by decide) ?_
    refine lv_idiv C.1 C.2.1 dX9_allowed_37 (by decide) ?_
    exact b38 v2 ((v5 * q3) / 100) h _ _ hw ls (lv_sub hl [2, 1] rfl)
  · have h := ite_f c4 h
    refine lv_iconst (v := 0) C.1 C.2.1 dX9_allowed_21 (by decide) ?_
    refine lv_goto (tgt := 38) C.1 C.2.1 dX9_allowed_22 (by decide) ?_
    exact b38 v2 0 h _ _ hw ls (lv_sub hl [2, 1] rfl)
def f_X9_isOpenAt (σ : St) (a1 : Int32) (a2 : Int32) (a3 : Int32) : Option Bool :=
  (f_X9_counted σ a1 0).bind fun q1 => if q1 = a2 then ((f_X9_counted σ a1 1).bind fun q3 => if q3 = a3 then ((f_X9_counted σ a1 5).bind fun q5 => if q5 = 0 then (some true) else (some false)) else (some false)) else (some false)
set_option maxRecDepth 100000 in
set_option maxHeartbeats 4000000 in
theorem ok_X9_isOpenAt (X : Xc) (l : Launch) (σ : St) (a1 : Int32) (a2 : Int32) (a3 : Int32) (r : Bool) (h : f_X9_isOpenAt σ a1 a2 a3 = some r) : Ok X l yX9_isOpenAt cX9_isOpenAt 4 (some .boolean) 1 22 [.ref (X.2.1 50), .int a1, .int a2, .int a3] σ (some (.int (b2i r))) σ := by
  refine Ok.of (by decide) (Nat.le_of_ble_eq_true rfl) ?_
  intro p e s m args below meth c C hr hlk hw ls hl
  have C : Cx p s m args c X cX9_isOpenAt 4 "RunningCountModel" := C
  have hl : lv_has ls 4 [(0, .ref (X.2.1 50)), (1, .int a1), (2, .int a2), (3, .int a3)] := hl
  rw [f_X9_isOpenAt] at h
  refine lv_aload_n C.1 C.2.1 dX9_isOpenAt_0 rfl (lv_at hl 0 rfl) ?_
  refine lv_iload_n C.1 C.2.1 dX9_isOpenAt_1 rfl (lv_at hl 1 rfl) ?_
  refine lv_iconst (v := 0) C.1 C.2.1 dX9_isOpenAt_2 (by decide) ?_
  obtain ⟨q1, eq1, h⟩ := bnd h
  refine r_callV (As := [.int a1, .int 0]) C hw (ok_X9_counted X l σ a1 0 _ eq1) l_50 vc_9 gw_1179 gw_1176 gw_1178 gw_88 gw_123 hl.1 pd_X9_counted ⟨Nat.le_of_ble_eq_true rfl, Nat.le_of_ble_eq_true rfl⟩ ⟨Nat.le_refl 0, Nat.le_refl 0⟩ (rest := []) (Nat.le_of_ble_eq_true rfl) dX9_isOpenAt_3 rfl (fun H locs hw => ?_)
  refine lv_iload_n C.1 C.2.1 dX9_isOpenAt_6 rfl (lv_at hl 2 rfl) ?_
  refine lv_icmp_ne (tgt := 33) C.1 C.2.1 dX9_isOpenAt_7 (by decide) (fun c2 => ?_) (fun c2 => ?_)
  · have h := ite_f c2 h
    refine lv_iconst (v := 0) C.1 C.2.1 dX9_isOpenAt_33 (by decide) ?_
    exact r_zret C hr hlk hw rfl (Option.some.inj h) rfl dX9_isOpenAt_34
  · have h := ite_t c2 h
    refine lv_aload_n C.1 C.2.1 dX9_isOpenAt_10 rfl (lv_at hl 0 rfl) ?_
    refine lv_iload_n C.1 C.2.1 dX9_isOpenAt_11 rfl (lv_at hl 1 rfl) ?_
    refine lv_iconst (v := 1) C.1 C.2.1 dX9_isOpenAt_12 (by decide) ?_
    obtain ⟨q3, eq3, h⟩ := bnd h
    refine r_callV (As := [.int a1, .int 1]) C hw (ok_X9_counted X l σ a1 1 _ eq3) l_50 vc_9 gw_1179 gw_1176 gw_1178 gw_88 gw_123 hl.1 pd_X9_counted ⟨Nat.le_of_ble_eq_true rfl, Nat.le_of_ble_eq_true rfl⟩ ⟨Nat.le_refl 0, Nat.le_refl 0⟩ (rest := []) (Nat.le_of_ble_eq_true rfl) dX9_isOpenAt_13 rfl (fun H locs hw => ?_)
    refine lv_iload_n C.1 C.2.1 dX9_isOpenAt_16 rfl (lv_at hl 3 rfl) ?_
    refine lv_icmp_ne (tgt := 33) C.1 C.2.1 dX9_isOpenAt_17 (by decide) (fun c4 => ?_) (fun c4 => ?_)
    · have h := ite_f c4 h
      refine lv_iconst (v := 0) C.1 C.2.1 dX9_isOpenAt_33 (by decide) ?_
      exact r_zret C hr hlk hw rfl (Option.some.inj h) rfl dX9_isOpenAt_34
    · have h := ite_t c4 h
      refine lv_aload_n C.1 C.2.1 dX9_isOpenAt_20 rfl (lv_at hl 0 rfl) ?_
      refine lv_iload_n C.1 C.2.1 dX9_isOpenAt_21 rfl (lv_at hl 1 rfl) ?_
      refine lv_iconst (v := 5) C.1 C.2.1 dX9_isOpenAt_22 (by decide) ?_
      obtain ⟨q5, eq5, h⟩ := bnd h
      refine r_callV (As := [.int a1, .int 5]) C hw (ok_X9_counted X l σ a1 5 _ eq5) l_50 vc_9 gw_1179 gw_1176 gw_1178 gw_88 gw_123 hl.1 pd_X9_counted ⟨Nat.le_of_ble_eq_true rfl, Nat.le_of_ble_eq_true rfl⟩ ⟨Nat.le_refl 0, Nat.le_refl 0⟩ (rest := []) (Nat.le_of_ble_eq_true rfl) dX9_isOpenAt_23 rfl (fun H locs hw => ?_)
      refine lv_if_ne (tgt := 33) C.1 C.2.1 dX9_isOpenAt_26 (by decide) (fun c6 => ?_) (fun c6 => ?_)
      · have h := ite_f c6 h
        refine lv_iconst (v := 0) C.1 C.2.1 dX9_isOpenAt_33 (by decide) ?_
        exact r_zret C hr hlk hw rfl (Option.some.inj h) rfl dX9_isOpenAt_34
      · have h := ite_t c6 h
        refine lv_iconst (v := 1) C.1 C.2.1 dX9_isOpenAt_29 (by decide) ?_
        refine lv_goto (tgt := 34) C.1 C.2.1 dX9_isOpenAt_30 (by decide) ?_
        exact r_zret C hr hlk hw rfl (Option.some.inj h) rfl dX9_isOpenAt_34
def f_X9_count (σ : St) (a1 : Int32) (a2 : Int32) : Option (Int32 × St) :=
  nm (upI σ 50 0 0) fun σ1 => (f_X9_isCount σ1 a1).bind fun q2 => if (b2i q2) = 0 then ((f_X9_refuse σ1).bind fun q4 => some (q4.1, q4.2)) else (if (b2i (f_X9_isIn σ1 a2 0 6)) = 0 then ((f_X9_refuse σ1).bind fun q10 => some (q10.1, q10.2)) else (if 6 ≤ a2 then ((f_X9_allowed σ1 a1).bind fun q8 => some (q8, σ1)) else ((f_X9_counted σ1 a1 a2).bind fun q9 => some (q9, σ1))))
set_option maxRecDepth 100000 in
set_option maxHeartbeats 4000000 in
theorem ok_X9_count (X : Xc) (l : Launch) (σ : St) (a1 : Int32) (a2 : Int32) (r : Int32) (σ' : St) (h : f_X9_count σ a1 a2 = some (r, σ')) : Ok X l yX9_count cX9_count 3 (some .int) 6 140 [.ref (X.2.1 50), .int a1, .int a2] σ (some (.int r)) σ' := by
  refine Ok.of (by decide) (Nat.le_of_ble_eq_true rfl) ?_
  intro p e s m args below meth c C hr hlk hw ls hl
  have C : Cx p s m args c X cX9_count 3 "RunningCountModel" := C
  have hl : lv_has ls 3 [(0, .ref (X.2.1 50)), (1, .int a1), (2, .int a2)] := hl
  rw [f_X9_count] at h
  refine lv_aload_n C.1 C.2.1 dX9_count_0 rfl (lv_at hl 0 rfl) ?_
  refine lv_iconst (v := 0) C.1 C.2.1 dX9_count_1 (by decide) ?_
  obtain ⟨σ1, eσ1, h⟩ := nm_d h
  refine r_put C hw l_50 vc_9 kX9 tyX9 tyX9_ok nmX9 0 (by decide) (by decide) gw_1014 rfl rfl rfl (put_i l_50 rfl eσ1) dX9_count_2 (fun H locs hw => ?_)
  refine lv_aload_n C.1 C.2.1 dX9_count_5 rfl (lv_at hl 0 rfl) ?_
  refine lv_iload_n C.1 C.2.1 dX9_count_6 rfl (lv_at hl 1 rfl) ?_
  obtain ⟨q2, eq2, h⟩ := bnd h
  refine r_callV (As := [.int a1]) C hw (ok_X9_isCount X l σ1 a1 _ eq2) l_50 vc_9 gw_1271 gw_1268 gw_1270 gw_104 gw_123 hl.1 pd_X9_isCount ⟨Nat.le_of_ble_eq_true rfl, Nat.le_of_ble_eq_true rfl⟩ ⟨Nat.le_refl 0, Nat.le_refl 0⟩ (rest := []) (Nat.le_of_ble_eq_true rfl) dX9_count_7 rfl (fun H locs hw => ?_)
  refine lv_if_eq (tgt := 23) C.1 C.2.1 dX9_count_10 (by decide) (fun c3 => ?_) (fun c3 => ?_)
  · have h := ite_t c3 h
    refine lv_aload_n C.1 C.2.1 dX9_count_23 rfl (lv_at hl 0 rfl) ?_
    obtain ⟨q4, eq4, h⟩ := bnd h
    refine r_callV (As := []) C hw (ok_X9_refuse X l σ1 _ _ eq4) l_50 vc_9 gw_1199 gw_1196 gw_1198 gw_91 gw_123 hl.1 pd_X9_refuse ⟨Nat.le_of_ble_eq_true rfl, Nat.le_of_ble_eq_true rfl⟩ ⟨Nat.le_refl 0, Nat.le_refl 0⟩ (rest := []) (Nat.le_of_ble_eq_true rfl) dX9_count_24 rfl (fun H locs hw => ?_)
    exact r_iret C hr hlk hw (Prod.mk.inj (Option.some.inj h)).1 (Prod.mk.inj (Option.some.inj h)).2 dX9_count_27
  · have h := ite_f c3 h
    refine lv_iload_n C.1 C.2.1 dX9_count_13 rfl (lv_at hl 2 rfl) ?_
    refine lv_iconst (v := 0) C.1 C.2.1 dX9_count_14 (by decide) ?_
    refine lv_bipush (v := 6) C.1 C.2.1 dX9_count_15 (by decide) ?_
    refine r_callS (As := [.int a2, .int 0, .int 6]) C hw (ok_X9_isIn X l σ1 a2 0 6 _ rfl) gw_1130 gw_1128 gw_1129 gw_123 hl.1 pd_X9_isIn ⟨Nat.le_of_ble_eq_true rfl, Nat.le_of_ble_eq_true rfl⟩ ⟨Nat.le_refl 0, Nat.le_refl 0⟩ (rest := []) (Nat.le_of_ble_eq_true rfl) dX9_count_17 rfl (fun H locs hw => ?_)
    refine lv_if_ne (tgt := 28) C.1 C.2.1 dX9_count_20 (by decide) (fun c6 => ?_) (fun c6 => ?_)
    · have h := ite_f c6 h
      refine lv_iload_n C.1 C.2.1 dX9_count_28 rfl (lv_at hl 2 rfl) ?_
      refine lv_bipush (v := 6) C.1 C.2.1 dX9_count_29 (by decide) ?_
      refine lv_icmp_ge (tgt := 43) C.1 C.2.1 dX9_count_31 (by decide) (fun c7 => ?_) (fun c7 => ?_)
      · have h := ite_t c7 h
        refine lv_aload_n C.1 C.2.1 dX9_count_43 rfl (lv_at hl 0 rfl) ?_
        refine lv_iload_n C.1 C.2.1 dX9_count_44 rfl (lv_at hl 1 rfl) ?_
        obtain ⟨q8, eq8, h⟩ := bnd h
        refine r_callV (As := [.int a1]) C hw (ok_X9_allowed X l σ1 a1 _ eq8) l_50 vc_9 gw_1275 gw_1272 gw_1274 gw_105 gw_123 hl.1 pd_X9_allowed ⟨Nat.le_of_ble_eq_true rfl, Nat.le_of_ble_eq_true rfl⟩ ⟨Nat.le_refl 0, Nat.le_refl 0⟩ (rest := []) (Nat.le_of_ble_eq_true rfl) dX9_count_45 rfl (fun H locs hw => ?_)
        exact r_iret C hr hlk hw (Prod.mk.inj (Option.some.inj h)).1 (Prod.mk.inj (Option.some.inj h)).2 dX9_count_48
      · have h := ite_f c7 h
        refine lv_aload_n C.1 C.2.1 dX9_count_34 rfl (lv_at hl 0 rfl) ?_
        refine lv_iload_n C.1 C.2.1 dX9_count_35 rfl (lv_at hl 1 rfl) ?_
        refine lv_iload_n C.1 C.2.1 dX9_count_36 rfl (lv_at hl 2 rfl) ?_
        obtain ⟨q9, eq9, h⟩ := bnd h
        refine r_callV (As := [.int a1, .int a2]) C hw (ok_X9_counted X l σ1 a1 a2 _ eq9) l_50 vc_9 gw_1179 gw_1176 gw_1178 gw_88 gw_123 hl.1 pd_X9_counted ⟨Nat.le_of_ble_eq_true rfl, Nat.le_of_ble_eq_true rfl⟩ ⟨Nat.le_refl 0, Nat.le_refl 0⟩ (rest := []) (Nat.le_of_ble_eq_true rfl) dX9_count_37 rfl (fun H locs hw => ?_)
        refine lv_goto (tgt := 48) C.1 C.2.1 dX9_count_40 (by decide) ?_
        exact r_iret C hr hlk hw (Prod.mk.inj (Option.some.inj h)).1 (Prod.mk.inj (Option.some.inj h)).2 dX9_count_48
    · have h := ite_t c6 h
      refine lv_aload_n C.1 C.2.1 dX9_count_23 rfl (lv_at hl 0 rfl) ?_
      obtain ⟨q10, eq10, h⟩ := bnd h
      refine r_callV (As := []) C hw (ok_X9_refuse X l σ1 _ _ eq10) l_50 vc_9 gw_1199 gw_1196 gw_1198 gw_91 gw_123 hl.1 pd_X9_refuse ⟨Nat.le_of_ble_eq_true rfl, Nat.le_of_ble_eq_true rfl⟩ ⟨Nat.le_refl 0, Nat.le_refl 0⟩ (rest := []) (Nat.le_of_ble_eq_true rfl) dX9_count_24 rfl (fun H locs hw => ?_)
      exact r_iret C hr hlk hw (Prod.mk.inj (Option.some.inj h)).1 (Prod.mk.inj (Option.some.inj h)).2 dX9_count_27
def f_X9_difference (σ : St) (a1 : Int32) : Option (Int32 × St) :=
  nm (upI σ 50 0 0) fun σ1 => (f_X9_isCount σ1 a1).bind fun q2 => if (b2i q2) = 0 then (some ((-100000000), σ1)) else ((f_X9_differenceOf σ1 a1).bind fun q4 => some (q4, σ1))
set_option maxRecDepth 100000 in
set_option maxHeartbeats 4000000 in
theorem ok_X9_difference (X : Xc) (l : Launch) (σ : St) (a1 : Int32) (r : Int32) (σ' : St) (h : f_X9_difference σ a1 = some (r, σ')) : Ok X l yX9_difference cX9_difference 2 (some .int) 6 142 [.ref (X.2.1 50), .int a1] σ (some (.int r)) σ' := by
  refine Ok.of (by decide) (Nat.le_of_ble_eq_true rfl) ?_
  intro p e s m args below meth c C hr hlk hw ls hl
  have C : Cx p s m args c X cX9_difference 2 "RunningCountModel" := C
  have hl : lv_has ls 2 [(0, .ref (X.2.1 50)), (1, .int a1)] := hl
  rw [f_X9_difference] at h
  refine lv_aload_n C.1 C.2.1 dX9_difference_0 rfl (lv_at hl 0 rfl) ?_
  refine lv_iconst (v := 0) C.1 C.2.1 dX9_difference_1 (by decide) ?_
  obtain ⟨σ1, eσ1, h⟩ := nm_d h
  refine r_put C hw l_50 vc_9 kX9 tyX9 tyX9_ok nmX9 0 (by decide) (by decide) gw_1014 rfl rfl rfl (put_i l_50 rfl eσ1) dX9_difference_2 (fun H locs hw => ?_)
  refine lv_aload_n C.1 C.2.1 dX9_difference_5 rfl (lv_at hl 0 rfl) ?_
  refine lv_iload_n C.1 C.2.1 dX9_difference_6 rfl (lv_at hl 1 rfl) ?_
  obtain ⟨q2, eq2, h⟩ := bnd h
  refine r_callV (As := [.int a1]) C hw (ok_X9_isCount X l σ1 a1 _ eq2) l_50 vc_9 gw_1271 gw_1268 gw_1270 gw_104 gw_123 hl.1 pd_X9_isCount ⟨Nat.le_of_ble_eq_true rfl, Nat.le_of_ble_eq_true rfl⟩ ⟨Nat.le_refl 0, Nat.le_refl 0⟩ (rest := []) (Nat.le_of_ble_eq_true rfl) dX9_difference_7 rfl (fun H locs hw => ?_)
  refine lv_if_eq (tgt := 21) C.1 C.2.1 dX9_difference_10 (by decide) (fun c3 => ?_) (fun c3 => ?_)
  · have h := ite_t c3 h
    refine lv_ldc (v := (-100000000)) C.1 C.2.1 C.2.2.2.1 (C.2.2.2.2.1 _ gw_1223) dX9_difference_21 ?_
    exact r_iret C hr hlk hw (Prod.mk.inj (Option.some.inj h)).1 (Prod.mk.inj (Option.some.inj h)).2 dX9_difference_23
  · have h := ite_f c3 h
    refine lv_aload_n C.1 C.2.1 dX9_difference_13 rfl (lv_at hl 0 rfl) ?_
    refine lv_iload_n C.1 C.2.1 dX9_difference_14 rfl (lv_at hl 1 rfl) ?_
    obtain ⟨q4, eq4, h⟩ := bnd h
    refine r_callV (As := [.int a1]) C hw (ok_X9_differenceOf X l σ1 a1 _ eq4) l_50 vc_9 gw_1287 gw_1284 gw_1286 gw_107 gw_123 hl.1 pd_X9_differenceOf ⟨Nat.le_of_ble_eq_true rfl, Nat.le_of_ble_eq_true rfl⟩ ⟨Nat.le_refl 0, Nat.le_refl 0⟩ (rest := []) (Nat.le_of_ble_eq_true rfl) dX9_difference_15 rfl (fun H locs hw => ?_)
    refine lv_goto (tgt := 23) C.1 C.2.1 dX9_difference_18 (by decide) ?_
    exact r_iret C hr hlk hw (Prod.mk.inj (Option.some.inj h)).1 (Prod.mk.inj (Option.some.inj h)).2 dX9_difference_23
def f_X9_share (σ : St) (a1 : Int32) : Option (Int32 × St) :=
  nm (upI σ 50 0 0) fun σ1 => (f_X9_isCount σ1 a1).bind fun q2 => if (b2i q2) = 0 then (some ((-100000000), σ1)) else ((f_X9_sureOf σ1 a1).bind fun q4 => if q4 = 0 then (some (0, σ1)) else ((f_X9_differenceOf σ1 a1).bind fun q6 => (ckN (FP.fmul 1148846080 (FP.i2f q6))).bind fun q7 => (ckN (FP.fdiv (FP.fmul 1148846080 (FP.i2f q6)) (FP.i2f q4))).bind fun q8 => some (FP.f2i (FP.fdiv (FP.fmul 1148846080 (FP.i2f q6)) (FP.i2f q4)), σ1)))
set_option maxRecDepth 100000 in
set_option maxHeartbeats 4000000 in
theorem ok_X9_share (X : Xc) (l : Launch) (σ : St) (a1 : Int32) (r : Int32) (σ' : St) (h : f_X9_share σ a1 = some (r, σ')) : Ok X l yX9_share cX9_share 3 (some .int) 6 142 [.ref (X.2.1 50), .int a1] σ (some (.int r)) σ' := by
  refine Ok.of (by decide) (Nat.le_of_ble_eq_true rfl) ?_
  intro p e s m args below meth c C hr hlk hw ls hl
  have C : Cx p s m args c X cX9_share 3 "RunningCountModel" := C
  have hl : lv_has ls 3 [(0, .ref (X.2.1 50)), (1, .int a1)] := hl
  rw [f_X9_share] at h
  refine lv_aload_n C.1 C.2.1 dX9_share_0 rfl (lv_at hl 0 rfl) ?_
  refine lv_iconst (v := 0) C.1 C.2.1 dX9_share_1 (by decide) ?_
  obtain ⟨σ1, eσ1, h⟩ := nm_d h
  refine r_put C hw l_50 vc_9 kX9 tyX9 tyX9_ok nmX9 0 (by decide) (by decide) gw_1014 rfl rfl rfl (put_i l_50 rfl eσ1) dX9_share_2 (fun H locs hw => ?_)
  refine lv_aload_n C.1 C.2.1 dX9_share_5 rfl (lv_at hl 0 rfl) ?_
  refine lv_iload_n C.1 C.2.1 dX9_share_6 rfl (lv_at hl 1 rfl) ?_
  obtain ⟨q2, eq2, h⟩ := bnd h
  refine r_callV (As := [.int a1]) C hw (ok_X9_isCount X l σ1 a1 _ eq2) l_50 vc_9 gw_1271 gw_1268 gw_1270 gw_104 gw_123 hl.1 pd_X9_isCount ⟨Nat.le_of_ble_eq_true rfl, Nat.le_of_ble_eq_true rfl⟩ ⟨Nat.le_refl 0, Nat.le_refl 0⟩ (rest := []) (Nat.le_of_ble_eq_true rfl) dX9_share_7 rfl (fun H locs hw => ?_)
  refine lv_if_ne (tgt := 16) C.1 C.2.1 dX9_share_10 (by decide) (fun c3 => ?_) (fun c3 => ?_)
  · have h := ite_f c3 h
    refine lv_aload_n C.1 C.2.1 dX9_share_16 rfl (lv_at hl 0 rfl) ?_
    refine lv_iload_n C.1 C.2.1 dX9_share_17 rfl (lv_at hl 1 rfl) ?_
    obtain ⟨q4, eq4, h⟩ := bnd h
    refine r_callV (As := [.int a1]) C hw (ok_X9_sureOf X l σ1 a1 _ eq4) l_50 vc_9 gw_1279 gw_1276 gw_1278 gw_106 gw_123 hl.1 pd_X9_sureOf ⟨Nat.le_of_ble_eq_true rfl, Nat.le_of_ble_eq_true rfl⟩ ⟨Nat.le_refl 0, Nat.le_refl 0⟩ (rest := []) (Nat.le_of_ble_eq_true rfl) dX9_share_18 rfl (fun H locs hw => ?_)
    refine lv_istore_n (lv' := [(2, .int q4), (0, .ref (X.2.1 50)), (1, .int a1)]) C.1 C.2.1 dX9_share_21 rfl hl (by decide) rfl (fun ls hl => ?_)
    refine lv_iload_n C.1 C.2.1 dX9_share_22 rfl (lv_at hl 0 rfl) ?_
    refine lv_if_ne (tgt := 30) C.1 C.2.1 dX9_share_23 (by decide) (fun c5 => ?_) (fun c5 => ?_)
    · have h := ite_f c5 h
      refine lv_ldcf (v := 1148846080) C.1 C.2.1 C.2.2.2.1 (C.2.2.2.2.1 _ gw_1292) dX9_share_30 ?_
      refine lv_aload_n C.1 C.2.1 dX9_share_32 rfl (lv_at hl 1 rfl) ?_
      refine lv_iload_n C.1 C.2.1 dX9_share_33 rfl (lv_at hl 2 rfl) ?_
      obtain ⟨q6, eq6, h⟩ := bnd h
      refine r_callV (As := [.int a1]) C hw (ok_X9_differenceOf X l σ1 a1 _ eq6) l_50 vc_9 gw_1287 gw_1284 gw_1286 gw_107 gw_123 hl.1 pd_X9_differenceOf ⟨Nat.le_of_ble_eq_true rfl, Nat.le_of_ble_eq_true rfl⟩ ⟨Nat.le_refl 0, Nat.le_refl 0⟩ (rest := [.float 1148846080]) (Nat.le_of_ble_eq_true rfl) dX9_share_34 rfl (fun H locs hw => ?_)
      refine lv_i2f C.1 C.2.1 dX9_share_37 ?_
      obtain ⟨q7, eq7, h⟩ := bnd h
      refine lv_fmul C.1 C.2.1 dX9_share_38 (ckN_ok eq7) ?_
      refine lv_iload_n C.1 C.2.1 dX9_share_39 rfl (lv_at hl 0 rfl) ?_
      refine lv_i2f C.1 C.2.1 dX9_share_40 ?_
      obtain ⟨q8, eq8, h⟩ := bnd h
      refine lv_fdiv C.1 C.2.1 dX9_share_41 (ckN_ok eq8) ?_
      refine lv_f2i C.1 C.2.1 dX9_share_42 ?_
      exact r_iret C hr hlk hw (Prod.mk.inj (Option.some.inj h)).1 (Prod.mk.inj (Option.some.inj h)).2 dX9_share_43
    · have h := ite_t c5 h
      refine lv_iconst (v := 0) C.1 C.2.1 dX9_share_26 (by decide) ?_
      refine lv_goto (tgt := 43) C.1 C.2.1 dX9_share_27 (by decide) ?_
      exact r_iret C hr hlk hw (Prod.mk.inj (Option.some.inj h)).1 (Prod.mk.inj (Option.some.inj h)).2 dX9_share_43
  · have h := ite_t c3 h
    refine lv_ldc (v := (-100000000)) C.1 C.2.1 C.2.2.2.1 (C.2.2.2.2.1 _ gw_1223) dX9_share_13 ?_
    exact r_iret C hr hlk hw (Prod.mk.inj (Option.some.inj h)).1 (Prod.mk.inj (Option.some.inj h)).2 dX9_share_15
def f_X9_laysOpen_b86 (a1 : Int32) (a2 : Int32) (k7 : St → Int32 → Option St) (σ : St) (x3 : Int32) (x4 : Int32) : Option St :=
  (wr σ 55 40 x4 x3).bind fun σ8 => nm (upI σ8 50 19 ((σ8.1 50 19) + 1)) fun σ9 => nm (x3 + 1) fun v10 => k7 σ9 v10
def f_X9_laysOpen_b36 (a1 : Int32) (a2 : Int32) (k7 : St → Int32 → Option St) : Nat → St → Int32 → Int32 → Option St
  | 0, _, _, _ => none
  | n + 1, σ, x3, x4 => if x4 ≤ 0 then (f_X9_laysOpen_b86 a1 a2 k7 σ x3 x4) else ((rd σ 55 40 (x4 - 1)).bind fun v11 => (f_X9_counted σ v11 2).bind fun q12 => (f_X9_counted σ x3 2).bind fun q13 => if q12 ≤ q13 then (f_X9_laysOpen_b86 a1 a2 k7 σ x3 x4) else ((rd σ 55 40 (x4 - 1)).bind fun v15 => (wr σ 55 40 x4 v15).bind fun σ16 => nm (x4 + (-1)) fun v17 => f_X9_laysOpen_b36 a1 a2 k7 n σ16 x3 v17))
def f_X9_laysOpen_b7 (a1 : Int32) (a2 : Int32) : Nat → St → Int32 → Option St
  | 0, _, _ => none
  | n + 1, σ, x3 => (rd σ 52 845 3).bind fun v2 => if v2 ≤ x3 then (some σ) else ((f_X9_isOpenAt σ x3 a1 a2).bind fun q4 => if (b2i q4) = 0 then (nm (x3 + 1) fun v18 => f_X9_laysOpen_b7 a1 a2 n σ v18) else (nm (σ.1 50 19) fun v6 => f_X9_laysOpen_b36 a1 a2 (fun σ x3 => f_X9_laysOpen_b7 a1 a2 n σ x3) 10000 σ x3 v6))
def f_X9_laysOpen (σ : St) (a1 : Int32) (a2 : Int32) : Option St :=
  nm (upI σ 50 19 0) fun σ1 => f_X9_laysOpen_b7 a1 a2 10000 σ1 0
set_option maxRecDepth 100000 in
set_option maxHeartbeats 4000000 in
theorem ok_X9_laysOpen (X : Xc) (l : Launch) (σ : St) (a1 : Int32) (a2 : Int32) (σ' : St) (h : f_X9_laysOpen σ a1 a2 = some σ') : Ok X l yX9_laysOpen cX9_laysOpen 5 none 2 45 [.ref (X.2.1 50), .int a1, .int a2] σ none σ' := by
  refine Ok.of (by decide) (Nat.le_of_ble_eq_true rfl) ?_
  intro p e s m args below meth c C hr hlk hw ls hl
  have C : Cx p s m args c X cX9_laysOpen 5 "RunningCountModel" := C
  have hl : lv_has ls 5 [(0, .ref (X.2.1 50)), (1, .int a1), (2, .int a2)] := hl
  have b86 : ∀ (k7 : St → Int32 → Option St) (hk7 : ∀ (σ : St) (x3 : Int32), k7 σ x3 = some σ' → ∀ (H : Heap) (locs : List Loc), At X σ s.heap H locs → ∀ ls : Array Slot, lv_has ls 5 [(0, .ref (X.2.1 50)), (1, .int a1), (2, .int a2), (3, .int x3)] → W p l e (rmX 2 45) s m args below meth c H locs 0 0 (Zq X below s args none σ') (F0 m 7 ls [])), ∀ (σ : St) (x3 : Int32) (x4 : Int32), f_X9_laysOpen_b86 a1 a2 k7 σ x3 x4 = some σ' → ∀ (H : Heap) (locs : List Loc), At X σ s.heap H locs → ∀ ls : Array Slot, lv_has ls 5 [(0, .ref (X.2.1 50)), (1, .int a1), (2, .int a2), (3, .int x3), (4, .int x4)] → W p l e (rmX 2 45) s m args below meth c H locs 0 0 (Zq X below s args none σ') (F0 m 86 ls []) := by
    intro k7 hk7
    intro σ x3 x4 h H locs hw ls hl
    rw [f_X9_laysOpen_b86] at h
    refine lv_aload_n C.1 C.2.1 dX9_laysOpen_86 rfl (lv_at hl 0 rfl) ?_
    refine r_get (v := .ref (X.2.1 55)) C hw l_50 vc_9 kX9 18 rfl (by decide) gw_1032 rfl dX9_laysOpen_87 ?_
    refine lv_iload C.1 C.2.1 dX9_laysOpen_90 (lv_at hl 4 rfl) ?_
    refine lv_iload_n C.1 C.2.1 dX9_laysOpen_92 rfl (lv_at hl 3 rfl) ?_
    obtain ⟨σ8, eσ8, h⟩ := bnd h
    refine r_ast C hw l_55 eσ8 dX9_laysOpen_93 (fun H locs hw => ?_)
    refine lv_aload_n C.1 C.2.1 dX9_laysOpen_94 rfl (lv_at hl 0 rfl) ?_
    refine lv_dup C.1 C.2.1 dX9_laysOpen_95 rfl ?_
    refine r_get (v := .int (σ8.1 50 19)) C hw l_50 vc_9 kX9 19 rfl (by decide) gw_1033 rfl dX9_laysOpen_96 ?_
    refine lv_iconst (v := 1) C.1 C.2.1 dX9_laysOpen_99 (by decide) ?_
    refine lv_iadd C.1 C.2.1 dX9_laysOpen_100 ?_
    obtain ⟨σ9, eσ9, h⟩ := nm_d h
    refine r_put C hw l_50 vc_9 kX9 tyX9 tyX9_ok nmX9 19 (by decide) (by decide) gw_1033 rfl rfl rfl (put_i l_50 rfl eσ9) dX9_laysOpen_101 (fun H locs hw => ?_)
    obtain ⟨v10, ev10, h⟩ := nm_d h
    refine lv_iinc (v := v10) (lv' := [(3, .int v10), (0, .ref (X.2.1 50)), (1, .int a1), (2, .int a2), (4, .int x4)]) C.1 C.2.1 dX9_laysOpen_104 hl (k := 3) rfl (by rw [ev10]; rfl) (by decide) rfl (fun ls hl => ?_)
    refine lv_goto (tgt := 7) C.1 C.2.1 dX9_laysOpen_107 (by decide) ?_
    exact hk7 σ9 v10 h _ _ hw ls (lv_sub hl [1, 2, 3, 0] rfl)
  have b36 : ∀ (k7 : St → Int32 → Option St) (hk7 : ∀ (σ : St) (x3 : Int32), k7 σ x3 = some σ' → ∀ (H : Heap) (locs : List Loc), At X σ s.heap H locs → ∀ ls : Array Slot, lv_has ls 5 [(0, .ref (X.2.1 50)), (1, .int a1), (2, .int a2), (3, .int x3)] → W p l e (rmX 2 45) s m args below meth c H locs 0 0 (Zq X below s args none σ') (F0 m 7 ls [])), ∀ (n : Nat), ∀ (σ : St) (x3 : Int32) (x4 : Int32), f_X9_laysOpen_b36 a1 a2 k7 n σ x3 x4 = some σ' → ∀ (H : Heap) (locs : List Loc), At X σ s.heap H locs → ∀ ls : Array Slot, lv_has ls 5 [(0, .ref (X.2.1 50)), (1, .int a1), (2, .int a2), (3, .int x3), (4, .int x4)] → W p l e (rmX 2 45) s m args below meth c H locs 0 0 (Zq X below s args none σ') (F0 m 36 ls []) := by
    intro k7 hk7
    intro n
    induction n with
    | zero =>
      intro σ x3 x4 h
      exact no_some h
    | succ n ih =>
      intro σ x3 x4 h H locs hw ls hl
      rw [f_X9_laysOpen_b36] at h
      refine lv_iload C.1 C.2.1 dX9_laysOpen_36 (lv_at hl 4 rfl) ?_
      refine lv_if_le (tgt := 86) C.1 C.2.1 dX9_laysOpen_38 (by decide) (fun c7 => ?_) (fun c7 => ?_)
      · have h := ite_t c7 h
        exact b86 k7 hk7 σ x3 x4 h _ _ hw ls (lv_sub hl [0, 1, 2, 3, 4] rfl)
      · have h := ite_f c7 h
        refine lv_aload_n C.1 C.2.1 dX9_laysOpen_41 rfl (lv_at hl 0 rfl) ?_
        refine lv_aload_n C.1 C.2.1 dX9_laysOpen_42 rfl (lv_at hl 0 rfl) ?_
        refine r_get (v := .ref (X.2.1 55)) C hw l_50 vc_9 kX9 18 rfl (by decide) gw_1032 rfl dX9_laysOpen_43 ?_
        refine lv_iload C.1 C.2.1 dX9_laysOpen_46 (lv_at hl 4 rfl) ?_
        refine lv_iconst (v := 1) C.1 C.2.1 dX9_laysOpen_48 (by decide) ?_
        refine lv_isub C.1 C.2.1 dX9_laysOpen_49 ?_
        obtain ⟨v11, ev11, h⟩ := bnd h
        refine r_ald C hw l_55 ev11 dX9_laysOpen_50 ?_
        refine lv_iconst (v := 2) C.1 C.2.1 dX9_laysOpen_51 (by decide) ?_
        obtain ⟨q12, eq12, h⟩ := bnd h
        refine r_callV (As := [.int v11, .int 2]) C hw (ok_X9_counted X l σ v11 2 _ eq12) l_50 vc_9 gw_1179 gw_1176 gw_1178 gw_88 gw_123 hl.1 pd_X9_counted ⟨Nat.le_of_ble_eq_true rfl, Nat.le_of_ble_eq_true rfl⟩ ⟨Nat.le_refl 0, Nat.le_refl 0⟩ (rest := []) (Nat.le_of_ble_eq_true rfl) dX9_laysOpen_52 rfl (fun H locs hw => ?_)
        refine lv_aload_n C.1 C.2.1 dX9_laysOpen_55 rfl (lv_at hl 0 rfl) ?_
        refine lv_iload_n C.1 C.2.1 dX9_laysOpen_56 rfl (lv_at hl 3 rfl) ?_
        refine lv_iconst (v := 2) C.1 C.2.1 dX9_laysOpen_57 (by decide) ?_
        obtain ⟨q13, eq13, h⟩ := bnd h
        refine r_callV (As := [.int x3, .int 2]) C hw (ok_X9_counted X l σ x3 2 _ eq13) l_50 vc_9 gw_1179 gw_1176 gw_1178 gw_88 gw_123 hl.1 pd_X9_counted ⟨Nat.le_of_ble_eq_true rfl, Nat.le_of_ble_eq_true rfl⟩ ⟨Nat.le_refl 0, Nat.le_refl 0⟩ (rest := [.int q12]) (Nat.le_of_ble_eq_true rfl) dX9_laysOpen_58 rfl (fun H locs hw => ?_)
        refine lv_icmp_le (tgt := 86) C.1 C.2.1 dX9_laysOpen_61 (by decide) (fun c14 => ?_) (fun c14 => ?_)
        · have h := ite_t c14 h
          exact b86 k7 hk7 σ x3 x4 h _ _ hw ls (lv_sub hl [0, 1, 2, 3, 4] rfl)
        · have h := ite_f c14 h
          refine lv_aload_n C.1 C.2.1 dX9_laysOpen_64 rfl (lv_at hl 0 rfl) ?_
          refine r_get (v := .ref (X.2.1 55)) C hw l_50 vc_9 kX9 18 rfl (by decide) gw_1032 rfl dX9_laysOpen_65 ?_
          refine lv_iload C.1 C.2.1 dX9_laysOpen_68 (lv_at hl 4 rfl) ?_
          refine lv_aload_n C.1 C.2.1 dX9_laysOpen_70 rfl (lv_at hl 0 rfl) ?_
          refine r_get (v := .ref (X.2.1 55)) C hw l_50 vc_9 kX9 18 rfl (by decide) gw_1032 rfl dX9_laysOpen_71 ?_
          refine lv_iload C.1 C.2.1 dX9_laysOpen_74 (lv_at hl 4 rfl) ?_
          refine lv_iconst (v := 1) C.1 C.2.1 dX9_laysOpen_76 (by decide) ?_
          refine lv_isub C.1 C.2.1 dX9_laysOpen_77 ?_
          obtain ⟨v15, ev15, h⟩ := bnd h
          refine r_ald C hw l_55 ev15 dX9_laysOpen_78 ?_
          obtain ⟨σ16, eσ16, h⟩ := bnd h
          refine r_ast C hw l_55 eσ16 dX9_laysOpen_79 (fun H locs hw => ?_)
          obtain ⟨v17, ev17, h⟩ := nm_d h
          refine lv_iinc (v := v17) (lv' := [(4, .int v17), (0, .ref (X.2.1 50)), (1, .int a1), (2, .int a2), (3, .int x3)]) C.1 C.2.1 dX9_laysOpen_80 hl (k := 4) rfl (by rw [ev17]; rfl) (by decide) rfl (fun ls hl => ?_)
          refine lv_goto (tgt := 36) C.1 C.2.1 dX9_laysOpen_83 (by decide) ?_
          exact ih σ16 x3 v17 h _ _ hw ls (lv_sub hl [1, 2, 3, 4, 0] rfl)
  have b7 : ∀ (n : Nat), ∀ (σ : St) (x3 : Int32), f_X9_laysOpen_b7 a1 a2 n σ x3 = some σ' → ∀ (H : Heap) (locs : List Loc), At X σ s.heap H locs → ∀ ls : Array Slot, lv_has ls 5 [(0, .ref (X.2.1 50)), (1, .int a1), (2, .int a2), (3, .int x3)] → W p l e (rmX 2 45) s m args below meth c H locs 0 0 (Zq X below s args none σ') (F0 m 7 ls []) := by
    intro n
    induction n with
    | zero =>
      intro σ x3 h
      exact no_some h
    | succ n ih =>
      intro σ x3 h H locs hw ls hl
      rw [f_X9_laysOpen_b7] at h
      refine lv_iload_n C.1 C.2.1 dX9_laysOpen_7 rfl (lv_at hl 3 rfl) ?_
      refine lv_aload_n C.1 C.2.1 dX9_laysOpen_8 rfl (lv_at hl 0 rfl) ?_
      refine r_get (v := .ref (X.2.1 52)) C hw l_50 vc_9 kX9 11 rfl (by decide) gw_1025 rfl dX9_laysOpen_9 ?_
      refine lv_iconst (v := 3) C.1 C.2.1 dX9_laysOpen_12 (by decide) ?_
      obtain ⟨v2, ev2, h⟩ := bnd h
      refine r_ald C hw l_52 ev2 dX9_laysOpen_13 ?_
      refine lv_icmp_ge (tgt := 110) C.1 C.2.1 dX9_laysOpen_14 (by decide) (fun c3 => ?_) (fun c3 => ?_)
      · have h := ite_t c3 h
        exact r_vret C hr hlk hw (Option.some.inj h) dX9_laysOpen_110
      · have h := ite_f c3 h
        refine lv_aload_n C.1 C.2.1 dX9_laysOpen_17 rfl (lv_at hl 0 rfl) ?_
        refine lv_iload_n C.1 C.2.1 dX9_laysOpen_18 rfl (lv_at hl 3 rfl) ?_
        refine lv_iload_n C.1 C.2.1 dX9_laysOpen_19 rfl (lv_at hl 1 rfl) ?_
        refine lv_iload_n C.1 C.2.1 dX9_laysOpen_20 rfl (lv_at hl 2 rfl) ?_
        obtain ⟨q4, eq4, h⟩ := bnd h
        refine r_callV (As := [.int x3, .int a1, .int a2]) C hw (ok_X9_isOpenAt X l σ x3 a1 a2 _ eq4) l_50 vc_9 gw_1308 gw_1305 gw_1307 gw_110 gw_123 hl.1 pd_X9_isOpenAt ⟨Nat.le_of_ble_eq_true rfl, Nat.le_of_ble_eq_true rfl⟩ ⟨Nat.le_refl 0, Nat.le_refl 0⟩ (rest := []) (Nat.le_of_ble_eq_true rfl) dX9_laysOpen_21 rfl (fun H locs hw => ?_)
        refine lv_if_ne (tgt := 30) C.1 C.2.1 dX9_laysOpen_24 (by decide) (fun c5 => ?_) (fun c5 => ?_)
        · have h := ite_f c5 h
          refine lv_aload_n C.1 C.2.1 dX9_laysOpen_30 rfl (lv_at hl 0 rfl) ?_
          refine r_get (v := .int (σ.1 50 19)) C hw l_50 vc_9 kX9 19 rfl (by decide) gw_1033 rfl dX9_laysOpen_31 ?_
          obtain ⟨v6, ev6, h⟩ := nm_d h
          refine lv_nm ev6 ?_
          refine lv_istore (lv' := [(4, .int v6), (0, .ref (X.2.1 50)), (1, .int a1), (2, .int a2), (3, .int x3)]) C.1 C.2.1 dX9_laysOpen_34 hl (by decide) rfl (fun ls hl => ?_)
          exact b36 (fun σ x3 => f_X9_laysOpen_b7 a1 a2 n σ x3) ih 10000 σ x3 v6 h _ _ hw ls (lv_sub hl [1, 2, 3, 4, 0] rfl)
        · have h := ite_t c5 h
          refine lv_goto (tgt := 104) C.1 C.2.1 dX9_laysOpen_27 (by decide) ?_
          obtain ⟨v18, ev18, h⟩ := nm_d h
          refine lv_iinc (v := v18) (lv' := [(3, .int v18), (0, .ref (X.2.1 50)), (1, .int a1), (2, .int a2)]) C.1 C.2.1 dX9_laysOpen_104 hl (k := 3) rfl (by rw [ev18]; rfl) (by decide) rfl (fun ls hl => ?_)
          refine lv_goto (tgt := 7) C.1 C.2.1 dX9_laysOpen_107 (by decide) ?_
          exact ih σ v18 h _ _ hw ls (lv_sub hl [1, 2, 3, 0] rfl)
  rw [f_X9_laysOpen] at h
  refine lv_aload_n C.1 C.2.1 dX9_laysOpen_0 rfl (lv_at hl 0 rfl) ?_
  refine lv_iconst (v := 0) C.1 C.2.1 dX9_laysOpen_1 (by decide) ?_
  obtain ⟨σ1, eσ1, h⟩ := nm_d h
  refine r_put C hw l_50 vc_9 kX9 tyX9 tyX9_ok nmX9 19 (by decide) (by decide) gw_1033 rfl rfl rfl (put_i l_50 rfl eσ1) dX9_laysOpen_2 (fun H locs hw => ?_)
  refine lv_iconst (v := 0) C.1 C.2.1 dX9_laysOpen_5 (by decide) ?_
  refine lv_istore_n (lv' := [(3, .int 0), (0, .ref (X.2.1 50)), (1, .int a1), (2, .int a2)]) C.1 C.2.1 dX9_laysOpen_6 rfl hl (by decide) rfl (fun ls hl => ?_)
  exact b7 10000 σ1 0 h _ _ hw ls (lv_sub hl [1, 2, 3, 0] rfl)
def f_X9_far (σ : St) (a0 : Int32) (a1 : Int32) : Int32 :=
  if a1 ≤ a0 then (a0 - a1) else (a1 - a0)
set_option maxRecDepth 100000 in
set_option maxHeartbeats 4000000 in
theorem ok_X9_far (X : Xc) (l : Launch) (σ : St) (a0 : Int32) (a1 : Int32) (r : Int32) (h : f_X9_far σ a0 a1 = r) : Ok X l yX9_far cX9_far 2 (some .int) 0 0 [.int a0, .int a1] σ (some (.int r)) σ := by
  refine Ok.of (by decide) (Nat.le_of_ble_eq_true rfl) ?_
  intro p e s m args below meth c C hr hlk hw ls hl
  have C : Cx p s m args c X cX9_far 2 "RunningCountModel" := C
  have hl : lv_has ls 2 [(0, .int a0), (1, .int a1)] := hl
  rw [f_X9_far] at h
  refine lv_iload_n C.1 C.2.1 dX9_far_0 rfl (lv_at hl 0 rfl) ?_
  refine lv_iload_n C.1 C.2.1 dX9_far_1 rfl (lv_at hl 1 rfl) ?_
  refine lv_icmp_ge (tgt := 11) C.1 C.2.1 dX9_far_2 (by decide) (fun c1 => ?_) (fun c1 => ?_)
  · have h := ite_t c1 h
    refine lv_iload_n C.1 C.2.1 dX9_far_11 rfl (lv_at hl 0 rfl) ?_
    refine lv_iload_n C.1 C.2.1 dX9_far_12 rfl (lv_at hl 1 rfl) ?_
    refine lv_isub C.1 C.2.1 dX9_far_13 ?_
    exact r_iret C hr hlk hw h rfl dX9_far_14
  · have h := ite_f c1 h
    refine lv_iload_n C.1 C.2.1 dX9_far_5 rfl (lv_at hl 1 rfl) ?_
    refine lv_iload_n C.1 C.2.1 dX9_far_6 rfl (lv_at hl 0 rfl) ?_
    refine lv_isub C.1 C.2.1 dX9_far_7 ?_
    refine lv_goto (tgt := 14) C.1 C.2.1 dX9_far_8 (by decide) ?_
    exact r_iret C hr hlk hw h rfl dX9_far_14
def f_X9_choose_b215 (a1 : Int32) (a2 : Int32) (σ : St) (x3 : Int32) (x4 : Int32) (x5 : Int32) : Option (Int32 × St) :=
  if x4 < x3 then ((rd σ 55 40 ((σ.1 50 19) - 1)).bind fun v21 => some (v21, σ)) else (if x5 < x4 then ((rd σ 55 40 ((σ.1 50 19) - 1)).bind fun v23 => some (v23, σ)) else ((rd σ 55 40 ((σ.1 50 19) - 2)).bind fun v24 => some (v24, σ)))
def f_X9_choose_b202 (a1 : Int32) (a2 : Int32) (σ : St) (x3 : Int32) (x4 : Int32) (x5 : Int32) : Option (Int32 × St) :=
  if x3 < x4 then (f_X9_choose_b215 a1 a2 σ x3 x4 x5) else (if x5 ≤ x4 then ((rd σ 55 40 ((σ.1 50 19) - 2)).bind fun v26 => some (v26, σ)) else (f_X9_choose_b215 a1 a2 σ x3 x4 x5))
def f_X9_choose_b178 (a1 : Int32) (a2 : Int32) (σ : St) (x3 : Int32) (x4 : Int32) (x5 : Int32) : Option (Int32 × St) :=
  if x3 < x4 then (f_X9_choose_b202 a1 a2 σ x3 x4 x5) else (if x5 < x3 then (f_X9_choose_b202 a1 a2 σ x3 x4 x5) else ((rd σ 55 40 ((σ.1 50 19) - 3)).bind fun v28 => some (v28, σ)))
def f_X9_choose (σ : St) (a1 : Int32) (a2 : Int32) : Option (Int32 × St) :=
  (f_X9_laysOpen σ a1 a2).bind fun q1 => if (q1.1 50 19) = 0 then (some ((-1), q1)) else ((rd q1 55 40 0).bind fun v3 => (f_X9_differenceOf q1 v3).bind fun q4 => (rd q1 55 40 0).bind fun v6 => (f_X9_allowed q1 v6).bind fun q7 => if q7 < (f_X9_far q1 q4 0) then (if (q1.1 50 19) = 1 then (some ((-2), q1)) else (if (q1.1 50 19) = 2 then ((rd q1 55 40 0).bind fun v31 => (f_X9_differenceOf q1 v31).bind fun q32 => (rd q1 55 40 1).bind fun v33 => (f_X9_differenceOf q1 v33).bind fun q34 => (rd q1 55 40 1).bind fun v36 => (f_X9_allowed q1 v36).bind fun q37 => if q37 < (f_X9_far q1 q32 q34) then (some ((-2), q1)) else ((rd q1 55 40 1).bind fun v39 => some (v39, q1))) else ((rd q1 55 40 ((q1.1 50 19) - 3)).bind fun v11 => (f_X9_differenceOf q1 v11).bind fun q12 => (rd q1 55 40 ((q1.1 50 19) - 2)).bind fun v13 => (f_X9_differenceOf q1 v13).bind fun q14 => (rd q1 55 40 ((q1.1 50 19) - 1)).bind fun v15 => (f_X9_differenceOf q1 v15).bind fun q16 => if q14 < q12 then (f_X9_choose_b178 a1 a2 q1 q12 q14 q16) else (if q16 ≤ q12 then ((rd q1 55 40 ((q1.1 50 19) - 3)).bind fun v30 => some (v30, q1)) else (f_X9_choose_b178 a1 a2 q1 q12 q14 q16))))) else ((rd q1 55 40 0).bind fun v40 => some (v40, q1)))
set_option maxRecDepth 100000 in
set_option maxHeartbeats 4000000 in
theorem ok_X9_choose (X : Xc) (l : Launch) (σ : St) (a1 : Int32) (a2 : Int32) (r : Int32) (σ' : St) (h : f_X9_choose σ a1 a2 = some (r, σ')) : Ok X l yX9_choose cX9_choose 6 (some .int) 6 142 [.ref (X.2.1 50), .int a1, .int a2] σ (some (.int r)) σ' := by
  refine Ok.of (by decide) (Nat.le_of_ble_eq_true rfl) ?_
  intro p e s m args below meth c C hr hlk hw ls hl
  have C : Cx p s m args c X cX9_choose 6 "RunningCountModel" := C
  have hl : lv_has ls 6 [(0, .ref (X.2.1 50)), (1, .int a1), (2, .int a2)] := hl
  have b215 : ∀ (σ : St) (x3 : Int32) (x4 : Int32) (x5 : Int32), f_X9_choose_b215 a1 a2 σ x3 x4 x5 = some (r, σ') → ∀ (H : Heap) (locs : List Loc), At X σ s.heap H locs → ∀ ls : Array Slot, lv_has ls 6 [(0, .ref (X.2.1 50)), (3, .int x3), (4, .int x4), (5, .int x5)] → W p l e (rmX 6 142) s m args below meth c H locs 0 0 (Zq X below s args (some (.int r)) σ') (F0 m 215 ls []) := by
    intro σ x3 x4 x5 h H locs hw ls hl
    rw [f_X9_choose_b215] at h
    refine lv_iload C.1 C.2.1 dX9_choose_215 (lv_at hl 2 rfl) ?_
    refine lv_iload_n C.1 C.2.1 dX9_choose_217 rfl (lv_at hl 1 rfl) ?_
    refine lv_icmp_lt (tgt := 242) C.1 C.2.1 dX9_choose_218 (by decide) (fun c20 => ?_) (fun c20 => ?_)
    · have h := ite_t c20 h
      refine lv_aload_n C.1 C.2.1 dX9_choose_242 rfl (lv_at hl 0 rfl) ?_
      refine r_get (v := .ref (X.2.1 55)) C hw l_50 vc_9 kX9 18 rfl (by decide) gw_1032 rfl dX9_choose_243 ?_
      refine lv_aload_n C.1 C.2.1 dX9_choose_246 rfl (lv_at hl 0 rfl) ?_
      refine r_get (v := .int (σ.1 50 19)) C hw l_50 vc_9 kX9 19 rfl (by decide) gw_1033 rfl dX9_choose_247 ?_
      refine lv_iconst (v := 1) C.1 C.2.1 dX9_choose_250 (by decide) ?_
      refine lv_isub C.1 C.2.1 dX9_choose_251 ?_
      obtain ⟨v21, ev21, h⟩ := bnd h
      refine r_ald C hw l_55 ev21 dX9_choose_252 ?_
      exact r_iret C hr hlk hw (Prod.mk.inj (Option.some.inj h)).1 (Prod.mk.inj (Option.some.inj h)).2 dX9_choose_253
    · have h := ite_f c20 h
      refine lv_iload C.1 C.2.1 dX9_choose_221 (lv_at hl 2 rfl) ?_
      refine lv_iload C.1 C.2.1 dX9_choose_223 (lv_at hl 3 rfl) ?_
      refine lv_icmp_gt (tgt := 242) C.1 C.2.1 dX9_choose_225 (by decide) (fun c22 => ?_) (fun c22 => ?_)
      · have h := ite_t c22 h
        refine lv_aload_n C.1 C.2.1 dX9_choose_242 rfl (lv_at hl 0 rfl) ?_
        refine r_get (v := .ref (X.2.1 55)) C hw l_50 vc_9 kX9 18 rfl (by decide) gw_1032 rfl dX9_choose_243 ?_
        refine lv_aload_n C.1 C.2.1 dX9_choose_246 rfl (lv_at hl 0 rfl) ?_
        refine r_get (v := .int (σ.1 50 19)) C hw l_50 vc_9 kX9 19 rfl (by decide) gw_1033 rfl dX9_choose_247 ?_
        refine lv_iconst (v := 1) C.1 C.2.1 dX9_choose_250 (by decide) ?_
        refine lv_isub C.1 C.2.1 dX9_choose_251 ?_
        obtain ⟨v23, ev23, h⟩ := bnd h
        refine r_ald C hw l_55 ev23 dX9_choose_252 ?_
        exact r_iret C hr hlk hw (Prod.mk.inj (Option.some.inj h)).1 (Prod.mk.inj (Option.some.inj h)).2 dX9_choose_253
      · have h := ite_f c22 h
        refine lv_aload_n C.1 C.2.1 dX9_choose_228 rfl (lv_at hl 0 rfl) ?_
        refine r_get (v := .ref (X.2.1 55)) C hw l_50 vc_9 kX9 18 rfl (by decide) gw_1032 rfl dX9_choose_229 ?_
        refine lv_aload_n C.1 C.2.1 dX9_choose_232 rfl (lv_at hl 0 rfl) ?_
        refine r_get (v := .int (σ.1 50 19)) C hw l_50 vc_9 kX9 19 rfl (by decide) gw_1033 rfl dX9_choose_233 ?_
        refine lv_iconst (v := 2) C.1 C.2.1 dX9_choose_236 (by decide) ?_
        refine lv_isub C.1 C.2.1 dX9_choose_237 ?_
        obtain ⟨v24, ev24, h⟩ := bnd h
        refine r_ald C hw l_55 ev24 dX9_choose_238 ?_
        refine lv_goto (tgt := 253) C.1 C.2.1 dX9_choose_239 (by decide) ?_
        exact r_iret C hr hlk hw (Prod.mk.inj (Option.some.inj h)).1 (Prod.mk.inj (Option.some.inj h)).2 dX9_choose_253
  have b202 : ∀ (σ : St) (x3 : Int32) (x4 : Int32) (x5 : Int32), f_X9_choose_b202 a1 a2 σ x3 x4 x5 = some (r, σ') → ∀ (H : Heap) (locs : List Loc), At X σ s.heap H locs → ∀ ls : Array Slot, lv_has ls 6 [(0, .ref (X.2.1 50)), (3, .int x3), (4, .int x4), (5, .int x5)] → W p l e (rmX 6 142) s m args below meth c H locs 0 0 (Zq X below s args (some (.int r)) σ') (F0 m 202 ls []) := by
    intro σ x3 x4 x5 h H locs hw ls hl
    rw [f_X9_choose_b202] at h
    refine lv_iload C.1 C.2.1 dX9_choose_202 (lv_at hl 2 rfl) ?_
    refine lv_iload_n C.1 C.2.1 dX9_choose_204 rfl (lv_at hl 1 rfl) ?_
    refine lv_icmp_gt (tgt := 215) C.1 C.2.1 dX9_choose_205 (by decide) (fun c19 => ?_) (fun c19 => ?_)
    · have h := ite_t c19 h
      exact b215 σ x3 x4 x5 h _ _ hw ls (lv_sub hl [0, 1, 2, 3] rfl)
    · have h := ite_f c19 h
      refine lv_iload C.1 C.2.1 dX9_choose_208 (lv_at hl 2 rfl) ?_
      refine lv_iload C.1 C.2.1 dX9_choose_210 (lv_at hl 3 rfl) ?_
      refine lv_icmp_ge (tgt := 228) C.1 C.2.1 dX9_choose_212 (by decide) (fun c25 => ?_) (fun c25 => ?_)
      · have h := ite_t c25 h
        refine lv_aload_n C.1 C.2.1 dX9_choose_228 rfl (lv_at hl 0 rfl) ?_
        refine r_get (v := .ref (X.2.1 55)) C hw l_50 vc_9 kX9 18 rfl (by decide) gw_1032 rfl dX9_choose_229 ?_
        refine lv_aload_n C.1 C.2.1 dX9_choose_232 rfl (lv_at hl 0 rfl) ?_
        refine r_get (v := .int (σ.1 50 19)) C hw l_50 vc_9 kX9 19 rfl (by decide) gw_1033 rfl dX9_choose_233 ?_
        refine lv_iconst (v := 2) C.1 C.2.1 dX9_choose_236 (by decide) ?_
        refine lv_isub C.1 C.2.1 dX9_choose_237 ?_
        obtain ⟨v26, ev26, h⟩ := bnd h
        refine r_ald C hw l_55 ev26 dX9_choose_238 ?_
        refine lv_goto (tgt := 253) C.1 C.2.1 dX9_choose_239 (by decide) ?_
        exact r_iret C hr hlk hw (Prod.mk.inj (Option.some.inj h)).1 (Prod.mk.inj (Option.some.inj h)).2 dX9_choose_253
      · have h := ite_f c25 h
        exact b215 σ x3 x4 x5 h _ _ hw ls (lv_sub hl [0, 1, 2, 3] rfl)
  have b178 : ∀ (σ : St) (x3 : Int32) (x4 : Int32) (x5 : Int32), f_X9_choose_b178 a1 a2 σ x3 x4 x5 = some (r, σ') → ∀ (H : Heap) (locs : List Loc), At X σ s.heap H locs → ∀ ls : Array Slot, lv_has ls 6 [(0, .ref (X.2.1 50)), (3, .int x3), (4, .int x4), (5, .int x5)] → W p l e (rmX 6 142) s m args below meth c H locs 0 0 (Zq X below s args (some (.int r)) σ') (F0 m 178 ls []) := by
    intro σ x3 x4 x5 h H locs hw ls hl
    rw [f_X9_choose_b178] at h
    refine lv_iload_n C.1 C.2.1 dX9_choose_178 rfl (lv_at hl 1 rfl) ?_
    refine lv_iload C.1 C.2.1 dX9_choose_179 (lv_at hl 2 rfl) ?_
    refine lv_icmp_lt (tgt := 202) C.1 C.2.1 dX9_choose_181 (by decide) (fun c18 => ?_) (fun c18 => ?_)
    · have h := ite_t c18 h
      exact b202 σ x3 x4 x5 h _ _ hw ls (lv_sub hl [0, 1, 2, 3] rfl)
    · have h := ite_f c18 h
      refine lv_iload_n C.1 C.2.1 dX9_choose_184 rfl (lv_at hl 1 rfl) ?_
      refine lv_iload C.1 C.2.1 dX9_choose_185 (lv_at hl 3 rfl) ?_
      refine lv_icmp_gt (tgt := 202) C.1 C.2.1 dX9_choose_187 (by decide) (fun c27 => ?_) (fun c27 => ?_)
      · have h := ite_t c27 h
        exact b202 σ x3 x4 x5 h _ _ hw ls (lv_sub hl [0, 1, 2, 3] rfl)
      · have h := ite_f c27 h
        refine lv_aload_n C.1 C.2.1 dX9_choose_190 rfl (lv_at hl 0 rfl) ?_
        refine r_get (v := .ref (X.2.1 55)) C hw l_50 vc_9 kX9 18 rfl (by decide) gw_1032 rfl dX9_choose_191 ?_
        refine lv_aload_n C.1 C.2.1 dX9_choose_194 rfl (lv_at hl 0 rfl) ?_
        refine r_get (v := .int (σ.1 50 19)) C hw l_50 vc_9 kX9 19 rfl (by decide) gw_1033 rfl dX9_choose_195 ?_
        refine lv_iconst (v := 3) C.1 C.2.1 dX9_choose_198 (by decide) ?_
        refine lv_isub C.1 C.2.1 dX9_choose_199 ?_
        obtain ⟨v28, ev28, h⟩ := bnd h
        refine r_ald C hw l_55 ev28 dX9_choose_200 ?_
        exact r_iret C hr hlk hw (Prod.mk.inj (Option.some.inj h)).1 (Prod.mk.inj (Option.some.inj h)).2 dX9_choose_201
  rw [f_X9_choose] at h
  refine lv_aload_n C.1 C.2.1 dX9_choose_0 rfl (lv_at hl 0 rfl) ?_
  refine lv_iload_n C.1 C.2.1 dX9_choose_1 rfl (lv_at hl 1 rfl) ?_
  refine lv_iload_n C.1 C.2.1 dX9_choose_2 rfl (lv_at hl 2 rfl) ?_
  obtain ⟨q1, eq1, h⟩ := bnd h
  refine r_callV (As := [.int a1, .int a2]) C hw (ok_X9_laysOpen X l σ a1 a2 _ eq1) l_50 vc_9 gw_1304 gw_1301 gw_1303 gw_109 gw_123 hl.1 pd_X9_laysOpen ⟨Nat.le_of_ble_eq_true rfl, Nat.le_of_ble_eq_true rfl⟩ ⟨Nat.le_refl 0, Nat.le_refl 0⟩ (rest := []) (Nat.le_of_ble_eq_true rfl) dX9_choose_3 rfl (fun H locs hw => ?_)
  refine lv_aload_n C.1 C.2.1 dX9_choose_6 rfl (lv_at hl 0 rfl) ?_
  refine r_get (v := .int (q1.1 50 19)) C hw l_50 vc_9 kX9 19 rfl (by decide) gw_1033 rfl dX9_choose_7 ?_
  refine lv_if_ne (tgt := 15) C.1 C.2.1 dX9_choose_10 (by decide) (fun c2 => ?_) (fun c2 => ?_)
  · have h := ite_f c2 h
    refine lv_aload_n C.1 C.2.1 dX9_choose_15 rfl (lv_at hl 0 rfl) ?_
    refine lv_aload_n C.1 C.2.1 dX9_choose_16 rfl (lv_at hl 0 rfl) ?_
    refine r_get (v := .ref (X.2.1 55)) C hw l_50 vc_9 kX9 18 rfl (by decide) gw_1032 rfl dX9_choose_17 ?_
    refine lv_iconst (v := 0) C.1 C.2.1 dX9_choose_20 (by decide) ?_
    obtain ⟨v3, ev3, h⟩ := bnd h
    refine r_ald C hw l_55 ev3 dX9_choose_21 ?_
    obtain ⟨q4, eq4, h⟩ := bnd h
    refine r_callV (As := [.int v3]) C hw (ok_X9_differenceOf X l q1 v3 _ eq4) l_50 vc_9 gw_1287 gw_1284 gw_1286 gw_107 gw_123 hl.1 pd_X9_differenceOf ⟨Nat.le_of_ble_eq_true rfl, Nat.le_of_ble_eq_true rfl⟩ ⟨Nat.le_refl 0, Nat.le_refl 0⟩ (rest := []) (Nat.le_of_ble_eq_true rfl) dX9_choose_22 rfl (fun H locs hw => ?_)
    refine lv_iconst (v := 0) C.1 C.2.1 dX9_choose_25 (by decide) ?_
    refine r_callS (As := [.int q4, .int 0]) C hw (ok_X9_far X l q1 q4 0 _ rfl) gw_1311 gw_1309 gw_1310 gw_123 hl.1 pd_X9_far ⟨Nat.le_of_ble_eq_true rfl, Nat.le_of_ble_eq_true rfl⟩ ⟨Nat.le_refl 0, Nat.le_refl 0⟩ (rest := []) (Nat.le_of_ble_eq_true rfl) dX9_choose_26 rfl (fun H locs hw => ?_)
    refine lv_aload_n C.1 C.2.1 dX9_choose_29 rfl (lv_at hl 0 rfl) ?_
    refine lv_aload_n C.1 C.2.1 dX9_choose_30 rfl (lv_at hl 0 rfl) ?_
    refine r_get (v := .ref (X.2.1 55)) C hw l_50 vc_9 kX9 18 rfl (by decide) gw_1032 rfl dX9_choose_31 ?_
    refine lv_iconst (v := 0) C.1 C.2.1 dX9_choose_34 (by decide) ?_
    obtain ⟨v6, ev6, h⟩ := bnd h
    refine r_ald C hw l_55 ev6 dX9_choose_35 ?_
    obtain ⟨q7, eq7, h⟩ := bnd h
    refine r_callV (As := [.int v6]) C hw (ok_X9_allowed X l q1 v6 _ eq7) l_50 vc_9 gw_1275 gw_1272 gw_1274 gw_105 gw_123 hl.1 pd_X9_allowed ⟨Nat.le_of_ble_eq_true rfl, Nat.le_of_ble_eq_true rfl⟩ ⟨Nat.le_refl 0, Nat.le_refl 0⟩ (rest := [.int (f_X9_far q1 q4 0)]) (Nat.le_of_ble_eq_true rfl) dX9_choose_36 rfl (fun H locs hw => ?_)
    refine lv_icmp_gt (tgt := 49) C.1 C.2.1 dX9_choose_39 (by decide) (fun c8 => ?_) (fun c8 => ?_)
    · have h := ite_t c8 h
      refine lv_aload_n C.1 C.2.1 dX9_choose_49 rfl (lv_at hl 0 rfl) ?_
      refine r_get (v := .int (q1.1 50 19)) C hw l_50 vc_9 kX9 19 rfl (by decide) gw_1033 rfl dX9_choose_50 ?_
      refine lv_iconst (v := 1) C.1 C.2.1 dX9_choose_53 (by decide) ?_
      refine lv_icmp_ne (tgt := 60) C.1 C.2.1 dX9_choose_54 (by decide) (fun c9 => ?_) (fun c9 => ?_)
      · have h := ite_f c9 h
        refine lv_aload_n C.1 C.2.1 dX9_choose_60 rfl (lv_at hl 0 rfl) ?_
        refine r_get (v := .int (q1.1 50 19)) C hw l_50 vc_9 kX9 19 rfl (by decide) gw_1033 rfl dX9_choose_61 ?_
        refine lv_iconst (v := 2) C.1 C.2.1 dX9_choose_64 (by decide) ?_
        refine lv_icmp_ne (tgt := 116) C.1 C.2.1 dX9_choose_65 (by decide) (fun c10 => ?_) (fun c10 => ?_)
        · have h := ite_f c10 h
          refine lv_aload_n C.1 C.2.1 dX9_choose_116 rfl (lv_at hl 0 rfl) ?_
          refine lv_aload_n C.1 C.2.1 dX9_choose_117 rfl (lv_at hl 0 rfl) ?_
          refine r_get (v := .ref (X.2.1 55)) C hw l_50 vc_9 kX9 18 rfl (by decide) gw_1032 rfl dX9_choose_118 ?_
          refine lv_aload_n C.1 C.2.1 dX9_choose_121 rfl (lv_at hl 0 rfl) ?_
          refine r_get (v := .int (q1.1 50 19)) C hw l_50 vc_9 kX9 19 rfl (by decide) gw_1033 rfl dX9_choose_122 ?_
          refine lv_iconst (v := 3) C.1 C.2.1 dX9_choose_125 (by decide) ?_
          refine lv_isub C.1 C.2.1 dX9_choose_126 ?_
          obtain ⟨v11, ev11, h⟩ := bnd h
          refine r_ald C hw l_55 ev11 dX9_choose_127 ?_
          obtain ⟨q12, eq12, h⟩ := bnd h
          refine r_callV (As := [.int v11]) C hw (ok_X9_differenceOf X l q1 v11 _ eq12) l_50 vc_9 gw_1287 gw_1284 gw_1286 gw_107 gw_123 hl.1 pd_X9_differenceOf ⟨Nat.le_of_ble_eq_true rfl, Nat.le_of_ble_eq_true rfl⟩ ⟨Nat.le_refl 0, Nat.le_refl 0⟩ (rest := []) (Nat.le_of_ble_eq_true rfl) dX9_choose_128 rfl (fun H locs hw => ?_)
          refine lv_istore_n (lv' := [(3, .int q12), (0, .ref (X.2.1 50)), (1, .int a1), (2, .int a2)]) C.1 C.2.1 dX9_choose_131 rfl hl (by decide) rfl (fun ls hl => ?_)
          refine lv_aload_n C.1 C.2.1 dX9_choose_132 rfl (lv_at hl 1 rfl) ?_
          refine lv_aload_n C.1 C.2.1 dX9_choose_133 rfl (lv_at hl 1 rfl) ?_
          refine r_get (v := .ref (X.2.1 55)) C hw l_50 vc_9 kX9 18 rfl (by decide) gw_1032 rfl dX9_choose_134 ?_
          refine lv_aload_n C.1 C.2.1 dX9_choose_137 rfl (lv_at hl 1 rfl) ?_
          refine r_get (v := .int (q1.1 50 19)) C hw l_50 vc_9 kX9 19 rfl (by decide) gw_1033 rfl dX9_choose_138 ?_
          refine lv_iconst (v := 2) C.1 C.2.1 dX9_choose_141 (by decide) ?_
          refine lv_isub C.1 C.2.1 dX9_choose_142 ?_
          obtain ⟨v13, ev13, h⟩ := bnd h
          refine r_ald C hw l_55 ev13 dX9_choose_143 ?_
          obtain ⟨q14, eq14, h⟩ := bnd h
          refine r_callV (As := [.int v13]) C hw (ok_X9_differenceOf X l q1 v13 _ eq14) l_50 vc_9 gw_1287 gw_1284 gw_1286 gw_107 gw_123 hl.1 pd_X9_differenceOf ⟨Nat.le_of_ble_eq_true rfl, Nat.le_of_ble_eq_true rfl⟩ ⟨Nat.le_refl 0, Nat.le_refl 0⟩ (rest := []) (Nat.le_of_ble_eq_true rfl) dX9_choose_144 rfl (fun H locs hw => ?_)
          refine lv_istore (lv' := [(4, .int q14), (3, .int q12), (0, .ref (X.2.1 50)), (1, .int a1), (2, .int a2)]) C.1 C.2.1 dX9_choose_147 hl (by decide) rfl (fun ls hl => ?_)
          refine lv_aload_n C.1 C.2.1 dX9_choose_149 rfl (lv_at hl 2 rfl) ?_
          refine lv_aload_n C.1 C.2.1 dX9_choose_150 rfl (lv_at hl 2 rfl) ?_
          refine r_get (v := .ref (X.2.1 55)) C hw l_50 vc_9 kX9 18 rfl (by decide) gw_1032 rfl dX9_choose_151 ?_
          refine lv_aload_n C.1 C.2.1 dX9_choose_154 rfl (lv_at hl 2 rfl) ?_
          refine r_get (v := .int (q1.1 50 19)) C hw l_50 vc_9 kX9 19 rfl (by decide) gw_1033 rfl dX9_choose_155 ?_
          refine lv_iconst (v := 1) C.1 C.2.1 dX9_choose_158 (by decide) ?_
          refine lv_isub C.1 C.2.1 dX9_choose_159 ?_
          obtain ⟨v15, ev15, h⟩ := bnd h
          refine r_ald C hw l_55 ev15 dX9_choose_160 ?_
          obtain ⟨q16, eq16, h⟩ := bnd h
          refine r_callV (As := [.int v15]) C hw (ok_X9_differenceOf X l q1 v15 _ eq16) l_50 vc_9 gw_1287 gw_1284 gw_1286 gw_107 gw_123 hl.1 pd_X9_differenceOf ⟨Nat.le_of_ble_eq_true rfl, Nat.le_of_ble_eq_true rfl⟩ ⟨Nat.le_refl 0, Nat.le_refl 0⟩ (rest := []) (Nat.le_of_ble_eq_true rfl) dX9_choose_161 rfl (fun H locs hw => ?_)
          refine lv_istore (lv' := [(5, .int q16), (4, .int q14), (3, .int q12), (0, .ref (X.2.1 50)), (1, .int a1), (2, .int a2)]) C.1 C.2.1 dX9_choose_164 hl (by decide) rfl (fun ls hl => ?_)
          refine lv_iload_n C.1 C.2.1 dX9_choose_166 rfl (lv_at hl 2 rfl) ?_
          refine lv_iload C.1 C.2.1 dX9_choose_167 (lv_at hl 1 rfl) ?_
          refine lv_icmp_gt (tgt := 178) C.1 C.2.1 dX9_choose_169 (by decide) (fun c17 => ?_) (fun c17 => ?_)
          · have h := ite_t c17 h
            exact b178 q1 q12 q14 q16 h _ _ hw ls (lv_sub hl [3, 2, 1, 0] rfl)
          · have h := ite_f c17 h
            refine lv_iload_n C.1 C.2.1 dX9_choose_172 rfl (lv_at hl 2 rfl) ?_
            refine lv_iload C.1 C.2.1 dX9_choose_173 (lv_at hl 0 rfl) ?_
            refine lv_icmp_ge (tgt := 190) C.1 C.2.1 dX9_choose_175 (by decide) (fun c29 => ?_) (fun c29 => ?_)
            · have h := ite_t c29 h
              refine lv_aload_n C.1 C.2.1 dX9_choose_190 rfl (lv_at hl 3 rfl) ?_
              refine r_get (v := .ref (X.2.1 55)) C hw l_50 vc_9 kX9 18 rfl (by decide) gw_1032 rfl dX9_choose_191 ?_
              refine lv_aload_n C.1 C.2.1 dX9_choose_194 rfl (lv_at hl 3 rfl) ?_
              refine r_get (v := .int (q1.1 50 19)) C hw l_50 vc_9 kX9 19 rfl (by decide) gw_1033 rfl dX9_choose_195 ?_
              refine lv_iconst (v := 3) C.1 C.2.1 dX9_choose_198 (by decide) ?_
              refine lv_isub C.1 C.2.1 dX9_choose_199 ?_
              obtain ⟨v30, ev30, h⟩ := bnd h
              refine r_ald C hw l_55 ev30 dX9_choose_200 ?_
              exact r_iret C hr hlk hw (Prod.mk.inj (Option.some.inj h)).1 (Prod.mk.inj (Option.some.inj h)).2 dX9_choose_201
            · have h := ite_f c29 h
              exact b178 q1 q12 q14 q16 h _ _ hw ls (lv_sub hl [3, 2, 1, 0] rfl)
        · have h := ite_t c10 h
          refine lv_aload_n C.1 C.2.1 dX9_choose_68 rfl (lv_at hl 0 rfl) ?_
          refine lv_aload_n C.1 C.2.1 dX9_choose_69 rfl (lv_at hl 0 rfl) ?_
          refine r_get (v := .ref (X.2.1 55)) C hw l_50 vc_9 kX9 18 rfl (by decide) gw_1032 rfl dX9_choose_70 ?_
          refine lv_iconst (v := 0) C.1 C.2.1 dX9_choose_73 (by decide) ?_
          obtain ⟨v31, ev31, h⟩ := bnd h
          refine r_ald C hw l_55 ev31 dX9_choose_74 ?_
          obtain ⟨q32, eq32, h⟩ := bnd h
          refine r_callV (As := [.int v31]) C hw (ok_X9_differenceOf X l q1 v31 _ eq32) l_50 vc_9 gw_1287 gw_1284 gw_1286 gw_107 gw_123 hl.1 pd_X9_differenceOf ⟨Nat.le_of_ble_eq_true rfl, Nat.le_of_ble_eq_true rfl⟩ ⟨Nat.le_refl 0, Nat.le_refl 0⟩ (rest := []) (Nat.le_of_ble_eq_true rfl) dX9_choose_75 rfl (fun H locs hw => ?_)
          refine lv_aload_n C.1 C.2.1 dX9_choose_78 rfl (lv_at hl 0 rfl) ?_
          refine lv_aload_n C.1 C.2.1 dX9_choose_79 rfl (lv_at hl 0 rfl) ?_
          refine r_get (v := .ref (X.2.1 55)) C hw l_50 vc_9 kX9 18 rfl (by decide) gw_1032 rfl dX9_choose_80 ?_
          refine lv_iconst (v := 1) C.1 C.2.1 dX9_choose_83 (by decide) ?_
          obtain ⟨v33, ev33, h⟩ := bnd h
          refine r_ald C hw l_55 ev33 dX9_choose_84 ?_
          obtain ⟨q34, eq34, h⟩ := bnd h
          refine r_callV (As := [.int v33]) C hw (ok_X9_differenceOf X l q1 v33 _ eq34) l_50 vc_9 gw_1287 gw_1284 gw_1286 gw_107 gw_123 hl.1 pd_X9_differenceOf ⟨Nat.le_of_ble_eq_true rfl, Nat.le_of_ble_eq_true rfl⟩ ⟨Nat.le_refl 0, Nat.le_refl 0⟩ (rest := [.int q32]) (Nat.le_of_ble_eq_true rfl) dX9_choose_85 rfl (fun H locs hw => ?_)
          refine r_callS (As := [.int q32, .int q34]) C hw (ok_X9_far X l q1 q32 q34 _ rfl) gw_1311 gw_1309 gw_1310 gw_123 hl.1 pd_X9_far ⟨Nat.le_of_ble_eq_true rfl, Nat.le_of_ble_eq_true rfl⟩ ⟨Nat.le_refl 0, Nat.le_refl 0⟩ (rest := []) (Nat.le_of_ble_eq_true rfl) dX9_choose_88 rfl (fun H locs hw => ?_)
          refine lv_aload_n C.1 C.2.1 dX9_choose_91 rfl (lv_at hl 0 rfl) ?_
          refine lv_aload_n C.1 C.2.1 dX9_choose_92 rfl (lv_at hl 0 rfl) ?_
          refine r_get (v := .ref (X.2.1 55)) C hw l_50 vc_9 kX9 18 rfl (by decide) gw_1032 rfl dX9_choose_93 ?_
          refine lv_iconst (v := 1) C.1 C.2.1 dX9_choose_96 (by decide) ?_
          obtain ⟨v36, ev36, h⟩ := bnd h
          refine r_ald C hw l_55 ev36 dX9_choose_97 ?_
          obtain ⟨q37, eq37, h⟩ := bnd h
          refine r_callV (As := [.int v36]) C hw (ok_X9_allowed X l q1 v36 _ eq37) l_50 vc_9 gw_1275 gw_1272 gw_1274 gw_105 gw_123 hl.1 pd_X9_allowed ⟨Nat.le_of_ble_eq_true rfl, Nat.le_of_ble_eq_true rfl⟩ ⟨Nat.le_refl 0, Nat.le_refl 0⟩ (rest := [.int (f_X9_far q1 q32 q34)]) (Nat.le_of_ble_eq_true rfl) dX9_choose_98 rfl (fun H locs hw => ?_)
          refine lv_icmp_gt (tgt := 113) C.1 C.2.1 dX9_choose_101 (by decide) (fun c38 => ?_) (fun c38 => ?_)
          · have h := ite_t c38 h
            refine lv_bipush (v := (-2)) C.1 C.2.1 dX9_choose_113 (by decide) ?_
            exact r_iret C hr hlk hw (Prod.mk.inj (Option.some.inj h)).1 (Prod.mk.inj (Option.some.inj h)).2 dX9_choose_115
          · have h := ite_f c38 h
            refine lv_aload_n C.1 C.2.1 dX9_choose_104 rfl (lv_at hl 0 rfl) ?_
            refine r_get (v := .ref (X.2.1 55)) C hw l_50 vc_9 kX9 18 rfl (by decide) gw_1032 rfl dX9_choose_105 ?_
            refine lv_iconst (v := 1) C.1 C.2.1 dX9_choose_108 (by decide) ?_
            obtain ⟨v39, ev39, h⟩ := bnd h
            refine r_ald C hw l_55 ev39 dX9_choose_109 ?_
            refine lv_goto (tgt := 115) C.1 C.2.1 dX9_choose_110 (by decide) ?_
            exact r_iret C hr hlk hw (Prod.mk.inj (Option.some.inj h)).1 (Prod.mk.inj (Option.some.inj h)).2 dX9_choose_115
      · have h := ite_t c9 h
        refine lv_bipush (v := (-2)) C.1 C.2.1 dX9_choose_57 (by decide) ?_
        exact r_iret C hr hlk hw (Prod.mk.inj (Option.some.inj h)).1 (Prod.mk.inj (Option.some.inj h)).2 dX9_choose_59
    · have h := ite_f c8 h
      refine lv_aload_n C.1 C.2.1 dX9_choose_42 rfl (lv_at hl 0 rfl) ?_
      refine r_get (v := .ref (X.2.1 55)) C hw l_50 vc_9 kX9 18 rfl (by decide) gw_1032 rfl dX9_choose_43 ?_
      refine lv_iconst (v := 0) C.1 C.2.1 dX9_choose_46 (by decide) ?_
      obtain ⟨v40, ev40, h⟩ := bnd h
      refine r_ald C hw l_55 ev40 dX9_choose_47 ?_
      exact r_iret C hr hlk hw (Prod.mk.inj (Option.some.inj h)).1 (Prod.mk.inj (Option.some.inj h)).2 dX9_choose_48
  · have h := ite_t c2 h
    refine lv_iconst (v := (-1)) C.1 C.2.1 dX9_choose_13 (by decide) ?_
    exact r_iret C hr hlk hw (Prod.mk.inj (Option.some.inj h)).1 (Prod.mk.inj (Option.some.inj h)).2 dX9_choose_14
def f_X9_chosen (σ : St) (a1 : Int32) (a2 : Int32) : Option (Int32 × St) :=
  nm (upI σ 50 0 0) fun σ1 => (f_X9_isShelf σ1 a1).bind fun q2 => if (b2i q2) = 0 then (some ((-1), σ1)) else ((f_X9_isItem σ1 a2).bind fun q4 => if (b2i q4) = 0 then (some ((-1), σ1)) else ((f_X9_choose σ1 a1 a2).bind fun q6 => some (q6.1, q6.2)))
set_option maxRecDepth 100000 in
set_option maxHeartbeats 4000000 in
theorem ok_X9_chosen (X : Xc) (l : Launch) (σ : St) (a1 : Int32) (a2 : Int32) (r : Int32) (σ' : St) (h : f_X9_chosen σ a1 a2 = some (r, σ')) : Ok X l yX9_chosen cX9_chosen 3 (some .int) 7 167 [.ref (X.2.1 50), .int a1, .int a2] σ (some (.int r)) σ' := by
  refine Ok.of (by decide) (Nat.le_of_ble_eq_true rfl) ?_
  intro p e s m args below meth c C hr hlk hw ls hl
  have C : Cx p s m args c X cX9_chosen 3 "RunningCountModel" := C
  have hl : lv_has ls 3 [(0, .ref (X.2.1 50)), (1, .int a1), (2, .int a2)] := hl
  rw [f_X9_chosen] at h
  refine lv_aload_n C.1 C.2.1 dX9_chosen_0 rfl (lv_at hl 0 rfl) ?_
  refine lv_iconst (v := 0) C.1 C.2.1 dX9_chosen_1 (by decide) ?_
  obtain ⟨σ1, eσ1, h⟩ := nm_d h
  refine r_put C hw l_50 vc_9 kX9 tyX9 tyX9_ok nmX9 0 (by decide) (by decide) gw_1014 rfl rfl rfl (put_i l_50 rfl eσ1) dX9_chosen_2 (fun H locs hw => ?_)
  refine lv_aload_n C.1 C.2.1 dX9_chosen_5 rfl (lv_at hl 0 rfl) ?_
  refine lv_iload_n C.1 C.2.1 dX9_chosen_6 rfl (lv_at hl 1 rfl) ?_
  obtain ⟨q2, eq2, h⟩ := bnd h
  refine r_callV (As := [.int a1]) C hw (ok_X9_isShelf X l σ1 a1 _ eq2) l_50 vc_9 gw_1219 gw_1216 gw_1218 gw_95 gw_123 hl.1 pd_X9_isShelf ⟨Nat.le_of_ble_eq_true rfl, Nat.le_of_ble_eq_true rfl⟩ ⟨Nat.le_refl 0, Nat.le_refl 0⟩ (rest := []) (Nat.le_of_ble_eq_true rfl) dX9_chosen_7 rfl (fun H locs hw => ?_)
  refine lv_if_eq (tgt := 30) C.1 C.2.1 dX9_chosen_10 (by decide) (fun c3 => ?_) (fun c3 => ?_)
  · have h := ite_t c3 h
    refine lv_iconst (v := (-1)) C.1 C.2.1 dX9_chosen_30 (by decide) ?_
    exact r_iret C hr hlk hw (Prod.mk.inj (Option.some.inj h)).1 (Prod.mk.inj (Option.some.inj h)).2 dX9_chosen_31
  · have h := ite_f c3 h
    refine lv_aload_n C.1 C.2.1 dX9_chosen_13 rfl (lv_at hl 0 rfl) ?_
    refine lv_iload_n C.1 C.2.1 dX9_chosen_14 rfl (lv_at hl 2 rfl) ?_
    obtain ⟨q4, eq4, h⟩ := bnd h
    refine r_callV (As := [.int a2]) C hw (ok_X9_isItem X l σ1 a2 _ eq4) l_50 vc_9 gw_1187 gw_1184 gw_1186 gw_89 gw_123 hl.1 pd_X9_isItem ⟨Nat.le_of_ble_eq_true rfl, Nat.le_of_ble_eq_true rfl⟩ ⟨Nat.le_refl 0, Nat.le_refl 0⟩ (rest := []) (Nat.le_of_ble_eq_true rfl) dX9_chosen_15 rfl (fun H locs hw => ?_)
    refine lv_if_eq (tgt := 30) C.1 C.2.1 dX9_chosen_18 (by decide) (fun c5 => ?_) (fun c5 => ?_)
    · have h := ite_t c5 h
      refine lv_iconst (v := (-1)) C.1 C.2.1 dX9_chosen_30 (by decide) ?_
      exact r_iret C hr hlk hw (Prod.mk.inj (Option.some.inj h)).1 (Prod.mk.inj (Option.some.inj h)).2 dX9_chosen_31
    · have h := ite_f c5 h
      refine lv_aload_n C.1 C.2.1 dX9_chosen_21 rfl (lv_at hl 0 rfl) ?_
      refine lv_iload_n C.1 C.2.1 dX9_chosen_22 rfl (lv_at hl 1 rfl) ?_
      refine lv_iload_n C.1 C.2.1 dX9_chosen_23 rfl (lv_at hl 2 rfl) ?_
      obtain ⟨q6, eq6, h⟩ := bnd h
      refine r_callV (As := [.int a1, .int a2]) C hw (ok_X9_choose X l σ1 a1 a2 _ _ eq6) l_50 vc_9 gw_1300 gw_1297 gw_1299 gw_108 gw_123 hl.1 pd_X9_choose ⟨Nat.le_of_ble_eq_true rfl, Nat.le_of_ble_eq_true rfl⟩ ⟨Nat.le_refl 0, Nat.le_refl 0⟩ (rest := []) (Nat.le_of_ble_eq_true rfl) dX9_chosen_24 rfl (fun H locs hw => ?_)
      refine lv_goto (tgt := 31) C.1 C.2.1 dX9_chosen_27 (by decide) ?_
      exact r_iret C hr hlk hw (Prod.mk.inj (Option.some.inj h)).1 (Prod.mk.inj (Option.some.inj h)).2 dX9_chosen_31
def f_X9_due_b9 : Nat → St → Int32 → Int32 → Option (Int32 × St)
  | 0, _, _, _ => none
  | n + 1, σ, x1, x2 => (rd σ 52 845 0).bind fun v2 => (rd σ 52 845 1).bind fun v3 => if (v2 * v3) ≤ x2 then (some (x1, σ)) else ((rd σ 52 845 1).bind fun v5 => (ckZ v5).bind fun q6 => (rd σ 52 845 1).bind fun v7 => (ckZ v7).bind fun q8 => (f_X9_choose σ (x2 / v5) (x2 - x2 / v7 * v7)).bind fun q9 => if q9.1 = (-2) then (nm (x1 + 1) fun v12 => nm (x2 + 1) fun v13 => f_X9_due_b9 n q9.2 v12 v13) else (nm (x2 + 1) fun v11 => f_X9_due_b9 n q9.2 x1 v11))
def f_X9_due (σ : St) : Option (Int32 × St) :=
  nm (upI σ 50 0 0) fun σ1 => f_X9_due_b9 10000 σ1 0 0
set_option maxRecDepth 100000 in
set_option maxHeartbeats 4000000 in
theorem ok_X9_due (X : Xc) (l : Launch) (σ : St) (r : Int32) (σ' : St) (h : f_X9_due σ = some (r, σ')) : Ok X l yX9_due cX9_due 3 (some .int) 7 167 [.ref (X.2.1 50)] σ (some (.int r)) σ' := by
  refine Ok.of (by decide) (Nat.le_of_ble_eq_true rfl) ?_
  intro p e s m args below meth c C hr hlk hw ls hl
  have C : Cx p s m args c X cX9_due 3 "RunningCountModel" := C
  have hl : lv_has ls 3 [(0, .ref (X.2.1 50))] := hl
  have b9 : ∀ (n : Nat), ∀ (σ : St) (x1 : Int32) (x2 : Int32), f_X9_due_b9 n σ x1 x2 = some (r, σ') → ∀ (H : Heap) (locs : List Loc), At X σ s.heap H locs → ∀ ls : Array Slot, lv_has ls 3 [(0, .ref (X.2.1 50)), (1, .int x1), (2, .int x2)] → W p l e (rmX 7 167) s m args below meth c H locs 0 0 (Zq X below s args (some (.int r)) σ') (F0 m 9 ls []) := by
    intro n
    induction n with
    | zero =>
      intro σ x1 x2 h
      exact no_some h
    | succ n ih =>
      intro σ x1 x2 h H locs hw ls hl
      rw [f_X9_due_b9] at h
      refine lv_iload_n C.1 C.2.1 dX9_due_9 rfl (lv_at hl 2 rfl) ?_
      refine lv_aload_n C.1 C.2.1 dX9_due_10 rfl (lv_at hl 0 rfl) ?_
      refine r_get (v := .ref (X.2.1 52)) C hw l_50 vc_9 kX9 11 rfl (by decide) gw_1025 rfl dX9_due_11 ?_
      refine lv_iconst (v := 0) C.1 C.2.1 dX9_due_14 (by decide) ?_
      obtain ⟨v2, ev2, h⟩ := bnd h
      refine r_ald C hw l_52 ev2 dX9_due_15 ?_
      refine lv_aload_n C.1 C.2.1 dX9_due_16 rfl (lv_at hl 0 rfl) ?_
      refine r_get (v := .ref (X.2.1 52)) C hw l_50 vc_9 kX9 11 rfl (by decide) gw_1025 rfl dX9_due_17 ?_
      refine lv_iconst (v := 1) C.1 C.2.1 dX9_due_20 (by decide) ?_
      obtain ⟨v3, ev3, h⟩ := bnd h
      refine r_ald C hw l_52 ev3 dX9_due_21 ?_
      refine lv_imul C.1 C.2.1 dX9_due_22 ?_
      refine lv_icmp_ge (tgt := 60) C.1 C.2.1 dX9_due_23 (by decide) (fun c4 => ?_) (fun c4 => ?_)
      · have h := ite_t c4 h
        refine lv_iload_n C.1 C.2.1 dX9_due_60 rfl (lv_at hl 1 rfl) ?_
        exact r_iret C hr hlk hw (Prod.mk.inj (Option.some.inj h)).1 (Prod.mk.inj (Option.some.inj h)).2 dX9_due_61
      · have h := ite_f c4 h
        refine lv_aload_n C.1 C.2.1 dX9_due_26 rfl (lv_at hl 0 rfl) ?_
        refine lv_iload_n C.1 C.2.1 dX9_due_27 rfl (lv_at hl 2 rfl) ?_
        refine lv_aload_n C.1 C.2.1 dX9_due_28 rfl (lv_at hl 0 rfl) ?_
        refine r_get (v := .ref (X.2.1 52)) C hw l_50 vc_9 kX9 11 rfl (by decide) gw_1025 rfl dX9_due_29 ?_
        refine lv_iconst (v := 1) C.1 C.2.1 dX9_due_32 (by decide) ?_
        obtain ⟨v5, ev5, h⟩ := bnd h
        refine r_ald C hw l_52 ev5 dX9_due_33 ?_
        obtain ⟨q6, eq6, h⟩ := bnd h
        refine lv_idiv C.1 C.2.1 dX9_due_34 (ckZ_ok eq6) ?_
        refine lv_iload_n C.1 C.2.1 dX9_due_35 rfl (lv_at hl 2 rfl) ?_
        refine lv_aload_n C.1 C.2.1 dX9_due_36 rfl (lv_at hl 0 rfl) ?_
        refine r_get (v := .ref (X.2.1 52)) C hw l_50 vc_9 kX9 11 rfl (by decide) gw_1025 rfl dX9_due_37 ?_
        refine lv_iconst (v := 1) C.1 C.2.1 dX9_due_40 (by decide) ?_
        obtain ⟨v7, ev7, h⟩ := bnd h
        refine r_ald C hw l_52 ev7 dX9_due_41 ?_
        obtain ⟨q8, eq8, h⟩ := bnd h
        refine lv_irem C.1 C.2.1 dX9_due_42 (ckZ_ok eq8) ?_
        obtain ⟨q9, eq9, h⟩ := bnd h
        refine r_callV (As := [.int (x2 / v5), .int (x2 - x2 / v7 * v7)]) C hw (ok_X9_choose X l σ (x2 / v5) (x2 - x2 / v7 * v7) _ _ eq9) l_50 vc_9 gw_1300 gw_1297 gw_1299 gw_108 gw_123 hl.1 pd_X9_choose ⟨Nat.le_of_ble_eq_true rfl, Nat.le_of_ble_eq_true rfl⟩ ⟨Nat.le_refl 0, Nat.le_refl 0⟩ (rest := []) (Nat.le_of_ble_eq_true rfl) dX9_due_43 rfl (fun H locs hw => ?_)
        refine lv_bipush (v := (-2)) C.1 C.2.1 dX9_due_46 (by decide) ?_
        refine lv_icmp_ne (tgt := 54) C.1 C.2.1 dX9_due_48 (by decide) (fun c10 => ?_) (fun c10 => ?_)
        · have h := ite_f c10 h
          obtain ⟨v11, ev11, h⟩ := nm_d h
          refine lv_iinc (v := v11) (lv' := [(2, .int v11), (0, .ref (X.2.1 50)), (1, .int x1)]) C.1 C.2.1 dX9_due_54 hl (k := 2) rfl (by rw [ev11]; rfl) (by decide) rfl (fun ls hl => ?_)
          refine lv_goto (tgt := 9) C.1 C.2.1 dX9_due_57 (by decide) ?_
          exact ih q9.2 x1 v11 h _ _ hw ls (lv_sub hl [1, 2, 0] rfl)
        · have h := ite_t c10 h
          obtain ⟨v12, ev12, h⟩ := nm_d h
          refine lv_iinc (v := v12) (lv' := [(1, .int v12), (0, .ref (X.2.1 50)), (2, .int x2)]) C.1 C.2.1 dX9_due_51 hl (k := 1) rfl (by rw [ev12]; rfl) (by decide) rfl (fun ls hl => ?_)
          obtain ⟨v13, ev13, h⟩ := nm_d h
          refine lv_iinc (v := v13) (lv' := [(2, .int v13), (1, .int v12), (0, .ref (X.2.1 50))]) C.1 C.2.1 dX9_due_54 hl (k := 2) rfl (by rw [ev13]; rfl) (by decide) rfl (fun ls hl => ?_)
          refine lv_goto (tgt := 9) C.1 C.2.1 dX9_due_57 (by decide) ?_
          exact ih q9.2 v12 v13 h _ _ hw ls (lv_sub hl [2, 1, 0] rfl)
  rw [f_X9_due] at h
  refine lv_aload_n C.1 C.2.1 dX9_due_0 rfl (lv_at hl 0 rfl) ?_
  refine lv_iconst (v := 0) C.1 C.2.1 dX9_due_1 (by decide) ?_
  obtain ⟨σ1, eσ1, h⟩ := nm_d h
  refine r_put C hw l_50 vc_9 kX9 tyX9 tyX9_ok nmX9 0 (by decide) (by decide) gw_1014 rfl rfl rfl (put_i l_50 rfl eσ1) dX9_due_2 (fun H locs hw => ?_)
  refine lv_iconst (v := 0) C.1 C.2.1 dX9_due_5 (by decide) ?_
  refine lv_istore_n (lv' := [(1, .int 0), (0, .ref (X.2.1 50))]) C.1 C.2.1 dX9_due_6 rfl hl (by decide) rfl (fun ls hl => ?_)
  refine lv_iconst (v := 0) C.1 C.2.1 dX9_due_7 (by decide) ?_
  refine lv_istore_n (lv' := [(2, .int 0), (1, .int 0), (0, .ref (X.2.1 50))]) C.1 C.2.1 dX9_due_8 rfl hl (by decide) rfl (fun ls hl => ?_)
  exact b9 10000 σ1 0 0 h _ _ hw ls (lv_sub hl [2, 1, 0] rfl)
def f_X9_explained_b171 (a1 : Int32) (a2 : Int32) (k157 : St → Int32 → Int32 → Int32 → Int32 → Option (Int32 × St)) : Nat → St → Int32 → Int32 → Int32 → Int32 → Int32 → Int32 → Option (Int32 × St)
  | 0, _, _, _, _, _, _, _ => none
  | n + 1, σ, x3, x4, x5, x6, x7, x8 => if x3 ≤ x8 then (if x7 = x5 then (if x4 = a2 then (some (x6, σ)) else (nm (x4 + 1) fun v15 => nm (x6 + 1) fun v16 => k157 σ x3 v15 x5 v16)) else (nm (x6 + 1) fun v17 => k157 σ x3 x4 x5 v17)) else (if ((x6 >>> (x8 &&& 31)) &&& 1) = 1 then ((rd σ 56 80 x8).bind fun v20 => nm (x7 + v20) fun v21 => nm (x8 + 1) fun v22 => f_X9_explained_b171 a1 a2 k157 n σ x3 x4 x5 x6 v21 v22) else (nm (x8 + 1) fun v19 => f_X9_explained_b171 a1 a2 k157 n σ x3 x4 x5 x6 x7 v19))
def f_X9_explained_b157 (a1 : Int32) (a2 : Int32) : Nat → St → Int32 → Int32 → Int32 → Int32 → Option (Int32 × St)
  | 0, _, _, _, _, _ => none
  | n + 1, σ, x3, x4, x5, x6 => if (1 <<< (x3 &&& 31)) ≤ x6 then (if a2 = (-1) then (some (x4, σ)) else (some ((-1), σ))) else (f_X9_explained_b171 a1 a2 (fun σ x3 x4 x5 x6 => f_X9_explained_b157 a1 a2 n σ x3 x4 x5 x6) 10000 σ x3 x4 x5 x6 0 0)
def f_X9_explained_b20 (a1 : Int32) (a2 : Int32) : Nat → St → Int32 → Int32 → Option (Int32 × St)
  | 0, _, _, _ => none
  | n + 1, σ, x3, x4 => (rd σ 52 845 2).bind fun v4 => if (2 * v4) ≤ x4 then (if x3 ≤ 10 then ((f_X9_counted σ a1 3).bind fun q7 => (f_X9_sureOf σ a1).bind fun q8 => nm (q7 - q8) fun v9 => f_X9_explained_b157 a1 a2 10000 σ x3 0 v9 0) else (some ((-2), σ))) else ((f_X9_counted σ a1 0).bind fun q23 => (f_X9_counted σ a1 1).bind fun q24 => (f_X9_isAt σ (x4 / 2) (x4 - x4 / 2 * 2) q23 q24).bind fun q25 => if (b2i q25) = 0 then (nm (x4 + 1) fun v27 => f_X9_explained_b20 a1 a2 n σ x3 v27) else ((f_X9_counted σ a1 2).bind fun q28 => (f_X9_isDoubtful σ (x4 / 2) (x4 - x4 / 2 * 2) q28).bind fun q29 => if (b2i q29) = 0 then (nm (x4 + 1) fun v40 => f_X9_explained_b20 a1 a2 n σ x3 v40) else (if (x4 - x4 / 2 * 2) = 0 then ((f_X9_moved σ (x4 / 2) 1).bind fun q36 => (wr σ 56 80 x3 (-q36)).bind fun σ37 => nm (x3 + 1) fun v38 => nm (x4 + 1) fun v39 => f_X9_explained_b20 a1 a2 n σ37 v38 v39) else ((f_X9_moved σ (x4 / 2) 1).bind fun q32 => (wr σ 56 80 x3 q32).bind fun σ33 => nm (x3 + 1) fun v34 => nm (x4 + 1) fun v35 => f_X9_explained_b20 a1 a2 n σ33 v34 v35))))
def f_X9_explained (σ : St) (a1 : Int32) (a2 : Int32) : Option (Int32 × St) :=
  nm (upI σ 50 0 0) fun σ1 => (f_X9_isCount σ1 a1).bind fun q2 => if (b2i q2) = 0 then (some ((-1), σ1)) else (f_X9_explained_b20 a1 a2 10000 σ1 0 0)
set_option maxRecDepth 100000 in
set_option maxHeartbeats 4000000 in
theorem ok_X9_explained (X : Xc) (l : Launch) (σ : St) (a1 : Int32) (a2 : Int32) (r : Int32) (σ' : St) (h : f_X9_explained σ a1 a2 = some (r, σ')) : Ok X l yX9_explained cX9_explained 9 (some .int) 5 116 [.ref (X.2.1 50), .int a1, .int a2] σ (some (.int r)) σ' := by
  refine Ok.of (by decide) (Nat.le_of_ble_eq_true rfl) ?_
  intro p e s m args below meth c C hr hlk hw ls hl
  have C : Cx p s m args c X cX9_explained 9 "RunningCountModel" := C
  have hl : lv_has ls 9 [(0, .ref (X.2.1 50)), (1, .int a1), (2, .int a2)] := hl
  have b171 : ∀ (k157 : St → Int32 → Int32 → Int32 → Int32 → Option (Int32 × St)) (hk157 : ∀ (σ : St) (x3 : Int32) (x4 : Int32) (x5 : Int32) (x6 : Int32), k157 σ x3 x4 x5 x6 = some (r, σ') → ∀ (H : Heap) (locs : List Loc), At X σ s.heap H locs → ∀ ls : Array Slot, lv_has ls 9 [(0, .ref (X.2.1 50)), (2, .int a2), (3, .int x3), (4, .int x4), (5, .int x5), (6, .int x6)] → W p l e (rmX 5 116) s m args below meth c H locs 0 0 (Zq X below s args (some (.int r)) σ') (F0 m 157 ls [])), ∀ (n : Nat), ∀ (σ : St) (x3 : Int32) (x4 : Int32) (x5 : Int32) (x6 : Int32) (x7 : Int32) (x8 : Int32), f_X9_explained_b171 a1 a2 k157 n σ x3 x4 x5 x6 x7 x8 = some (r, σ') → ∀ (H : Heap) (locs : List Loc), At X σ s.heap H locs → ∀ ls : Array Slot, lv_has ls 9 [(0, .ref (X.2.1 50)), (2, .int a2), (3, .int x3), (4, .int x4), (5, .int x5), (6, .int x6), (7, .int x7), (8, .int x8)] → W p l e (rmX 5 116) s m args below meth c H locs 0 0 (Zq X below s args (some (.int r)) σ') (F0 m 171 ls []) := by
    intro k157 hk157
    intro n
    induction n with
    | zero =>
      intro σ x3 x4 x5 x6 x7 x8 h
      exact no_some h
    | succ n ih =>
      intro σ x3 x4 x5 x6 x7 x8 h H locs hw ls hl
      rw [f_X9_explained_b171] at h
      refine lv_iload C.1 C.2.1 dX9_explained_171 (lv_at hl 7 rfl) ?_
      refine lv_iload_n C.1 C.2.1 dX9_explained_173 rfl (lv_at hl 2 rfl) ?_
      refine lv_icmp_ge (tgt := 206) C.1 C.2.1 dX9_explained_174 (by decide) (fun c12 => ?_) (fun c12 => ?_)
      · have h := ite_t c12 h
        refine lv_iload C.1 C.2.1 dX9_explained_206 (lv_at hl 6 rfl) ?_
        refine lv_iload C.1 C.2.1 dX9_explained_208 (lv_at hl 4 rfl) ?_
        refine lv_icmp_eq (tgt := 216) C.1 C.2.1 dX9_explained_210 (by decide) (fun c13 => ?_) (fun c13 => ?_)
        · have h := ite_t c13 h
          refine lv_iload C.1 C.2.1 dX9_explained_216 (lv_at hl 3 rfl) ?_
          refine lv_iload_n C.1 C.2.1 dX9_explained_218 rfl (lv_at hl 1 rfl) ?_
          refine lv_icmp_ne (tgt := 225) C.1 C.2.1 dX9_explained_219 (by decide) (fun c14 => ?_) (fun c14 => ?_)
          · have h := ite_f c14 h
            obtain ⟨v15, ev15, h⟩ := nm_d h
            refine lv_iinc (v := v15) (lv' := [(4, .int v15), (0, .ref (X.2.1 50)), (2, .int a2), (3, .int x3), (5, .int x5), (6, .int x6), (7, .int x7), (8, .int x8)]) C.1 C.2.1 dX9_explained_225 hl (k := 3) rfl (by rw [ev15]; rfl) (by decide) rfl (fun ls hl => ?_)
            obtain ⟨v16, ev16, h⟩ := nm_d h
            refine lv_iinc (v := v16) (lv' := [(6, .int v16), (4, .int v15), (0, .ref (X.2.1 50)), (2, .int a2), (3, .int x3), (5, .int x5), (7, .int x7), (8, .int x8)]) C.1 C.2.1 dX9_explained_228 hl (k := 5) rfl (by rw [ev16]; rfl) (by decide) rfl (fun ls hl => ?_)
            refine lv_goto (tgt := 157) C.1 C.2.1 dX9_explained_231 (by decide) ?_
            exact hk157 σ x3 v15 x5 v16 h _ _ hw ls (lv_sub hl [2, 3, 4, 1, 5, 0] rfl)
          · have h := ite_t c14 h
            refine lv_iload C.1 C.2.1 dX9_explained_222 (lv_at hl 5 rfl) ?_
            exact r_iret C hr hlk hw (Prod.mk.inj (Option.some.inj h)).1 (Prod.mk.inj (Option.some.inj h)).2 dX9_explained_224
        · have h := ite_f c13 h
          refine lv_goto (tgt := 228) C.1 C.2.1 dX9_explained_213 (by decide) ?_
          obtain ⟨v17, ev17, h⟩ := nm_d h
          refine lv_iinc (v := v17) (lv' := [(6, .int v17), (0, .ref (X.2.1 50)), (2, .int a2), (3, .int x3), (4, .int x4), (5, .int x5), (7, .int x7), (8, .int x8)]) C.1 C.2.1 dX9_explained_228 hl (k := 5) rfl (by rw [ev17]; rfl) (by decide) rfl (fun ls hl => ?_)
          refine lv_goto (tgt := 157) C.1 C.2.1 dX9_explained_231 (by decide) ?_
          exact hk157 σ x3 x4 x5 v17 h _ _ hw ls (lv_sub hl [1, 2, 3, 4, 5, 0] rfl)
      · have h := ite_f c12 h
        refine lv_iload C.1 C.2.1 dX9_explained_177 (lv_at hl 5 rfl) ?_
        refine lv_iload C.1 C.2.1 dX9_explained_179 (lv_at hl 7 rfl) ?_
        refine lv_ishr C.1 C.2.1 dX9_explained_181 ?_
        refine lv_iconst (v := 1) C.1 C.2.1 dX9_explained_182 (by decide) ?_
        refine lv_iand C.1 C.2.1 dX9_explained_183 ?_
        refine lv_iconst (v := 1) C.1 C.2.1 dX9_explained_184 (by decide) ?_
        refine lv_icmp_ne (tgt := 200) C.1 C.2.1 dX9_explained_185 (by decide) (fun c18 => ?_) (fun c18 => ?_)
        · have h := ite_f c18 h
          obtain ⟨v19, ev19, h⟩ := nm_d h
          refine lv_iinc (v := v19) (lv' := [(8, .int v19), (0, .ref (X.2.1 50)), (2, .int a2), (3, .int x3), (4, .int x4), (5, .int x5), (6, .int x6), (7, .int x7)]) C.1 C.2.1 dX9_explained_200 hl (k := 7) rfl (by rw [ev19]; rfl) (by decide) rfl (fun ls hl => ?_)
          refine lv_goto (tgt := 171) C.1 C.2.1 dX9_explained_203 (by decide) ?_
          exact ih σ x3 x4 x5 x6 x7 v19 h _ _ hw ls (lv_sub hl [1, 2, 3, 4, 5, 6, 7, 0] rfl)
        · have h := ite_t c18 h
          refine lv_iload C.1 C.2.1 dX9_explained_188 (lv_at hl 6 rfl) ?_
          refine lv_aload_n C.1 C.2.1 dX9_explained_190 rfl (lv_at hl 0 rfl) ?_
          refine r_get (v := .ref (X.2.1 56)) C hw l_50 vc_9 kX9 20 rfl (by decide) gw_1034 rfl dX9_explained_191 ?_
          refine lv_iload C.1 C.2.1 dX9_explained_194 (lv_at hl 7 rfl) ?_
          obtain ⟨v20, ev20, h⟩ := bnd h
          refine r_ald C hw l_56 ev20 dX9_explained_196 ?_
          refine lv_iadd C.1 C.2.1 dX9_explained_197 ?_
          obtain ⟨v21, ev21, h⟩ := nm_d h
          refine lv_nm ev21 ?_
          refine lv_istore (lv' := [(7, .int v21), (0, .ref (X.2.1 50)), (2, .int a2), (3, .int x3), (4, .int x4), (5, .int x5), (6, .int x6), (8, .int x8)]) C.1 C.2.1 dX9_explained_198 hl (by decide) rfl (fun ls hl => ?_)
          obtain ⟨v22, ev22, h⟩ := nm_d h
          refine lv_iinc (v := v22) (lv' := [(8, .int v22), (7, .int v21), (0, .ref (X.2.1 50)), (2, .int a2), (3, .int x3), (4, .int x4), (5, .int x5), (6, .int x6)]) C.1 C.2.1 dX9_explained_200 hl (k := 7) rfl (by rw [ev22]; rfl) (by decide) rfl (fun ls hl => ?_)
          refine lv_goto (tgt := 171) C.1 C.2.1 dX9_explained_203 (by decide) ?_
          exact ih σ x3 x4 x5 x6 v21 v22 h _ _ hw ls (lv_sub hl [2, 3, 4, 5, 6, 7, 1, 0] rfl)
  have b157 : ∀ (n : Nat), ∀ (σ : St) (x3 : Int32) (x4 : Int32) (x5 : Int32) (x6 : Int32), f_X9_explained_b157 a1 a2 n σ x3 x4 x5 x6 = some (r, σ') → ∀ (H : Heap) (locs : List Loc), At X σ s.heap H locs → ∀ ls : Array Slot, lv_has ls 9 [(0, .ref (X.2.1 50)), (2, .int a2), (3, .int x3), (4, .int x4), (5, .int x5), (6, .int x6)] → W p l e (rmX 5 116) s m args below meth c H locs 0 0 (Zq X below s args (some (.int r)) σ') (F0 m 157 ls []) := by
    intro n
    induction n with
    | zero =>
      intro σ x3 x4 x5 x6 h
      exact no_some h
    | succ n ih =>
      intro σ x3 x4 x5 x6 h H locs hw ls hl
      rw [f_X9_explained_b157] at h
      refine lv_iload C.1 C.2.1 dX9_explained_157 (lv_at hl 5 rfl) ?_
      refine lv_iconst (v := 1) C.1 C.2.1 dX9_explained_159 (by decide) ?_
      refine lv_iload_n C.1 C.2.1 dX9_explained_160 rfl (lv_at hl 2 rfl) ?_
      refine lv_ishl C.1 C.2.1 dX9_explained_161 ?_
      refine lv_icmp_ge (tgt := 234) C.1 C.2.1 dX9_explained_162 (by decide) (fun c10 => ?_) (fun c10 => ?_)
      · have h := ite_t c10 h
        refine lv_iload_n C.1 C.2.1 dX9_explained_234 rfl (lv_at hl 1 rfl) ?_
        refine lv_iconst (v := (-1)) C.1 C.2.1 dX9_explained_235 (by decide) ?_
        refine lv_icmp_ne (tgt := 244) C.1 C.2.1 dX9_explained_236 (by decide) (fun c11 => ?_) (fun c11 => ?_)
        · have h := ite_f c11 h
          refine lv_iconst (v := (-1)) C.1 C.2.1 dX9_explained_244 (by decide) ?_
          exact r_iret C hr hlk hw (Prod.mk.inj (Option.some.inj h)).1 (Prod.mk.inj (Option.some.inj h)).2 dX9_explained_245
        · have h := ite_t c11 h
          refine lv_iload C.1 C.2.1 dX9_explained_239 (lv_at hl 3 rfl) ?_
          refine lv_goto (tgt := 245) C.1 C.2.1 dX9_explained_241 (by decide) ?_
          exact r_iret C hr hlk hw (Prod.mk.inj (Option.some.inj h)).1 (Prod.mk.inj (Option.some.inj h)).2 dX9_explained_245
      · have h := ite_f c10 h
        refine lv_iconst (v := 0) C.1 C.2.1 dX9_explained_165 (by decide) ?_
        refine lv_istore (lv' := [(7, .int 0), (0, .ref (X.2.1 50)), (2, .int a2), (3, .int x3), (4, .int x4), (5, .int x5), (6, .int x6)]) C.1 C.2.1 dX9_explained_166 hl (by decide) rfl (fun ls hl => ?_)
        refine lv_iconst (v := 0) C.1 C.2.1 dX9_explained_168 (by decide) ?_
        refine lv_istore (lv' := [(8, .int 0), (7, .int 0), (0, .ref (X.2.1 50)), (2, .int a2), (3, .int x3), (4, .int x4), (5, .int x5), (6, .int x6)]) C.1 C.2.1 dX9_explained_169 hl (by decide) rfl (fun ls hl => ?_)
        exact b171 (fun σ x3 x4 x5 x6 => f_X9_explained_b157 a1 a2 n σ x3 x4 x5 x6) ih 10000 σ x3 x4 x5 x6 0 0 h _ _ hw ls (lv_sub hl [2, 3, 4, 5, 6, 7, 1, 0] rfl)
  have b20 : ∀ (n : Nat), ∀ (σ : St) (x3 : Int32) (x4 : Int32), f_X9_explained_b20 a1 a2 n σ x3 x4 = some (r, σ') → ∀ (H : Heap) (locs : List Loc), At X σ s.heap H locs → ∀ ls : Array Slot, lv_has ls 9 [(0, .ref (X.2.1 50)), (1, .int a1), (2, .int a2), (3, .int x3), (4, .int x4)] → W p l e (rmX 5 116) s m args below meth c H locs 0 0 (Zq X below s args (some (.int r)) σ') (F0 m 20 ls []) := by
    intro n
    induction n with
    | zero =>
      intro σ x3 x4 h
      exact no_some h
    | succ n ih =>
      intro σ x3 x4 h H locs hw ls hl
      rw [f_X9_explained_b20] at h
      refine lv_iload C.1 C.2.1 dX9_explained_20 (lv_at hl 4 rfl) ?_
      refine lv_iconst (v := 2) C.1 C.2.1 dX9_explained_22 (by decide) ?_
      refine lv_aload_n C.1 C.2.1 dX9_explained_23 rfl (lv_at hl 0 rfl) ?_
      refine r_get (v := .ref (X.2.1 52)) C hw l_50 vc_9 kX9 11 rfl (by decide) gw_1025 rfl dX9_explained_24 ?_
      refine lv_iconst (v := 2) C.1 C.2.1 dX9_explained_27 (by decide) ?_
      obtain ⟨v4, ev4, h⟩ := bnd h
      refine r_ald C hw l_52 ev4 dX9_explained_28 ?_
      refine lv_imul C.1 C.2.1 dX9_explained_29 ?_
      refine lv_icmp_ge (tgt := 128) C.1 C.2.1 dX9_explained_30 (by decide) (fun c5 => ?_) (fun c5 => ?_)
      · have h := ite_t c5 h
        refine lv_iload_n C.1 C.2.1 dX9_explained_128 rfl (lv_at hl 3 rfl) ?_
        refine lv_bipush (v := 10) C.1 C.2.1 dX9_explained_129 (by decide) ?_
        refine lv_icmp_le (tgt := 137) C.1 C.2.1 dX9_explained_131 (by decide) (fun c6 => ?_) (fun c6 => ?_)
        · have h := ite_t c6 h
          refine lv_iconst (v := 0) C.1 C.2.1 dX9_explained_137 (by decide) ?_
          refine lv_istore (lv' := [(4, .int 0), (0, .ref (X.2.1 50)), (1, .int a1), (2, .int a2), (3, .int x3)]) C.1 C.2.1 dX9_explained_138 hl (by decide) rfl (fun ls hl => ?_)
          refine lv_aload_n C.1 C.2.1 dX9_explained_140 rfl (lv_at hl 1 rfl) ?_
          refine lv_iload_n C.1 C.2.1 dX9_explained_141 rfl (lv_at hl 2 rfl) ?_
          refine lv_iconst (v := 3) C.1 C.2.1 dX9_explained_142 (by decide) ?_
          obtain ⟨q7, eq7, h⟩ := bnd h
          refine r_callV (As := [.int a1, .int 3]) C hw (ok_X9_counted X l σ a1 3 _ eq7) l_50 vc_9 gw_1179 gw_1176 gw_1178 gw_88 gw_123 hl.1 pd_X9_counted ⟨Nat.le_of_ble_eq_true rfl, Nat.le_of_ble_eq_true rfl⟩ ⟨Nat.le_refl 0, Nat.le_refl 0⟩ (rest := []) (Nat.le_of_ble_eq_true rfl) dX9_explained_143 rfl (fun H locs hw => ?_)
          refine lv_aload_n C.1 C.2.1 dX9_explained_146 rfl (lv_at hl 1 rfl) ?_
          refine lv_iload_n C.1 C.2.1 dX9_explained_147 rfl (lv_at hl 2 rfl) ?_
          obtain ⟨q8, eq8, h⟩ := bnd h
          refine r_callV (As := [.int a1]) C hw (ok_X9_sureOf X l σ a1 _ eq8) l_50 vc_9 gw_1279 gw_1276 gw_1278 gw_106 gw_123 hl.1 pd_X9_sureOf ⟨Nat.le_of_ble_eq_true rfl, Nat.le_of_ble_eq_true rfl⟩ ⟨Nat.le_refl 0, Nat.le_refl 0⟩ (rest := [.int q7]) (Nat.le_of_ble_eq_true rfl) dX9_explained_148 rfl (fun H locs hw => ?_)
          refine lv_isub C.1 C.2.1 dX9_explained_151 ?_
          obtain ⟨v9, ev9, h⟩ := nm_d h
          refine lv_nm ev9 ?_
          refine lv_istore (lv' := [(5, .int v9), (4, .int 0), (0, .ref (X.2.1 50)), (1, .int a1), (2, .int a2), (3, .int x3)]) C.1 C.2.1 dX9_explained_152 hl (by decide) rfl (fun ls hl => ?_)
          refine lv_iconst (v := 0) C.1 C.2.1 dX9_explained_154 (by decide) ?_
          refine lv_istore (lv' := [(6, .int 0), (5, .int v9), (4, .int 0), (0, .ref (X.2.1 50)), (1, .int a1), (2, .int a2), (3, .int x3)]) C.1 C.2.1 dX9_explained_155 hl (by decide) rfl (fun ls hl => ?_)
          exact b157 10000 σ x3 0 v9 0 h _ _ hw ls (lv_sub hl [3, 5, 6, 2, 1, 0] rfl)
        · have h := ite_f c6 h
          refine lv_bipush (v := (-2)) C.1 C.2.1 dX9_explained_134 (by decide) ?_
          exact r_iret C hr hlk hw (Prod.mk.inj (Option.some.inj h)).1 (Prod.mk.inj (Option.some.inj h)).2 dX9_explained_136
      · have h := ite_f c5 h
        refine lv_aload_n C.1 C.2.1 dX9_explained_33 rfl (lv_at hl 0 rfl) ?_
        refine lv_iload C.1 C.2.1 dX9_explained_34 (lv_at hl 4 rfl) ?_
        refine lv_iconst (v := 2) C.1 C.2.1 dX9_explained_36 (by decide) ?_
        refine lv_idiv C.1 C.2.1 dX9_explained_37 (by decide) ?_
        refine lv_iload C.1 C.2.1 dX9_explained_38 (lv_at hl 4 rfl) ?_
        refine lv_iconst (v := 2) C.1 C.2.1 dX9_explained_40 (by decide) ?_
        refine lv_irem C.1 C.2.1 dX9_explained_41 (by decide) ?_
        refine lv_aload_n C.1 C.2.1 dX9_explained_42 rfl (lv_at hl 0 rfl) ?_
        refine lv_iload_n C.1 C.2.1 dX9_explained_43 rfl (lv_at hl 1 rfl) ?_
        refine lv_iconst (v := 0) C.1 C.2.1 dX9_explained_44 (by decide) ?_
        obtain ⟨q23, eq23, h⟩ := bnd h
        refine r_callV (As := [.int a1, .int 0]) C hw (ok_X9_counted X l σ a1 0 _ eq23) l_50 vc_9 gw_1179 gw_1176 gw_1178 gw_88 gw_123 hl.1 pd_X9_counted ⟨Nat.le_of_ble_eq_true rfl, Nat.le_of_ble_eq_true rfl⟩ ⟨Nat.le_refl 0, Nat.le_refl 0⟩ (rest := [.int (x4 - x4 / 2 * 2), .int (x4 / 2), .ref (X.2.1 50)]) (Nat.le_of_ble_eq_true rfl) dX9_explained_45 rfl (fun H locs hw => ?_)
        refine lv_aload_n C.1 C.2.1 dX9_explained_48 rfl (lv_at hl 0 rfl) ?_
        refine lv_iload_n C.1 C.2.1 dX9_explained_49 rfl (lv_at hl 1 rfl) ?_
        refine lv_iconst (v := 1) C.1 C.2.1 dX9_explained_50 (by decide) ?_
        obtain ⟨q24, eq24, h⟩ := bnd h
        refine r_callV (As := [.int a1, .int 1]) C hw (ok_X9_counted X l σ a1 1 _ eq24) l_50 vc_9 gw_1179 gw_1176 gw_1178 gw_88 gw_123 hl.1 pd_X9_counted ⟨Nat.le_of_ble_eq_true rfl, Nat.le_of_ble_eq_true rfl⟩ ⟨Nat.le_refl 0, Nat.le_refl 0⟩ (rest := [.int q23, .int (x4 - x4 / 2 * 2), .int (x4 / 2), .ref (X.2.1 50)]) (Nat.le_of_ble_eq_true rfl) dX9_explained_51 rfl (fun H locs hw => ?_)
        obtain ⟨q25, eq25, h⟩ := bnd h
        refine r_callV (As := [.int (x4 / 2), .int (x4 - x4 / 2 * 2), .int q23, .int q24]) C hw (ok_X9_isAt X l σ (x4 / 2) (x4 - x4 / 2 * 2) q23 q24 _ eq25) l_50 vc_9 gw_1231 gw_1228 gw_1230 gw_97 gw_123 hl.1 pd_X9_isAt ⟨Nat.le_of_ble_eq_true rfl, Nat.le_of_ble_eq_true rfl⟩ ⟨Nat.le_refl 0, Nat.le_refl 0⟩ (rest := []) (Nat.le_of_ble_eq_true rfl) dX9_explained_54 rfl (fun H locs hw => ?_)
        refine lv_if_eq (tgt := 122) C.1 C.2.1 dX9_explained_57 (by decide) (fun c26 => ?_) (fun c26 => ?_)
        · have h := ite_t c26 h
          obtain ⟨v27, ev27, h⟩ := nm_d h
          refine lv_iinc (v := v27) (lv' := [(4, .int v27), (0, .ref (X.2.1 50)), (1, .int a1), (2, .int a2), (3, .int x3)]) C.1 C.2.1 dX9_explained_122 hl (k := 4) rfl (by rw [ev27]; rfl) (by decide) rfl (fun ls hl => ?_)
          refine lv_goto (tgt := 20) C.1 C.2.1 dX9_explained_125 (by decide) ?_
          exact ih σ x3 v27 h _ _ hw ls (lv_sub hl [1, 2, 3, 4, 0] rfl)
        · have h := ite_f c26 h
          refine lv_aload_n C.1 C.2.1 dX9_explained_60 rfl (lv_at hl 0 rfl) ?_
          refine lv_iload C.1 C.2.1 dX9_explained_61 (lv_at hl 4 rfl) ?_
          refine lv_iconst (v := 2) C.1 C.2.1 dX9_explained_63 (by decide) ?_
          refine lv_idiv C.1 C.2.1 dX9_explained_64 (by decide) ?_
          refine lv_iload C.1 C.2.1 dX9_explained_65 (lv_at hl 4 rfl) ?_
          refine lv_iconst (v := 2) C.1 C.2.1 dX9_explained_67 (by decide) ?_
          refine lv_irem C.1 C.2.1 dX9_explained_68 (by decide) ?_
          refine lv_aload_n C.1 C.2.1 dX9_explained_69 rfl (lv_at hl 0 rfl) ?_
          refine lv_iload_n C.1 C.2.1 dX9_explained_70 rfl (lv_at hl 1 rfl) ?_
          refine lv_iconst (v := 2) C.1 C.2.1 dX9_explained_71 (by decide) ?_
          obtain ⟨q28, eq28, h⟩ := bnd h
          refine r_callV (As := [.int a1, .int 2]) C hw (ok_X9_counted X l σ a1 2 _ eq28) l_50 vc_9 gw_1179 gw_1176 gw_1178 gw_88 gw_123 hl.1 pd_X9_counted ⟨Nat.le_of_ble_eq_true rfl, Nat.le_of_ble_eq_true rfl⟩ ⟨Nat.le_refl 0, Nat.le_refl 0⟩ (rest := [.int (x4 - x4 / 2 * 2), .int (x4 / 2), .ref (X.2.1 50)]) (Nat.le_of_ble_eq_true rfl) dX9_explained_72 rfl (fun H locs hw => ?_)
          obtain ⟨q29, eq29, h⟩ := bnd h
          refine r_callV (As := [.int (x4 / 2), .int (x4 - x4 / 2 * 2), .int q28]) C hw (ok_X9_isDoubtful X l σ (x4 / 2) (x4 - x4 / 2 * 2) q28 _ eq29) l_50 vc_9 gw_1247 gw_1244 gw_1246 gw_101 gw_123 hl.1 pd_X9_isDoubtful ⟨Nat.le_of_ble_eq_true rfl, Nat.le_of_ble_eq_true rfl⟩ ⟨Nat.le_refl 0, Nat.le_refl 0⟩ (rest := []) (Nat.le_of_ble_eq_true rfl) dX9_explained_75 rfl (fun H locs hw => ?_)
          refine lv_if_ne (tgt := 84) C.1 C.2.1 dX9_explained_78 (by decide) (fun c30 => ?_) (fun c30 => ?_)
          · have h := ite_f c30 h
            refine lv_aload_n C.1 C.2.1 dX9_explained_84 rfl (lv_at hl 0 rfl) ?_
            refine r_get (v := .ref (X.2.1 56)) C hw l_50 vc_9 kX9 20 rfl (by decide) gw_1034 rfl dX9_explained_85 ?_
            refine lv_iload_n C.1 C.2.1 dX9_explained_88 rfl (lv_at hl 3 rfl) ?_
            refine lv_iload C.1 C.2.1 dX9_explained_89 (lv_at hl 4 rfl) ?_
            refine lv_iconst (v := 2) C.1 C.2.1 dX9_explained_91 (by decide) ?_
            refine lv_irem C.1 C.2.1 dX9_explained_92 (by decide) ?_
            refine lv_if_ne (tgt := 109) C.1 C.2.1 dX9_explained_93 (by decide) (fun c31 => ?_) (fun c31 => ?_)
            · have h := ite_f c31 h
              refine lv_aload_n C.1 C.2.1 dX9_explained_109 rfl (lv_at hl 0 rfl) ?_
              refine lv_iload C.1 C.2.1 dX9_explained_110 (lv_at hl 4 rfl) ?_
              refine lv_iconst (v := 2) C.1 C.2.1 dX9_explained_112 (by decide) ?_
              refine lv_idiv C.1 C.2.1 dX9_explained_113 (by decide) ?_
              refine lv_iconst (v := 1) C.1 C.2.1 dX9_explained_114 (by decide) ?_
              obtain ⟨q32, eq32, h⟩ := bnd h
              refine r_callV (As := [.int (x4 / 2), .int 1]) C hw (ok_X9_moved X l σ (x4 / 2) 1 _ eq32) l_50 vc_9 gw_1203 gw_1200 gw_1202 gw_92 gw_123 hl.1 pd_X9_moved ⟨Nat.le_of_ble_eq_true rfl, Nat.le_of_ble_eq_true rfl⟩ ⟨Nat.le_refl 0, Nat.le_refl 0⟩ (rest := [.int x3, .ref (X.2.1 56)]) (Nat.le_of_ble_eq_true rfl) dX9_explained_115 rfl (fun H locs hw => ?_)
              obtain ⟨σ33, eσ33, h⟩ := bnd h
              refine r_ast C hw l_56 eσ33 dX9_explained_118 (fun H locs hw => ?_)
              obtain ⟨v34, ev34, h⟩ := nm_d h
              refine lv_iinc (v := v34) (lv' := [(3, .int v34), (0, .ref (X.2.1 50)), (1, .int a1), (2, .int a2), (4, .int x4)]) C.1 C.2.1 dX9_explained_119 hl (k := 3) rfl (by rw [ev34]; rfl) (by decide) rfl (fun ls hl => ?_)
              obtain ⟨v35, ev35, h⟩ := nm_d h
              refine lv_iinc (v := v35) (lv' := [(4, .int v35), (3, .int v34), (0, .ref (X.2.1 50)), (1, .int a1), (2, .int a2)]) C.1 C.2.1 dX9_explained_122 hl (k := 4) rfl (by rw [ev35]; rfl) (by decide) rfl (fun ls hl => ?_)
              refine lv_goto (tgt := 20) C.1 C.2.1 dX9_explained_125 (by decide) ?_
              exact ih σ33 v34 v35 h _ _ hw ls (lv_sub hl [2, 3, 4, 1, 0] rfl)
            · have h := ite_t c31 h
              refine lv_aload_n C.1 C.2.1 dX9_explained_96 rfl (lv_at hl 0 rfl) ?_
              refine lv_iload C.1 C.2.1 dX9_explained_97 (lv_at hl 4 rfl) ?_
              refine lv_iconst (v := 2) C.1 C.2.1 dX9_explained_99 (by decide) ?_
              refine lv_idiv C.1 C.2.1 dX9_explained_100 (by decide) ?_
              refine lv_iconst (v := 1) C.1 C.2.1 dX9_explained_101 (by decide) ?_
              obtain ⟨q36, eq36, h⟩ := bnd h
              refine r_callV (As := [.int (x4 / 2), .int 1]) C hw (ok_X9_moved X l σ (x4 / 2) 1 _ eq36) l_50 vc_9 gw_1203 gw_1200 gw_1202 gw_92 gw_123 hl.1 pd_X9_moved ⟨Nat.le_of_ble_eq_true rfl, Nat.le_of_ble_eq_true rfl⟩ ⟨Nat.le_refl 0, Nat.le_refl 0⟩ (rest := [.int x3, .ref (X.2.1 56)]) (Nat.le_of_ble_eq_true rfl) dX9_explained_102 rfl (fun H locs hw => ?_)
              refine lv_ineg C.1 C.2.1 dX9_explained_105 ?_
              refine lv_goto (tgt := 118) C.1 C.2.1 dX9_explained_106 (by decide) ?_
              obtain ⟨σ37, eσ37, h⟩ := bnd h
              refine r_ast C hw l_56 eσ37 dX9_explained_118 (fun H locs hw => ?_)
              obtain ⟨v38, ev38, h⟩ := nm_d h
              refine lv_iinc (v := v38) (lv' := [(3, .int v38), (0, .ref (X.2.1 50)), (1, .int a1), (2, .int a2), (4, .int x4)]) C.1 C.2.1 dX9_explained_119 hl (k := 3) rfl (by rw [ev38]; rfl) (by decide) rfl (fun ls hl => ?_)
              obtain ⟨v39, ev39, h⟩ := nm_d h
              refine lv_iinc (v := v39) (lv' := [(4, .int v39), (3, .int v38), (0, .ref (X.2.1 50)), (1, .int a1), (2, .int a2)]) C.1 C.2.1 dX9_explained_122 hl (k := 4) rfl (by rw [ev39]; rfl) (by decide) rfl (fun ls hl => ?_)
              refine lv_goto (tgt := 20) C.1 C.2.1 dX9_explained_125 (by decide) ?_
              exact ih σ37 v38 v39 h _ _ hw ls (lv_sub hl [2, 3, 4, 1, 0] rfl)
          · have h := ite_t c30 h
            refine lv_goto (tgt := 122) C.1 C.2.1 dX9_explained_81 (by decide) ?_
            obtain ⟨v40, ev40, h⟩ := nm_d h
            refine lv_iinc (v := v40) (lv' := [(4, .int v40), (0, .ref (X.2.1 50)), (1, .int a1), (2, .int a2), (3, .int x3)]) C.1 C.2.1 dX9_explained_122 hl (k := 4) rfl (by rw [ev40]; rfl) (by decide) rfl (fun ls hl => ?_)
            refine lv_goto (tgt := 20) C.1 C.2.1 dX9_explained_125 (by decide) ?_
            exact ih σ x3 v40 h _ _ hw ls (lv_sub hl [1, 2, 3, 4, 0] rfl)
  rw [f_X9_explained] at h
  refine lv_aload_n C.1 C.2.1 dX9_explained_0 rfl (lv_at hl 0 rfl) ?_
  refine lv_iconst (v := 0) C.1 C.2.1 dX9_explained_1 (by decide) ?_
  obtain ⟨σ1, eσ1, h⟩ := nm_d h
  refine r_put C hw l_50 vc_9 kX9 tyX9 tyX9_ok nmX9 0 (by decide) (by decide) gw_1014 rfl rfl rfl (put_i l_50 rfl eσ1) dX9_explained_2 (fun H locs hw => ?_)
  refine lv_aload_n C.1 C.2.1 dX9_explained_5 rfl (lv_at hl 0 rfl) ?_
  refine lv_iload_n C.1 C.2.1 dX9_explained_6 rfl (lv_at hl 1 rfl) ?_
  obtain ⟨q2, eq2, h⟩ := bnd h
  refine r_callV (As := [.int a1]) C hw (ok_X9_isCount X l σ1 a1 _ eq2) l_50 vc_9 gw_1271 gw_1268 gw_1270 gw_104 gw_123 hl.1 pd_X9_isCount ⟨Nat.le_of_ble_eq_true rfl, Nat.le_of_ble_eq_true rfl⟩ ⟨Nat.le_refl 0, Nat.le_refl 0⟩ (rest := []) (Nat.le_of_ble_eq_true rfl) dX9_explained_7 rfl (fun H locs hw => ?_)
  refine lv_if_ne (tgt := 15) C.1 C.2.1 dX9_explained_10 (by decide) (fun c3 => ?_) (fun c3 => ?_)
  · have h := ite_f c3 h
    refine lv_iconst (v := 0) C.1 C.2.1 dX9_explained_15 (by decide) ?_
    refine lv_istore_n (lv' := [(3, .int 0), (0, .ref (X.2.1 50)), (1, .int a1), (2, .int a2)]) C.1 C.2.1 dX9_explained_16 rfl hl (by decide) rfl (fun ls hl => ?_)
    refine lv_iconst (v := 0) C.1 C.2.1 dX9_explained_17 (by decide) ?_
    refine lv_istore (lv' := [(4, .int 0), (3, .int 0), (0, .ref (X.2.1 50)), (1, .int a1), (2, .int a2)]) C.1 C.2.1 dX9_explained_18 hl (by decide) rfl (fun ls hl => ?_)
    exact b20 10000 σ1 0 0 h _ _ hw ls (lv_sub hl [2, 3, 4, 1, 0] rfl)
  · have h := ite_t c3 h
    refine lv_iconst (v := (-1)) C.1 C.2.1 dX9_explained_13 (by decide) ?_
    exact r_iret C hr hlk hw (Prod.mk.inj (Option.some.inj h)).1 (Prod.mk.inj (Option.some.inj h)).2 dX9_explained_14
def f_X9_adjusted (σ : St) (a1 : Int32) (a2 : Int32) : Option (Int32 × St) :=
  nm (upI σ 50 0 0) fun σ1 => (rd σ1 52 845 4).bind fun v2 => if (b2i (f_X9_isIn σ1 a1 0 (v2 - 1))) = 0 then (some ((-100000000), σ1)) else (if (b2i (f_X9_isIn σ1 a2 0 3)) = 0 then (some ((-100000000), σ1)) else ((rd σ1 52 845 ((685 + (4 * a1)) + a2)).bind fun v7 => some (v7, σ1)))
set_option maxRecDepth 100000 in
set_option maxHeartbeats 4000000 in
theorem ok_X9_adjusted (X : Xc) (l : Launch) (σ : St) (a1 : Int32) (a2 : Int32) (r : Int32) (σ' : St) (h : f_X9_adjusted σ a1 a2 = some (r, σ')) : Ok X l yX9_adjusted cX9_adjusted 3 (some .int) 1 22 [.ref (X.2.1 50), .int a1, .int a2] σ (some (.int r)) σ' := by
  refine Ok.of (by decide) (Nat.le_of_ble_eq_true rfl) ?_
  intro p e s m args below meth c C hr hlk hw ls hl
  have C : Cx p s m args c X cX9_adjusted 3 "RunningCountModel" := C
  have hl : lv_has ls 3 [(0, .ref (X.2.1 50)), (1, .int a1), (2, .int a2)] := hl
  rw [f_X9_adjusted] at h
  refine lv_aload_n C.1 C.2.1 dX9_adjusted_0 rfl (lv_at hl 0 rfl) ?_
  refine lv_iconst (v := 0) C.1 C.2.1 dX9_adjusted_1 (by decide) ?_
  obtain ⟨σ1, eσ1, h⟩ := nm_d h
  refine r_put C hw l_50 vc_9 kX9 tyX9 tyX9_ok nmX9 0 (by decide) (by decide) gw_1014 rfl rfl rfl (put_i l_50 rfl eσ1) dX9_adjusted_2 (fun H locs hw => ?_)
  refine lv_iload_n C.1 C.2.1 dX9_adjusted_5 rfl (lv_at hl 1 rfl) ?_
  refine lv_iconst (v := 0) C.1 C.2.1 dX9_adjusted_6 (by decide) ?_
  refine lv_aload_n C.1 C.2.1 dX9_adjusted_7 rfl (lv_at hl 0 rfl) ?_
  refine r_get (v := .ref (X.2.1 52)) C hw l_50 vc_9 kX9 11 rfl (by decide) gw_1025 rfl dX9_adjusted_8 ?_
  refine lv_iconst (v := 4) C.1 C.2.1 dX9_adjusted_11 (by decide) ?_
  obtain ⟨v2, ev2, h⟩ := bnd h
  refine r_ald C hw l_52 ev2 dX9_adjusted_12 ?_
  refine lv_iconst (v := 1) C.1 C.2.1 dX9_adjusted_13 (by decide) ?_
  refine lv_isub C.1 C.2.1 dX9_adjusted_14 ?_
  refine r_callS (As := [.int a1, .int 0, .int (v2 - 1)]) C hw (ok_X9_isIn X l σ1 a1 0 (v2 - 1) _ rfl) gw_1130 gw_1128 gw_1129 gw_123 hl.1 pd_X9_isIn ⟨Nat.le_of_ble_eq_true rfl, Nat.le_of_ble_eq_true rfl⟩ ⟨Nat.le_refl 0, Nat.le_refl 0⟩ (rest := []) (Nat.le_of_ble_eq_true rfl) dX9_adjusted_15 rfl (fun H locs hw => ?_)
  refine lv_if_eq (tgt := 47) C.1 C.2.1 dX9_adjusted_18 (by decide) (fun c4 => ?_) (fun c4 => ?_)
  · have h := ite_t c4 h
    refine lv_ldc (v := (-100000000)) C.1 C.2.1 C.2.2.2.1 (C.2.2.2.2.1 _ gw_1223) dX9_adjusted_47 ?_
    exact r_iret C hr hlk hw (Prod.mk.inj (Option.some.inj h)).1 (Prod.mk.inj (Option.some.inj h)).2 dX9_adjusted_49
  · have h := ite_f c4 h
    refine lv_iload_n C.1 C.2.1 dX9_adjusted_21 rfl (lv_at hl 2 rfl) ?_
    refine lv_iconst (v := 0) C.1 C.2.1 dX9_adjusted_22 (by decide) ?_
    refine lv_iconst (v := 3) C.1 C.2.1 dX9_adjusted_23 (by decide) ?_
    refine r_callS (As := [.int a2, .int 0, .int 3]) C hw (ok_X9_isIn X l σ1 a2 0 3 _ rfl) gw_1130 gw_1128 gw_1129 gw_123 hl.1 pd_X9_isIn ⟨Nat.le_of_ble_eq_true rfl, Nat.le_of_ble_eq_true rfl⟩ ⟨Nat.le_refl 0, Nat.le_refl 0⟩ (rest := []) (Nat.le_of_ble_eq_true rfl) dX9_adjusted_24 rfl (fun H locs hw => ?_)
    refine lv_if_eq (tgt := 47) C.1 C.2.1 dX9_adjusted_27 (by decide) (fun c6 => ?_) (fun c6 => ?_)
    · have h := ite_t c6 h
      refine lv_ldc (v := (-100000000)) C.1 C.2.1 C.2.2.2.1 (C.2.2.2.2.1 _ gw_1223) dX9_adjusted_47 ?_
      exact r_iret C hr hlk hw (Prod.mk.inj (Option.some.inj h)).1 (Prod.mk.inj (Option.some.inj h)).2 dX9_adjusted_49
    · have h := ite_f c6 h
      refine lv_aload_n C.1 C.2.1 dX9_adjusted_30 rfl (lv_at hl 0 rfl) ?_
      refine r_get (v := .ref (X.2.1 52)) C hw l_50 vc_9 kX9 11 rfl (by decide) gw_1025 rfl dX9_adjusted_31 ?_
      refine lv_sipush (v := 685) C.1 C.2.1 dX9_adjusted_34 (by decide) ?_
      refine lv_iconst (v := 4) C.1 C.2.1 dX9_adjusted_37 (by decide) ?_
      refine lv_iload_n C.1 C.2.1 dX9_adjusted_38 rfl (lv_at hl 1 rfl) ?_
      refine lv_imul C.1 C.2.1 dX9_adjusted_39 ?_
      refine lv_iadd C.1 C.2.1 dX9_adjusted_40 ?_
      refine lv_iload_n C.1 C.2.1 dX9_adjusted_41 rfl (lv_at hl 2 rfl) ?_
      refine lv_iadd C.1 C.2.1 dX9_adjusted_42 ?_
      obtain ⟨v7, ev7, h⟩ := bnd h
      refine r_ald C hw l_52 ev7 dX9_adjusted_43 ?_
      refine lv_goto (tgt := 49) C.1 C.2.1 dX9_adjusted_44 (by decide) ?_
      exact r_iret C hr hlk hw (Prod.mk.inj (Option.some.inj h)).1 (Prod.mk.inj (Option.some.inj h)).2 dX9_adjusted_49
def f_X9_snap_b52 : Nat → St → Int32 → Option St
  | 0, _, _ => none
  | n + 1, σ, x1 => if 845 ≤ x1 then (nm (upI σ 50 14 ((σ.1 50 14) + 1)) fun σ3 => some σ3) else ((rd σ 52 845 x1).bind fun v4 => (wr σ 54 8450 ((845 * (σ.1 50 14)) + x1) v4).bind fun σ5 => nm (x1 + 1) fun v6 => f_X9_snap_b52 n σ5 v6)
def f_X9_snap_b11 : Nat → St → Int32 → Option St
  | 0, _, _ => none
  | n + 1, σ, x1 => if 7605 ≤ x1 then (nm (upI σ 50 14 ((σ.1 50 14) - 1)) fun σ8 => f_X9_snap_b52 10000 σ8 0) else ((rd σ 54 8450 (x1 + 845)).bind fun v9 => (wr σ 54 8450 x1 v9).bind fun σ10 => nm (x1 + 1) fun v11 => f_X9_snap_b11 n σ10 v11)
def f_X9_snap (σ : St) : Option St :=
  if (σ.1 50 14) = 10 then (f_X9_snap_b11 10000 σ 0) else (f_X9_snap_b52 10000 σ 0)
set_option maxRecDepth 100000 in
set_option maxHeartbeats 4000000 in
theorem ok_X9_snap (X : Xc) (l : Launch) (σ : St) (σ' : St) (h : f_X9_snap σ = some σ') : Ok X l yX9_snap cX9_snap 2 none 0 0 [.ref (X.2.1 50)] σ none σ' := by
  refine Ok.of (by decide) (Nat.le_of_ble_eq_true rfl) ?_
  intro p e s m args below meth c C hr hlk hw ls hl
  have C : Cx p s m args c X cX9_snap 2 "RunningCountModel" := C
  have hl : lv_has ls 2 [(0, .ref (X.2.1 50))] := hl
  have b52 : ∀ (n : Nat), ∀ (σ : St) (x1 : Int32), f_X9_snap_b52 n σ x1 = some σ' → ∀ (H : Heap) (locs : List Loc), At X σ s.heap H locs → ∀ ls : Array Slot, lv_has ls 2 [(0, .ref (X.2.1 50)), (1, .int x1)] → W p l e (rmX 0 0) s m args below meth c H locs 0 0 (Zq X below s args none σ') (F0 m 52 ls []) := by
    intro n
    induction n with
    | zero =>
      intro σ x1 h
      exact no_some h
    | succ n ih =>
      intro σ x1 h H locs hw ls hl
      rw [f_X9_snap_b52] at h
      refine lv_iload_n C.1 C.2.1 dX9_snap_52 rfl (lv_at hl 1 rfl) ?_
      refine lv_sipush (v := 845) C.1 C.2.1 dX9_snap_53 (by decide) ?_
      refine lv_icmp_ge (tgt := 86) C.1 C.2.1 dX9_snap_56 (by decide) (fun c2 => ?_) (fun c2 => ?_)
      · have h := ite_t c2 h
        refine lv_aload_n C.1 C.2.1 dX9_snap_86 rfl (lv_at hl 0 rfl) ?_
        refine lv_dup C.1 C.2.1 dX9_snap_87 rfl ?_
        refine r_get (v := .int (σ.1 50 14)) C hw l_50 vc_9 kX9 14 rfl (by decide) gw_1028 rfl dX9_snap_88 ?_
        refine lv_iconst (v := 1) C.1 C.2.1 dX9_snap_91 (by decide) ?_
        refine lv_iadd C.1 C.2.1 dX9_snap_92 ?_
        obtain ⟨σ3, eσ3, h⟩ := nm_d h
        refine r_put C hw l_50 vc_9 kX9 tyX9 tyX9_ok nmX9 14 (by decide) (by decide) gw_1028 rfl rfl rfl (put_i l_50 rfl eσ3) dX9_snap_93 (fun H locs hw => ?_)
        exact r_vret C hr hlk hw (Option.some.inj h) dX9_snap_96
      · have h := ite_f c2 h
        refine lv_aload_n C.1 C.2.1 dX9_snap_59 rfl (lv_at hl 0 rfl) ?_
        refine r_get (v := .ref (X.2.1 54)) C hw l_50 vc_9 kX9 13 rfl (by decide) gw_1027 rfl dX9_snap_60 ?_
        refine lv_sipush (v := 845) C.1 C.2.1 dX9_snap_63 (by decide) ?_
        refine lv_aload_n C.1 C.2.1 dX9_snap_66 rfl (lv_at hl 0 rfl) ?_
        refine r_get (v := .int (σ.1 50 14)) C hw l_50 vc_9 kX9 14 rfl (by decide) gw_1028 rfl dX9_snap_67 ?_
        refine lv_imul C.1 C.2.1 dX9_snap_70 ?_
        refine lv_iload_n C.1 C.2.1 dX9_snap_71 rfl (lv_at hl 1 rfl) ?_
        refine lv_iadd C.1 C.2.1 dX9_snap_72 ?_
        refine lv_aload_n C.1 C.2.1 dX9_snap_73 rfl (lv_at hl 0 rfl) ?_
        refine r_get (v := .ref (X.2.1 52)) C hw l_50 vc_9 kX9 11 rfl (by decide) gw_1025 rfl dX9_snap_74 ?_
        refine lv_iload_n C.1 C.2.1 dX9_snap_77 rfl (lv_at hl 1 rfl) ?_
        obtain ⟨v4, ev4, h⟩ := bnd h
        refine r_ald C hw l_52 ev4 dX9_snap_78 ?_
        obtain ⟨σ5, eσ5, h⟩ := bnd h
        refine r_ast C hw l_54 eσ5 dX9_snap_79 (fun H locs hw => ?_)
        obtain ⟨v6, ev6, h⟩ := nm_d h
        refine lv_iinc (v := v6) (lv' := [(1, .int v6), (0, .ref (X.2.1 50))]) C.1 C.2.1 dX9_snap_80 hl (k := 1) rfl (by rw [ev6]; rfl) (by decide) rfl (fun ls hl => ?_)
        refine lv_goto (tgt := 52) C.1 C.2.1 dX9_snap_83 (by decide) ?_
        exact ih σ5 v6 h _ _ hw ls (lv_sub hl [1, 0] rfl)
  have b11 : ∀ (n : Nat), ∀ (σ : St) (x1 : Int32), f_X9_snap_b11 n σ x1 = some σ' → ∀ (H : Heap) (locs : List Loc), At X σ s.heap H locs → ∀ ls : Array Slot, lv_has ls 2 [(0, .ref (X.2.1 50)), (1, .int x1)] → W p l e (rmX 0 0) s m args below meth c H locs 0 0 (Zq X below s args none σ') (F0 m 11 ls []) := by
    intro n
    induction n with
    | zero =>
      intro σ x1 h
      exact no_some h
    | succ n ih =>
      intro σ x1 h H locs hw ls hl
      rw [f_X9_snap_b11] at h
      refine lv_iload_n C.1 C.2.1 dX9_snap_11 rfl (lv_at hl 1 rfl) ?_
      refine lv_sipush (v := 7605) C.1 C.2.1 dX9_snap_12 (by decide) ?_
      refine lv_icmp_ge (tgt := 40) C.1 C.2.1 dX9_snap_15 (by decide) (fun c7 => ?_) (fun c7 => ?_)
      · have h := ite_t c7 h
        refine lv_aload_n C.1 C.2.1 dX9_snap_40 rfl (lv_at hl 0 rfl) ?_
        refine lv_dup C.1 C.2.1 dX9_snap_41 rfl ?_
        refine r_get (v := .int (σ.1 50 14)) C hw l_50 vc_9 kX9 14 rfl (by decide) gw_1028 rfl dX9_snap_42 ?_
        refine lv_iconst (v := 1) C.1 C.2.1 dX9_snap_45 (by decide) ?_
        refine lv_isub C.1 C.2.1 dX9_snap_46 ?_
        obtain ⟨σ8, eσ8, h⟩ := nm_d h
        refine r_put C hw l_50 vc_9 kX9 tyX9 tyX9_ok nmX9 14 (by decide) (by decide) gw_1028 rfl rfl rfl (put_i l_50 rfl eσ8) dX9_snap_47 (fun H locs hw => ?_)
        refine lv_iconst (v := 0) C.1 C.2.1 dX9_snap_50 (by decide) ?_
        refine lv_istore_n (lv' := [(1, .int 0), (0, .ref (X.2.1 50))]) C.1 C.2.1 dX9_snap_51 rfl hl (by decide) rfl (fun ls hl => ?_)
        exact b52 10000 σ8 0 h _ _ hw ls (lv_sub hl [1, 0] rfl)
      · have h := ite_f c7 h
        refine lv_aload_n C.1 C.2.1 dX9_snap_18 rfl (lv_at hl 0 rfl) ?_
        refine r_get (v := .ref (X.2.1 54)) C hw l_50 vc_9 kX9 13 rfl (by decide) gw_1027 rfl dX9_snap_19 ?_
        refine lv_iload_n C.1 C.2.1 dX9_snap_22 rfl (lv_at hl 1 rfl) ?_
        refine lv_aload_n C.1 C.2.1 dX9_snap_23 rfl (lv_at hl 0 rfl) ?_
        refine r_get (v := .ref (X.2.1 54)) C hw l_50 vc_9 kX9 13 rfl (by decide) gw_1027 rfl dX9_snap_24 ?_
        refine lv_iload_n C.1 C.2.1 dX9_snap_27 rfl (lv_at hl 1 rfl) ?_
        refine lv_sipush (v := 845) C.1 C.2.1 dX9_snap_28 (by decide) ?_
        refine lv_iadd C.1 C.2.1 dX9_snap_31 ?_
        obtain ⟨v9, ev9, h⟩ := bnd h
        refine r_ald C hw l_54 ev9 dX9_snap_32 ?_
        obtain ⟨σ10, eσ10, h⟩ := bnd h
        refine r_ast C hw l_54 eσ10 dX9_snap_33 (fun H locs hw => ?_)
        obtain ⟨v11, ev11, h⟩ := nm_d h
        refine lv_iinc (v := v11) (lv' := [(1, .int v11), (0, .ref (X.2.1 50))]) C.1 C.2.1 dX9_snap_34 hl (k := 1) rfl (by rw [ev11]; rfl) (by decide) rfl (fun ls hl => ?_)
        refine lv_goto (tgt := 11) C.1 C.2.1 dX9_snap_37 (by decide) ?_
        exact ih σ10 v11 h _ _ hw ls (lv_sub hl [1, 0] rfl)
  rw [f_X9_snap] at h
  refine lv_aload_n C.1 C.2.1 dX9_snap_0 rfl (lv_at hl 0 rfl) ?_
  refine r_get (v := .int (σ.1 50 14)) C hw l_50 vc_9 kX9 14 rfl (by decide) gw_1028 rfl dX9_snap_1 ?_
  refine lv_bipush (v := 10) C.1 C.2.1 dX9_snap_4 (by decide) ?_
  refine lv_icmp_ne (tgt := 50) C.1 C.2.1 dX9_snap_6 (by decide) (fun c1 => ?_) (fun c1 => ?_)
  · have h := ite_f c1 h
    refine lv_iconst (v := 0) C.1 C.2.1 dX9_snap_50 (by decide) ?_
    refine lv_istore_n (lv' := [(1, .int 0), (0, .ref (X.2.1 50))]) C.1 C.2.1 dX9_snap_51 rfl hl (by decide) rfl (fun ls hl => ?_)
    exact b52 10000 σ 0 h _ _ hw ls (lv_sub hl [1, 0] rfl)
  · have h := ite_t c1 h
    refine lv_iconst (v := 0) C.1 C.2.1 dX9_snap_9 (by decide) ?_
    refine lv_istore_n (lv' := [(1, .int 0), (0, .ref (X.2.1 50))]) C.1 C.2.1 dX9_snap_10 rfl hl (by decide) rfl (fun ls hl => ?_)
    exact b11 10000 σ 0 h _ _ hw ls (lv_sub hl [1, 0] rfl)
def f_X9_moves_b59 (a1 : Int32) (a2 : Int32) : Nat → St → Int32 → Int32 → Option (Int32 × St)
  | 0, _, _, _ => none
  | n + 1, σ, x3, x4 => if 10 ≤ x4 then ((wr σ 52 845 (x3 + 0) a1).bind fun σ12 => (wr σ12 52 845 (x3 + 1) a2).bind fun σ13 => (rd σ13 52 845 2).bind fun v14 => (wr σ13 52 845 2 (v14 + 1)).bind fun σ15 => (rd σ15 52 845 2).bind fun v16 => some (v16 - 1, σ15)) else ((wr σ 52 845 (x3 + x4) 0).bind fun σ17 => nm (x4 + 1) fun v18 => f_X9_moves_b59 a1 a2 n σ17 x3 v18)
def f_X9_moves (σ : St) (a1 : Int32) (a2 : Int32) : Option (Int32 × St) :=
  nm (upI σ 50 0 0) fun σ1 => (f_X9_isItem σ1 a1).bind fun q2 => if (b2i q2) = 0 then (some ((-1), σ1)) else (if (b2i (f_X9_isIn σ1 a2 1 99)) = 0 then (some ((-1), σ1)) else ((rd σ1 52 845 2).bind fun v6 => if v6 = 40 then (some ((-2), σ1)) else ((f_X9_snap σ1).bind fun q8 => (rd q8 52 845 2).bind fun v9 => nm (45 + (10 * v9)) fun v10 => f_X9_moves_b59 a1 a2 10000 q8 v10 0)))
set_option maxRecDepth 100000 in
set_option maxHeartbeats 4000000 in
theorem ok_X9_moves (X : Xc) (l : Launch) (σ : St) (a1 : Int32) (a2 : Int32) (r : Int32) (σ' : St) (h : f_X9_moves σ a1 a2 = some (r, σ')) : Ok X l yX9_moves cX9_moves 5 (some .int) 2 43 [.ref (X.2.1 50), .int a1, .int a2] σ (some (.int r)) σ' := by
  refine Ok.of (by decide) (Nat.le_of_ble_eq_true rfl) ?_
  intro p e s m args below meth c C hr hlk hw ls hl
  have C : Cx p s m args c X cX9_moves 5 "RunningCountModel" := C
  have hl : lv_has ls 5 [(0, .ref (X.2.1 50)), (1, .int a1), (2, .int a2)] := hl
  have b59 : ∀ (n : Nat), ∀ (σ : St) (x3 : Int32) (x4 : Int32), f_X9_moves_b59 a1 a2 n σ x3 x4 = some (r, σ') → ∀ (H : Heap) (locs : List Loc), At X σ s.heap H locs → ∀ ls : Array Slot, lv_has ls 5 [(0, .ref (X.2.1 50)), (1, .int a1), (2, .int a2), (3, .int x3), (4, .int x4)] → W p l e (rmX 2 43) s m args below meth c H locs 0 0 (Zq X below s args (some (.int r)) σ') (F0 m 59 ls []) := by
    intro n
    induction n with
    | zero =>
      intro σ x3 x4 h
      exact no_some h
    | succ n ih =>
      intro σ x3 x4 h H locs hw ls hl
      rw [f_X9_moves_b59] at h
      refine lv_iload C.1 C.2.1 dX9_moves_59 (lv_at hl 4 rfl) ?_
      refine lv_bipush (v := 10) C.1 C.2.1 dX9_moves_61 (by decide) ?_
      refine lv_icmp_ge (tgt := 82) C.1 C.2.1 dX9_moves_63 (by decide) (fun c11 => ?_) (fun c11 => ?_)
      · have h := ite_t c11 h
        refine lv_aload_n C.1 C.2.1 dX9_moves_82 rfl (lv_at hl 0 rfl) ?_
        refine r_get (v := .ref (X.2.1 52)) C hw l_50 vc_9 kX9 11 rfl (by decide) gw_1025 rfl dX9_moves_83 ?_
        refine lv_iload_n C.1 C.2.1 dX9_moves_86 rfl (lv_at hl 3 rfl) ?_
        refine lv_iconst (v := 0) C.1 C.2.1 dX9_moves_87 (by decide) ?_
        refine lv_iadd C.1 C.2.1 dX9_moves_88 ?_
        refine lv_iload_n C.1 C.2.1 dX9_moves_89 rfl (lv_at hl 1 rfl) ?_
        obtain ⟨σ12, eσ12, h⟩ := bnd h
        refine r_ast C hw l_52 eσ12 dX9_moves_90 (fun H locs hw => ?_)
        refine lv_aload_n C.1 C.2.1 dX9_moves_91 rfl (lv_at hl 0 rfl) ?_
        refine r_get (v := .ref (X.2.1 52)) C hw l_50 vc_9 kX9 11 rfl (by decide) gw_1025 rfl dX9_moves_92 ?_
        refine lv_iload_n C.1 C.2.1 dX9_moves_95 rfl (lv_at hl 3 rfl) ?_
        refine lv_iconst (v := 1) C.1 C.2.1 dX9_moves_96 (by decide) ?_
        refine lv_iadd C.1 C.2.1 dX9_moves_97 ?_
        refine lv_iload_n C.1 C.2.1 dX9_moves_98 rfl (lv_at hl 2 rfl) ?_
        obtain ⟨σ13, eσ13, h⟩ := bnd h
        refine r_ast C hw l_52 eσ13 dX9_moves_99 (fun H locs hw => ?_)
        refine lv_aload_n C.1 C.2.1 dX9_moves_100 rfl (lv_at hl 0 rfl) ?_
        refine r_get (v := .ref (X.2.1 52)) C hw l_50 vc_9 kX9 11 rfl (by decide) gw_1025 rfl dX9_moves_101 ?_
        refine lv_iconst (v := 2) C.1 C.2.1 dX9_moves_104 (by decide) ?_
        refine lv_dup2_11 C.1 C.2.1 dX9_moves_105 rfl rfl ?_
        obtain ⟨v14, ev14, h⟩ := bnd h
        refine r_ald C hw l_52 ev14 dX9_moves_106 ?_
        refine lv_iconst (v := 1) C.1 C.2.1 dX9_moves_107 (by decide) ?_
        refine lv_iadd C.1 C.2.1 dX9_moves_108 ?_
        obtain ⟨σ15, eσ15, h⟩ := bnd h
        refine r_ast C hw l_52 eσ15 dX9_moves_109 (fun H locs hw => ?_)
        refine lv_aload_n C.1 C.2.1 dX9_moves_110 rfl (lv_at hl 0 rfl) ?_
        refine r_get (v := .ref (X.2.1 52)) C hw l_50 vc_9 kX9 11 rfl (by decide) gw_1025 rfl dX9_moves_111 ?_
        refine lv_iconst (v := 2) C.1 C.2.1 dX9_moves_114 (by decide) ?_
        obtain ⟨v16, ev16, h⟩ := bnd h
        refine r_ald C hw l_52 ev16 dX9_moves_115 ?_
        refine lv_iconst (v := 1) C.1 C.2.1 dX9_moves_116 (by decide) ?_
        refine lv_isub C.1 C.2.1 dX9_moves_117 ?_
        exact r_iret C hr hlk hw (Prod.mk.inj (Option.some.inj h)).1 (Prod.mk.inj (Option.some.inj h)).2 dX9_moves_118
      · have h := ite_f c11 h
        refine lv_aload_n C.1 C.2.1 dX9_moves_66 rfl (lv_at hl 0 rfl) ?_
        refine r_get (v := .ref (X.2.1 52)) C hw l_50 vc_9 kX9 11 rfl (by decide) gw_1025 rfl dX9_moves_67 ?_
        refine lv_iload_n C.1 C.2.1 dX9_moves_70 rfl (lv_at hl 3 rfl) ?_
        refine lv_iload C.1 C.2.1 dX9_moves_71 (lv_at hl 4 rfl) ?_
        refine lv_iadd C.1 C.2.1 dX9_moves_73 ?_
        refine lv_iconst (v := 0) C.1 C.2.1 dX9_moves_74 (by decide) ?_
        obtain ⟨σ17, eσ17, h⟩ := bnd h
        refine r_ast C hw l_52 eσ17 dX9_moves_75 (fun H locs hw => ?_)
        obtain ⟨v18, ev18, h⟩ := nm_d h
        refine lv_iinc (v := v18) (lv' := [(4, .int v18), (0, .ref (X.2.1 50)), (1, .int a1), (2, .int a2), (3, .int x3)]) C.1 C.2.1 dX9_moves_76 hl (k := 4) rfl (by rw [ev18]; rfl) (by decide) rfl (fun ls hl => ?_)
        refine lv_goto (tgt := 59) C.1 C.2.1 dX9_moves_79 (by decide) ?_
        exact ih σ17 x3 v18 h _ _ hw ls (lv_sub hl [1, 2, 3, 4, 0] rfl)
  rw [f_X9_moves] at h
  refine lv_aload_n C.1 C.2.1 dX9_moves_0 rfl (lv_at hl 0 rfl) ?_
  refine lv_iconst (v := 0) C.1 C.2.1 dX9_moves_1 (by decide) ?_
  obtain ⟨σ1, eσ1, h⟩ := nm_d h
  refine r_put C hw l_50 vc_9 kX9 tyX9 tyX9_ok nmX9 0 (by decide) (by decide) gw_1014 rfl rfl rfl (put_i l_50 rfl eσ1) dX9_moves_2 (fun H locs hw => ?_)
  refine lv_aload_n C.1 C.2.1 dX9_moves_5 rfl (lv_at hl 0 rfl) ?_
  refine lv_iload_n C.1 C.2.1 dX9_moves_6 rfl (lv_at hl 1 rfl) ?_
  obtain ⟨q2, eq2, h⟩ := bnd h
  refine r_callV (As := [.int a1]) C hw (ok_X9_isItem X l σ1 a1 _ eq2) l_50 vc_9 gw_1187 gw_1184 gw_1186 gw_89 gw_123 hl.1 pd_X9_isItem ⟨Nat.le_of_ble_eq_true rfl, Nat.le_of_ble_eq_true rfl⟩ ⟨Nat.le_refl 0, Nat.le_refl 0⟩ (rest := []) (Nat.le_of_ble_eq_true rfl) dX9_moves_7 rfl (fun H locs hw => ?_)
  refine lv_if_eq (tgt := 23) C.1 C.2.1 dX9_moves_10 (by decide) (fun c3 => ?_) (fun c3 => ?_)
  · have h := ite_t c3 h
    refine lv_iconst (v := (-1)) C.1 C.2.1 dX9_moves_23 (by decide) ?_
    exact r_iret C hr hlk hw (Prod.mk.inj (Option.some.inj h)).1 (Prod.mk.inj (Option.some.inj h)).2 dX9_moves_24
  · have h := ite_f c3 h
    refine lv_iload_n C.1 C.2.1 dX9_moves_13 rfl (lv_at hl 2 rfl) ?_
    refine lv_iconst (v := 1) C.1 C.2.1 dX9_moves_14 (by decide) ?_
    refine lv_bipush (v := 99) C.1 C.2.1 dX9_moves_15 (by decide) ?_
    refine r_callS (As := [.int a2, .int 1, .int 99]) C hw (ok_X9_isIn X l σ1 a2 1 99 _ rfl) gw_1130 gw_1128 gw_1129 gw_123 hl.1 pd_X9_isIn ⟨Nat.le_of_ble_eq_true rfl, Nat.le_of_ble_eq_true rfl⟩ ⟨Nat.le_refl 0, Nat.le_refl 0⟩ (rest := []) (Nat.le_of_ble_eq_true rfl) dX9_moves_17 rfl (fun H locs hw => ?_)
    refine lv_if_ne (tgt := 25) C.1 C.2.1 dX9_moves_20 (by decide) (fun c5 => ?_) (fun c5 => ?_)
    · have h := ite_f c5 h
      refine lv_aload_n C.1 C.2.1 dX9_moves_25 rfl (lv_at hl 0 rfl) ?_
      refine r_get (v := .ref (X.2.1 52)) C hw l_50 vc_9 kX9 11 rfl (by decide) gw_1025 rfl dX9_moves_26 ?_
      refine lv_iconst (v := 2) C.1 C.2.1 dX9_moves_29 (by decide) ?_
      obtain ⟨v6, ev6, h⟩ := bnd h
      refine r_ald C hw l_52 ev6 dX9_moves_30 ?_
      refine lv_bipush (v := 40) C.1 C.2.1 dX9_moves_31 (by decide) ?_
      refine lv_icmp_ne (tgt := 39) C.1 C.2.1 dX9_moves_33 (by decide) (fun c7 => ?_) (fun c7 => ?_)
      · have h := ite_f c7 h
        refine lv_aload_n C.1 C.2.1 dX9_moves_39 rfl (lv_at hl 0 rfl) ?_
        obtain ⟨q8, eq8, h⟩ := bnd h
        refine r_callV (As := []) C hw (ok_X9_snap X l σ1 _ eq8) l_50 vc_9 gw_1331 gw_1328 gw_1330 gw_111 gw_123 hl.1 pd_X9_snap ⟨Nat.le_of_ble_eq_true rfl, Nat.le_of_ble_eq_true rfl⟩ ⟨Nat.le_refl 0, Nat.le_refl 0⟩ (rest := []) (Nat.le_of_ble_eq_true rfl) dX9_moves_40 rfl (fun H locs hw => ?_)
        refine lv_bipush (v := 45) C.1 C.2.1 dX9_moves_43 (by decide) ?_
        refine lv_bipush (v := 10) C.1 C.2.1 dX9_moves_45 (by decide) ?_
        refine lv_aload_n C.1 C.2.1 dX9_moves_47 rfl (lv_at hl 0 rfl) ?_
        refine r_get (v := .ref (X.2.1 52)) C hw l_50 vc_9 kX9 11 rfl (by decide) gw_1025 rfl dX9_moves_48 ?_
        refine lv_iconst (v := 2) C.1 C.2.1 dX9_moves_51 (by decide) ?_
        obtain ⟨v9, ev9, h⟩ := bnd h
        refine r_ald C hw l_52 ev9 dX9_moves_52 ?_
        refine lv_imul C.1 C.2.1 dX9_moves_53 ?_
        refine lv_iadd C.1 C.2.1 dX9_moves_54 ?_
        obtain ⟨v10, ev10, h⟩ := nm_d h
        refine lv_nm ev10 ?_
        refine lv_istore_n (lv' := [(3, .int v10), (0, .ref (X.2.1 50)), (1, .int a1), (2, .int a2)]) C.1 C.2.1 dX9_moves_55 rfl hl (by decide) rfl (fun ls hl => ?_)
        refine lv_iconst (v := 0) C.1 C.2.1 dX9_moves_56 (by decide) ?_
        refine lv_istore (lv' := [(4, .int 0), (3, .int v10), (0, .ref (X.2.1 50)), (1, .int a1), (2, .int a2)]) C.1 C.2.1 dX9_moves_57 hl (by decide) rfl (fun ls hl => ?_)
        exact b59 10000 q8 v10 0 h _ _ hw ls (lv_sub hl [2, 3, 4, 1, 0] rfl)
      · have h := ite_t c7 h
        refine lv_bipush (v := (-2)) C.1 C.2.1 dX9_moves_36 (by decide) ?_
        exact r_iret C hr hlk hw (Prod.mk.inj (Option.some.inj h)).1 (Prod.mk.inj (Option.some.inj h)).2 dX9_moves_38
    · have h := ite_t c5 h
      refine lv_iconst (v := (-1)) C.1 C.2.1 dX9_moves_23 (by decide) ?_
      exact r_iret C hr hlk hw (Prod.mk.inj (Option.some.inj h)).1 (Prod.mk.inj (Option.some.inj h)).2 dX9_moves_24
def f_X9_isSpan (σ : St) (a0 : Int32) (a1 : Int32) : Bool :=
  if (b2i (f_X9_isInstant σ a0)) = 0 then (false) else (if (b2i (f_X9_isInstant σ a1)) = 0 then (false) else (if a1 < a0 then (false) else (true)))
set_option maxRecDepth 100000 in
set_option maxHeartbeats 4000000 in
theorem ok_X9_isSpan (X : Xc) (l : Launch) (σ : St) (a0 : Int32) (a1 : Int32) (r : Bool) (h : f_X9_isSpan σ a0 a1 = r) : Ok X l yX9_isSpan cX9_isSpan 2 (some .boolean) 2 42 [.int a0, .int a1] σ (some (.int (b2i r))) σ := by
  refine Ok.of (by decide) (Nat.le_of_ble_eq_true rfl) ?_
  intro p e s m args below meth c C hr hlk hw ls hl
  have C : Cx p s m args c X cX9_isSpan 2 "RunningCountModel" := C
  have hl : lv_has ls 2 [(0, .int a0), (1, .int a1)] := hl
  rw [f_X9_isSpan] at h
  refine lv_iload_n C.1 C.2.1 dX9_isSpan_0 rfl (lv_at hl 0 rfl) ?_
  refine r_callS (As := [.int a0]) C hw (ok_X9_isInstant X l σ a0 _ rfl) gw_1222 gw_1220 gw_1221 gw_123 hl.1 pd_X9_isInstant ⟨Nat.le_of_ble_eq_true rfl, Nat.le_of_ble_eq_true rfl⟩ ⟨Nat.le_refl 0, Nat.le_refl 0⟩ (rest := []) (Nat.le_of_ble_eq_true rfl) dX9_isSpan_1 rfl (fun H locs hw => ?_)
  refine lv_if_eq (tgt := 23) C.1 C.2.1 dX9_isSpan_4 (by decide) (fun c2 => ?_) (fun c2 => ?_)
  · have h := ite_t c2 h
    refine lv_iconst (v := 0) C.1 C.2.1 dX9_isSpan_23 (by decide) ?_
    exact r_zret C hr hlk hw rfl h rfl dX9_isSpan_24
  · have h := ite_f c2 h
    refine lv_iload_n C.1 C.2.1 dX9_isSpan_7 rfl (lv_at hl 1 rfl) ?_
    refine r_callS (As := [.int a1]) C hw (ok_X9_isInstant X l σ a1 _ rfl) gw_1222 gw_1220 gw_1221 gw_123 hl.1 pd_X9_isInstant ⟨Nat.le_of_ble_eq_true rfl, Nat.le_of_ble_eq_true rfl⟩ ⟨Nat.le_refl 0, Nat.le_refl 0⟩ (rest := []) (Nat.le_of_ble_eq_true rfl) dX9_isSpan_8 rfl (fun H locs hw => ?_)
    refine lv_if_eq (tgt := 23) C.1 C.2.1 dX9_isSpan_11 (by decide) (fun c4 => ?_) (fun c4 => ?_)
    · have h := ite_t c4 h
      refine lv_iconst (v := 0) C.1 C.2.1 dX9_isSpan_23 (by decide) ?_
      exact r_zret C hr hlk hw rfl h rfl dX9_isSpan_24
    · have h := ite_f c4 h
      refine lv_iload_n C.1 C.2.1 dX9_isSpan_14 rfl (lv_at hl 0 rfl) ?_
      refine lv_iload_n C.1 C.2.1 dX9_isSpan_15 rfl (lv_at hl 1 rfl) ?_
      refine lv_icmp_gt (tgt := 23) C.1 C.2.1 dX9_isSpan_16 (by decide) (fun c5 => ?_) (fun c5 => ?_)
      · have h := ite_t c5 h
        refine lv_iconst (v := 0) C.1 C.2.1 dX9_isSpan_23 (by decide) ?_
        exact r_zret C hr hlk hw rfl h rfl dX9_isSpan_24
      · have h := ite_f c5 h
        refine lv_iconst (v := 1) C.1 C.2.1 dX9_isSpan_19 (by decide) ?_
        refine lv_goto (tgt := 24) C.1 C.2.1 dX9_isSpan_20 (by decide) ?_
        exact r_zret C hr hlk hw rfl h rfl dX9_isSpan_24
def f_X9_leg_ (σ : St) (a1 : Int32) (a2 : Int32) (a3 : Int32) (a4 : Int32) (a5 : Int32) : Option (Bool × St) :=
  nm (upI σ 50 0 0) fun σ1 => (f_X9_isMove σ1 a1).bind fun q2 => if (b2i q2) = 0 then (some (false, σ1)) else (if (b2i (f_X9_isIn σ1 a2 0 1)) = 0 then (some (false, σ1)) else ((f_X9_isThere σ1 a1 a2).bind fun q6 => if (b2i q6) = 0 then ((f_X9_isShelf σ1 a3).bind fun q8 => if (b2i q8) = 0 then (some (false, σ1)) else (if (b2i (f_X9_isSpan σ1 a4 a5)) = 0 then (some (false, σ1)) else ((f_X9_snap σ1).bind fun q12 => nm (((45 + (10 * a1)) + 2) + (4 * a2)) fun v13 => (wr q12 52 845 (v13 + 0) 1).bind fun σ14 => (wr σ14 52 845 (v13 + 1) a3).bind fun σ15 => (wr σ15 52 845 (v13 + 2) a4).bind fun σ16 => (wr σ16 52 845 (v13 + 3) a5).bind fun σ17 => some (true, σ17)))) else (some (false, σ1))))
set_option maxRecDepth 100000 in
set_option maxHeartbeats 4000000 in
theorem ok_X9_leg_ (X : Xc) (l : Launch) (σ : St) (a1 : Int32) (a2 : Int32) (a3 : Int32) (a4 : Int32) (a5 : Int32) (r : Bool) (σ' : St) (h : f_X9_leg_ σ a1 a2 a3 a4 a5 = some (r, σ')) : Ok X l yX9_leg_ cX9_leg_ 7 (some .boolean) 3 63 [.ref (X.2.1 50), .int a1, .int a2, .int a3, .int a4, .int a5] σ (some (.int (b2i r))) σ' := by
  refine Ok.of (by decide) (Nat.le_of_ble_eq_true rfl) ?_
  intro p e s m args below meth c C hr hlk hw ls hl
  have C : Cx p s m args c X cX9_leg_ 7 "RunningCountModel" := C
  have hl : lv_has ls 7 [(0, .ref (X.2.1 50)), (1, .int a1), (2, .int a2), (3, .int a3), (4, .int a4), (5, .int a5)] := hl
  rw [f_X9_leg_] at h
  refine lv_aload_n C.1 C.2.1 dX9_leg__0 rfl (lv_at hl 0 rfl) ?_
  refine lv_iconst (v := 0) C.1 C.2.1 dX9_leg__1 (by decide) ?_
  obtain ⟨σ1, eσ1, h⟩ := nm_d h
  refine r_put C hw l_50 vc_9 kX9 tyX9 tyX9_ok nmX9 0 (by decide) (by decide) gw_1014 rfl rfl rfl (put_i l_50 rfl eσ1) dX9_leg__2 (fun H locs hw => ?_)
  refine lv_aload_n C.1 C.2.1 dX9_leg__5 rfl (lv_at hl 0 rfl) ?_
  refine lv_iload_n C.1 C.2.1 dX9_leg__6 rfl (lv_at hl 1 rfl) ?_
  obtain ⟨q2, eq2, h⟩ := bnd h
  refine r_callV (As := [.int a1]) C hw (ok_X9_isMove X l σ1 a1 _ eq2) l_50 vc_9 gw_1195 gw_1192 gw_1194 gw_90 gw_123 hl.1 pd_X9_isMove ⟨Nat.le_of_ble_eq_true rfl, Nat.le_of_ble_eq_true rfl⟩ ⟨Nat.le_refl 0, Nat.le_refl 0⟩ (rest := []) (Nat.le_of_ble_eq_true rfl) dX9_leg__7 rfl (fun H locs hw => ?_)
  refine lv_if_eq (tgt := 49) C.1 C.2.1 dX9_leg__10 (by decide) (fun c3 => ?_) (fun c3 => ?_)
  · have h := ite_t c3 h
    refine lv_iconst (v := 0) C.1 C.2.1 dX9_leg__49 (by decide) ?_
    exact r_zret C hr hlk hw rfl (Prod.mk.inj (Option.some.inj h)).1 (Prod.mk.inj (Option.some.inj h)).2 dX9_leg__50
  · have h := ite_f c3 h
    refine lv_iload_n C.1 C.2.1 dX9_leg__13 rfl (lv_at hl 2 rfl) ?_
    refine lv_iconst (v := 0) C.1 C.2.1 dX9_leg__14 (by decide) ?_
    refine lv_iconst (v := 1) C.1 C.2.1 dX9_leg__15 (by decide) ?_
    refine r_callS (As := [.int a2, .int 0, .int 1]) C hw (ok_X9_isIn X l σ1 a2 0 1 _ rfl) gw_1130 gw_1128 gw_1129 gw_123 hl.1 pd_X9_isIn ⟨Nat.le_of_ble_eq_true rfl, Nat.le_of_ble_eq_true rfl⟩ ⟨Nat.le_refl 0, Nat.le_refl 0⟩ (rest := []) (Nat.le_of_ble_eq_true rfl) dX9_leg__16 rfl (fun H locs hw => ?_)
    refine lv_if_eq (tgt := 49) C.1 C.2.1 dX9_leg__19 (by decide) (fun c5 => ?_) (fun c5 => ?_)
    · have h := ite_t c5 h
      refine lv_iconst (v := 0) C.1 C.2.1 dX9_leg__49 (by decide) ?_
      exact r_zret C hr hlk hw rfl (Prod.mk.inj (Option.some.inj h)).1 (Prod.mk.inj (Option.some.inj h)).2 dX9_leg__50
    · have h := ite_f c5 h
      refine lv_aload_n C.1 C.2.1 dX9_leg__22 rfl (lv_at hl 0 rfl) ?_
      refine lv_iload_n C.1 C.2.1 dX9_leg__23 rfl (lv_at hl 1 rfl) ?_
      refine lv_iload_n C.1 C.2.1 dX9_leg__24 rfl (lv_at hl 2 rfl) ?_
      obtain ⟨q6, eq6, h⟩ := bnd h
      refine r_callV (As := [.int a1, .int a2]) C hw (ok_X9_isThere X l σ1 a1 a2 _ eq6) l_50 vc_9 gw_1207 gw_1204 gw_1206 gw_93 gw_123 hl.1 pd_X9_isThere ⟨Nat.le_of_ble_eq_true rfl, Nat.le_of_ble_eq_true rfl⟩ ⟨Nat.le_refl 0, Nat.le_refl 0⟩ (rest := []) (Nat.le_of_ble_eq_true rfl) dX9_leg__25 rfl (fun H locs hw => ?_)
      refine lv_if_ne (tgt := 49) C.1 C.2.1 dX9_leg__28 (by decide) (fun c7 => ?_) (fun c7 => ?_)
      · have h := ite_f c7 h
        refine lv_iconst (v := 0) C.1 C.2.1 dX9_leg__49 (by decide) ?_
        exact r_zret C hr hlk hw rfl (Prod.mk.inj (Option.some.inj h)).1 (Prod.mk.inj (Option.some.inj h)).2 dX9_leg__50
      · have h := ite_t c7 h
        refine lv_aload_n C.1 C.2.1 dX9_leg__31 rfl (lv_at hl 0 rfl) ?_
        refine lv_iload_n C.1 C.2.1 dX9_leg__32 rfl (lv_at hl 3 rfl) ?_
        obtain ⟨q8, eq8, h⟩ := bnd h
        refine r_callV (As := [.int a3]) C hw (ok_X9_isShelf X l σ1 a3 _ eq8) l_50 vc_9 gw_1219 gw_1216 gw_1218 gw_95 gw_123 hl.1 pd_X9_isShelf ⟨Nat.le_of_ble_eq_true rfl, Nat.le_of_ble_eq_true rfl⟩ ⟨Nat.le_refl 0, Nat.le_refl 0⟩ (rest := []) (Nat.le_of_ble_eq_true rfl) dX9_leg__33 rfl (fun H locs hw => ?_)
        refine lv_if_eq (tgt := 49) C.1 C.2.1 dX9_leg__36 (by decide) (fun c9 => ?_) (fun c9 => ?_)
        · have h := ite_t c9 h
          refine lv_iconst (v := 0) C.1 C.2.1 dX9_leg__49 (by decide) ?_
          exact r_zret C hr hlk hw rfl (Prod.mk.inj (Option.some.inj h)).1 (Prod.mk.inj (Option.some.inj h)).2 dX9_leg__50
        · have h := ite_f c9 h
          refine lv_iload C.1 C.2.1 dX9_leg__39 (lv_at hl 4 rfl) ?_
          refine lv_iload C.1 C.2.1 dX9_leg__41 (lv_at hl 5 rfl) ?_
          refine r_callS (As := [.int a4, .int a5]) C hw (ok_X9_isSpan X l σ1 a4 a5 _ rfl) gw_1338 gw_1336 gw_1337 gw_123 hl.1 pd_X9_isSpan ⟨Nat.le_of_ble_eq_true rfl, Nat.le_of_ble_eq_true rfl⟩ ⟨Nat.le_refl 0, Nat.le_refl 0⟩ (rest := []) (Nat.le_of_ble_eq_true rfl) dX9_leg__43 rfl (fun H locs hw => ?_)
          refine lv_if_ne (tgt := 51) C.1 C.2.1 dX9_leg__46 (by decide) (fun c11 => ?_) (fun c11 => ?_)
          · have h := ite_f c11 h
            refine lv_aload_n C.1 C.2.1 dX9_leg__51 rfl (lv_at hl 0 rfl) ?_
            obtain ⟨q12, eq12, h⟩ := bnd h
            refine r_callV (As := []) C hw (ok_X9_snap X l σ1 _ eq12) l_50 vc_9 gw_1331 gw_1328 gw_1330 gw_111 gw_123 hl.1 pd_X9_snap ⟨Nat.le_of_ble_eq_true rfl, Nat.le_of_ble_eq_true rfl⟩ ⟨Nat.le_refl 0, Nat.le_refl 0⟩ (rest := []) (Nat.le_of_ble_eq_true rfl) dX9_leg__52 rfl (fun H locs hw => ?_)
            refine lv_bipush (v := 45) C.1 C.2.1 dX9_leg__55 (by decide) ?_
            refine lv_bipush (v := 10) C.1 C.2.1 dX9_leg__57 (by decide) ?_
            refine lv_iload_n C.1 C.2.1 dX9_leg__59 rfl (lv_at hl 1 rfl) ?_
            refine lv_imul C.1 C.2.1 dX9_leg__60 ?_
            refine lv_iadd C.1 C.2.1 dX9_leg__61 ?_
            refine lv_iconst (v := 2) C.1 C.2.1 dX9_leg__62 (by decide) ?_
            refine lv_iadd C.1 C.2.1 dX9_leg__63 ?_
            refine lv_iconst (v := 4) C.1 C.2.1 dX9_leg__64 (by decide) ?_
            refine lv_iload_n C.1 C.2.1 dX9_leg__65 rfl (lv_at hl 2 rfl) ?_
            refine lv_imul C.1 C.2.1 dX9_leg__66 ?_
            refine lv_iadd C.1 C.2.1 dX9_leg__67 ?_
            obtain ⟨v13, ev13, h⟩ := nm_d h
            refine lv_nm ev13 ?_
            refine lv_istore (lv' := [(6, .int v13), (0, .ref (X.2.1 50)), (1, .int a1), (2, .int a2), (3, .int a3), (4, .int a4), (5, .int a5)]) C.1 C.2.1 dX9_leg__68 hl (by decide) rfl (fun ls hl => ?_)
            refine lv_aload_n C.1 C.2.1 dX9_leg__70 rfl (lv_at hl 1 rfl) ?_
            refine r_get (v := .ref (X.2.1 52)) C hw l_50 vc_9 kX9 11 rfl (by decide) gw_1025 rfl dX9_leg__71 ?_
            refine lv_iload C.1 C.2.1 dX9_leg__74 (lv_at hl 0 rfl) ?_
            refine lv_iconst (v := 0) C.1 C.2.1 dX9_leg__76 (by decide) ?_
            refine lv_iadd C.1 C.2.1 dX9_leg__77 ?_
            refine lv_iconst (v := 1) C.1 C.2.1 dX9_leg__78 (by decide) ?_
            obtain ⟨σ14, eσ14, h⟩ := bnd h
            refine r_ast C hw l_52 eσ14 dX9_leg__79 (fun H locs hw => ?_)
            refine lv_aload_n C.1 C.2.1 dX9_leg__80 rfl (lv_at hl 1 rfl) ?_
            refine r_get (v := .ref (X.2.1 52)) C hw l_50 vc_9 kX9 11 rfl (by decide) gw_1025 rfl dX9_leg__81 ?_
            refine lv_iload C.1 C.2.1 dX9_leg__84 (lv_at hl 0 rfl) ?_
            refine lv_iconst (v := 1) C.1 C.2.1 dX9_leg__86 (by decide) ?_
            refine lv_iadd C.1 C.2.1 dX9_leg__87 ?_
            refine lv_iload_n C.1 C.2.1 dX9_leg__88 rfl (lv_at hl 4 rfl) ?_
            obtain ⟨σ15, eσ15, h⟩ := bnd h
            refine r_ast C hw l_52 eσ15 dX9_leg__89 (fun H locs hw => ?_)
            refine lv_aload_n C.1 C.2.1 dX9_leg__90 rfl (lv_at hl 1 rfl) ?_
            refine r_get (v := .ref (X.2.1 52)) C hw l_50 vc_9 kX9 11 rfl (by decide) gw_1025 rfl dX9_leg__91 ?_
            refine lv_iload C.1 C.2.1 dX9_leg__94 (lv_at hl 0 rfl) ?_
            refine lv_iconst (v := 2) C.1 C.2.1 dX9_leg__96 (by decide) ?_
            refine lv_iadd C.1 C.2.1 dX9_leg__97 ?_
            refine lv_iload C.1 C.2.1 dX9_leg__98 (lv_at hl 5 rfl) ?_
            obtain ⟨σ16, eσ16, h⟩ := bnd h
            refine r_ast C hw l_52 eσ16 dX9_leg__100 (fun H locs hw => ?_)
            refine lv_aload_n C.1 C.2.1 dX9_leg__101 rfl (lv_at hl 1 rfl) ?_
            refine r_get (v := .ref (X.2.1 52)) C hw l_50 vc_9 kX9 11 rfl (by decide) gw_1025 rfl dX9_leg__102 ?_
            refine lv_iload C.1 C.2.1 dX9_leg__105 (lv_at hl 0 rfl) ?_
            refine lv_iconst (v := 3) C.1 C.2.1 dX9_leg__107 (by decide) ?_
            refine lv_iadd C.1 C.2.1 dX9_leg__108 ?_
            refine lv_iload C.1 C.2.1 dX9_leg__109 (lv_at hl 6 rfl) ?_
            obtain ⟨σ17, eσ17, h⟩ := bnd h
            refine r_ast C hw l_52 eσ17 dX9_leg__111 (fun H locs hw => ?_)
            refine lv_iconst (v := 1) C.1 C.2.1 dX9_leg__112 (by decide) ?_
            exact r_zret C hr hlk hw rfl (Prod.mk.inj (Option.some.inj h)).1 (Prod.mk.inj (Option.some.inj h)).2 dX9_leg__113
          · have h := ite_t c11 h
            refine lv_iconst (v := 0) C.1 C.2.1 dX9_leg__49 (by decide) ?_
            exact r_zret C hr hlk hw rfl (Prod.mk.inj (Option.some.inj h)).1 (Prod.mk.inj (Option.some.inj h)).2 dX9_leg__50
def f_X9_narrow (σ : St) (a1 : Int32) (a2 : Int32) (a3 : Int32) (a4 : Int32) : Option (Int32 × St) :=
  nm (upI σ 50 0 0) fun σ1 => (f_X9_isMove σ1 a1).bind fun q2 => if (b2i q2) = 0 then (some ((-1), σ1)) else (if (b2i (f_X9_isIn σ1 a2 0 1)) = 0 then (some ((-1), σ1)) else ((f_X9_isThere σ1 a1 a2).bind fun q6 => if (b2i q6) = 0 then (some ((-1), σ1)) else (if (b2i (f_X9_isSpan σ1 a3 a4)) = 0 then (some ((-1), σ1)) else ((f_X9_leg σ1 a1 a2 2).bind fun q10 => if a3 < q10 then (some ((-1), σ1)) else ((f_X9_leg σ1 a1 a2 3).bind fun q12 => if a4 ≤ q12 then ((f_X9_snap σ1).bind fun q14 => nm (((45 + (10 * a1)) + 2) + (4 * a2)) fun v15 => (rd q14 52 845 (v15 + 3)).bind fun v16 => (rd q14 52 845 (v15 + 2)).bind fun v17 => nm (((v16 - v17) - a4) + a3) fun v18 => (wr q14 52 845 (v15 + 2) a3).bind fun σ19 => (wr σ19 52 845 (v15 + 3) a4).bind fun σ20 => some (v18, σ20)) else (some ((-1), σ1)))))))
set_option maxRecDepth 100000 in
set_option maxHeartbeats 4000000 in
theorem ok_X9_narrow (X : Xc) (l : Launch) (σ : St) (a1 : Int32) (a2 : Int32) (a3 : Int32) (a4 : Int32) (r : Int32) (σ' : St) (h : f_X9_narrow σ a1 a2 a3 a4 = some (r, σ')) : Ok X l yX9_narrow cX9_narrow 7 (some .int) 3 63 [.ref (X.2.1 50), .int a1, .int a2, .int a3, .int a4] σ (some (.int r)) σ' := by
  refine Ok.of (by decide) (Nat.le_of_ble_eq_true rfl) ?_
  intro p e s m args below meth c C hr hlk hw ls hl
  have C : Cx p s m args c X cX9_narrow 7 "RunningCountModel" := C
  have hl : lv_has ls 7 [(0, .ref (X.2.1 50)), (1, .int a1), (2, .int a2), (3, .int a3), (4, .int a4)] := hl
  rw [f_X9_narrow] at h
  refine lv_aload_n C.1 C.2.1 dX9_narrow_0 rfl (lv_at hl 0 rfl) ?_
  refine lv_iconst (v := 0) C.1 C.2.1 dX9_narrow_1 (by decide) ?_
  obtain ⟨σ1, eσ1, h⟩ := nm_d h
  refine r_put C hw l_50 vc_9 kX9 tyX9 tyX9_ok nmX9 0 (by decide) (by decide) gw_1014 rfl rfl rfl (put_i l_50 rfl eσ1) dX9_narrow_2 (fun H locs hw => ?_)
  refine lv_aload_n C.1 C.2.1 dX9_narrow_5 rfl (lv_at hl 0 rfl) ?_
  refine lv_iload_n C.1 C.2.1 dX9_narrow_6 rfl (lv_at hl 1 rfl) ?_
  obtain ⟨q2, eq2, h⟩ := bnd h
  refine r_callV (As := [.int a1]) C hw (ok_X9_isMove X l σ1 a1 _ eq2) l_50 vc_9 gw_1195 gw_1192 gw_1194 gw_90 gw_123 hl.1 pd_X9_isMove ⟨Nat.le_of_ble_eq_true rfl, Nat.le_of_ble_eq_true rfl⟩ ⟨Nat.le_refl 0, Nat.le_refl 0⟩ (rest := []) (Nat.le_of_ble_eq_true rfl) dX9_narrow_7 rfl (fun H locs hw => ?_)
  refine lv_if_eq (tgt := 63) C.1 C.2.1 dX9_narrow_10 (by decide) (fun c3 => ?_) (fun c3 => ?_)
  · have h := ite_t c3 h
    refine lv_iconst (v := (-1)) C.1 C.2.1 dX9_narrow_63 (by decide) ?_
    exact r_iret C hr hlk hw (Prod.mk.inj (Option.some.inj h)).1 (Prod.mk.inj (Option.some.inj h)).2 dX9_narrow_64
  · have h := ite_f c3 h
    refine lv_iload_n C.1 C.2.1 dX9_narrow_13 rfl (lv_at hl 2 rfl) ?_
    refine lv_iconst (v := 0) C.1 C.2.1 dX9_narrow_14 (by decide) ?_
    refine lv_iconst (v := 1) C.1 C.2.1 dX9_narrow_15 (by decide) ?_
    refine r_callS (As := [.int a2, .int 0, .int 1]) C hw (ok_X9_isIn X l σ1 a2 0 1 _ rfl) gw_1130 gw_1128 gw_1129 gw_123 hl.1 pd_X9_isIn ⟨Nat.le_of_ble_eq_true rfl, Nat.le_of_ble_eq_true rfl⟩ ⟨Nat.le_refl 0, Nat.le_refl 0⟩ (rest := []) (Nat.le_of_ble_eq_true rfl) dX9_narrow_16 rfl (fun H locs hw => ?_)
    refine lv_if_eq (tgt := 63) C.1 C.2.1 dX9_narrow_19 (by decide) (fun c5 => ?_) (fun c5 => ?_)
    · have h := ite_t c5 h
      refine lv_iconst (v := (-1)) C.1 C.2.1 dX9_narrow_63 (by decide) ?_
      exact r_iret C hr hlk hw (Prod.mk.inj (Option.some.inj h)).1 (Prod.mk.inj (Option.some.inj h)).2 dX9_narrow_64
    · have h := ite_f c5 h
      refine lv_aload_n C.1 C.2.1 dX9_narrow_22 rfl (lv_at hl 0 rfl) ?_
      refine lv_iload_n C.1 C.2.1 dX9_narrow_23 rfl (lv_at hl 1 rfl) ?_
      refine lv_iload_n C.1 C.2.1 dX9_narrow_24 rfl (lv_at hl 2 rfl) ?_
      obtain ⟨q6, eq6, h⟩ := bnd h
      refine r_callV (As := [.int a1, .int a2]) C hw (ok_X9_isThere X l σ1 a1 a2 _ eq6) l_50 vc_9 gw_1207 gw_1204 gw_1206 gw_93 gw_123 hl.1 pd_X9_isThere ⟨Nat.le_of_ble_eq_true rfl, Nat.le_of_ble_eq_true rfl⟩ ⟨Nat.le_refl 0, Nat.le_refl 0⟩ (rest := []) (Nat.le_of_ble_eq_true rfl) dX9_narrow_25 rfl (fun H locs hw => ?_)
      refine lv_if_eq (tgt := 63) C.1 C.2.1 dX9_narrow_28 (by decide) (fun c7 => ?_) (fun c7 => ?_)
      · have h := ite_t c7 h
        refine lv_iconst (v := (-1)) C.1 C.2.1 dX9_narrow_63 (by decide) ?_
        exact r_iret C hr hlk hw (Prod.mk.inj (Option.some.inj h)).1 (Prod.mk.inj (Option.some.inj h)).2 dX9_narrow_64
      · have h := ite_f c7 h
        refine lv_iload_n C.1 C.2.1 dX9_narrow_31 rfl (lv_at hl 3 rfl) ?_
        refine lv_iload C.1 C.2.1 dX9_narrow_32 (lv_at hl 4 rfl) ?_
        refine r_callS (As := [.int a3, .int a4]) C hw (ok_X9_isSpan X l σ1 a3 a4 _ rfl) gw_1338 gw_1336 gw_1337 gw_123 hl.1 pd_X9_isSpan ⟨Nat.le_of_ble_eq_true rfl, Nat.le_of_ble_eq_true rfl⟩ ⟨Nat.le_refl 0, Nat.le_refl 0⟩ (rest := []) (Nat.le_of_ble_eq_true rfl) dX9_narrow_34 rfl (fun H locs hw => ?_)
        refine lv_if_eq (tgt := 63) C.1 C.2.1 dX9_narrow_37 (by decide) (fun c9 => ?_) (fun c9 => ?_)
        · have h := ite_t c9 h
          refine lv_iconst (v := (-1)) C.1 C.2.1 dX9_narrow_63 (by decide) ?_
          exact r_iret C hr hlk hw (Prod.mk.inj (Option.some.inj h)).1 (Prod.mk.inj (Option.some.inj h)).2 dX9_narrow_64
        · have h := ite_f c9 h
          refine lv_iload_n C.1 C.2.1 dX9_narrow_40 rfl (lv_at hl 3 rfl) ?_
          refine lv_aload_n C.1 C.2.1 dX9_narrow_41 rfl (lv_at hl 0 rfl) ?_
          refine lv_iload_n C.1 C.2.1 dX9_narrow_42 rfl (lv_at hl 1 rfl) ?_
          refine lv_iload_n C.1 C.2.1 dX9_narrow_43 rfl (lv_at hl 2 rfl) ?_
          refine lv_iconst (v := 2) C.1 C.2.1 dX9_narrow_44 (by decide) ?_
          obtain ⟨q10, eq10, h⟩ := bnd h
          refine r_callV (As := [.int a1, .int a2, .int 2]) C hw (ok_X9_leg X l σ1 a1 a2 2 _ eq10) l_50 vc_9 gw_1211 gw_1208 gw_1210 gw_94 gw_123 hl.1 pd_X9_leg ⟨Nat.le_of_ble_eq_true rfl, Nat.le_of_ble_eq_true rfl⟩ ⟨Nat.le_refl 0, Nat.le_refl 0⟩ (rest := [.int a3]) (Nat.le_of_ble_eq_true rfl) dX9_narrow_45 rfl (fun H locs hw => ?_)
          refine lv_icmp_lt (tgt := 63) C.1 C.2.1 dX9_narrow_48 (by decide) (fun c11 => ?_) (fun c11 => ?_)
          · have h := ite_t c11 h
            refine lv_iconst (v := (-1)) C.1 C.2.1 dX9_narrow_63 (by decide) ?_
            exact r_iret C hr hlk hw (Prod.mk.inj (Option.some.inj h)).1 (Prod.mk.inj (Option.some.inj h)).2 dX9_narrow_64
          · have h := ite_f c11 h
            refine lv_iload C.1 C.2.1 dX9_narrow_51 (lv_at hl 4 rfl) ?_
            refine lv_aload_n C.1 C.2.1 dX9_narrow_53 rfl (lv_at hl 0 rfl) ?_
            refine lv_iload_n C.1 C.2.1 dX9_narrow_54 rfl (lv_at hl 1 rfl) ?_
            refine lv_iload_n C.1 C.2.1 dX9_narrow_55 rfl (lv_at hl 2 rfl) ?_
            refine lv_iconst (v := 3) C.1 C.2.1 dX9_narrow_56 (by decide) ?_
            obtain ⟨q12, eq12, h⟩ := bnd h
            refine r_callV (As := [.int a1, .int a2, .int 3]) C hw (ok_X9_leg X l σ1 a1 a2 3 _ eq12) l_50 vc_9 gw_1211 gw_1208 gw_1210 gw_94 gw_123 hl.1 pd_X9_leg ⟨Nat.le_of_ble_eq_true rfl, Nat.le_of_ble_eq_true rfl⟩ ⟨Nat.le_refl 0, Nat.le_refl 0⟩ (rest := [.int a4]) (Nat.le_of_ble_eq_true rfl) dX9_narrow_57 rfl (fun H locs hw => ?_)
            refine lv_icmp_le (tgt := 65) C.1 C.2.1 dX9_narrow_60 (by decide) (fun c13 => ?_) (fun c13 => ?_)
            · have h := ite_t c13 h
              refine lv_aload_n C.1 C.2.1 dX9_narrow_65 rfl (lv_at hl 0 rfl) ?_
              obtain ⟨q14, eq14, h⟩ := bnd h
              refine r_callV (As := []) C hw (ok_X9_snap X l σ1 _ eq14) l_50 vc_9 gw_1331 gw_1328 gw_1330 gw_111 gw_123 hl.1 pd_X9_snap ⟨Nat.le_of_ble_eq_true rfl, Nat.le_of_ble_eq_true rfl⟩ ⟨Nat.le_refl 0, Nat.le_refl 0⟩ (rest := []) (Nat.le_of_ble_eq_true rfl) dX9_narrow_66 rfl (fun H locs hw => ?_)
              refine lv_bipush (v := 45) C.1 C.2.1 dX9_narrow_69 (by decide) ?_
              refine lv_bipush (v := 10) C.1 C.2.1 dX9_narrow_71 (by decide) ?_
              refine lv_iload_n C.1 C.2.1 dX9_narrow_73 rfl (lv_at hl 1 rfl) ?_
              refine lv_imul C.1 C.2.1 dX9_narrow_74 ?_
              refine lv_iadd C.1 C.2.1 dX9_narrow_75 ?_
              refine lv_iconst (v := 2) C.1 C.2.1 dX9_narrow_76 (by decide) ?_
              refine lv_iadd C.1 C.2.1 dX9_narrow_77 ?_
              refine lv_iconst (v := 4) C.1 C.2.1 dX9_narrow_78 (by decide) ?_
              refine lv_iload_n C.1 C.2.1 dX9_narrow_79 rfl (lv_at hl 2 rfl) ?_
              refine lv_imul C.1 C.2.1 dX9_narrow_80 ?_
              refine lv_iadd C.1 C.2.1 dX9_narrow_81 ?_
              obtain ⟨v15, ev15, h⟩ := nm_d h
              refine lv_nm ev15 ?_
              refine lv_istore (lv' := [(5, .int v15), (0, .ref (X.2.1 50)), (1, .int a1), (2, .int a2), (3, .int a3), (4, .int a4)]) C.1 C.2.1 dX9_narrow_82 hl (by decide) rfl (fun ls hl => ?_)
              refine lv_aload_n C.1 C.2.1 dX9_narrow_84 rfl (lv_at hl 1 rfl) ?_
              refine r_get (v := .ref (X.2.1 52)) C hw l_50 vc_9 kX9 11 rfl (by decide) gw_1025 rfl dX9_narrow_85 ?_
              refine lv_iload C.1 C.2.1 dX9_narrow_88 (lv_at hl 0 rfl) ?_
              refine lv_iconst (v := 3) C.1 C.2.1 dX9_narrow_90 (by decide) ?_
              refine lv_iadd C.1 C.2.1 dX9_narrow_91 ?_
              obtain ⟨v16, ev16, h⟩ := bnd h
              refine r_ald C hw l_52 ev16 dX9_narrow_92 ?_
              refine lv_aload_n C.1 C.2.1 dX9_narrow_93 rfl (lv_at hl 1 rfl) ?_
              refine r_get (v := .ref (X.2.1 52)) C hw l_50 vc_9 kX9 11 rfl (by decide) gw_1025 rfl dX9_narrow_94 ?_
              refine lv_iload C.1 C.2.1 dX9_narrow_97 (lv_at hl 0 rfl) ?_
              refine lv_iconst (v := 2) C.1 C.2.1 dX9_narrow_99 (by decide) ?_
              refine lv_iadd C.1 C.2.1 dX9_narrow_100 ?_
              obtain ⟨v17, ev17, h⟩ := bnd h
              refine r_ald C hw l_52 ev17 dX9_narrow_101 ?_
              refine lv_isub C.1 C.2.1 dX9_narrow_102 ?_
              refine lv_iload C.1 C.2.1 dX9_narrow_103 (lv_at hl 5 rfl) ?_
              refine lv_isub C.1 C.2.1 dX9_narrow_105 ?_
              refine lv_iload_n C.1 C.2.1 dX9_narrow_106 rfl (lv_at hl 4 rfl) ?_
              refine lv_iadd C.1 C.2.1 dX9_narrow_107 ?_
              obtain ⟨v18, ev18, h⟩ := nm_d h
              refine lv_nm ev18 ?_
              refine lv_istore (lv' := [(6, .int v18), (5, .int v15), (0, .ref (X.2.1 50)), (1, .int a1), (2, .int a2), (3, .int a3), (4, .int a4)]) C.1 C.2.1 dX9_narrow_108 hl (by decide) rfl (fun ls hl => ?_)
              refine lv_aload_n C.1 C.2.1 dX9_narrow_110 rfl (lv_at hl 2 rfl) ?_
              refine r_get (v := .ref (X.2.1 52)) C hw l_50 vc_9 kX9 11 rfl (by decide) gw_1025 rfl dX9_narrow_111 ?_
              refine lv_iload C.1 C.2.1 dX9_narrow_114 (lv_at hl 1 rfl) ?_
              refine lv_iconst (v := 2) C.1 C.2.1 dX9_narrow_116 (by decide) ?_
              refine lv_iadd C.1 C.2.1 dX9_narrow_117 ?_
              refine lv_iload_n C.1 C.2.1 dX9_narrow_118 rfl (lv_at hl 5 rfl) ?_
              obtain ⟨σ19, eσ19, h⟩ := bnd h
              refine r_ast C hw l_52 eσ19 dX9_narrow_119 (fun H locs hw => ?_)
              refine lv_aload_n C.1 C.2.1 dX9_narrow_120 rfl (lv_at hl 2 rfl) ?_
              refine r_get (v := .ref (X.2.1 52)) C hw l_50 vc_9 kX9 11 rfl (by decide) gw_1025 rfl dX9_narrow_121 ?_
              refine lv_iload C.1 C.2.1 dX9_narrow_124 (lv_at hl 1 rfl) ?_
              refine lv_iconst (v := 3) C.1 C.2.1 dX9_narrow_126 (by decide) ?_
              refine lv_iadd C.1 C.2.1 dX9_narrow_127 ?_
              refine lv_iload C.1 C.2.1 dX9_narrow_128 (lv_at hl 6 rfl) ?_
              obtain ⟨σ20, eσ20, h⟩ := bnd h
              refine r_ast C hw l_52 eσ20 dX9_narrow_130 (fun H locs hw => ?_)
              refine lv_iload C.1 C.2.1 dX9_narrow_131 (lv_at hl 0 rfl) ?_
              exact r_iret C hr hlk hw (Prod.mk.inj (Option.some.inj h)).1 (Prod.mk.inj (Option.some.inj h)).2 dX9_narrow_133
            · have h := ite_f c13 h
              refine lv_iconst (v := (-1)) C.1 C.2.1 dX9_narrow_63 (by decide) ?_
              exact r_iret C hr hlk hw (Prod.mk.inj (Option.some.inj h)).1 (Prod.mk.inj (Option.some.inj h)).2 dX9_narrow_64
def f_X9_whyNot_b161 (σ : St) (a1 : Int32) (a2 : Int32) (a3 : Int32) (a4 : Int32) (x6 : Int32) : Option Int32 :=
  if x6 = 0 then ((rd σ 52 845 3).bind fun v5 => if v5 = 40 then (some (-5)) else (some 0)) else (some (-4))
def f_X9_whyNot_b9 (σ : St) (a1 : Int32) (a2 : Int32) (a3 : Int32) (a4 : Int32) : Nat → Int32 → Int32 → Int32 → Option Int32
  | 0, _, _, _ => none
  | n + 1, x5, x6, x7 => (rd σ 52 845 3).bind fun v1 => if v1 ≤ x7 then (if x5 = (-1) then (f_X9_whyNot_b161 σ a1 a2 a3 a4 x6) else ((f_X9_counted σ x5 4).bind fun q7 => if q7 = a4 then (some (-3)) else (f_X9_whyNot_b161 σ a1 a2 a3 a4 x6))) else ((f_X9_counted σ x7 0).bind fun q9 => if q9 = a1 then ((f_X9_counted σ x7 1).bind fun q12 => if q12 = a2 then ((f_X9_counted σ x7 2).bind fun q14 => if q14 = a3 then (some (-2)) else ((f_X9_counted σ x7 5).bind fun q16 => if q16 = 1 then (if x6 = 0 then ((f_X9_counted σ x7 2).bind fun q30 => if q30 ≤ a3 then (nm (x7 + 1) fun v32 => f_X9_whyNot_b9 σ a1 a2 a3 a4 n x5 0 v32) else (nm (x7 + 1) fun v33 => f_X9_whyNot_b9 σ a1 a2 a3 a4 n x5 1 v33)) else (nm (x7 + 1) fun v29 => f_X9_whyNot_b9 σ a1 a2 a3 a4 n x5 1 v29)) else ((f_X9_counted σ x7 2).bind fun q18 => if a3 ≤ q18 then (nm (x7 + 1) fun v20 => f_X9_whyNot_b9 σ a1 a2 a3 a4 n x5 x6 v20) else (if x5 = (-1) then (nm (x7 + 1) fun v22 => f_X9_whyNot_b9 σ a1 a2 a3 a4 n x7 x6 v22) else ((f_X9_counted σ x7 2).bind fun q23 => (f_X9_counted σ x5 2).bind fun q24 => if q23 ≤ q24 then (nm (x7 + 1) fun v26 => f_X9_whyNot_b9 σ a1 a2 a3 a4 n x5 x6 v26) else (nm (x7 + 1) fun v27 => f_X9_whyNot_b9 σ a1 a2 a3 a4 n x7 x6 v27)))))) else (nm (x7 + 1) fun v34 => f_X9_whyNot_b9 σ a1 a2 a3 a4 n x5 x6 v34)) else (nm (x7 + 1) fun v11 => f_X9_whyNot_b9 σ a1 a2 a3 a4 n x5 x6 v11))
def f_X9_whyNot (σ : St) (a1 : Int32) (a2 : Int32) (a3 : Int32) (a4 : Int32) : Option Int32 :=
  f_X9_whyNot_b9 σ a1 a2 a3 a4 10000 (-1) 0 0
set_option maxRecDepth 100000 in
set_option maxHeartbeats 4000000 in
theorem ok_X9_whyNot (X : Xc) (l : Launch) (σ : St) (a1 : Int32) (a2 : Int32) (a3 : Int32) (a4 : Int32) (r : Int32) (h : f_X9_whyNot σ a1 a2 a3 a4 = some r) : Ok X l yX9_whyNot cX9_whyNot 8 (some .int) 1 22 [.ref (X.2.1 50), .int a1, .int a2, .int a3, .int a4] σ (some (.int r)) σ := by
  refine Ok.of (by decide) (Nat.le_of_ble_eq_true rfl) ?_
  intro p e s m args below meth c C hr hlk hw ls hl
  have C : Cx p s m args c X cX9_whyNot 8 "RunningCountModel" := C
  have hl : lv_has ls 8 [(0, .ref (X.2.1 50)), (1, .int a1), (2, .int a2), (3, .int a3), (4, .int a4)] := hl
  have b161 : ∀ (x6 : Int32), f_X9_whyNot_b161 σ a1 a2 a3 a4 x6 = some r → ∀ (H : Heap) (locs : List Loc), At X σ s.heap H locs → ∀ ls : Array Slot, lv_has ls 8 [(0, .ref (X.2.1 50)), (6, .int x6)] → W p l e (rmX 1 22) s m args below meth c H locs 0 0 (Zq X below s args (some (.int r)) σ) (F0 m 161 ls []) := by
    intro x6 h H locs hw ls hl
    rw [f_X9_whyNot_b161] at h
    refine lv_iload C.1 C.2.1 dX9_whyNot_161 (lv_at hl 1 rfl) ?_
    refine lv_if_eq (tgt := 169) C.1 C.2.1 dX9_whyNot_163 (by decide) (fun c4 => ?_) (fun c4 => ?_)
    · have h := ite_t c4 h
      refine lv_aload_n C.1 C.2.1 dX9_whyNot_169 rfl (lv_at hl 0 rfl) ?_
      refine r_get (v := .ref (X.2.1 52)) C hw l_50 vc_9 kX9 11 rfl (by decide) gw_1025 rfl dX9_whyNot_170 ?_
      refine lv_iconst (v := 3) C.1 C.2.1 dX9_whyNot_173 (by decide) ?_
      obtain ⟨v5, ev5, h⟩ := bnd h
      refine r_ald C hw l_52 ev5 dX9_whyNot_174 ?_
      refine lv_bipush (v := 40) C.1 C.2.1 dX9_whyNot_175 (by decide) ?_
      refine lv_icmp_ne (tgt := 185) C.1 C.2.1 dX9_whyNot_177 (by decide) (fun c6 => ?_) (fun c6 => ?_)
      · have h := ite_f c6 h
        refine lv_iconst (v := 0) C.1 C.2.1 dX9_whyNot_185 (by decide) ?_
        exact r_iret C hr hlk hw (Option.some.inj h) rfl dX9_whyNot_186
      · have h := ite_t c6 h
        refine lv_bipush (v := (-5)) C.1 C.2.1 dX9_whyNot_180 (by decide) ?_
        refine lv_goto (tgt := 186) C.1 C.2.1 dX9_whyNot_182 (by decide) ?_
        exact r_iret C hr hlk hw (Option.some.inj h) rfl dX9_whyNot_186
    · have h := ite_f c4 h
      refine lv_bipush (v := (-4)) C.1 C.2.1 dX9_whyNot_166 (by decide) ?_
      exact r_iret C hr hlk hw (Option.some.inj h) rfl dX9_whyNot_168
  have b9 : ∀ (n : Nat), ∀ (x5 : Int32) (x6 : Int32) (x7 : Int32), f_X9_whyNot_b9 σ a1 a2 a3 a4 n x5 x6 x7 = some r → ∀ (H : Heap) (locs : List Loc), At X σ s.heap H locs → ∀ ls : Array Slot, lv_has ls 8 [(0, .ref (X.2.1 50)), (1, .int a1), (2, .int a2), (3, .int a3), (4, .int a4), (5, .int x5), (6, .int x6), (7, .int x7)] → W p l e (rmX 1 22) s m args below meth c H locs 0 0 (Zq X below s args (some (.int r)) σ) (F0 m 9 ls []) := by
    intro n
    induction n with
    | zero =>
      intro x5 x6 x7 h
      exact no_some h
    | succ n ih =>
      intro x5 x6 x7 h H locs hw ls hl
      rw [f_X9_whyNot_b9] at h
      refine lv_iload C.1 C.2.1 dX9_whyNot_9 (lv_at hl 7 rfl) ?_
      refine lv_aload_n C.1 C.2.1 dX9_whyNot_11 rfl (lv_at hl 0 rfl) ?_
      refine r_get (v := .ref (X.2.1 52)) C hw l_50 vc_9 kX9 11 rfl (by decide) gw_1025 rfl dX9_whyNot_12 ?_
      refine lv_iconst (v := 3) C.1 C.2.1 dX9_whyNot_15 (by decide) ?_
      obtain ⟨v1, ev1, h⟩ := bnd h
      refine r_ald C hw l_52 ev1 dX9_whyNot_16 ?_
      refine lv_icmp_ge (tgt := 140) C.1 C.2.1 dX9_whyNot_17 (by decide) (fun c2 => ?_) (fun c2 => ?_)
      · have h := ite_t c2 h
        refine lv_iload C.1 C.2.1 dX9_whyNot_140 (lv_at hl 5 rfl) ?_
        refine lv_iconst (v := (-1)) C.1 C.2.1 dX9_whyNot_142 (by decide) ?_
        refine lv_icmp_eq (tgt := 161) C.1 C.2.1 dX9_whyNot_143 (by decide) (fun c3 => ?_) (fun c3 => ?_)
        · have h := ite_t c3 h
          exact b161 x6 h _ _ hw ls (lv_sub hl [0, 6] rfl)
        · have h := ite_f c3 h
          refine lv_aload_n C.1 C.2.1 dX9_whyNot_146 rfl (lv_at hl 0 rfl) ?_
          refine lv_iload C.1 C.2.1 dX9_whyNot_147 (lv_at hl 5 rfl) ?_
          refine lv_iconst (v := 4) C.1 C.2.1 dX9_whyNot_149 (by decide) ?_
          obtain ⟨q7, eq7, h⟩ := bnd h
          refine r_callV (As := [.int x5, .int 4]) C hw (ok_X9_counted X l σ x5 4 _ eq7) l_50 vc_9 gw_1179 gw_1176 gw_1178 gw_88 gw_123 hl.1 pd_X9_counted ⟨Nat.le_of_ble_eq_true rfl, Nat.le_of_ble_eq_true rfl⟩ ⟨Nat.le_refl 0, Nat.le_refl 0⟩ (rest := []) (Nat.le_of_ble_eq_true rfl) dX9_whyNot_150 rfl (fun H locs hw => ?_)
          refine lv_iload C.1 C.2.1 dX9_whyNot_153 (lv_at hl 4 rfl) ?_
          refine lv_icmp_ne (tgt := 161) C.1 C.2.1 dX9_whyNot_155 (by decide) (fun c8 => ?_) (fun c8 => ?_)
          · have h := ite_f c8 h
            exact b161 x6 h _ _ hw ls (lv_sub hl [0, 6] rfl)
          · have h := ite_t c8 h
            refine lv_bipush (v := (-3)) C.1 C.2.1 dX9_whyNot_158 (by decide) ?_
            exact r_iret C hr hlk hw (Option.some.inj h) rfl dX9_whyNot_160
      · have h := ite_f c2 h
        refine lv_aload_n C.1 C.2.1 dX9_whyNot_20 rfl (lv_at hl 0 rfl) ?_
        refine lv_iload C.1 C.2.1 dX9_whyNot_21 (lv_at hl 7 rfl) ?_
        refine lv_iconst (v := 0) C.1 C.2.1 dX9_whyNot_23 (by decide) ?_
        obtain ⟨q9, eq9, h⟩ := bnd h
        refine r_callV (As := [.int x7, .int 0]) C hw (ok_X9_counted X l σ x7 0 _ eq9) l_50 vc_9 gw_1179 gw_1176 gw_1178 gw_88 gw_123 hl.1 pd_X9_counted ⟨Nat.le_of_ble_eq_true rfl, Nat.le_of_ble_eq_true rfl⟩ ⟨Nat.le_refl 0, Nat.le_refl 0⟩ (rest := []) (Nat.le_of_ble_eq_true rfl) dX9_whyNot_24 rfl (fun H locs hw => ?_)
        refine lv_iload_n C.1 C.2.1 dX9_whyNot_27 rfl (lv_at hl 1 rfl) ?_
        refine lv_icmp_ne (tgt := 134) C.1 C.2.1 dX9_whyNot_28 (by decide) (fun c10 => ?_) (fun c10 => ?_)
        · have h := ite_f c10 h
          obtain ⟨v11, ev11, h⟩ := nm_d h
          refine lv_iinc (v := v11) (lv' := [(7, .int v11), (0, .ref (X.2.1 50)), (1, .int a1), (2, .int a2), (3, .int a3), (4, .int a4), (5, .int x5), (6, .int x6)]) C.1 C.2.1 dX9_whyNot_134 hl (k := 7) rfl (by rw [ev11]; rfl) (by decide) rfl (fun ls hl => ?_)
          refine lv_goto (tgt := 9) C.1 C.2.1 dX9_whyNot_137 (by decide) ?_
          exact ih x5 x6 v11 h _ _ hw ls (lv_sub hl [1, 2, 3, 4, 5, 6, 7, 0] rfl)
        · have h := ite_t c10 h
          refine lv_aload_n C.1 C.2.1 dX9_whyNot_31 rfl (lv_at hl 0 rfl) ?_
          refine lv_iload C.1 C.2.1 dX9_whyNot_32 (lv_at hl 7 rfl) ?_
          refine lv_iconst (v := 1) C.1 C.2.1 dX9_whyNot_34 (by decide) ?_
          obtain ⟨q12, eq12, h⟩ := bnd h
          refine r_callV (As := [.int x7, .int 1]) C hw (ok_X9_counted X l σ x7 1 _ eq12) l_50 vc_9 gw_1179 gw_1176 gw_1178 gw_88 gw_123 hl.1 pd_X9_counted ⟨Nat.le_of_ble_eq_true rfl, Nat.le_of_ble_eq_true rfl⟩ ⟨Nat.le_refl 0, Nat.le_refl 0⟩ (rest := []) (Nat.le_of_ble_eq_true rfl) dX9_whyNot_35 rfl (fun H locs hw => ?_)
          refine lv_iload_n C.1 C.2.1 dX9_whyNot_38 rfl (lv_at hl 2 rfl) ?_
          refine lv_icmp_eq (tgt := 45) C.1 C.2.1 dX9_whyNot_39 (by decide) (fun c13 => ?_) (fun c13 => ?_)
          · have h := ite_t c13 h
            refine lv_aload_n C.1 C.2.1 dX9_whyNot_45 rfl (lv_at hl 0 rfl) ?_
            refine lv_iload C.1 C.2.1 dX9_whyNot_46 (lv_at hl 7 rfl) ?_
            refine lv_iconst (v := 2) C.1 C.2.1 dX9_whyNot_48 (by decide) ?_
            obtain ⟨q14, eq14, h⟩ := bnd h
            refine r_callV (As := [.int x7, .int 2]) C hw (ok_X9_counted X l σ x7 2 _ eq14) l_50 vc_9 gw_1179 gw_1176 gw_1178 gw_88 gw_123 hl.1 pd_X9_counted ⟨Nat.le_of_ble_eq_true rfl, Nat.le_of_ble_eq_true rfl⟩ ⟨Nat.le_refl 0, Nat.le_refl 0⟩ (rest := []) (Nat.le_of_ble_eq_true rfl) dX9_whyNot_49 rfl (fun H locs hw => ?_)
            refine lv_iload_n C.1 C.2.1 dX9_whyNot_52 rfl (lv_at hl 3 rfl) ?_
            refine lv_icmp_ne (tgt := 59) C.1 C.2.1 dX9_whyNot_53 (by decide) (fun c15 => ?_) (fun c15 => ?_)
            · have h := ite_f c15 h
              refine lv_aload_n C.1 C.2.1 dX9_whyNot_59 rfl (lv_at hl 0 rfl) ?_
              refine lv_iload C.1 C.2.1 dX9_whyNot_60 (lv_at hl 7 rfl) ?_
              refine lv_iconst (v := 5) C.1 C.2.1 dX9_whyNot_62 (by decide) ?_
              obtain ⟨q16, eq16, h⟩ := bnd h
              refine r_callV (As := [.int x7, .int 5]) C hw (ok_X9_counted X l σ x7 5 _ eq16) l_50 vc_9 gw_1179 gw_1176 gw_1178 gw_88 gw_123 hl.1 pd_X9_counted ⟨Nat.le_of_ble_eq_true rfl, Nat.le_of_ble_eq_true rfl⟩ ⟨Nat.le_refl 0, Nat.le_refl 0⟩ (rest := []) (Nat.le_of_ble_eq_true rfl) dX9_whyNot_63 rfl (fun H locs hw => ?_)
              refine lv_iconst (v := 1) C.1 C.2.1 dX9_whyNot_66 (by decide) ?_
              refine lv_icmp_ne (tgt := 96) C.1 C.2.1 dX9_whyNot_67 (by decide) (fun c17 => ?_) (fun c17 => ?_)
              · have h := ite_f c17 h
                refine lv_aload_n C.1 C.2.1 dX9_whyNot_96 rfl (lv_at hl 0 rfl) ?_
                refine lv_iload C.1 C.2.1 dX9_whyNot_97 (lv_at hl 7 rfl) ?_
                refine lv_iconst (v := 2) C.1 C.2.1 dX9_whyNot_99 (by decide) ?_
                obtain ⟨q18, eq18, h⟩ := bnd h
                refine r_callV (As := [.int x7, .int 2]) C hw (ok_X9_counted X l σ x7 2 _ eq18) l_50 vc_9 gw_1179 gw_1176 gw_1178 gw_88 gw_123 hl.1 pd_X9_counted ⟨Nat.le_of_ble_eq_true rfl, Nat.le_of_ble_eq_true rfl⟩ ⟨Nat.le_refl 0, Nat.le_refl 0⟩ (rest := []) (Nat.le_of_ble_eq_true rfl) dX9_whyNot_100 rfl (fun H locs hw => ?_)
                refine lv_iload_n C.1 C.2.1 dX9_whyNot_103 rfl (lv_at hl 3 rfl) ?_
                refine lv_icmp_ge (tgt := 134) C.1 C.2.1 dX9_whyNot_104 (by decide) (fun c19 => ?_) (fun c19 => ?_)
                · have h := ite_t c19 h
                  obtain ⟨v20, ev20, h⟩ := nm_d h
                  refine lv_iinc (v := v20) (lv' := [(7, .int v20), (0, .ref (X.2.1 50)), (1, .int a1), (2, .int a2), (3, .int a3), (4, .int a4), (5, .int x5), (6, .int x6)]) C.1 C.2.1 dX9_whyNot_134 hl (k := 7) rfl (by rw [ev20]; rfl) (by decide) rfl (fun ls hl => ?_)
                  refine lv_goto (tgt := 9) C.1 C.2.1 dX9_whyNot_137 (by decide) ?_
                  exact ih x5 x6 v20 h _ _ hw ls (lv_sub hl [1, 2, 3, 4, 5, 6, 7, 0] rfl)
                · have h := ite_f c19 h
                  refine lv_iload C.1 C.2.1 dX9_whyNot_107 (lv_at hl 5 rfl) ?_
                  refine lv_iconst (v := (-1)) C.1 C.2.1 dX9_whyNot_109 (by decide) ?_
                  refine lv_icmp_eq (tgt := 130) C.1 C.2.1 dX9_whyNot_110 (by decide) (fun c21 => ?_) (fun c21 => ?_)
                  · have h := ite_t c21 h
                    refine lv_iload C.1 C.2.1 dX9_whyNot_130 (lv_at hl 7 rfl) ?_
                    refine lv_istore (lv' := [(5, .int x7), (0, .ref (X.2.1 50)), (1, .int a1), (2, .int a2), (3, .int a3), (4, .int a4), (6, .int x6), (7, .int x7)]) C.1 C.2.1 dX9_whyNot_132 hl (by decide) rfl (fun ls hl => ?_)
                    obtain ⟨v22, ev22, h⟩ := nm_d h
                    refine lv_iinc (v := v22) (lv' := [(7, .int v22), (5, .int x7), (0, .ref (X.2.1 50)), (1, .int a1), (2, .int a2), (3, .int a3), (4, .int a4), (6, .int x6)]) C.1 C.2.1 dX9_whyNot_134 hl (k := 7) rfl (by rw [ev22]; rfl) (by decide) rfl (fun ls hl => ?_)
                    refine lv_goto (tgt := 9) C.1 C.2.1 dX9_whyNot_137 (by decide) ?_
                    exact ih x7 x6 v22 h _ _ hw ls (lv_sub hl [2, 3, 4, 5, 6, 1, 7, 0] rfl)
                  · have h := ite_f c21 h
                    refine lv_aload_n C.1 C.2.1 dX9_whyNot_113 rfl (lv_at hl 0 rfl) ?_
                    refine lv_iload C.1 C.2.1 dX9_whyNot_114 (lv_at hl 7 rfl) ?_
                    refine lv_iconst (v := 2) C.1 C.2.1 dX9_whyNot_116 (by decide) ?_
                    obtain ⟨q23, eq23, h⟩ := bnd h
                    refine r_callV (As := [.int x7, .int 2]) C hw (ok_X9_counted X l σ x7 2 _ eq23) l_50 vc_9 gw_1179 gw_1176 gw_1178 gw_88 gw_123 hl.1 pd_X9_counted ⟨Nat.le_of_ble_eq_true rfl, Nat.le_of_ble_eq_true rfl⟩ ⟨Nat.le_refl 0, Nat.le_refl 0⟩ (rest := []) (Nat.le_of_ble_eq_true rfl) dX9_whyNot_117 rfl (fun H locs hw => ?_)
                    refine lv_aload_n C.1 C.2.1 dX9_whyNot_120 rfl (lv_at hl 0 rfl) ?_
                    refine lv_iload C.1 C.2.1 dX9_whyNot_121 (lv_at hl 5 rfl) ?_
                    refine lv_iconst (v := 2) C.1 C.2.1 dX9_whyNot_123 (by decide) ?_
                    obtain ⟨q24, eq24, h⟩ := bnd h
                    refine r_callV (As := [.int x5, .int 2]) C hw (ok_X9_counted X l σ x5 2 _ eq24) l_50 vc_9 gw_1179 gw_1176 gw_1178 gw_88 gw_123 hl.1 pd_X9_counted ⟨Nat.le_of_ble_eq_true rfl, Nat.le_of_ble_eq_true rfl⟩ ⟨Nat.le_refl 0, Nat.le_refl 0⟩ (rest := [.int q23]) (Nat.le_of_ble_eq_true rfl) dX9_whyNot_124 rfl (fun H locs hw => ?_)
                    refine lv_icmp_le (tgt := 134) C.1 C.2.1 dX9_whyNot_127 (by decide) (fun c25 => ?_) (fun c25 => ?_)
                    · have h := ite_t c25 h
                      obtain ⟨v26, ev26, h⟩ := nm_d h
                      refine lv_iinc (v := v26) (lv' := [(7, .int v26), (0, .ref (X.2.1 50)), (1, .int a1), (2, .int a2), (3, .int a3), (4, .int a4), (5, .int x5), (6, .int x6)]) C.1 C.2.1 dX9_whyNot_134 hl (k := 7) rfl (by rw [ev26]; rfl) (by decide) rfl (fun ls hl => ?_)
                      refine lv_goto (tgt := 9) C.1 C.2.1 dX9_whyNot_137 (by decide) ?_
                      exact ih x5 x6 v26 h _ _ hw ls (lv_sub hl [1, 2, 3, 4, 5, 6, 7, 0] rfl)
                    · have h := ite_f c25 h
                      refine lv_iload C.1 C.2.1 dX9_whyNot_130 (lv_at hl 7 rfl) ?_
                      refine lv_istore (lv' := [(5, .int x7), (0, .ref (X.2.1 50)), (1, .int a1), (2, .int a2), (3, .int a3), (4, .int a4), (6, .int x6), (7, .int x7)]) C.1 C.2.1 dX9_whyNot_132 hl (by decide) rfl (fun ls hl => ?_)
                      obtain ⟨v27, ev27, h⟩ := nm_d h
                      refine lv_iinc (v := v27) (lv' := [(7, .int v27), (5, .int x7), (0, .ref (X.2.1 50)), (1, .int a1), (2, .int a2), (3, .int a3), (4, .int a4), (6, .int x6)]) C.1 C.2.1 dX9_whyNot_134 hl (k := 7) rfl (by rw [ev27]; rfl) (by decide) rfl (fun ls hl => ?_)
                      refine lv_goto (tgt := 9) C.1 C.2.1 dX9_whyNot_137 (by decide) ?_
                      exact ih x7 x6 v27 h _ _ hw ls (lv_sub hl [2, 3, 4, 5, 6, 1, 7, 0] rfl)
              · have h := ite_t c17 h
                refine lv_iload C.1 C.2.1 dX9_whyNot_70 (lv_at hl 6 rfl) ?_
                refine lv_if_ne (tgt := 86) C.1 C.2.1 dX9_whyNot_72 (by decide) (fun c28 => ?_) (fun c28 => ?_)
                · have h := ite_f c28 h
                  refine lv_iconst (v := 1) C.1 C.2.1 dX9_whyNot_86 (by decide) ?_
                  refine lv_goto (tgt := 91) C.1 C.2.1 dX9_whyNot_87 (by decide) ?_
                  refine lv_istore (lv' := [(6, .int 1), (0, .ref (X.2.1 50)), (1, .int a1), (2, .int a2), (3, .int a3), (4, .int a4), (5, .int x5), (7, .int x7)]) C.1 C.2.1 dX9_whyNot_91 hl (by decide) rfl (fun ls hl => ?_)
                  refine lv_goto (tgt := 134) C.1 C.2.1 dX9_whyNot_93 (by decide) ?_
                  obtain ⟨v29, ev29, h⟩ := nm_d h
                  refine lv_iinc (v := v29) (lv' := [(7, .int v29), (6, .int 1), (0, .ref (X.2.1 50)), (1, .int a1), (2, .int a2), (3, .int a3), (4, .int a4), (5, .int x5)]) C.1 C.2.1 dX9_whyNot_134 hl (k := 7) rfl (by rw [ev29]; rfl) (by decide) rfl (fun ls hl => ?_)
                  refine lv_goto (tgt := 9) C.1 C.2.1 dX9_whyNot_137 (by decide) ?_
                  exact ih x5 1 v29 h _ _ hw ls (lv_sub hl [2, 3, 4, 5, 6, 7, 1, 0] rfl)
                · have h := ite_t c28 h
                  refine lv_aload_n C.1 C.2.1 dX9_whyNot_75 rfl (lv_at hl 0 rfl) ?_
                  refine lv_iload C.1 C.2.1 dX9_whyNot_76 (lv_at hl 7 rfl) ?_
                  refine lv_iconst (v := 2) C.1 C.2.1 dX9_whyNot_78 (by decide) ?_
                  obtain ⟨q30, eq30, h⟩ := bnd h
                  refine r_callV (As := [.int x7, .int 2]) C hw (ok_X9_counted X l σ x7 2 _ eq30) l_50 vc_9 gw_1179 gw_1176 gw_1178 gw_88 gw_123 hl.1 pd_X9_counted ⟨Nat.le_of_ble_eq_true rfl, Nat.le_of_ble_eq_true rfl⟩ ⟨Nat.le_refl 0, Nat.le_refl 0⟩ (rest := []) (Nat.le_of_ble_eq_true rfl) dX9_whyNot_79 rfl (fun H locs hw => ?_)
                  refine lv_iload_n C.1 C.2.1 dX9_whyNot_82 rfl (lv_at hl 3 rfl) ?_
                  refine lv_icmp_le (tgt := 90) C.1 C.2.1 dX9_whyNot_83 (by decide) (fun c31 => ?_) (fun c31 => ?_)
                  · have h := ite_t c31 h
                    refine lv_iconst (v := 0) C.1 C.2.1 dX9_whyNot_90 (by decide) ?_
                    refine lv_istore (lv' := [(6, .int 0), (0, .ref (X.2.1 50)), (1, .int a1), (2, .int a2), (3, .int a3), (4, .int a4), (5, .int x5), (7, .int x7)]) C.1 C.2.1 dX9_whyNot_91 hl (by decide) rfl (fun ls hl => ?_)
                    refine lv_goto (tgt := 134) C.1 C.2.1 dX9_whyNot_93 (by decide) ?_
                    obtain ⟨v32, ev32, h⟩ := nm_d h
                    refine lv_iinc (v := v32) (lv' := [(7, .int v32), (6, .int 0), (0, .ref (X.2.1 50)), (1, .int a1), (2, .int a2), (3, .int a3), (4, .int a4), (5, .int x5)]) C.1 C.2.1 dX9_whyNot_134 hl (k := 7) rfl (by rw [ev32]; rfl) (by decide) rfl (fun ls hl => ?_)
                    refine lv_goto (tgt := 9) C.1 C.2.1 dX9_whyNot_137 (by decide) ?_
                    exact ih x5 0 v32 h _ _ hw ls (lv_sub hl [2, 3, 4, 5, 6, 7, 1, 0] rfl)
                  · have h := ite_f c31 h
                    refine lv_iconst (v := 1) C.1 C.2.1 dX9_whyNot_86 (by decide) ?_
                    refine lv_goto (tgt := 91) C.1 C.2.1 dX9_whyNot_87 (by decide) ?_
                    refine lv_istore (lv' := [(6, .int 1), (0, .ref (X.2.1 50)), (1, .int a1), (2, .int a2), (3, .int a3), (4, .int a4), (5, .int x5), (7, .int x7)]) C.1 C.2.1 dX9_whyNot_91 hl (by decide) rfl (fun ls hl => ?_)
                    refine lv_goto (tgt := 134) C.1 C.2.1 dX9_whyNot_93 (by decide) ?_
                    obtain ⟨v33, ev33, h⟩ := nm_d h
                    refine lv_iinc (v := v33) (lv' := [(7, .int v33), (6, .int 1), (0, .ref (X.2.1 50)), (1, .int a1), (2, .int a2), (3, .int a3), (4, .int a4), (5, .int x5)]) C.1 C.2.1 dX9_whyNot_134 hl (k := 7) rfl (by rw [ev33]; rfl) (by decide) rfl (fun ls hl => ?_)
                    refine lv_goto (tgt := 9) C.1 C.2.1 dX9_whyNot_137 (by decide) ?_
                    exact ih x5 1 v33 h _ _ hw ls (lv_sub hl [2, 3, 4, 5, 6, 7, 1, 0] rfl)
            · have h := ite_t c15 h
              refine lv_bipush (v := (-2)) C.1 C.2.1 dX9_whyNot_56 (by decide) ?_
              exact r_iret C hr hlk hw (Option.some.inj h) rfl dX9_whyNot_58
          · have h := ite_f c13 h
            refine lv_goto (tgt := 134) C.1 C.2.1 dX9_whyNot_42 (by decide) ?_
            obtain ⟨v34, ev34, h⟩ := nm_d h
            refine lv_iinc (v := v34) (lv' := [(7, .int v34), (0, .ref (X.2.1 50)), (1, .int a1), (2, .int a2), (3, .int a3), (4, .int a4), (5, .int x5), (6, .int x6)]) C.1 C.2.1 dX9_whyNot_134 hl (k := 7) rfl (by rw [ev34]; rfl) (by decide) rfl (fun ls hl => ?_)
            refine lv_goto (tgt := 9) C.1 C.2.1 dX9_whyNot_137 (by decide) ?_
            exact ih x5 x6 v34 h _ _ hw ls (lv_sub hl [1, 2, 3, 4, 5, 6, 7, 0] rfl)
  rw [f_X9_whyNot] at h
  refine lv_iconst (v := (-1)) C.1 C.2.1 dX9_whyNot_0 (by decide) ?_
  refine lv_istore (lv' := [(5, .int (-1)), (0, .ref (X.2.1 50)), (1, .int a1), (2, .int a2), (3, .int a3), (4, .int a4)]) C.1 C.2.1 dX9_whyNot_1 hl (by decide) rfl (fun ls hl => ?_)
  refine lv_iconst (v := 0) C.1 C.2.1 dX9_whyNot_3 (by decide) ?_
  refine lv_istore (lv' := [(6, .int 0), (5, .int (-1)), (0, .ref (X.2.1 50)), (1, .int a1), (2, .int a2), (3, .int a3), (4, .int a4)]) C.1 C.2.1 dX9_whyNot_4 hl (by decide) rfl (fun ls hl => ?_)
  refine lv_iconst (v := 0) C.1 C.2.1 dX9_whyNot_6 (by decide) ?_
  refine lv_istore (lv' := [(7, .int 0), (6, .int 0), (5, .int (-1)), (0, .ref (X.2.1 50)), (1, .int a1), (2, .int a2), (3, .int a3), (4, .int a4)]) C.1 C.2.1 dX9_whyNot_7 hl (by decide) rfl (fun ls hl => ?_)
  exact b9 10000 (-1) 0 0 h _ _ hw ls (lv_sub hl [3, 4, 5, 6, 7, 2, 1, 0] rfl)
def f_X9_counts (σ : St) (a1 : Int32) (a2 : Int32) (a3 : Int32) (a4 : Int32) (a5 : Int32) : Option (Int32 × St) :=
  nm (upI σ 50 0 0) fun σ1 => (f_X9_isShelf σ1 a1).bind fun q2 => if (b2i q2) = 0 then (some ((-1), σ1)) else ((f_X9_isItem σ1 a2).bind fun q4 => if (b2i q4) = 0 then (some ((-1), σ1)) else (if (b2i (f_X9_isInstant σ1 a3)) = 0 then (some ((-1), σ1)) else (if (b2i (f_X9_isIn σ1 a4 0 9999)) = 0 then (some ((-1), σ1)) else (if (b2i (f_X9_isIn σ1 a5 0 3)) = 0 then (some ((-1), σ1)) else ((f_X9_whyNot σ1 a1 a2 a3 a5).bind fun q12 => if 0 ≤ q12 then ((f_X9_snap σ1).bind fun q14 => (rd q14 52 845 3).bind fun v15 => nm (445 + (6 * v15)) fun v16 => (wr q14 52 845 (v16 + 0) a1).bind fun σ17 => (wr σ17 52 845 (v16 + 1) a2).bind fun σ18 => (wr σ18 52 845 (v16 + 2) a3).bind fun σ19 => (wr σ19 52 845 (v16 + 3) a4).bind fun σ20 => (wr σ20 52 845 (v16 + 4) a5).bind fun σ21 => (wr σ21 52 845 (v16 + 5) 0).bind fun σ22 => (rd σ22 52 845 3).bind fun v23 => (wr σ22 52 845 3 (v23 + 1)).bind fun σ24 => (rd σ24 52 845 3).bind fun v25 => some (v25 - 1, σ24)) else (some (q12, σ1)))))))
set_option maxRecDepth 100000 in
set_option maxHeartbeats 4000000 in
theorem ok_X9_counts (X : Xc) (l : Launch) (σ : St) (a1 : Int32) (a2 : Int32) (a3 : Int32) (a4 : Int32) (a5 : Int32) (r : Int32) (σ' : St) (h : f_X9_counts σ a1 a2 a3 a4 a5 = some (r, σ')) : Ok X l yX9_counts cX9_counts 8 (some .int) 2 49 [.ref (X.2.1 50), .int a1, .int a2, .int a3, .int a4, .int a5] σ (some (.int r)) σ' := by
  refine Ok.of (by decide) (Nat.le_of_ble_eq_true rfl) ?_
  intro p e s m args below meth c C hr hlk hw ls hl
  have C : Cx p s m args c X cX9_counts 8 "RunningCountModel" := C
  have hl : lv_has ls 8 [(0, .ref (X.2.1 50)), (1, .int a1), (2, .int a2), (3, .int a3), (4, .int a4), (5, .int a5)] := hl
  rw [f_X9_counts] at h
  refine lv_aload_n C.1 C.2.1 dX9_counts_0 rfl (lv_at hl 0 rfl) ?_
  refine lv_iconst (v := 0) C.1 C.2.1 dX9_counts_1 (by decide) ?_
  obtain ⟨σ1, eσ1, h⟩ := nm_d h
  refine r_put C hw l_50 vc_9 kX9 tyX9 tyX9_ok nmX9 0 (by decide) (by decide) gw_1014 rfl rfl rfl (put_i l_50 rfl eσ1) dX9_counts_2 (fun H locs hw => ?_)
  refine lv_aload_n C.1 C.2.1 dX9_counts_5 rfl (lv_at hl 0 rfl) ?_
  refine lv_iload_n C.1 C.2.1 dX9_counts_6 rfl (lv_at hl 1 rfl) ?_
  obtain ⟨q2, eq2, h⟩ := bnd h
  refine r_callV (As := [.int a1]) C hw (ok_X9_isShelf X l σ1 a1 _ eq2) l_50 vc_9 gw_1219 gw_1216 gw_1218 gw_95 gw_123 hl.1 pd_X9_isShelf ⟨Nat.le_of_ble_eq_true rfl, Nat.le_of_ble_eq_true rfl⟩ ⟨Nat.le_refl 0, Nat.le_refl 0⟩ (rest := []) (Nat.le_of_ble_eq_true rfl) dX9_counts_7 rfl (fun H locs hw => ?_)
  refine lv_if_eq (tgt := 50) C.1 C.2.1 dX9_counts_10 (by decide) (fun c3 => ?_) (fun c3 => ?_)
  · have h := ite_t c3 h
    refine lv_iconst (v := (-1)) C.1 C.2.1 dX9_counts_50 (by decide) ?_
    exact r_iret C hr hlk hw (Prod.mk.inj (Option.some.inj h)).1 (Prod.mk.inj (Option.some.inj h)).2 dX9_counts_51
  · have h := ite_f c3 h
    refine lv_aload_n C.1 C.2.1 dX9_counts_13 rfl (lv_at hl 0 rfl) ?_
    refine lv_iload_n C.1 C.2.1 dX9_counts_14 rfl (lv_at hl 2 rfl) ?_
    obtain ⟨q4, eq4, h⟩ := bnd h
    refine r_callV (As := [.int a2]) C hw (ok_X9_isItem X l σ1 a2 _ eq4) l_50 vc_9 gw_1187 gw_1184 gw_1186 gw_89 gw_123 hl.1 pd_X9_isItem ⟨Nat.le_of_ble_eq_true rfl, Nat.le_of_ble_eq_true rfl⟩ ⟨Nat.le_refl 0, Nat.le_refl 0⟩ (rest := []) (Nat.le_of_ble_eq_true rfl) dX9_counts_15 rfl (fun H locs hw => ?_)
    refine lv_if_eq (tgt := 50) C.1 C.2.1 dX9_counts_18 (by decide) (fun c5 => ?_) (fun c5 => ?_)
    · have h := ite_t c5 h
      refine lv_iconst (v := (-1)) C.1 C.2.1 dX9_counts_50 (by decide) ?_
      exact r_iret C hr hlk hw (Prod.mk.inj (Option.some.inj h)).1 (Prod.mk.inj (Option.some.inj h)).2 dX9_counts_51
    · have h := ite_f c5 h
      refine lv_iload_n C.1 C.2.1 dX9_counts_21 rfl (lv_at hl 3 rfl) ?_
      refine r_callS (As := [.int a3]) C hw (ok_X9_isInstant X l σ1 a3 _ rfl) gw_1222 gw_1220 gw_1221 gw_123 hl.1 pd_X9_isInstant ⟨Nat.le_of_ble_eq_true rfl, Nat.le_of_ble_eq_true rfl⟩ ⟨Nat.le_refl 0, Nat.le_refl 0⟩ (rest := []) (Nat.le_of_ble_eq_true rfl) dX9_counts_22 rfl (fun H locs hw => ?_)
      refine lv_if_eq (tgt := 50) C.1 C.2.1 dX9_counts_25 (by decide) (fun c7 => ?_) (fun c7 => ?_)
      · have h := ite_t c7 h
        refine lv_iconst (v := (-1)) C.1 C.2.1 dX9_counts_50 (by decide) ?_
        exact r_iret C hr hlk hw (Prod.mk.inj (Option.some.inj h)).1 (Prod.mk.inj (Option.some.inj h)).2 dX9_counts_51
      · have h := ite_f c7 h
        refine lv_iload C.1 C.2.1 dX9_counts_28 (lv_at hl 4 rfl) ?_
        refine lv_iconst (v := 0) C.1 C.2.1 dX9_counts_30 (by decide) ?_
        refine lv_sipush (v := 9999) C.1 C.2.1 dX9_counts_31 (by decide) ?_
        refine r_callS (As := [.int a4, .int 0, .int 9999]) C hw (ok_X9_isIn X l σ1 a4 0 9999 _ rfl) gw_1130 gw_1128 gw_1129 gw_123 hl.1 pd_X9_isIn ⟨Nat.le_of_ble_eq_true rfl, Nat.le_of_ble_eq_true rfl⟩ ⟨Nat.le_refl 0, Nat.le_refl 0⟩ (rest := []) (Nat.le_of_ble_eq_true rfl) dX9_counts_34 rfl (fun H locs hw => ?_)
        refine lv_if_eq (tgt := 50) C.1 C.2.1 dX9_counts_37 (by decide) (fun c9 => ?_) (fun c9 => ?_)
        · have h := ite_t c9 h
          refine lv_iconst (v := (-1)) C.1 C.2.1 dX9_counts_50 (by decide) ?_
          exact r_iret C hr hlk hw (Prod.mk.inj (Option.some.inj h)).1 (Prod.mk.inj (Option.some.inj h)).2 dX9_counts_51
        · have h := ite_f c9 h
          refine lv_iload C.1 C.2.1 dX9_counts_40 (lv_at hl 5 rfl) ?_
          refine lv_iconst (v := 0) C.1 C.2.1 dX9_counts_42 (by decide) ?_
          refine lv_iconst (v := 3) C.1 C.2.1 dX9_counts_43 (by decide) ?_
          refine r_callS (As := [.int a5, .int 0, .int 3]) C hw (ok_X9_isIn X l σ1 a5 0 3 _ rfl) gw_1130 gw_1128 gw_1129 gw_123 hl.1 pd_X9_isIn ⟨Nat.le_of_ble_eq_true rfl, Nat.le_of_ble_eq_true rfl⟩ ⟨Nat.le_refl 0, Nat.le_refl 0⟩ (rest := []) (Nat.le_of_ble_eq_true rfl) dX9_counts_44 rfl (fun H locs hw => ?_)
          refine lv_if_ne (tgt := 52) C.1 C.2.1 dX9_counts_47 (by decide) (fun c11 => ?_) (fun c11 => ?_)
          · have h := ite_f c11 h
            refine lv_aload_n C.1 C.2.1 dX9_counts_52 rfl (lv_at hl 0 rfl) ?_
            refine lv_iload_n C.1 C.2.1 dX9_counts_53 rfl (lv_at hl 1 rfl) ?_
            refine lv_iload_n C.1 C.2.1 dX9_counts_54 rfl (lv_at hl 2 rfl) ?_
            refine lv_iload_n C.1 C.2.1 dX9_counts_55 rfl (lv_at hl 3 rfl) ?_
            refine lv_iload C.1 C.2.1 dX9_counts_56 (lv_at hl 5 rfl) ?_
            obtain ⟨q12, eq12, h⟩ := bnd h
            refine r_callV (As := [.int a1, .int a2, .int a3, .int a5]) C hw (ok_X9_whyNot X l σ1 a1 a2 a3 a5 _ eq12) l_50 vc_9 gw_1350 gw_1347 gw_1349 gw_112 gw_123 hl.1 pd_X9_whyNot ⟨Nat.le_of_ble_eq_true rfl, Nat.le_of_ble_eq_true rfl⟩ ⟨Nat.le_refl 0, Nat.le_refl 0⟩ (rest := []) (Nat.le_of_ble_eq_true rfl) dX9_counts_58 rfl (fun H locs hw => ?_)
            refine lv_istore (lv' := [(6, .int q12), (0, .ref (X.2.1 50)), (1, .int a1), (2, .int a2), (3, .int a3), (4, .int a4), (5, .int a5)]) C.1 C.2.1 dX9_counts_61 hl (by decide) rfl (fun ls hl => ?_)
            refine lv_iload C.1 C.2.1 dX9_counts_63 (lv_at hl 0 rfl) ?_
            refine lv_if_ge (tgt := 71) C.1 C.2.1 dX9_counts_65 (by decide) (fun c13 => ?_) (fun c13 => ?_)
            · have h := ite_t c13 h
              refine lv_aload_n C.1 C.2.1 dX9_counts_71 rfl (lv_at hl 1 rfl) ?_
              obtain ⟨q14, eq14, h⟩ := bnd h
              refine r_callV (As := []) C hw (ok_X9_snap X l σ1 _ eq14) l_50 vc_9 gw_1331 gw_1328 gw_1330 gw_111 gw_123 hl.1 pd_X9_snap ⟨Nat.le_of_ble_eq_true rfl, Nat.le_of_ble_eq_true rfl⟩ ⟨Nat.le_refl 0, Nat.le_refl 0⟩ (rest := []) (Nat.le_of_ble_eq_true rfl) dX9_counts_72 rfl (fun H locs hw => ?_)
              refine lv_sipush (v := 445) C.1 C.2.1 dX9_counts_75 (by decide) ?_
              refine lv_bipush (v := 6) C.1 C.2.1 dX9_counts_78 (by decide) ?_
              refine lv_aload_n C.1 C.2.1 dX9_counts_80 rfl (lv_at hl 1 rfl) ?_
              refine r_get (v := .ref (X.2.1 52)) C hw l_50 vc_9 kX9 11 rfl (by decide) gw_1025 rfl dX9_counts_81 ?_
              refine lv_iconst (v := 3) C.1 C.2.1 dX9_counts_84 (by decide) ?_
              obtain ⟨v15, ev15, h⟩ := bnd h
              refine r_ald C hw l_52 ev15 dX9_counts_85 ?_
              refine lv_imul C.1 C.2.1 dX9_counts_86 ?_
              refine lv_iadd C.1 C.2.1 dX9_counts_87 ?_
              obtain ⟨v16, ev16, h⟩ := nm_d h
              refine lv_nm ev16 ?_
              refine lv_istore (lv' := [(7, .int v16), (6, .int q12), (0, .ref (X.2.1 50)), (1, .int a1), (2, .int a2), (3, .int a3), (4, .int a4), (5, .int a5)]) C.1 C.2.1 dX9_counts_88 hl (by decide) rfl (fun ls hl => ?_)
              refine lv_aload_n C.1 C.2.1 dX9_counts_90 rfl (lv_at hl 2 rfl) ?_
              refine r_get (v := .ref (X.2.1 52)) C hw l_50 vc_9 kX9 11 rfl (by decide) gw_1025 rfl dX9_counts_91 ?_
              refine lv_iload C.1 C.2.1 dX9_counts_94 (lv_at hl 0 rfl) ?_
              refine lv_iconst (v := 0) C.1 C.2.1 dX9_counts_96 (by decide) ?_
              refine lv_iadd C.1 C.2.1 dX9_counts_97 ?_
              refine lv_iload_n C.1 C.2.1 dX9_counts_98 rfl (lv_at hl 3 rfl) ?_
              obtain ⟨σ17, eσ17, h⟩ := bnd h
              refine r_ast C hw l_52 eσ17 dX9_counts_99 (fun H locs hw => ?_)
              refine lv_aload_n C.1 C.2.1 dX9_counts_100 rfl (lv_at hl 2 rfl) ?_
              refine r_get (v := .ref (X.2.1 52)) C hw l_50 vc_9 kX9 11 rfl (by decide) gw_1025 rfl dX9_counts_101 ?_
              refine lv_iload C.1 C.2.1 dX9_counts_104 (lv_at hl 0 rfl) ?_
              refine lv_iconst (v := 1) C.1 C.2.1 dX9_counts_106 (by decide) ?_
              refine lv_iadd C.1 C.2.1 dX9_counts_107 ?_
              refine lv_iload_n C.1 C.2.1 dX9_counts_108 rfl (lv_at hl 4 rfl) ?_
              obtain ⟨σ18, eσ18, h⟩ := bnd h
              refine r_ast C hw l_52 eσ18 dX9_counts_109 (fun H locs hw => ?_)
              refine lv_aload_n C.1 C.2.1 dX9_counts_110 rfl (lv_at hl 2 rfl) ?_
              refine r_get (v := .ref (X.2.1 52)) C hw l_50 vc_9 kX9 11 rfl (by decide) gw_1025 rfl dX9_counts_111 ?_
              refine lv_iload C.1 C.2.1 dX9_counts_114 (lv_at hl 0 rfl) ?_
              refine lv_iconst (v := 2) C.1 C.2.1 dX9_counts_116 (by decide) ?_
              refine lv_iadd C.1 C.2.1 dX9_counts_117 ?_
              refine lv_iload_n C.1 C.2.1 dX9_counts_118 rfl (lv_at hl 5 rfl) ?_
              obtain ⟨σ19, eσ19, h⟩ := bnd h
              refine r_ast C hw l_52 eσ19 dX9_counts_119 (fun H locs hw => ?_)
              refine lv_aload_n C.1 C.2.1 dX9_counts_120 rfl (lv_at hl 2 rfl) ?_
              refine r_get (v := .ref (X.2.1 52)) C hw l_50 vc_9 kX9 11 rfl (by decide) gw_1025 rfl dX9_counts_121 ?_
              refine lv_iload C.1 C.2.1 dX9_counts_124 (lv_at hl 0 rfl) ?_
              refine lv_iconst (v := 3) C.1 C.2.1 dX9_counts_126 (by decide) ?_
              refine lv_iadd C.1 C.2.1 dX9_counts_127 ?_
              refine lv_iload C.1 C.2.1 dX9_counts_128 (lv_at hl 6 rfl) ?_
              obtain ⟨σ20, eσ20, h⟩ := bnd h
              refine r_ast C hw l_52 eσ20 dX9_counts_130 (fun H locs hw => ?_)
              refine lv_aload_n C.1 C.2.1 dX9_counts_131 rfl (lv_at hl 2 rfl) ?_
              refine r_get (v := .ref (X.2.1 52)) C hw l_50 vc_9 kX9 11 rfl (by decide) gw_1025 rfl dX9_counts_132 ?_
              refine lv_iload C.1 C.2.1 dX9_counts_135 (lv_at hl 0 rfl) ?_
              refine lv_iconst (v := 4) C.1 C.2.1 dX9_counts_137 (by decide) ?_
              refine lv_iadd C.1 C.2.1 dX9_counts_138 ?_
              refine lv_iload C.1 C.2.1 dX9_counts_139 (lv_at hl 7 rfl) ?_
              obtain ⟨σ21, eσ21, h⟩ := bnd h
              refine r_ast C hw l_52 eσ21 dX9_counts_141 (fun H locs hw => ?_)
              refine lv_aload_n C.1 C.2.1 dX9_counts_142 rfl (lv_at hl 2 rfl) ?_
              refine r_get (v := .ref (X.2.1 52)) C hw l_50 vc_9 kX9 11 rfl (by decide) gw_1025 rfl dX9_counts_143 ?_
              refine lv_iload C.1 C.2.1 dX9_counts_146 (lv_at hl 0 rfl) ?_
              refine lv_iconst (v := 5) C.1 C.2.1 dX9_counts_148 (by decide) ?_
              refine lv_iadd C.1 C.2.1 dX9_counts_149 ?_
              refine lv_iconst (v := 0) C.1 C.2.1 dX9_counts_150 (by decide) ?_
              obtain ⟨σ22, eσ22, h⟩ := bnd h
              refine r_ast C hw l_52 eσ22 dX9_counts_151 (fun H locs hw => ?_)
              refine lv_aload_n C.1 C.2.1 dX9_counts_152 rfl (lv_at hl 2 rfl) ?_
              refine r_get (v := .ref (X.2.1 52)) C hw l_50 vc_9 kX9 11 rfl (by decide) gw_1025 rfl dX9_counts_153 ?_
              refine lv_iconst (v := 3) C.1 C.2.1 dX9_counts_156 (by decide) ?_
              refine lv_dup2_11 C.1 C.2.1 dX9_counts_157 rfl rfl ?_
              obtain ⟨v23, ev23, h⟩ := bnd h
              refine r_ald C hw l_52 ev23 dX9_counts_158 ?_
              refine lv_iconst (v := 1) C.1 C.2.1 dX9_counts_159 (by decide) ?_
              refine lv_iadd C.1 C.2.1 dX9_counts_160 ?_
              obtain ⟨σ24, eσ24, h⟩ := bnd h
              refine r_ast C hw l_52 eσ24 dX9_counts_161 (fun H locs hw => ?_)
              refine lv_aload_n C.1 C.2.1 dX9_counts_162 rfl (lv_at hl 2 rfl) ?_
              refine r_get (v := .ref (X.2.1 52)) C hw l_50 vc_9 kX9 11 rfl (by decide) gw_1025 rfl dX9_counts_163 ?_
              refine lv_iconst (v := 3) C.1 C.2.1 dX9_counts_166 (by decide) ?_
              obtain ⟨v25, ev25, h⟩ := bnd h
              refine r_ald C hw l_52 ev25 dX9_counts_167 ?_
              refine lv_iconst (v := 1) C.1 C.2.1 dX9_counts_168 (by decide) ?_
              refine lv_isub C.1 C.2.1 dX9_counts_169 ?_
              exact r_iret C hr hlk hw (Prod.mk.inj (Option.some.inj h)).1 (Prod.mk.inj (Option.some.inj h)).2 dX9_counts_170
            · have h := ite_f c13 h
              refine lv_iload C.1 C.2.1 dX9_counts_68 (lv_at hl 0 rfl) ?_
              exact r_iret C hr hlk hw (Prod.mk.inj (Option.some.inj h)).1 (Prod.mk.inj (Option.some.inj h)).2 dX9_counts_70
          · have h := ite_t c11 h
            refine lv_iconst (v := (-1)) C.1 C.2.1 dX9_counts_50 (by decide) ?_
            exact r_iret C hr hlk hw (Prod.mk.inj (Option.some.inj h)).1 (Prod.mk.inj (Option.some.inj h)).2 dX9_counts_51
def f_X9_post_b121 (a1 : Int32) (a2 : Int32) : Nat → St → Int32 → Int32 → Int32 → Option (Int32 × St)
  | 0, _, _, _, _ => none
  | n + 1, σ, x3, x4, x6 => (rd σ 52 845 3).bind fun v16 => if v16 ≤ x6 then (some (x4, σ)) else ((f_X9_isOpenAt σ x6 a1 a2).bind fun q18 => if (b2i q18) = 0 then (nm (x6 + 1) fun v20 => f_X9_post_b121 a1 a2 n σ x3 x4 v20) else ((f_X9_counted σ x6 2).bind fun q21 => (f_X9_counted σ x3 2).bind fun q22 => if q22 < q21 then (nm (x6 + 1) fun v24 => f_X9_post_b121 a1 a2 n σ x3 x4 v24) else ((wr σ 52 845 ((445 + (6 * x6)) + 5) 1).bind fun σ25 => nm (x6 + 1) fun v26 => f_X9_post_b121 a1 a2 n σ25 x3 x4 v26)))
def f_X9_post_b31 (a1 : Int32) (a2 : Int32) (σ : St) (s0 : Int32) : Option (Int32 × St) :=
  if 0 ≤ s0 then ((f_X9_snap σ).bind fun q5 => (f_X9_differenceOf q5 s0).bind fun q6 => (rd q5 52 845 4).bind fun v7 => nm (685 + (4 * v7)) fun v8 => (wr q5 52 845 v8 a1).bind fun σ9 => (wr σ9 52 845 (v8 + 1) a2).bind fun σ10 => (f_X9_counted σ10 s0 2).bind fun q11 => (wr σ10 52 845 (v8 + 2) q11).bind fun σ12 => (wr σ12 52 845 (v8 + 3) q6).bind fun σ13 => (rd σ13 52 845 4).bind fun v14 => (wr σ13 52 845 4 (v14 + 1)).bind fun σ15 => f_X9_post_b121 a1 a2 10000 σ15 s0 q6 0) else (some ((-100000000), σ))
def f_X9_post (σ : St) (a1 : Int32) (a2 : Int32) : Option (Int32 × St) :=
  nm (upI σ 50 0 0) fun σ1 => (f_X9_isShelf σ1 a1).bind fun q2 => if (b2i q2) = 0 then (f_X9_post_b31 a1 a2 σ1 (-1)) else ((f_X9_isItem σ1 a2).bind fun q27 => if (b2i q27) = 0 then (f_X9_post_b31 a1 a2 σ1 (-1)) else ((f_X9_choose σ1 a1 a2).bind fun q29 => f_X9_post_b31 a1 a2 q29.2 q29.1))
set_option maxRecDepth 100000 in
set_option maxHeartbeats 4000000 in
theorem ok_X9_post (X : Xc) (l : Launch) (σ : St) (a1 : Int32) (a2 : Int32) (r : Int32) (σ' : St) (h : f_X9_post σ a1 a2 = some (r, σ')) : Ok X l yX9_post cX9_post 7 (some .int) 7 167 [.ref (X.2.1 50), .int a1, .int a2] σ (some (.int r)) σ' := by
  refine Ok.of (by decide) (Nat.le_of_ble_eq_true rfl) ?_
  intro p e s m args below meth c C hr hlk hw ls hl
  have C : Cx p s m args c X cX9_post 7 "RunningCountModel" := C
  have hl : lv_has ls 7 [(0, .ref (X.2.1 50)), (1, .int a1), (2, .int a2)] := hl
  have b121 : ∀ (n : Nat), ∀ (σ : St) (x3 : Int32) (x4 : Int32) (x6 : Int32), f_X9_post_b121 a1 a2 n σ x3 x4 x6 = some (r, σ') → ∀ (H : Heap) (locs : List Loc), At X σ s.heap H locs → ∀ ls : Array Slot, lv_has ls 7 [(0, .ref (X.2.1 50)), (1, .int a1), (2, .int a2), (3, .int x3), (4, .int x4), (6, .int x6)] → W p l e (rmX 7 167) s m args below meth c H locs 0 0 (Zq X below s args (some (.int r)) σ') (F0 m 121 ls []) := by
    intro n
    induction n with
    | zero =>
      intro σ x3 x4 x6 h
      exact no_some h
    | succ n ih =>
      intro σ x3 x4 x6 h H locs hw ls hl
      rw [f_X9_post_b121] at h
      refine lv_iload C.1 C.2.1 dX9_post_121 (lv_at hl 5 rfl) ?_
      refine lv_aload_n C.1 C.2.1 dX9_post_123 rfl (lv_at hl 0 rfl) ?_
      refine r_get (v := .ref (X.2.1 52)) C hw l_50 vc_9 kX9 11 rfl (by decide) gw_1025 rfl dX9_post_124 ?_
      refine lv_iconst (v := 3) C.1 C.2.1 dX9_post_127 (by decide) ?_
      obtain ⟨v16, ev16, h⟩ := bnd h
      refine r_ald C hw l_52 ev16 dX9_post_128 ?_
      refine lv_icmp_ge (tgt := 182) C.1 C.2.1 dX9_post_129 (by decide) (fun c17 => ?_) (fun c17 => ?_)
      · have h := ite_t c17 h
        refine lv_iload C.1 C.2.1 dX9_post_182 (lv_at hl 4 rfl) ?_
        exact r_iret C hr hlk hw (Prod.mk.inj (Option.some.inj h)).1 (Prod.mk.inj (Option.some.inj h)).2 dX9_post_184
      · have h := ite_f c17 h
        refine lv_aload_n C.1 C.2.1 dX9_post_132 rfl (lv_at hl 0 rfl) ?_
        refine lv_iload C.1 C.2.1 dX9_post_133 (lv_at hl 5 rfl) ?_
        refine lv_iload_n C.1 C.2.1 dX9_post_135 rfl (lv_at hl 1 rfl) ?_
        refine lv_iload_n C.1 C.2.1 dX9_post_136 rfl (lv_at hl 2 rfl) ?_
        obtain ⟨q18, eq18, h⟩ := bnd h
        refine r_callV (As := [.int x6, .int a1, .int a2]) C hw (ok_X9_isOpenAt X l σ x6 a1 a2 _ eq18) l_50 vc_9 gw_1308 gw_1305 gw_1307 gw_110 gw_123 hl.1 pd_X9_isOpenAt ⟨Nat.le_of_ble_eq_true rfl, Nat.le_of_ble_eq_true rfl⟩ ⟨Nat.le_refl 0, Nat.le_refl 0⟩ (rest := []) (Nat.le_of_ble_eq_true rfl) dX9_post_137 rfl (fun H locs hw => ?_)
        refine lv_if_eq (tgt := 176) C.1 C.2.1 dX9_post_140 (by decide) (fun c19 => ?_) (fun c19 => ?_)
        · have h := ite_t c19 h
          obtain ⟨v20, ev20, h⟩ := nm_d h
          refine lv_iinc (v := v20) (lv' := [(6, .int v20), (0, .ref (X.2.1 50)), (1, .int a1), (2, .int a2), (3, .int x3), (4, .int x4)]) C.1 C.2.1 dX9_post_176 hl (k := 5) rfl (by rw [ev20]; rfl) (by decide) rfl (fun ls hl => ?_)
          refine lv_goto (tgt := 121) C.1 C.2.1 dX9_post_179 (by decide) ?_
          exact ih σ x3 x4 v20 h _ _ hw ls (lv_sub hl [1, 2, 3, 4, 5, 0] rfl)
        · have h := ite_f c19 h
          refine lv_aload_n C.1 C.2.1 dX9_post_143 rfl (lv_at hl 0 rfl) ?_
          refine lv_iload C.1 C.2.1 dX9_post_144 (lv_at hl 5 rfl) ?_
          refine lv_iconst (v := 2) C.1 C.2.1 dX9_post_146 (by decide) ?_
          obtain ⟨q21, eq21, h⟩ := bnd h
          refine r_callV (As := [.int x6, .int 2]) C hw (ok_X9_counted X l σ x6 2 _ eq21) l_50 vc_9 gw_1179 gw_1176 gw_1178 gw_88 gw_123 hl.1 pd_X9_counted ⟨Nat.le_of_ble_eq_true rfl, Nat.le_of_ble_eq_true rfl⟩ ⟨Nat.le_refl 0, Nat.le_refl 0⟩ (rest := []) (Nat.le_of_ble_eq_true rfl) dX9_post_147 rfl (fun H locs hw => ?_)
          refine lv_aload_n C.1 C.2.1 dX9_post_150 rfl (lv_at hl 0 rfl) ?_
          refine lv_iload_n C.1 C.2.1 dX9_post_151 rfl (lv_at hl 3 rfl) ?_
          refine lv_iconst (v := 2) C.1 C.2.1 dX9_post_152 (by decide) ?_
          obtain ⟨q22, eq22, h⟩ := bnd h
          refine r_callV (As := [.int x3, .int 2]) C hw (ok_X9_counted X l σ x3 2 _ eq22) l_50 vc_9 gw_1179 gw_1176 gw_1178 gw_88 gw_123 hl.1 pd_X9_counted ⟨Nat.le_of_ble_eq_true rfl, Nat.le_of_ble_eq_true rfl⟩ ⟨Nat.le_refl 0, Nat.le_refl 0⟩ (rest := [.int q21]) (Nat.le_of_ble_eq_true rfl) dX9_post_153 rfl (fun H locs hw => ?_)
          refine lv_icmp_gt (tgt := 176) C.1 C.2.1 dX9_post_156 (by decide) (fun c23 => ?_) (fun c23 => ?_)
          · have h := ite_t c23 h
            obtain ⟨v24, ev24, h⟩ := nm_d h
            refine lv_iinc (v := v24) (lv' := [(6, .int v24), (0, .ref (X.2.1 50)), (1, .int a1), (2, .int a2), (3, .int x3), (4, .int x4)]) C.1 C.2.1 dX9_post_176 hl (k := 5) rfl (by rw [ev24]; rfl) (by decide) rfl (fun ls hl => ?_)
            refine lv_goto (tgt := 121) C.1 C.2.1 dX9_post_179 (by decide) ?_
            exact ih σ x3 x4 v24 h _ _ hw ls (lv_sub hl [1, 2, 3, 4, 5, 0] rfl)
          · have h := ite_f c23 h
            refine lv_aload_n C.1 C.2.1 dX9_post_159 rfl (lv_at hl 0 rfl) ?_
            refine r_get (v := .ref (X.2.1 52)) C hw l_50 vc_9 kX9 11 rfl (by decide) gw_1025 rfl dX9_post_160 ?_
            refine lv_sipush (v := 445) C.1 C.2.1 dX9_post_163 (by decide) ?_
            refine lv_bipush (v := 6) C.1 C.2.1 dX9_post_166 (by decide) ?_
            refine lv_iload C.1 C.2.1 dX9_post_168 (lv_at hl 5 rfl) ?_
            refine lv_imul C.1 C.2.1 dX9_post_170 ?_
            refine lv_iadd C.1 C.2.1 dX9_post_171 ?_
            refine lv_iconst (v := 5) C.1 C.2.1 dX9_post_172 (by decide) ?_
            refine lv_iadd C.1 C.2.1 dX9_post_173 ?_
            refine lv_iconst (v := 1) C.1 C.2.1 dX9_post_174 (by decide) ?_
            obtain ⟨σ25, eσ25, h⟩ := bnd h
            refine r_ast C hw l_52 eσ25 dX9_post_175 (fun H locs hw => ?_)
            obtain ⟨v26, ev26, h⟩ := nm_d h
            refine lv_iinc (v := v26) (lv' := [(6, .int v26), (0, .ref (X.2.1 50)), (1, .int a1), (2, .int a2), (3, .int x3), (4, .int x4)]) C.1 C.2.1 dX9_post_176 hl (k := 5) rfl (by rw [ev26]; rfl) (by decide) rfl (fun ls hl => ?_)
            refine lv_goto (tgt := 121) C.1 C.2.1 dX9_post_179 (by decide) ?_
            exact ih σ25 x3 x4 v26 h _ _ hw ls (lv_sub hl [1, 2, 3, 4, 5, 0] rfl)
  have b31 : ∀ (σ : St) (s0 : Int32), f_X9_post_b31 a1 a2 σ s0 = some (r, σ') → ∀ (H : Heap) (locs : List Loc), At X σ s.heap H locs → ∀ ls : Array Slot, lv_has ls 7 [(0, .ref (X.2.1 50)), (1, .int a1), (2, .int a2)] → W p l e (rmX 7 167) s m args below meth c H locs 0 0 (Zq X below s args (some (.int r)) σ') (F0 m 31 ls [.int s0]) := by
    intro σ s0 h H locs hw ls hl
    rw [f_X9_post_b31] at h
    refine lv_istore_n (lv' := [(3, .int s0), (0, .ref (X.2.1 50)), (1, .int a1), (2, .int a2)]) C.1 C.2.1 dX9_post_31 rfl hl (by decide) rfl (fun ls hl => ?_)
    refine lv_iload_n C.1 C.2.1 dX9_post_32 rfl (lv_at hl 0 rfl) ?_
    refine lv_if_ge (tgt := 39) C.1 C.2.1 dX9_post_33 (by decide) (fun c4 => ?_) (fun c4 => ?_)
    · have h := ite_t c4 h
      refine lv_aload_n C.1 C.2.1 dX9_post_39 rfl (lv_at hl 1 rfl) ?_
      obtain ⟨q5, eq5, h⟩ := bnd h
      refine r_callV (As := []) C hw (ok_X9_snap X l σ _ eq5) l_50 vc_9 gw_1331 gw_1328 gw_1330 gw_111 gw_123 hl.1 pd_X9_snap ⟨Nat.le_of_ble_eq_true rfl, Nat.le_of_ble_eq_true rfl⟩ ⟨Nat.le_refl 0, Nat.le_refl 0⟩ (rest := []) (Nat.le_of_ble_eq_true rfl) dX9_post_40 rfl (fun H locs hw => ?_)
      refine lv_aload_n C.1 C.2.1 dX9_post_43 rfl (lv_at hl 1 rfl) ?_
      refine lv_iload_n C.1 C.2.1 dX9_post_44 rfl (lv_at hl 0 rfl) ?_
      obtain ⟨q6, eq6, h⟩ := bnd h
      refine r_callV (As := [.int s0]) C hw (ok_X9_differenceOf X l q5 s0 _ eq6) l_50 vc_9 gw_1287 gw_1284 gw_1286 gw_107 gw_123 hl.1 pd_X9_differenceOf ⟨Nat.le_of_ble_eq_true rfl, Nat.le_of_ble_eq_true rfl⟩ ⟨Nat.le_refl 0, Nat.le_refl 0⟩ (rest := []) (Nat.le_of_ble_eq_true rfl) dX9_post_45 rfl (fun H locs hw => ?_)
      refine lv_istore (lv' := [(4, .int q6), (3, .int s0), (0, .ref (X.2.1 50)), (1, .int a1), (2, .int a2)]) C.1 C.2.1 dX9_post_48 hl (by decide) rfl (fun ls hl => ?_)
      refine lv_sipush (v := 685) C.1 C.2.1 dX9_post_50 (by decide) ?_
      refine lv_iconst (v := 4) C.1 C.2.1 dX9_post_53 (by decide) ?_
      refine lv_aload_n C.1 C.2.1 dX9_post_54 rfl (lv_at hl 2 rfl) ?_
      refine r_get (v := .ref (X.2.1 52)) C hw l_50 vc_9 kX9 11 rfl (by decide) gw_1025 rfl dX9_post_55 ?_
      refine lv_iconst (v := 4) C.1 C.2.1 dX9_post_58 (by decide) ?_
      obtain ⟨v7, ev7, h⟩ := bnd h
      refine r_ald C hw l_52 ev7 dX9_post_59 ?_
      refine lv_imul C.1 C.2.1 dX9_post_60 ?_
      refine lv_iadd C.1 C.2.1 dX9_post_61 ?_
      obtain ⟨v8, ev8, h⟩ := nm_d h
      refine lv_nm ev8 ?_
      refine lv_istore (lv' := [(5, .int v8), (4, .int q6), (3, .int s0), (0, .ref (X.2.1 50)), (1, .int a1), (2, .int a2)]) C.1 C.2.1 dX9_post_62 hl (by decide) rfl (fun ls hl => ?_)
      refine lv_aload_n C.1 C.2.1 dX9_post_64 rfl (lv_at hl 3 rfl) ?_
      refine r_get (v := .ref (X.2.1 52)) C hw l_50 vc_9 kX9 11 rfl (by decide) gw_1025 rfl dX9_post_65 ?_
      refine lv_iload C.1 C.2.1 dX9_post_68 (lv_at hl 0 rfl) ?_
      refine lv_iload_n C.1 C.2.1 dX9_post_70 rfl (lv_at hl 4 rfl) ?_
      obtain ⟨σ9, eσ9, h⟩ := bnd h
      refine r_ast C hw l_52 eσ9 dX9_post_71 (fun H locs hw => ?_)
      refine lv_aload_n C.1 C.2.1 dX9_post_72 rfl (lv_at hl 3 rfl) ?_
      refine r_get (v := .ref (X.2.1 52)) C hw l_50 vc_9 kX9 11 rfl (by decide) gw_1025 rfl dX9_post_73 ?_
      refine lv_iload C.1 C.2.1 dX9_post_76 (lv_at hl 0 rfl) ?_
      refine lv_iconst (v := 1) C.1 C.2.1 dX9_post_78 (by decide) ?_
      refine lv_iadd C.1 C.2.1 dX9_post_79 ?_
      refine lv_iload_n C.1 C.2.1 dX9_post_80 rfl (lv_at hl 5 rfl) ?_
      obtain ⟨σ10, eσ10, h⟩ := bnd h
      refine r_ast C hw l_52 eσ10 dX9_post_81 (fun H locs hw => ?_)
      refine lv_aload_n C.1 C.2.1 dX9_post_82 rfl (lv_at hl 3 rfl) ?_
      refine r_get (v := .ref (X.2.1 52)) C hw l_50 vc_9 kX9 11 rfl (by decide) gw_1025 rfl dX9_post_83 ?_
      refine lv_iload C.1 C.2.1 dX9_post_86 (lv_at hl 0 rfl) ?_
      refine lv_iconst (v := 2) C.1 C.2.1 dX9_post_88 (by decide) ?_
      refine lv_iadd C.1 C.2.1 dX9_post_89 ?_
      refine lv_aload_n C.1 C.2.1 dX9_post_90 rfl (lv_at hl 3 rfl) ?_
      refine lv_iload_n C.1 C.2.1 dX9_post_91 rfl (lv_at hl 2 rfl) ?_
      refine lv_iconst (v := 2) C.1 C.2.1 dX9_post_92 (by decide) ?_
      obtain ⟨q11, eq11, h⟩ := bnd h
      refine r_callV (As := [.int s0, .int 2]) C hw (ok_X9_counted X l σ10 s0 2 _ eq11) l_50 vc_9 gw_1179 gw_1176 gw_1178 gw_88 gw_123 hl.1 pd_X9_counted ⟨Nat.le_of_ble_eq_true rfl, Nat.le_of_ble_eq_true rfl⟩ ⟨Nat.le_refl 0, Nat.le_refl 0⟩ (rest := [.int (v8 + 2), .ref (X.2.1 52)]) (Nat.le_of_ble_eq_true rfl) dX9_post_93 rfl (fun H locs hw => ?_)
      obtain ⟨σ12, eσ12, h⟩ := bnd h
      refine r_ast C hw l_52 eσ12 dX9_post_96 (fun H locs hw => ?_)
      refine lv_aload_n C.1 C.2.1 dX9_post_97 rfl (lv_at hl 3 rfl) ?_
      refine r_get (v := .ref (X.2.1 52)) C hw l_50 vc_9 kX9 11 rfl (by decide) gw_1025 rfl dX9_post_98 ?_
      refine lv_iload C.1 C.2.1 dX9_post_101 (lv_at hl 0 rfl) ?_
      refine lv_iconst (v := 3) C.1 C.2.1 dX9_post_103 (by decide) ?_
      refine lv_iadd C.1 C.2.1 dX9_post_104 ?_
      refine lv_iload C.1 C.2.1 dX9_post_105 (lv_at hl 1 rfl) ?_
      obtain ⟨σ13, eσ13, h⟩ := bnd h
      refine r_ast C hw l_52 eσ13 dX9_post_107 (fun H locs hw => ?_)
      refine lv_aload_n C.1 C.2.1 dX9_post_108 rfl (lv_at hl 3 rfl) ?_
      refine r_get (v := .ref (X.2.1 52)) C hw l_50 vc_9 kX9 11 rfl (by decide) gw_1025 rfl dX9_post_109 ?_
      refine lv_iconst (v := 4) C.1 C.2.1 dX9_post_112 (by decide) ?_
      refine lv_dup2_11 C.1 C.2.1 dX9_post_113 rfl rfl ?_
      obtain ⟨v14, ev14, h⟩ := bnd h
      refine r_ald C hw l_52 ev14 dX9_post_114 ?_
      refine lv_iconst (v := 1) C.1 C.2.1 dX9_post_115 (by decide) ?_
      refine lv_iadd C.1 C.2.1 dX9_post_116 ?_
      obtain ⟨σ15, eσ15, h⟩ := bnd h
      refine r_ast C hw l_52 eσ15 dX9_post_117 (fun H locs hw => ?_)
      refine lv_iconst (v := 0) C.1 C.2.1 dX9_post_118 (by decide) ?_
      refine lv_istore (lv' := [(6, .int 0), (5, .int v8), (4, .int q6), (3, .int s0), (0, .ref (X.2.1 50)), (1, .int a1), (2, .int a2)]) C.1 C.2.1 dX9_post_119 hl (by decide) rfl (fun ls hl => ?_)
      exact b121 10000 σ15 s0 q6 0 h _ _ hw ls (lv_sub hl [4, 5, 6, 3, 2, 0] rfl)
    · have h := ite_f c4 h
      refine lv_ldc (v := (-100000000)) C.1 C.2.1 C.2.2.2.1 (C.2.2.2.2.1 _ gw_1223) dX9_post_36 ?_
      exact r_iret C hr hlk hw (Prod.mk.inj (Option.some.inj h)).1 (Prod.mk.inj (Option.some.inj h)).2 dX9_post_38
  rw [f_X9_post] at h
  refine lv_aload_n C.1 C.2.1 dX9_post_0 rfl (lv_at hl 0 rfl) ?_
  refine lv_iconst (v := 0) C.1 C.2.1 dX9_post_1 (by decide) ?_
  obtain ⟨σ1, eσ1, h⟩ := nm_d h
  refine r_put C hw l_50 vc_9 kX9 tyX9 tyX9_ok nmX9 0 (by decide) (by decide) gw_1014 rfl rfl rfl (put_i l_50 rfl eσ1) dX9_post_2 (fun H locs hw => ?_)
  refine lv_aload_n C.1 C.2.1 dX9_post_5 rfl (lv_at hl 0 rfl) ?_
  refine lv_iload_n C.1 C.2.1 dX9_post_6 rfl (lv_at hl 1 rfl) ?_
  obtain ⟨q2, eq2, h⟩ := bnd h
  refine r_callV (As := [.int a1]) C hw (ok_X9_isShelf X l σ1 a1 _ eq2) l_50 vc_9 gw_1219 gw_1216 gw_1218 gw_95 gw_123 hl.1 pd_X9_isShelf ⟨Nat.le_of_ble_eq_true rfl, Nat.le_of_ble_eq_true rfl⟩ ⟨Nat.le_refl 0, Nat.le_refl 0⟩ (rest := []) (Nat.le_of_ble_eq_true rfl) dX9_post_7 rfl (fun H locs hw => ?_)
  refine lv_if_eq (tgt := 30) C.1 C.2.1 dX9_post_10 (by decide) (fun c3 => ?_) (fun c3 => ?_)
  · have h := ite_t c3 h
    refine lv_iconst (v := (-1)) C.1 C.2.1 dX9_post_30 (by decide) ?_
    exact b31 σ1 (-1) h _ _ hw ls (lv_sub hl [0, 1, 2] rfl)
  · have h := ite_f c3 h
    refine lv_aload_n C.1 C.2.1 dX9_post_13 rfl (lv_at hl 0 rfl) ?_
    refine lv_iload_n C.1 C.2.1 dX9_post_14 rfl (lv_at hl 2 rfl) ?_
    obtain ⟨q27, eq27, h⟩ := bnd h
    refine r_callV (As := [.int a2]) C hw (ok_X9_isItem X l σ1 a2 _ eq27) l_50 vc_9 gw_1187 gw_1184 gw_1186 gw_89 gw_123 hl.1 pd_X9_isItem ⟨Nat.le_of_ble_eq_true rfl, Nat.le_of_ble_eq_true rfl⟩ ⟨Nat.le_refl 0, Nat.le_refl 0⟩ (rest := []) (Nat.le_of_ble_eq_true rfl) dX9_post_15 rfl (fun H locs hw => ?_)
    refine lv_if_eq (tgt := 30) C.1 C.2.1 dX9_post_18 (by decide) (fun c28 => ?_) (fun c28 => ?_)
    · have h := ite_t c28 h
      refine lv_iconst (v := (-1)) C.1 C.2.1 dX9_post_30 (by decide) ?_
      exact b31 σ1 (-1) h _ _ hw ls (lv_sub hl [0, 1, 2] rfl)
    · have h := ite_f c28 h
      refine lv_aload_n C.1 C.2.1 dX9_post_21 rfl (lv_at hl 0 rfl) ?_
      refine lv_iload_n C.1 C.2.1 dX9_post_22 rfl (lv_at hl 1 rfl) ?_
      refine lv_iload_n C.1 C.2.1 dX9_post_23 rfl (lv_at hl 2 rfl) ?_
      obtain ⟨q29, eq29, h⟩ := bnd h
      refine r_callV (As := [.int a1, .int a2]) C hw (ok_X9_choose X l σ1 a1 a2 _ _ eq29) l_50 vc_9 gw_1300 gw_1297 gw_1299 gw_108 gw_123 hl.1 pd_X9_choose ⟨Nat.le_of_ble_eq_true rfl, Nat.le_of_ble_eq_true rfl⟩ ⟨Nat.le_refl 0, Nat.le_refl 0⟩ (rest := []) (Nat.le_of_ble_eq_true rfl) dX9_post_24 rfl (fun H locs hw => ?_)
      refine lv_goto (tgt := 31) C.1 C.2.1 dX9_post_27 (by decide) ?_
      exact b31 q29.2 q29.1 h _ _ hw ls (lv_sub hl [0, 1, 2] rfl)
def f_X9_drop_b38 (a1 : Int32) : Nat → St → Int32 → Option (Bool × St)
  | 0, _, _ => none
  | n + 1, σ, x2 => (rd σ 52 845 3).bind fun v8 => if (445 + (6 * (v8 - 1))) ≤ x2 then ((rd σ 52 845 3).bind fun v10 => (wr σ 52 845 3 (v10 - 1)).bind fun σ11 => some (true, σ11)) else ((rd σ 52 845 (x2 + 6)).bind fun v12 => (wr σ 52 845 x2 v12).bind fun σ13 => nm (x2 + 1) fun v14 => f_X9_drop_b38 a1 n σ13 v14)
def f_X9_drop (σ : St) (a1 : Int32) : Option (Bool × St) :=
  nm (upI σ 50 0 0) fun σ1 => (f_X9_isCount σ1 a1).bind fun q2 => if (b2i q2) = 0 then (some (false, σ1)) else ((f_X9_counted σ1 a1 5).bind fun q4 => if q4 = 1 then (some (false, σ1)) else ((f_X9_snap σ1).bind fun q6 => nm (445 + (6 * a1)) fun v7 => f_X9_drop_b38 a1 10000 q6 v7))
set_option maxRecDepth 100000 in
set_option maxHeartbeats 4000000 in
theorem ok_X9_drop (X : Xc) (l : Launch) (σ : St) (a1 : Int32) (r : Bool) (σ' : St) (h : f_X9_drop σ a1 = some (r, σ')) : Ok X l yX9_drop cX9_drop 3 (some .boolean) 2 43 [.ref (X.2.1 50), .int a1] σ (some (.int (b2i r))) σ' := by
  refine Ok.of (by decide) (Nat.le_of_ble_eq_true rfl) ?_
  intro p e s m args below meth c C hr hlk hw ls hl
  have C : Cx p s m args c X cX9_drop 3 "RunningCountModel" := C
  have hl : lv_has ls 3 [(0, .ref (X.2.1 50)), (1, .int a1)] := hl
  have b38 : ∀ (n : Nat), ∀ (σ : St) (x2 : Int32), f_X9_drop_b38 a1 n σ x2 = some (r, σ') → ∀ (H : Heap) (locs : List Loc), At X σ s.heap H locs → ∀ ls : Array Slot, lv_has ls 3 [(0, .ref (X.2.1 50)), (2, .int x2)] → W p l e (rmX 2 43) s m args below meth c H locs 0 0 (Zq X below s args (some (.int (b2i r))) σ') (F0 m 38 ls []) := by
    intro n
    induction n with
    | zero =>
      intro σ x2 h
      exact no_some h
    | succ n ih =>
      intro σ x2 h H locs hw ls hl
      rw [f_X9_drop_b38] at h
      refine lv_iload_n C.1 C.2.1 dX9_drop_38 rfl (lv_at hl 1 rfl) ?_
      refine lv_sipush (v := 445) C.1 C.2.1 dX9_drop_39 (by decide) ?_
      refine lv_bipush (v := 6) C.1 C.2.1 dX9_drop_42 (by decide) ?_
      refine lv_aload_n C.1 C.2.1 dX9_drop_44 rfl (lv_at hl 0 rfl) ?_
      refine r_get (v := .ref (X.2.1 52)) C hw l_50 vc_9 kX9 11 rfl (by decide) gw_1025 rfl dX9_drop_45 ?_
      refine lv_iconst (v := 3) C.1 C.2.1 dX9_drop_48 (by decide) ?_
      obtain ⟨v8, ev8, h⟩ := bnd h
      refine r_ald C hw l_52 ev8 dX9_drop_49 ?_
      refine lv_iconst (v := 1) C.1 C.2.1 dX9_drop_50 (by decide) ?_
      refine lv_isub C.1 C.2.1 dX9_drop_51 ?_
      refine lv_imul C.1 C.2.1 dX9_drop_52 ?_
      refine lv_iadd C.1 C.2.1 dX9_drop_53 ?_
      refine lv_icmp_ge (tgt := 78) C.1 C.2.1 dX9_drop_54 (by decide) (fun c9 => ?_) (fun c9 => ?_)
      · have h := ite_t c9 h
        refine lv_aload_n C.1 C.2.1 dX9_drop_78 rfl (lv_at hl 0 rfl) ?_
        refine r_get (v := .ref (X.2.1 52)) C hw l_50 vc_9 kX9 11 rfl (by decide) gw_1025 rfl dX9_drop_79 ?_
        refine lv_iconst (v := 3) C.1 C.2.1 dX9_drop_82 (by decide) ?_
        refine lv_dup2_11 C.1 C.2.1 dX9_drop_83 rfl rfl ?_
        obtain ⟨v10, ev10, h⟩ := bnd h
        refine r_ald C hw l_52 ev10 dX9_drop_84 ?_
        refine lv_iconst (v := 1) C.1 C.2.1 dX9_drop_85 (by decide) ?_
        refine lv_isub C.1 C.2.1 dX9_drop_86 ?_
        obtain ⟨σ11, eσ11, h⟩ := bnd h
        refine r_ast C hw l_52 eσ11 dX9_drop_87 (fun H locs hw => ?_)
        refine lv_iconst (v := 1) C.1 C.2.1 dX9_drop_88 (by decide) ?_
        exact r_zret C hr hlk hw rfl (Prod.mk.inj (Option.some.inj h)).1 (Prod.mk.inj (Option.some.inj h)).2 dX9_drop_89
      · have h := ite_f c9 h
        refine lv_aload_n C.1 C.2.1 dX9_drop_57 rfl (lv_at hl 0 rfl) ?_
        refine r_get (v := .ref (X.2.1 52)) C hw l_50 vc_9 kX9 11 rfl (by decide) gw_1025 rfl dX9_drop_58 ?_
        refine lv_iload_n C.1 C.2.1 dX9_drop_61 rfl (lv_at hl 1 rfl) ?_
        refine lv_aload_n C.1 C.2.1 dX9_drop_62 rfl (lv_at hl 0 rfl) ?_
        refine r_get (v := .ref (X.2.1 52)) C hw l_50 vc_9 kX9 11 rfl (by decide) gw_1025 rfl dX9_drop_63 ?_
        refine lv_iload_n C.1 C.2.1 dX9_drop_66 rfl (lv_at hl 1 rfl) ?_
        refine lv_bipush (v := 6) C.1 C.2.1 dX9_drop_67 (by decide) ?_
        refine lv_iadd C.1 C.2.1 dX9_drop_69 ?_
        obtain ⟨v12, ev12, h⟩ := bnd h
        refine r_ald C hw l_52 ev12 dX9_drop_70 ?_
        obtain ⟨σ13, eσ13, h⟩ := bnd h
        refine r_ast C hw l_52 eσ13 dX9_drop_71 (fun H locs hw => ?_)
        obtain ⟨v14, ev14, h⟩ := nm_d h
        refine lv_iinc (v := v14) (lv' := [(2, .int v14), (0, .ref (X.2.1 50))]) C.1 C.2.1 dX9_drop_72 hl (k := 1) rfl (by rw [ev14]; rfl) (by decide) rfl (fun ls hl => ?_)
        refine lv_goto (tgt := 38) C.1 C.2.1 dX9_drop_75 (by decide) ?_
        exact ih σ13 v14 h _ _ hw ls (lv_sub hl [1, 0] rfl)
  rw [f_X9_drop] at h
  refine lv_aload_n C.1 C.2.1 dX9_drop_0 rfl (lv_at hl 0 rfl) ?_
  refine lv_iconst (v := 0) C.1 C.2.1 dX9_drop_1 (by decide) ?_
  obtain ⟨σ1, eσ1, h⟩ := nm_d h
  refine r_put C hw l_50 vc_9 kX9 tyX9 tyX9_ok nmX9 0 (by decide) (by decide) gw_1014 rfl rfl rfl (put_i l_50 rfl eσ1) dX9_drop_2 (fun H locs hw => ?_)
  refine lv_aload_n C.1 C.2.1 dX9_drop_5 rfl (lv_at hl 0 rfl) ?_
  refine lv_iload_n C.1 C.2.1 dX9_drop_6 rfl (lv_at hl 1 rfl) ?_
  obtain ⟨q2, eq2, h⟩ := bnd h
  refine r_callV (As := [.int a1]) C hw (ok_X9_isCount X l σ1 a1 _ eq2) l_50 vc_9 gw_1271 gw_1268 gw_1270 gw_104 gw_123 hl.1 pd_X9_isCount ⟨Nat.le_of_ble_eq_true rfl, Nat.le_of_ble_eq_true rfl⟩ ⟨Nat.le_refl 0, Nat.le_refl 0⟩ (rest := []) (Nat.le_of_ble_eq_true rfl) dX9_drop_7 rfl (fun H locs hw => ?_)
  refine lv_if_eq (tgt := 23) C.1 C.2.1 dX9_drop_10 (by decide) (fun c3 => ?_) (fun c3 => ?_)
  · have h := ite_t c3 h
    refine lv_iconst (v := 0) C.1 C.2.1 dX9_drop_23 (by decide) ?_
    exact r_zret C hr hlk hw rfl (Prod.mk.inj (Option.some.inj h)).1 (Prod.mk.inj (Option.some.inj h)).2 dX9_drop_24
  · have h := ite_f c3 h
    refine lv_aload_n C.1 C.2.1 dX9_drop_13 rfl (lv_at hl 0 rfl) ?_
    refine lv_iload_n C.1 C.2.1 dX9_drop_14 rfl (lv_at hl 1 rfl) ?_
    refine lv_iconst (v := 5) C.1 C.2.1 dX9_drop_15 (by decide) ?_
    obtain ⟨q4, eq4, h⟩ := bnd h
    refine r_callV (As := [.int a1, .int 5]) C hw (ok_X9_counted X l σ1 a1 5 _ eq4) l_50 vc_9 gw_1179 gw_1176 gw_1178 gw_88 gw_123 hl.1 pd_X9_counted ⟨Nat.le_of_ble_eq_true rfl, Nat.le_of_ble_eq_true rfl⟩ ⟨Nat.le_refl 0, Nat.le_refl 0⟩ (rest := []) (Nat.le_of_ble_eq_true rfl) dX9_drop_16 rfl (fun H locs hw => ?_)
    refine lv_iconst (v := 1) C.1 C.2.1 dX9_drop_19 (by decide) ?_
    refine lv_icmp_ne (tgt := 25) C.1 C.2.1 dX9_drop_20 (by decide) (fun c5 => ?_) (fun c5 => ?_)
    · have h := ite_f c5 h
      refine lv_aload_n C.1 C.2.1 dX9_drop_25 rfl (lv_at hl 0 rfl) ?_
      obtain ⟨q6, eq6, h⟩ := bnd h
      refine r_callV (As := []) C hw (ok_X9_snap X l σ1 _ eq6) l_50 vc_9 gw_1331 gw_1328 gw_1330 gw_111 gw_123 hl.1 pd_X9_snap ⟨Nat.le_of_ble_eq_true rfl, Nat.le_of_ble_eq_true rfl⟩ ⟨Nat.le_refl 0, Nat.le_refl 0⟩ (rest := []) (Nat.le_of_ble_eq_true rfl) dX9_drop_26 rfl (fun H locs hw => ?_)
      refine lv_sipush (v := 445) C.1 C.2.1 dX9_drop_29 (by decide) ?_
      refine lv_bipush (v := 6) C.1 C.2.1 dX9_drop_32 (by decide) ?_
      refine lv_iload_n C.1 C.2.1 dX9_drop_34 rfl (lv_at hl 1 rfl) ?_
      refine lv_imul C.1 C.2.1 dX9_drop_35 ?_
      refine lv_iadd C.1 C.2.1 dX9_drop_36 ?_
      obtain ⟨v7, ev7, h⟩ := nm_d h
      refine lv_nm ev7 ?_
      refine lv_istore_n (lv' := [(2, .int v7), (0, .ref (X.2.1 50)), (1, .int a1)]) C.1 C.2.1 dX9_drop_37 rfl hl (by decide) rfl (fun ls hl => ?_)
      exact b38 10000 q6 v7 h _ _ hw ls (lv_sub hl [1, 0] rfl)
    · have h := ite_t c5 h
      refine lv_iconst (v := 0) C.1 C.2.1 dX9_drop_23 (by decide) ?_
      exact r_zret C hr hlk hw rfl (Prod.mk.inj (Option.some.inj h)).1 (Prod.mk.inj (Option.some.inj h)).2 dX9_drop_24
def f_X9_undo_b26 : Nat → St → Int32 → Option (Int32 × St)
  | 0, _, _ => none
  | n + 1, σ, x1 => if 845 ≤ x1 then (some (σ.1 50 14, σ)) else ((rd σ 54 8450 ((845 * (σ.1 50 14)) + x1)).bind fun v5 => (wr σ 52 845 x1 v5).bind fun σ6 => nm (x1 + 1) fun v7 => f_X9_undo_b26 n σ6 v7)
def f_X9_undo (σ : St) : Option (Int32 × St) :=
  nm (upI σ 50 0 0) fun σ1 => if (σ1.1 50 14) = 0 then (some ((-1), σ1)) else (nm (upI σ1 50 14 ((σ1.1 50 14) - 1)) fun σ3 => f_X9_undo_b26 10000 σ3 0)
set_option maxRecDepth 100000 in
set_option maxHeartbeats 4000000 in
theorem ok_X9_undo (X : Xc) (l : Launch) (σ : St) (r : Int32) (σ' : St) (h : f_X9_undo σ = some (r, σ')) : Ok X l yX9_undo cX9_undo 2 (some .int) 0 0 [.ref (X.2.1 50)] σ (some (.int r)) σ' := by
  refine Ok.of (by decide) (Nat.le_of_ble_eq_true rfl) ?_
  intro p e s m args below meth c C hr hlk hw ls hl
  have C : Cx p s m args c X cX9_undo 2 "RunningCountModel" := C
  have hl : lv_has ls 2 [(0, .ref (X.2.1 50))] := hl
  have b26 : ∀ (n : Nat), ∀ (σ : St) (x1 : Int32), f_X9_undo_b26 n σ x1 = some (r, σ') → ∀ (H : Heap) (locs : List Loc), At X σ s.heap H locs → ∀ ls : Array Slot, lv_has ls 2 [(0, .ref (X.2.1 50)), (1, .int x1)] → W p l e (rmX 0 0) s m args below meth c H locs 0 0 (Zq X below s args (some (.int r)) σ') (F0 m 26 ls []) := by
    intro n
    induction n with
    | zero =>
      intro σ x1 h
      exact no_some h
    | succ n ih =>
      intro σ x1 h H locs hw ls hl
      rw [f_X9_undo_b26] at h
      refine lv_iload_n C.1 C.2.1 dX9_undo_26 rfl (lv_at hl 1 rfl) ?_
      refine lv_sipush (v := 845) C.1 C.2.1 dX9_undo_27 (by decide) ?_
      refine lv_icmp_ge (tgt := 60) C.1 C.2.1 dX9_undo_30 (by decide) (fun c4 => ?_) (fun c4 => ?_)
      · have h := ite_t c4 h
        refine lv_aload_n C.1 C.2.1 dX9_undo_60 rfl (lv_at hl 0 rfl) ?_
        refine r_get (v := .int (σ.1 50 14)) C hw l_50 vc_9 kX9 14 rfl (by decide) gw_1028 rfl dX9_undo_61 ?_
        exact r_iret C hr hlk hw (Prod.mk.inj (Option.some.inj h)).1 (Prod.mk.inj (Option.some.inj h)).2 dX9_undo_64
      · have h := ite_f c4 h
        refine lv_aload_n C.1 C.2.1 dX9_undo_33 rfl (lv_at hl 0 rfl) ?_
        refine r_get (v := .ref (X.2.1 52)) C hw l_50 vc_9 kX9 11 rfl (by decide) gw_1025 rfl dX9_undo_34 ?_
        refine lv_iload_n C.1 C.2.1 dX9_undo_37 rfl (lv_at hl 1 rfl) ?_
        refine lv_aload_n C.1 C.2.1 dX9_undo_38 rfl (lv_at hl 0 rfl) ?_
        refine r_get (v := .ref (X.2.1 54)) C hw l_50 vc_9 kX9 13 rfl (by decide) gw_1027 rfl dX9_undo_39 ?_
        refine lv_sipush (v := 845) C.1 C.2.1 dX9_undo_42 (by decide) ?_
        refine lv_aload_n C.1 C.2.1 dX9_undo_45 rfl (lv_at hl 0 rfl) ?_
        refine r_get (v := .int (σ.1 50 14)) C hw l_50 vc_9 kX9 14 rfl (by decide) gw_1028 rfl dX9_undo_46 ?_
        refine lv_imul C.1 C.2.1 dX9_undo_49 ?_
        refine lv_iload_n C.1 C.2.1 dX9_undo_50 rfl (lv_at hl 1 rfl) ?_
        refine lv_iadd C.1 C.2.1 dX9_undo_51 ?_
        obtain ⟨v5, ev5, h⟩ := bnd h
        refine r_ald C hw l_54 ev5 dX9_undo_52 ?_
        obtain ⟨σ6, eσ6, h⟩ := bnd h
        refine r_ast C hw l_52 eσ6 dX9_undo_53 (fun H locs hw => ?_)
        obtain ⟨v7, ev7, h⟩ := nm_d h
        refine lv_iinc (v := v7) (lv' := [(1, .int v7), (0, .ref (X.2.1 50))]) C.1 C.2.1 dX9_undo_54 hl (k := 1) rfl (by rw [ev7]; rfl) (by decide) rfl (fun ls hl => ?_)
        refine lv_goto (tgt := 26) C.1 C.2.1 dX9_undo_57 (by decide) ?_
        exact ih σ6 v7 h _ _ hw ls (lv_sub hl [1, 0] rfl)
  rw [f_X9_undo] at h
  refine lv_aload_n C.1 C.2.1 dX9_undo_0 rfl (lv_at hl 0 rfl) ?_
  refine lv_iconst (v := 0) C.1 C.2.1 dX9_undo_1 (by decide) ?_
  obtain ⟨σ1, eσ1, h⟩ := nm_d h
  refine r_put C hw l_50 vc_9 kX9 tyX9 tyX9_ok nmX9 0 (by decide) (by decide) gw_1014 rfl rfl rfl (put_i l_50 rfl eσ1) dX9_undo_2 (fun H locs hw => ?_)
  refine lv_aload_n C.1 C.2.1 dX9_undo_5 rfl (lv_at hl 0 rfl) ?_
  refine r_get (v := .int (σ1.1 50 14)) C hw l_50 vc_9 kX9 14 rfl (by decide) gw_1028 rfl dX9_undo_6 ?_
  refine lv_if_ne (tgt := 14) C.1 C.2.1 dX9_undo_9 (by decide) (fun c2 => ?_) (fun c2 => ?_)
  · have h := ite_f c2 h
    refine lv_aload_n C.1 C.2.1 dX9_undo_14 rfl (lv_at hl 0 rfl) ?_
    refine lv_dup C.1 C.2.1 dX9_undo_15 rfl ?_
    refine r_get (v := .int (σ1.1 50 14)) C hw l_50 vc_9 kX9 14 rfl (by decide) gw_1028 rfl dX9_undo_16 ?_
    refine lv_iconst (v := 1) C.1 C.2.1 dX9_undo_19 (by decide) ?_
    refine lv_isub C.1 C.2.1 dX9_undo_20 ?_
    obtain ⟨σ3, eσ3, h⟩ := nm_d h
    refine r_put C hw l_50 vc_9 kX9 tyX9 tyX9_ok nmX9 14 (by decide) (by decide) gw_1028 rfl rfl rfl (put_i l_50 rfl eσ3) dX9_undo_21 (fun H locs hw => ?_)
    refine lv_iconst (v := 0) C.1 C.2.1 dX9_undo_24 (by decide) ?_
    refine lv_istore_n (lv' := [(1, .int 0), (0, .ref (X.2.1 50))]) C.1 C.2.1 dX9_undo_25 rfl hl (by decide) rfl (fun ls hl => ?_)
    exact b26 10000 σ3 0 h _ _ hw ls (lv_sub hl [1, 0] rfl)
  · have h := ite_t c2 h
    refine lv_iconst (v := (-1)) C.1 C.2.1 dX9_undo_12 (by decide) ?_
    exact r_iret C hr hlk hw (Prod.mk.inj (Option.some.inj h)).1 (Prod.mk.inj (Option.some.inj h)).2 dX9_undo_13
