def f_X8_move (σ : St) (a1 : Int32) (a2 : Int32) : Option (Option Int32) :=
  if (b2i (f_X4_hasMove σ (σ.2.2.1) a1)) = 0 then (some none) else (if a2 = 0 then ((rd σ ((σ.2.2.1) + 4) 40 a1).bind fun v33 => some (some v33)) else (if a2 = 1 then ((rd σ ((σ.2.2.1) + 5) 40 a1).bind fun v31 => some (some v31)) else (if a2 = 10 then ((rd σ ((σ.2.2.1) + 6) 80 (f_X8_legOf σ a1 0)).bind fun v29 => some (some v29)) else (if a2 = 11 then ((rd σ ((σ.2.2.1) + 7) 80 (f_X8_legOf σ a1 0)).bind fun v26 => some (some v26)) else (if a2 = 12 then ((rd σ ((σ.2.2.1) + 8) 80 (f_X8_legOf σ a1 0)).bind fun v23 => some (some v23)) else (if a2 = 20 then ((rd σ ((σ.2.2.1) + 6) 80 (f_X8_legOf σ a1 1)).bind fun v20 => some (some v20)) else (if a2 = 21 then ((rd σ ((σ.2.2.1) + 7) 80 (f_X8_legOf σ a1 1)).bind fun v17 => some (some v17)) else (if a2 = 22 then ((rd σ ((σ.2.2.1) + 8) 80 (f_X8_legOf σ a1 1)).bind fun v14 => some (some v14)) else (some none)))))))))
set_option maxRecDepth 100000 in
set_option maxHeartbeats 4000000 in
theorem ok_X8_move (X : Xc) (l : Launch) (hl0 : l.stackTraces = false) (σ : St) (a1 : Int32) (a2 : Int32) (o : Option Int32) (h : f_X8_move σ a1 a2 = some o) : OkX X l yX8_move cX8_move 3 6 90 [.ref (X.2.1 0), .int a1, .int a2] σ o σ := by
  refine OkX.of (by decide) (Nat.le_of_ble_eq_true rfl) ?_
  intro p e s m args below meth c C hr hlk htab hw ls hl
  have C : Cx p s m args c X cX8_move 3 "RunningCount" := C
  have hl : lv_has ls 3 [(0, .ref (X.2.1 0)), (1, .int a1), (2, .int a2)] := hl
  rw [f_X8_move] at h
  refine lv_aload_n C.1 C.2.1 dX8_move_0 rfl (lv_at hl 0 rfl) ?_
  have hz1 := hw.2.2.1
  refine r_get (v := .ref (X.2.1 (σ.2.2.1))) C hw l_0 vc_8 kX8 1 rfl (by decide) gw_409 rfl dX8_move_1 ?_
  refine lv_iload_n C.1 C.2.1 dX8_move_4 rfl (lv_at hl 1 rfl) ?_
  refine r_callVN (As := [.int a1]) C hw (ok_X4_hasMove X l σ (σ.2.2.1) a1 hz1 _ rfl) (lg_0 hz1) vc_4 gw_825 nw_822 gw_824 gw_56 gw_117 hl.1 pd_X4_hasMove ⟨Nat.le_of_ble_eq_true rfl, Nat.le_of_ble_eq_true rfl⟩ ⟨Nat.zero_le _, Nat.zero_le _⟩ (rest := []) (Nat.le_of_ble_eq_true rfl) dX8_move_5 rfl (fun H locs hw => ?_)
  refine lv_if_ne (tgt := 21) C.1 C.2.1 dX8_move_8 (by decide) (fun c3 => ?_) (fun c3 => ?_)
  · have h := ite_f c3 h
    refine lv_iload_n C.1 C.2.1 dX8_move_21 rfl (lv_at hl 2 rfl) ?_
    by_cases c4 : a2 = 0
    · have h := ite_t c4 h
      refine lv_tableIn (tgt := 128) C.1 C.2.1 dX8_move_22 (by rw [c4]; decide) (by rw [c4]; decide) (by rw [c4]; rfl) (by decide) ?_
      refine lv_aload_n C.1 C.2.1 dX8_move_128 rfl (lv_at hl 0 rfl) ?_
      have hz32 := hw.2.2.1
      refine r_get (v := .ref (X.2.1 (σ.2.2.1))) C hw l_0 vc_8 kX8 1 rfl (by decide) gw_409 rfl dX8_move_129 ?_
      refine r_getN (v := .ref (X.2.1 ((σ.2.2.1) + 4))) C hw (lg_0 hz32) vc_4 kX4 6 rfl (by decide) nw_228 rfl dX8_move_132 ?_
      refine lv_iload_n C.1 C.2.1 dX8_move_135 rfl (lv_at hl 1 rfl) ?_
      obtain ⟨v33, ev33, h⟩ := bnd h
      refine r_ald C hw (lg_4 hz32) ev33 dX8_move_136 ?_
      exact r_iretX C hr hlk hw (Option.some.inj h) rfl dX8_move_137
    · have h := ite_f c4 h
      by_cases c5 : a2 = 1
      · have h := ite_t c5 h
        refine lv_tableIn (tgt := 138) C.1 C.2.1 dX8_move_22 (by rw [c5]; decide) (by rw [c5]; decide) (by rw [c5]; rfl) (by decide) ?_
        refine lv_aload_n C.1 C.2.1 dX8_move_138 rfl (lv_at hl 0 rfl) ?_
        have hz30 := hw.2.2.1
        refine r_get (v := .ref (X.2.1 (σ.2.2.1))) C hw l_0 vc_8 kX8 1 rfl (by decide) gw_409 rfl dX8_move_139 ?_
        refine r_getN (v := .ref (X.2.1 ((σ.2.2.1) + 5))) C hw (lg_0 hz30) vc_4 kX4 7 rfl (by decide) nw_231 rfl dX8_move_142 ?_
        refine lv_iload_n C.1 C.2.1 dX8_move_145 rfl (lv_at hl 1 rfl) ?_
        obtain ⟨v31, ev31, h⟩ := bnd h
        refine r_ald C hw (lg_5 hz30) ev31 dX8_move_146 ?_
        exact r_iretX C hr hlk hw (Option.some.inj h) rfl dX8_move_147
      · have h := ite_f c5 h
        by_cases c6 : a2 = 10
        · have h := ite_t c6 h
          refine lv_tableIn (tgt := 148) C.1 C.2.1 dX8_move_22 (by rw [c6]; decide) (by rw [c6]; decide) (by rw [c6]; rfl) (by decide) ?_
          refine lv_aload_n C.1 C.2.1 dX8_move_148 rfl (lv_at hl 0 rfl) ?_
          have hz27 := hw.2.2.1
          refine r_get (v := .ref (X.2.1 (σ.2.2.1))) C hw l_0 vc_8 kX8 1 rfl (by decide) gw_409 rfl dX8_move_149 ?_
          refine r_getN (v := .ref (X.2.1 ((σ.2.2.1) + 6))) C hw (lg_0 hz27) vc_4 kX4 8 rfl (by decide) nw_234 rfl dX8_move_152 ?_
          refine lv_iload_n C.1 C.2.1 dX8_move_155 rfl (lv_at hl 1 rfl) ?_
          refine lv_iconst (v := 0) C.1 C.2.1 dX8_move_156 (by decide) ?_
          refine r_callS (As := [.int a1, .int 0]) C hw (ok_X8_legOf X l σ a1 0 _ rfl) gw_632 gw_719 gw_631 gw_114 hl.1 pd_X8_legOf ⟨Nat.le_of_ble_eq_true rfl, Nat.le_of_ble_eq_true rfl⟩ ⟨Nat.zero_le _, Nat.zero_le _⟩ (rest := [.ref (X.2.1 ((σ.2.2.1) + 6))]) (Nat.le_of_ble_eq_true rfl) dX8_move_157 rfl (fun H locs hw => ?_)
          obtain ⟨v29, ev29, h⟩ := bnd h
          refine r_ald C hw (lg_6 hz27) ev29 dX8_move_160 ?_
          exact r_iretX C hr hlk hw (Option.some.inj h) rfl dX8_move_161
        · have h := ite_f c6 h
          by_cases c7 : a2 = 11
          · have h := ite_t c7 h
            refine lv_tableIn (tgt := 162) C.1 C.2.1 dX8_move_22 (by rw [c7]; decide) (by rw [c7]; decide) (by rw [c7]; rfl) (by decide) ?_
            refine lv_aload_n C.1 C.2.1 dX8_move_162 rfl (lv_at hl 0 rfl) ?_
            have hz24 := hw.2.2.1
            refine r_get (v := .ref (X.2.1 (σ.2.2.1))) C hw l_0 vc_8 kX8 1 rfl (by decide) gw_409 rfl dX8_move_163 ?_
            refine r_getN (v := .ref (X.2.1 ((σ.2.2.1) + 7))) C hw (lg_0 hz24) vc_4 kX4 9 rfl (by decide) nw_236 rfl dX8_move_166 ?_
            refine lv_iload_n C.1 C.2.1 dX8_move_169 rfl (lv_at hl 1 rfl) ?_
            refine lv_iconst (v := 0) C.1 C.2.1 dX8_move_170 (by decide) ?_
            refine r_callS (As := [.int a1, .int 0]) C hw (ok_X8_legOf X l σ a1 0 _ rfl) gw_632 gw_719 gw_631 gw_114 hl.1 pd_X8_legOf ⟨Nat.le_of_ble_eq_true rfl, Nat.le_of_ble_eq_true rfl⟩ ⟨Nat.zero_le _, Nat.zero_le _⟩ (rest := [.ref (X.2.1 ((σ.2.2.1) + 7))]) (Nat.le_of_ble_eq_true rfl) dX8_move_171 rfl (fun H locs hw => ?_)
            obtain ⟨v26, ev26, h⟩ := bnd h
            refine r_ald C hw (lg_7 hz24) ev26 dX8_move_174 ?_
            exact r_iretX C hr hlk hw (Option.some.inj h) rfl dX8_move_175
          · have h := ite_f c7 h
            by_cases c8 : a2 = 12
            · have h := ite_t c8 h
              refine lv_tableIn (tgt := 176) C.1 C.2.1 dX8_move_22 (by rw [c8]; decide) (by rw [c8]; decide) (by rw [c8]; rfl) (by decide) ?_
              refine lv_aload_n C.1 C.2.1 dX8_move_176 rfl (lv_at hl 0 rfl) ?_
              have hz21 := hw.2.2.1
              refine r_get (v := .ref (X.2.1 (σ.2.2.1))) C hw l_0 vc_8 kX8 1 rfl (by decide) gw_409 rfl dX8_move_177 ?_
              refine r_getN (v := .ref (X.2.1 ((σ.2.2.1) + 8))) C hw (lg_0 hz21) vc_4 kX4 10 rfl (by decide) nw_238 rfl dX8_move_180 ?_
              refine lv_iload_n C.1 C.2.1 dX8_move_183 rfl (lv_at hl 1 rfl) ?_
              refine lv_iconst (v := 0) C.1 C.2.1 dX8_move_184 (by decide) ?_
              refine r_callS (As := [.int a1, .int 0]) C hw (ok_X8_legOf X l σ a1 0 _ rfl) gw_632 gw_719 gw_631 gw_114 hl.1 pd_X8_legOf ⟨Nat.le_of_ble_eq_true rfl, Nat.le_of_ble_eq_true rfl⟩ ⟨Nat.zero_le _, Nat.zero_le _⟩ (rest := [.ref (X.2.1 ((σ.2.2.1) + 8))]) (Nat.le_of_ble_eq_true rfl) dX8_move_185 rfl (fun H locs hw => ?_)
              obtain ⟨v23, ev23, h⟩ := bnd h
              refine r_ald C hw (lg_8 hz21) ev23 dX8_move_188 ?_
              exact r_iretX C hr hlk hw (Option.some.inj h) rfl dX8_move_189
            · have h := ite_f c8 h
              by_cases c9 : a2 = 20
              · have h := ite_t c9 h
                refine lv_tableIn (tgt := 190) C.1 C.2.1 dX8_move_22 (by rw [c9]; decide) (by rw [c9]; decide) (by rw [c9]; rfl) (by decide) ?_
                refine lv_aload_n C.1 C.2.1 dX8_move_190 rfl (lv_at hl 0 rfl) ?_
                have hz18 := hw.2.2.1
                refine r_get (v := .ref (X.2.1 (σ.2.2.1))) C hw l_0 vc_8 kX8 1 rfl (by decide) gw_409 rfl dX8_move_191 ?_
                refine r_getN (v := .ref (X.2.1 ((σ.2.2.1) + 6))) C hw (lg_0 hz18) vc_4 kX4 8 rfl (by decide) nw_234 rfl dX8_move_194 ?_
                refine lv_iload_n C.1 C.2.1 dX8_move_197 rfl (lv_at hl 1 rfl) ?_
                refine lv_iconst (v := 1) C.1 C.2.1 dX8_move_198 (by decide) ?_
                refine r_callS (As := [.int a1, .int 1]) C hw (ok_X8_legOf X l σ a1 1 _ rfl) gw_632 gw_719 gw_631 gw_114 hl.1 pd_X8_legOf ⟨Nat.le_of_ble_eq_true rfl, Nat.le_of_ble_eq_true rfl⟩ ⟨Nat.zero_le _, Nat.zero_le _⟩ (rest := [.ref (X.2.1 ((σ.2.2.1) + 6))]) (Nat.le_of_ble_eq_true rfl) dX8_move_199 rfl (fun H locs hw => ?_)
                obtain ⟨v20, ev20, h⟩ := bnd h
                refine r_ald C hw (lg_6 hz18) ev20 dX8_move_202 ?_
                exact r_iretX C hr hlk hw (Option.some.inj h) rfl dX8_move_203
              · have h := ite_f c9 h
                by_cases c10 : a2 = 21
                · have h := ite_t c10 h
                  refine lv_tableIn (tgt := 204) C.1 C.2.1 dX8_move_22 (by rw [c10]; decide) (by rw [c10]; decide) (by rw [c10]; rfl) (by decide) ?_
                  refine lv_aload_n C.1 C.2.1 dX8_move_204 rfl (lv_at hl 0 rfl) ?_
                  have hz15 := hw.2.2.1
                  refine r_get (v := .ref (X.2.1 (σ.2.2.1))) C hw l_0 vc_8 kX8 1 rfl (by decide) gw_409 rfl dX8_move_205 ?_
                  refine r_getN (v := .ref (X.2.1 ((σ.2.2.1) + 7))) C hw (lg_0 hz15) vc_4 kX4 9 rfl (by decide) nw_236 rfl dX8_move_208 ?_
                  refine lv_iload_n C.1 C.2.1 dX8_move_211 rfl (lv_at hl 1 rfl) ?_
                  refine lv_iconst (v := 1) C.1 C.2.1 dX8_move_212 (by decide) ?_
                  refine r_callS (As := [.int a1, .int 1]) C hw (ok_X8_legOf X l σ a1 1 _ rfl) gw_632 gw_719 gw_631 gw_114 hl.1 pd_X8_legOf ⟨Nat.le_of_ble_eq_true rfl, Nat.le_of_ble_eq_true rfl⟩ ⟨Nat.zero_le _, Nat.zero_le _⟩ (rest := [.ref (X.2.1 ((σ.2.2.1) + 7))]) (Nat.le_of_ble_eq_true rfl) dX8_move_213 rfl (fun H locs hw => ?_)
                  obtain ⟨v17, ev17, h⟩ := bnd h
                  refine r_ald C hw (lg_7 hz15) ev17 dX8_move_216 ?_
                  exact r_iretX C hr hlk hw (Option.some.inj h) rfl dX8_move_217
                · have h := ite_f c10 h
                  by_cases c11 : a2 = 22
                  · have h := ite_t c11 h
                    refine lv_tableIn (tgt := 218) C.1 C.2.1 dX8_move_22 (by rw [c11]; decide) (by rw [c11]; decide) (by rw [c11]; rfl) (by decide) ?_
                    refine lv_aload_n C.1 C.2.1 dX8_move_218 rfl (lv_at hl 0 rfl) ?_
                    have hz12 := hw.2.2.1
                    refine r_get (v := .ref (X.2.1 (σ.2.2.1))) C hw l_0 vc_8 kX8 1 rfl (by decide) gw_409 rfl dX8_move_219 ?_
                    refine r_getN (v := .ref (X.2.1 ((σ.2.2.1) + 8))) C hw (lg_0 hz12) vc_4 kX4 10 rfl (by decide) nw_238 rfl dX8_move_222 ?_
                    refine lv_iload_n C.1 C.2.1 dX8_move_225 rfl (lv_at hl 1 rfl) ?_
                    refine lv_iconst (v := 1) C.1 C.2.1 dX8_move_226 (by decide) ?_
                    refine r_callS (As := [.int a1, .int 1]) C hw (ok_X8_legOf X l σ a1 1 _ rfl) gw_632 gw_719 gw_631 gw_114 hl.1 pd_X8_legOf ⟨Nat.le_of_ble_eq_true rfl, Nat.le_of_ble_eq_true rfl⟩ ⟨Nat.zero_le _, Nat.zero_le _⟩ (rest := [.ref (X.2.1 ((σ.2.2.1) + 8))]) (Nat.le_of_ble_eq_true rfl) dX8_move_227 rfl (fun H locs hw => ?_)
                    obtain ⟨v14, ev14, h⟩ := bnd h
                    refine r_ald C hw (lg_8 hz12) ev14 dX8_move_230 ?_
                    exact r_iretX C hr hlk hw (Option.some.inj h) rfl dX8_move_231
                  · have h := ite_f c11 h
                    refine sw_out (ts := 232) C.1 C.2.1 dX8_move_22 [0, 1, 10, 11, 12, 20, 21, 22] (by decide) (by decide) (List.forall_mem_cons.mpr ⟨c4, (List.forall_mem_cons.mpr ⟨c5, (List.forall_mem_cons.mpr ⟨c6, (List.forall_mem_cons.mpr ⟨c7, (List.forall_mem_cons.mpr ⟨c8, (List.forall_mem_cons.mpr ⟨c9, (List.forall_mem_cons.mpr ⟨c10, (List.forall_mem_cons.mpr ⟨c11, fun _ h => absurd h List.not_mem_nil⟩)⟩)⟩)⟩)⟩)⟩)⟩)⟩) (by decide) ?_
                    exact r_throw C hl0 hlk htab hw 7 rfl rfl gw_917 gw_132 (Option.some.inj h) rfl hl.1 dX8_move_232 dX8_move_235 dX8_move_236 dX8_move_238 dX8_move_241 (by decide) (Nat.le_of_ble_eq_true rfl) (by decide) (by decide)
  · have h := ite_t c3 h
    exact r_throw C hl0 hlk htab hw 6 rfl rfl gw_917 gw_132 (Option.some.inj h) rfl hl.1 dX8_move_11 dX8_move_14 dX8_move_15 dX8_move_17 dX8_move_20 (by decide) (Nat.le_of_ble_eq_true rfl) (by decide) (by decide)
def f_X8_count (σ : St) (a1 : Int32) (a2 : Int32) : Option (Option Int32 × St) :=
  if (b2i (f_X3_has σ a1)) = 0 then (some (none, σ)) else (if a2 = 0 then ((rd σ 25 40 a1).bind fun v17 => some (some v17, σ)) else (if a2 = 1 then ((rd σ 26 40 a1).bind fun v16 => some (some v16, σ)) else (if a2 = 2 then ((rd σ 27 40 a1).bind fun v15 => some (some v15, σ)) else (if a2 = 3 then ((rd σ 28 40 a1).bind fun v14 => some (some v14, σ)) else (if a2 = 4 then ((rd σ 29 40 a1).bind fun v13 => some (some v13, σ)) else (if a2 = 5 then ((rd σ 30 40 a1).bind fun v11 => if v11 = 0 then (some (some 0, σ)) else (some (some 1, σ))) else (if a2 = 6 then ((f_X8_allowedFor σ a1).bind fun q10 => some (some q10.1, q10.2)) else (some (none, σ)))))))))
set_option maxRecDepth 100000 in
set_option maxHeartbeats 4000000 in
theorem ok_X8_count (X : Xc) (l : Launch) (hl0 : l.stackTraces = false) (σ : St) (a1 : Int32) (a2 : Int32) (o : Option Int32) (σ' : St) (h : f_X8_count σ a1 a2 = some (o, σ')) : OkX X l yX8_count cX8_count 3 6 119 [.ref (X.2.1 0), .int a1, .int a2] σ o σ' := by
  refine OkX.of (by decide) (Nat.le_of_ble_eq_true rfl) ?_
  intro p e s m args below meth c C hr hlk htab hw ls hl
  have C : Cx p s m args c X cX8_count 3 "RunningCount" := C
  have hl : lv_has ls 3 [(0, .ref (X.2.1 0)), (1, .int a1), (2, .int a2)] := hl
  rw [f_X8_count] at h
  refine lv_aload_n C.1 C.2.1 dX8_count_0 rfl (lv_at hl 0 rfl) ?_
  refine r_get (v := .ref (X.2.1 24)) C hw l_0 vc_8 kX8 3 rfl (by decide) gw_411 rfl dX8_count_1 ?_
  refine lv_iload_n C.1 C.2.1 dX8_count_4 rfl (lv_at hl 1 rfl) ?_
  refine r_callVN (As := [.int a1]) C hw (ok_X3_has X l σ a1 _ rfl) l_24 vc_3 gw_742 nw_739 gw_741 gw_45 gw_118 hl.1 pd_X3_has ⟨Nat.le_of_ble_eq_true rfl, Nat.le_of_ble_eq_true rfl⟩ ⟨Nat.zero_le _, Nat.zero_le _⟩ (rest := []) (Nat.le_of_ble_eq_true rfl) dX8_count_5 rfl (fun H locs hw => ?_)
  refine lv_if_ne (tgt := 21) C.1 C.2.1 dX8_count_8 (by decide) (fun c2 => ?_) (fun c2 => ?_)
  · have h := ite_f c2 h
    refine lv_iload_n C.1 C.2.1 dX8_count_21 rfl (lv_at hl 2 rfl) ?_
    by_cases c3 : a2 = 0
    · have h := ite_t c3 h
      refine lv_tableIn (tgt := 64) C.1 C.2.1 dX8_count_22 (by rw [c3]; decide) (by rw [c3]; decide) (by rw [c3]; rfl) (by decide) ?_
      refine lv_aload_n C.1 C.2.1 dX8_count_64 rfl (lv_at hl 0 rfl) ?_
      refine r_get (v := .ref (X.2.1 24)) C hw l_0 vc_8 kX8 3 rfl (by decide) gw_411 rfl dX8_count_65 ?_
      refine r_getN (v := .ref (X.2.1 25)) C hw l_24 vc_3 kX3 1 rfl (by decide) nw_271 rfl dX8_count_68 ?_
      refine lv_iload_n C.1 C.2.1 dX8_count_71 rfl (lv_at hl 1 rfl) ?_
      obtain ⟨v17, ev17, h⟩ := bnd h
      refine r_ald C hw l_25 ev17 dX8_count_72 ?_
      exact r_iretX C hr hlk hw (Prod.mk.inj (Option.some.inj h)).1 (Prod.mk.inj (Option.some.inj h)).2 dX8_count_73
    · have h := ite_f c3 h
      by_cases c4 : a2 = 1
      · have h := ite_t c4 h
        refine lv_tableIn (tgt := 74) C.1 C.2.1 dX8_count_22 (by rw [c4]; decide) (by rw [c4]; decide) (by rw [c4]; rfl) (by decide) ?_
        refine lv_aload_n C.1 C.2.1 dX8_count_74 rfl (lv_at hl 0 rfl) ?_
        refine r_get (v := .ref (X.2.1 24)) C hw l_0 vc_8 kX8 3 rfl (by decide) gw_411 rfl dX8_count_75 ?_
        refine r_getN (v := .ref (X.2.1 26)) C hw l_24 vc_3 kX3 2 rfl (by decide) nw_273 rfl dX8_count_78 ?_
        refine lv_iload_n C.1 C.2.1 dX8_count_81 rfl (lv_at hl 1 rfl) ?_
        obtain ⟨v16, ev16, h⟩ := bnd h
        refine r_ald C hw l_26 ev16 dX8_count_82 ?_
        exact r_iretX C hr hlk hw (Prod.mk.inj (Option.some.inj h)).1 (Prod.mk.inj (Option.some.inj h)).2 dX8_count_83
      · have h := ite_f c4 h
        by_cases c5 : a2 = 2
        · have h := ite_t c5 h
          refine lv_tableIn (tgt := 84) C.1 C.2.1 dX8_count_22 (by rw [c5]; decide) (by rw [c5]; decide) (by rw [c5]; rfl) (by decide) ?_
          refine lv_aload_n C.1 C.2.1 dX8_count_84 rfl (lv_at hl 0 rfl) ?_
          refine r_get (v := .ref (X.2.1 24)) C hw l_0 vc_8 kX8 3 rfl (by decide) gw_411 rfl dX8_count_85 ?_
          refine r_getN (v := .ref (X.2.1 27)) C hw l_24 vc_3 kX3 3 rfl (by decide) nw_275 rfl dX8_count_88 ?_
          refine lv_iload_n C.1 C.2.1 dX8_count_91 rfl (lv_at hl 1 rfl) ?_
          obtain ⟨v15, ev15, h⟩ := bnd h
          refine r_ald C hw l_27 ev15 dX8_count_92 ?_
          exact r_iretX C hr hlk hw (Prod.mk.inj (Option.some.inj h)).1 (Prod.mk.inj (Option.some.inj h)).2 dX8_count_93
        · have h := ite_f c5 h
          by_cases c6 : a2 = 3
          · have h := ite_t c6 h
            refine lv_tableIn (tgt := 94) C.1 C.2.1 dX8_count_22 (by rw [c6]; decide) (by rw [c6]; decide) (by rw [c6]; rfl) (by decide) ?_
            refine lv_aload_n C.1 C.2.1 dX8_count_94 rfl (lv_at hl 0 rfl) ?_
            refine r_get (v := .ref (X.2.1 24)) C hw l_0 vc_8 kX8 3 rfl (by decide) gw_411 rfl dX8_count_95 ?_
            refine r_getN (v := .ref (X.2.1 28)) C hw l_24 vc_3 kX3 4 rfl (by decide) nw_277 rfl dX8_count_98 ?_
            refine lv_iload_n C.1 C.2.1 dX8_count_101 rfl (lv_at hl 1 rfl) ?_
            obtain ⟨v14, ev14, h⟩ := bnd h
            refine r_ald C hw l_28 ev14 dX8_count_102 ?_
            exact r_iretX C hr hlk hw (Prod.mk.inj (Option.some.inj h)).1 (Prod.mk.inj (Option.some.inj h)).2 dX8_count_103
          · have h := ite_f c6 h
            by_cases c7 : a2 = 4
            · have h := ite_t c7 h
              refine lv_tableIn (tgt := 104) C.1 C.2.1 dX8_count_22 (by rw [c7]; decide) (by rw [c7]; decide) (by rw [c7]; rfl) (by decide) ?_
              refine lv_aload_n C.1 C.2.1 dX8_count_104 rfl (lv_at hl 0 rfl) ?_
              refine r_get (v := .ref (X.2.1 24)) C hw l_0 vc_8 kX8 3 rfl (by decide) gw_411 rfl dX8_count_105 ?_
              refine r_getN (v := .ref (X.2.1 29)) C hw l_24 vc_3 kX3 5 rfl (by decide) nw_279 rfl dX8_count_108 ?_
              refine lv_iload_n C.1 C.2.1 dX8_count_111 rfl (lv_at hl 1 rfl) ?_
              obtain ⟨v13, ev13, h⟩ := bnd h
              refine r_ald C hw l_29 ev13 dX8_count_112 ?_
              exact r_iretX C hr hlk hw (Prod.mk.inj (Option.some.inj h)).1 (Prod.mk.inj (Option.some.inj h)).2 dX8_count_113
            · have h := ite_f c7 h
              by_cases c8 : a2 = 5
              · have h := ite_t c8 h
                refine lv_tableIn (tgt := 114) C.1 C.2.1 dX8_count_22 (by rw [c8]; decide) (by rw [c8]; decide) (by rw [c8]; rfl) (by decide) ?_
                refine lv_aload_n C.1 C.2.1 dX8_count_114 rfl (lv_at hl 0 rfl) ?_
                refine r_get (v := .ref (X.2.1 24)) C hw l_0 vc_8 kX8 3 rfl (by decide) gw_411 rfl dX8_count_115 ?_
                refine r_getN (v := .ref (X.2.1 30)) C hw l_24 vc_3 kX3 6 rfl (by decide) nw_281 rfl dX8_count_118 ?_
                refine lv_iload_n C.1 C.2.1 dX8_count_121 rfl (lv_at hl 1 rfl) ?_
                obtain ⟨v11, ev11, h⟩ := bnd h
                refine r_zald C hw l_30 ev11 dX8_count_122 ?_
                refine lv_if_eq (tgt := 130) C.1 C.2.1 dX8_count_123 (by decide) (fun c12 => ?_) (fun c12 => ?_)
                · have h := ite_t c12 h
                  refine lv_iconst (v := 0) C.1 C.2.1 dX8_count_130 (by decide) ?_
                  exact r_iretX C hr hlk hw (Prod.mk.inj (Option.some.inj h)).1 (Prod.mk.inj (Option.some.inj h)).2 dX8_count_131
                · have h := ite_f c12 h
                  refine lv_iconst (v := 1) C.1 C.2.1 dX8_count_126 (by decide) ?_
                  refine lv_goto (tgt := 131) C.1 C.2.1 dX8_count_127 (by decide) ?_
                  exact r_iretX C hr hlk hw (Prod.mk.inj (Option.some.inj h)).1 (Prod.mk.inj (Option.some.inj h)).2 dX8_count_131
              · have h := ite_f c8 h
                by_cases c9 : a2 = 6
                · have h := ite_t c9 h
                  refine lv_tableIn (tgt := 132) C.1 C.2.1 dX8_count_22 (by rw [c9]; decide) (by rw [c9]; decide) (by rw [c9]; rfl) (by decide) ?_
                  refine lv_aload_n C.1 C.2.1 dX8_count_132 rfl (lv_at hl 0 rfl) ?_
                  refine lv_iload_n C.1 C.2.1 dX8_count_133 rfl (lv_at hl 1 rfl) ?_
                  obtain ⟨q10, eq10, h⟩ := bnd h
                  refine r_callV (As := [.int a1]) C hw (ok_X8_allowedFor X l σ a1 _ _ eq10) l_0 vc_8 gw_782 gw_779 gw_781 gw_52 gw_114 hl.1 pd_X8_allowedFor ⟨Nat.le_of_ble_eq_true rfl, Nat.le_of_ble_eq_true rfl⟩ ⟨Nat.zero_le _, Nat.zero_le _⟩ (rest := []) (Nat.le_of_ble_eq_true rfl) dX8_count_134 rfl (fun H locs hw => ?_)
                  exact r_iretX C hr hlk hw (Prod.mk.inj (Option.some.inj h)).1 (Prod.mk.inj (Option.some.inj h)).2 dX8_count_137
                · have h := ite_f c9 h
                  refine sw_out (ts := 138) C.1 C.2.1 dX8_count_22 [0, 1, 2, 3, 4, 5, 6] (by decide) (by decide) (List.forall_mem_cons.mpr ⟨c3, (List.forall_mem_cons.mpr ⟨c4, (List.forall_mem_cons.mpr ⟨c5, (List.forall_mem_cons.mpr ⟨c6, (List.forall_mem_cons.mpr ⟨c7, (List.forall_mem_cons.mpr ⟨c8, (List.forall_mem_cons.mpr ⟨c9, fun _ h => absurd h List.not_mem_nil⟩)⟩)⟩)⟩)⟩)⟩)⟩) (by decide) ?_
                  exact r_throw C hl0 hlk htab hw 9 rfl rfl gw_917 gw_132 (Prod.mk.inj (Option.some.inj h)).1 (Prod.mk.inj (Option.some.inj h)).2 hl.1 dX8_count_138 dX8_count_141 dX8_count_142 dX8_count_144 dX8_count_147 (by decide) (Nat.le_of_ble_eq_true rfl) (by decide) (by decide)
  · have h := ite_t c2 h
    exact r_throw C hl0 hlk htab hw 8 rfl rfl gw_917 gw_132 (Prod.mk.inj (Option.some.inj h)).1 (Prod.mk.inj (Option.some.inj h)).2 hl.1 dX8_count_11 dX8_count_14 dX8_count_15 dX8_count_17 dX8_count_20 (by decide) (Nat.le_of_ble_eq_true rfl) (by decide) (by decide)
