theorem lg_cmp_self (x : Int64) : lg_cmp x x = 0 := by simp [lg_cmp]
theorem lw_c {i L : Nat} (h : i + 6 ≤ L) (hL : L ≤ 3072) : 58 + i ≤ room_1.cells := by show 58 + i ≤ 601024; omega
theorem lw_s {i L : Nat} (h : i + 6 ≤ L) (hL : L ≤ 3072) : 14100 + 6 * i ≤ room_1.slots := by show 14100 + 6 * i ≤ 7293034; omega
theorem lw_c1 {i L : Nat} (h : i + 6 ≤ L) (hL : L ≤ 3072) : 58 + i + 1 ≤ room_1.cells := by show 58 + i + 1 ≤ 601024; omega
theorem lw_s1 {i L : Nat} (h : i + 6 ≤ L) (hL : L ≤ 3072) : 14100 + 6 * i + 6 ≤ room_1.slots := by show 14100 + 6 * i + 6 ≤ 7293034; omega
theorem lw_c6 {i L : Nat} (h : i + 6 ≤ L) (hL : L ≤ 3072) : 58 + (i + 6) ≤ room_1.cells := by show 58 + (i + 6) ≤ 601024; omega
theorem lw_s6 {i L : Nat} (h : i + 6 ≤ L) (hL : L ≤ 3072) : 14100 + 6 * (i + 6) ≤ room_1.slots := by show 14100 + 6 * (i + 6) ≤ 7293034; omega
/-- the loop's head, as a place to come back to -/
def LHead (p : Program) (l : Launch) (e : Env) (s : State) (m : MethodId) (below : List Frame) (meth : Method) (c : Code) (X : Xc) (b : Nat) (Inv : St → Prop) (i pc : Nat) : Prop :=
  ∀ (σ : St), Inv σ → ∀ (H : Heap) (locs : List Loc), AtL X σ s H locs → ∀ ls : Array Slot, lv_has ls 7 [(0, .ref b), (1, .ref (X.2.1 0)), (2, .ref (X.2.1 50)), (3, .ref (X.2.1 57)), (4, .int (nI i))] → W p l e room_1 s m #[Value.ref b] below meth c H locs (58 + i) (14100 + 6 * i) (lw_Z below #[Value.ref b] s) (F0 m pc ls [])
def LEnd (p : Program) (l : Launch) (e : Env) (s : State) (m : MethodId) (below : List Frame) (meth : Method) (c : Code) (X : Xc) (b : Nat) (Inv : St → Prop) (i : Nat) : Prop :=
  ∀ (σ : St), Inv σ → ∀ (H : Heap) (locs : List Loc), AtL X σ s H locs → ∀ ls : Array Slot, lv_has ls 7 [(0, .ref b), (1, .ref (X.2.1 0)), (2, .ref (X.2.1 50)), (3, .ref (X.2.1 57)), (4, .int (nI i))] → W p l e room_1 s m #[Value.ref b] below meth c H locs (58 + (i + 6)) (14100 + 6 * (i + 6)) (lw_Z below #[Value.ref b] s) (F0 m 1114 ls [])
def CxW (p : Program) (s : State) (m : MethodId) (c : Code) (X : Xc) (b L : Nat) (xs : Nat → Int32) : Prop := CxL p s m #[Value.ref b] c X code 7 "RunningCountLaw" b L xs
set_option maxRecDepth 100000 in
set_option maxHeartbeats 4000000 in
theorem lc_0 {p : Program} {l : Launch} {e : Env} {s : State} {m : MethodId} {below : List Frame} {meth : Method} {c : Code} {X : Xc} {b L : Nat} {xs : Nat → Int32} {Inv : St → Prop} (hl0 : l.stackTraces = false) (hL : L ≤ 3072) (C : CxW p s m c X b L xs) (HS : StepsAll Inv) {i : Nat} (hi6 : i + 6 ≤ L) (hend : LEnd p l e s m below meth c X b Inv i) : LHead p l e s m below meth c X b Inv i 152 := by
  intro σ hI H locs hw ls hl
  have hbA : ¬ A0 s b := Nat.not_le.mpr C.2.2.2.2.2.2.2.2.2.2.2
  obtain ⟨r, σ1, σ2, h1, h2, hI2⟩ := HS.1 σ hI (xs (nI i + 1).toNatClampNeg) (xs (nI i + 2).toNatClampNeg) (xs (nI i + 3).toNatClampNeg) (xs (nI i + 4).toNatClampNeg) (xs (nI i + 5).toNatClampNeg)
  refine lv_aload_n C.1 C.2.1 dL_law_152 rfl (lv_at hl 1 rfl) ?_
  refine lv_aload_n C.1 C.2.1 dL_law_153 rfl (lv_at hl 0 rfl) ?_
  refine lv_iload C.1 C.2.1 dL_law_154 (lv_at hl 4 rfl) ?_
  refine lv_iconst (v := 1) C.1 C.2.1 dL_law_156 (by decide) ?_
  refine lv_iadd C.1 C.2.1 dL_law_157 ?_
  refine va_sld C.1 C.2.1 C.2.2.2.2.2.2.2.2.2.2.1 C.2.2.2.2.2.2.2.2.2.2.2 hbA hw.2.1 (lw_ix hL hi6 (by decide) (k := 1) rfl) dL_law_158 ?_
  refine lv_aload_n C.1 C.2.1 dL_law_159 rfl (lv_at hl 0 rfl) ?_
  refine lv_iload C.1 C.2.1 dL_law_160 (lv_at hl 4 rfl) ?_
  refine lv_iconst (v := 2) C.1 C.2.1 dL_law_162 (by decide) ?_
  refine lv_iadd C.1 C.2.1 dL_law_163 ?_
  refine va_sld C.1 C.2.1 C.2.2.2.2.2.2.2.2.2.2.1 C.2.2.2.2.2.2.2.2.2.2.2 hbA hw.2.1 (lw_ix hL hi6 (by decide) (k := 2) rfl) dL_law_164 ?_
  refine lv_aload_n C.1 C.2.1 dL_law_165 rfl (lv_at hl 0 rfl) ?_
  refine lv_iload C.1 C.2.1 dL_law_166 (lv_at hl 4 rfl) ?_
  refine lv_iconst (v := 3) C.1 C.2.1 dL_law_168 (by decide) ?_
  refine lv_iadd C.1 C.2.1 dL_law_169 ?_
  refine va_sld C.1 C.2.1 C.2.2.2.2.2.2.2.2.2.2.1 C.2.2.2.2.2.2.2.2.2.2.2 hbA hw.2.1 (lw_ix hL hi6 (by decide) (k := 3) rfl) dL_law_170 ?_
  refine lv_aload_n C.1 C.2.1 dL_law_171 rfl (lv_at hl 0 rfl) ?_
  refine lv_iload C.1 C.2.1 dL_law_172 (lv_at hl 4 rfl) ?_
  refine lv_iconst (v := 4) C.1 C.2.1 dL_law_174 (by decide) ?_
  refine lv_iadd C.1 C.2.1 dL_law_175 ?_
  refine va_sld C.1 C.2.1 C.2.2.2.2.2.2.2.2.2.2.1 C.2.2.2.2.2.2.2.2.2.2.2 hbA hw.2.1 (lw_ix hL hi6 (by decide) (k := 4) rfl) dL_law_176 ?_
  refine lv_aload_n C.1 C.2.1 dL_law_177 rfl (lv_at hl 0 rfl) ?_
  refine lv_iload C.1 C.2.1 dL_law_178 (lv_at hl 4 rfl) ?_
  refine lv_iconst (v := 5) C.1 C.2.1 dL_law_180 (by decide) ?_
  refine lv_iadd C.1 C.2.1 dL_law_181 ?_
  refine va_sld C.1 C.2.1 C.2.2.2.2.2.2.2.2.2.2.1 C.2.2.2.2.2.2.2.2.2.2.2 hbA hw.2.1 (lw_ix hL hi6 (by decide) (k := 5) rfl) dL_law_182 ?_
  refine r_callL (As := [.int (xs (nI i + 1).toNatClampNeg), .int (xs (nI i + 2).toNatClampNeg), .int (xs (nI i + 3).toNatClampNeg), .int (xs (nI i + 4).toNatClampNeg), .int (xs (nI i + 5).toNatClampNeg)]) C hw (ok_X8_feed X l σ (xs (nI i + 1).toNatClampNeg) (xs (nI i + 2).toNatClampNeg) (xs (nI i + 3).toNatClampNeg) (xs (nI i + 4).toNatClampNeg) (xs (nI i + 5).toNatClampNeg) r σ1 h1) l_0 vc_8 gw_433 gw_430 gw_431 gw_432 gw_114 hl.1 pd_X8_feed ⟨Nat.le_of_ble_eq_true rfl, Nat.le_of_ble_eq_true rfl⟩ ⟨lw_c hi6 hL, lw_s hi6 hL⟩ (rest := []) (Nat.le_of_ble_eq_true rfl) dL_law_183 rfl (fun H locs hw => ?_)
  refine lv_aload_n C.1 C.2.1 dL_law_186 rfl (lv_at hl 2 rfl) ?_
  refine lv_aload_n C.1 C.2.1 dL_law_187 rfl (lv_at hl 0 rfl) ?_
  refine lv_iload C.1 C.2.1 dL_law_188 (lv_at hl 4 rfl) ?_
  refine lv_iconst (v := 1) C.1 C.2.1 dL_law_190 (by decide) ?_
  refine lv_iadd C.1 C.2.1 dL_law_191 ?_
  refine va_sld C.1 C.2.1 C.2.2.2.2.2.2.2.2.2.2.1 C.2.2.2.2.2.2.2.2.2.2.2 hbA hw.2.1 (lw_ix hL hi6 (by decide) (k := 1) rfl) dL_law_192 ?_
  refine lv_aload_n C.1 C.2.1 dL_law_193 rfl (lv_at hl 0 rfl) ?_
  refine lv_iload C.1 C.2.1 dL_law_194 (lv_at hl 4 rfl) ?_
  refine lv_iconst (v := 2) C.1 C.2.1 dL_law_196 (by decide) ?_
  refine lv_iadd C.1 C.2.1 dL_law_197 ?_
  refine va_sld C.1 C.2.1 C.2.2.2.2.2.2.2.2.2.2.1 C.2.2.2.2.2.2.2.2.2.2.2 hbA hw.2.1 (lw_ix hL hi6 (by decide) (k := 2) rfl) dL_law_198 ?_
  refine lv_aload_n C.1 C.2.1 dL_law_199 rfl (lv_at hl 0 rfl) ?_
  refine lv_iload C.1 C.2.1 dL_law_200 (lv_at hl 4 rfl) ?_
  refine lv_iconst (v := 3) C.1 C.2.1 dL_law_202 (by decide) ?_
  refine lv_iadd C.1 C.2.1 dL_law_203 ?_
  refine va_sld C.1 C.2.1 C.2.2.2.2.2.2.2.2.2.2.1 C.2.2.2.2.2.2.2.2.2.2.2 hbA hw.2.1 (lw_ix hL hi6 (by decide) (k := 3) rfl) dL_law_204 ?_
  refine lv_aload_n C.1 C.2.1 dL_law_205 rfl (lv_at hl 0 rfl) ?_
  refine lv_iload C.1 C.2.1 dL_law_206 (lv_at hl 4 rfl) ?_
  refine lv_iconst (v := 4) C.1 C.2.1 dL_law_208 (by decide) ?_
  refine lv_iadd C.1 C.2.1 dL_law_209 ?_
  refine va_sld C.1 C.2.1 C.2.2.2.2.2.2.2.2.2.2.1 C.2.2.2.2.2.2.2.2.2.2.2 hbA hw.2.1 (lw_ix hL hi6 (by decide) (k := 4) rfl) dL_law_210 ?_
  refine lv_aload_n C.1 C.2.1 dL_law_211 rfl (lv_at hl 0 rfl) ?_
  refine lv_iload C.1 C.2.1 dL_law_212 (lv_at hl 4 rfl) ?_
  refine lv_iconst (v := 5) C.1 C.2.1 dL_law_214 (by decide) ?_
  refine lv_iadd C.1 C.2.1 dL_law_215 ?_
  refine va_sld C.1 C.2.1 C.2.2.2.2.2.2.2.2.2.2.1 C.2.2.2.2.2.2.2.2.2.2.2 hbA hw.2.1 (lw_ix hL hi6 (by decide) (k := 5) rfl) dL_law_216 ?_
  refine r_callL (As := [.int (xs (nI i + 1).toNatClampNeg), .int (xs (nI i + 2).toNatClampNeg), .int (xs (nI i + 3).toNatClampNeg), .int (xs (nI i + 4).toNatClampNeg), .int (xs (nI i + 5).toNatClampNeg)]) C hw (ok_X9_feed X l σ1 (xs (nI i + 1).toNatClampNeg) (xs (nI i + 2).toNatClampNeg) (xs (nI i + 3).toNatClampNeg) (xs (nI i + 4).toNatClampNeg) (xs (nI i + 5).toNatClampNeg) r σ2 h2) l_50 vc_9 gw_999 gw_996 gw_997 gw_998 gw_123 hl.1 pd_X9_feed ⟨Nat.le_of_ble_eq_true rfl, Nat.le_of_ble_eq_true rfl⟩ ⟨lw_c hi6 hL, lw_s hi6 hL⟩ (rest := [.int r]) (Nat.le_of_ble_eq_true rfl) dL_law_217 rfl (fun H locs hw => ?_)
  refine lv_icmp_eq (tgt := 1114) C.1 C.2.1 dL_law_220 (by decide) (fun c1 => ?_) (fun c1 => absurd rfl c1)
  refine W.widen (k := 58 + (i + 6)) (n := 14100 + 6 * (i + 6)) (by omega) (by omega) ?_
  exact hend σ2 hI2 _ _ hw ls (lv_sub hl [0, 1, 2, 3, 4] rfl)
set_option maxRecDepth 100000 in
set_option maxHeartbeats 4000000 in
theorem lc_1 {p : Program} {l : Launch} {e : Env} {s : State} {m : MethodId} {below : List Frame} {meth : Method} {c : Code} {X : Xc} {b L : Nat} {xs : Nat → Int32} {Inv : St → Prop} (hl0 : l.stackTraces = false) (hL : L ≤ 3072) (C : CxW p s m c X b L xs) (HS : StepsAll Inv) {i : Nat} (hi6 : i + 6 ≤ L) (hend : LEnd p l e s m below meth c X b Inv i) : LHead p l e s m below meth c X b Inv i 225 := by
  intro σ hI H locs hw ls hl
  have hbA : ¬ A0 s b := Nat.not_le.mpr C.2.2.2.2.2.2.2.2.2.2.2
  obtain ⟨r, σ1, σ2, h1, h2, hI2⟩ := HS.2.1 σ hI (xs (nI i + 1).toNatClampNeg)
  refine lv_aload_n C.1 C.2.1 dL_law_225 rfl (lv_at hl 1 rfl) ?_
  refine lv_aload_n C.1 C.2.1 dL_law_226 rfl (lv_at hl 0 rfl) ?_
  refine lv_iload C.1 C.2.1 dL_law_227 (lv_at hl 4 rfl) ?_
  refine lv_iconst (v := 1) C.1 C.2.1 dL_law_229 (by decide) ?_
  refine lv_iadd C.1 C.2.1 dL_law_230 ?_
  refine va_sld C.1 C.2.1 C.2.2.2.2.2.2.2.2.2.2.1 C.2.2.2.2.2.2.2.2.2.2.2 hbA hw.2.1 (lw_ix hL hi6 (by decide) (k := 1) rfl) dL_law_231 ?_
  refine r_callL (As := [.int (xs (nI i + 1).toNatClampNeg)]) C hw (ok_X8_end X l σ (xs (nI i + 1).toNatClampNeg) r σ1 h1) l_0 vc_8 gw_445 gw_442 gw_443 gw_444 gw_114 hl.1 pd_X8_end ⟨Nat.le_of_ble_eq_true rfl, Nat.le_of_ble_eq_true rfl⟩ ⟨lw_c hi6 hL, lw_s hi6 hL⟩ (rest := []) (Nat.le_of_ble_eq_true rfl) dL_law_232 rfl (fun H locs hw => ?_)
  refine lv_aload_n C.1 C.2.1 dL_law_235 rfl (lv_at hl 2 rfl) ?_
  refine lv_aload_n C.1 C.2.1 dL_law_236 rfl (lv_at hl 0 rfl) ?_
  refine lv_iload C.1 C.2.1 dL_law_237 (lv_at hl 4 rfl) ?_
  refine lv_iconst (v := 1) C.1 C.2.1 dL_law_239 (by decide) ?_
  refine lv_iadd C.1 C.2.1 dL_law_240 ?_
  refine va_sld C.1 C.2.1 C.2.2.2.2.2.2.2.2.2.2.1 C.2.2.2.2.2.2.2.2.2.2.2 hbA hw.2.1 (lw_ix hL hi6 (by decide) (k := 1) rfl) dL_law_241 ?_
  refine r_callL (As := [.int (xs (nI i + 1).toNatClampNeg)]) C hw (ok_X9_end X l σ1 (xs (nI i + 1).toNatClampNeg) r σ2 h2) l_50 vc_9 gw_1008 gw_1005 gw_1006 gw_1007 gw_123 hl.1 pd_X9_end ⟨Nat.le_of_ble_eq_true rfl, Nat.le_of_ble_eq_true rfl⟩ ⟨lw_c hi6 hL, lw_s hi6 hL⟩ (rest := [.int (b2i r)]) (Nat.le_of_ble_eq_true rfl) dL_law_242 rfl (fun H locs hw => ?_)
  refine lv_icmp_eq (tgt := 1114) C.1 C.2.1 dL_law_245 (by decide) (fun c1 => ?_) (fun c1 => absurd rfl c1)
  refine W.widen (k := 58 + (i + 6)) (n := 14100 + 6 * (i + 6)) (by omega) (by omega) ?_
  exact hend σ2 hI2 _ _ hw ls (lv_sub hl [0, 1, 2, 3, 4] rfl)
set_option maxRecDepth 100000 in
set_option maxHeartbeats 4000000 in
theorem lc_2 {p : Program} {l : Launch} {e : Env} {s : State} {m : MethodId} {below : List Frame} {meth : Method} {c : Code} {X : Xc} {b L : Nat} {xs : Nat → Int32} {Inv : St → Prop} (hl0 : l.stackTraces = false) (hL : L ≤ 3072) (C : CxW p s m c X b L xs) (HS : StepsAll Inv) {i : Nat} (hi6 : i + 6 ≤ L) (hend : LEnd p l e s m below meth c X b Inv i) : LHead p l e s m below meth c X b Inv i 250 := by
  intro σ hI H locs hw ls hl
  have hbA : ¬ A0 s b := Nat.not_le.mpr C.2.2.2.2.2.2.2.2.2.2.2
  obtain ⟨r, σ1, σ2, h1, h2, hI2⟩ := HS.2.2.1 σ hI
  refine lv_aload_n C.1 C.2.1 dL_law_250 rfl (lv_at hl 1 rfl) ?_
  refine r_callL (As := []) C hw (ok_X8_text X l σ r σ1 h1) l_0 vc_8 gw_449 gw_446 gw_447 gw_448 gw_114 hl.1 pd_X8_text ⟨Nat.le_of_ble_eq_true rfl, Nat.le_of_ble_eq_true rfl⟩ ⟨lw_c hi6 hL, lw_s hi6 hL⟩ (rest := []) (Nat.le_of_ble_eq_true rfl) dL_law_251 rfl (fun H locs hw => ?_)
  refine lv_aload_n C.1 C.2.1 dL_law_254 rfl (lv_at hl 2 rfl) ?_
  refine r_callL (As := []) C hw (ok_X9_text X l σ1 r σ2 h2) l_50 vc_9 gw_1081 gw_1078 gw_1079 gw_1080 gw_123 hl.1 pd_X9_text ⟨Nat.le_of_ble_eq_true rfl, Nat.le_of_ble_eq_true rfl⟩ ⟨lw_c hi6 hL, lw_s hi6 hL⟩ (rest := [.int r]) (Nat.le_of_ble_eq_true rfl) dL_law_255 rfl (fun H locs hw => ?_)
  refine lv_icmp_eq (tgt := 1114) C.1 C.2.1 dL_law_258 (by decide) (fun c1 => ?_) (fun c1 => absurd rfl c1)
  refine W.widen (k := 58 + (i + 6)) (n := 14100 + 6 * (i + 6)) (by omega) (by omega) ?_
  exact hend σ2 hI2 _ _ hw ls (lv_sub hl [0, 1, 2, 3, 4] rfl)
set_option maxRecDepth 100000 in
set_option maxHeartbeats 4000000 in
theorem lc_3 {p : Program} {l : Launch} {e : Env} {s : State} {m : MethodId} {below : List Frame} {meth : Method} {c : Code} {X : Xc} {b L : Nat} {xs : Nat → Int32} {Inv : St → Prop} (hl0 : l.stackTraces = false) (hL : L ≤ 3072) (C : CxW p s m c X b L xs) (HS : StepsAll Inv) {i : Nat} (hi6 : i + 6 ≤ L) (hend : LEnd p l e s m below meth c X b Inv i) : LHead p l e s m below meth c X b Inv i 263 := by
  intro σ hI H locs hw ls hl
  have hbA : ¬ A0 s b := Nat.not_le.mpr C.2.2.2.2.2.2.2.2.2.2.2
  obtain ⟨σ2, h2, hI2⟩ := HS.2.2.2.1 σ hI
  refine lv_aload_n C.1 C.2.1 dL_law_263 rfl (lv_at hl 1 rfl) ?_
  refine r_callL (As := []) C hw (ok_X8_fault X l σ _ rfl) l_0 vc_8 gw_654 gw_651 gw_652 gw_653 gw_114 hl.1 pd_X8_fault ⟨Nat.le_of_ble_eq_true rfl, Nat.le_of_ble_eq_true rfl⟩ ⟨lw_c hi6 hL, lw_s hi6 hL⟩ (rest := []) (Nat.le_of_ble_eq_true rfl) dL_law_264 rfl (fun H locs hw => ?_)
  refine lv_aload_n C.1 C.2.1 dL_law_267 rfl (lv_at hl 2 rfl) ?_
  refine r_callL (As := []) C hw (ok_X9_fault X l σ (f_X8_fault σ) σ2 h2) l_50 vc_9 gw_1167 gw_1164 gw_1165 gw_1166 gw_123 hl.1 pd_X9_fault ⟨Nat.le_of_ble_eq_true rfl, Nat.le_of_ble_eq_true rfl⟩ ⟨lw_c hi6 hL, lw_s hi6 hL⟩ (rest := [.int (f_X8_fault σ)]) (Nat.le_of_ble_eq_true rfl) dL_law_268 rfl (fun H locs hw => ?_)
  refine lv_icmp_eq (tgt := 1114) C.1 C.2.1 dL_law_271 (by decide) (fun c1 => ?_) (fun c1 => absurd rfl c1)
  refine W.widen (k := 58 + (i + 6)) (n := 14100 + 6 * (i + 6)) (by omega) (by omega) ?_
  exact hend σ2 hI2 _ _ hw ls (lv_sub hl [0, 1, 2, 3, 4] rfl)
set_option maxRecDepth 100000 in
set_option maxHeartbeats 4000000 in
theorem lc_4 {p : Program} {l : Launch} {e : Env} {s : State} {m : MethodId} {below : List Frame} {meth : Method} {c : Code} {X : Xc} {b L : Nat} {xs : Nat → Int32} {Inv : St → Prop} (hl0 : l.stackTraces = false) (hL : L ≤ 3072) (C : CxW p s m c X b L xs) (HS : StepsAll Inv) {i : Nat} (hi6 : i + 6 ≤ L) (hend : LEnd p l e s m below meth c X b Inv i) : LHead p l e s m below meth c X b Inv i 276 := by
  intro σ hI H locs hw ls hl
  have hbA : ¬ A0 s b := Nat.not_le.mpr C.2.2.2.2.2.2.2.2.2.2.2
  obtain ⟨r, σ2, h1, h2, hI2⟩ := HS.2.2.2.2.1 σ hI (xs (nI i + 1).toNatClampNeg)
  refine lv_aload_n C.1 C.2.1 dL_law_276 rfl (lv_at hl 1 rfl) ?_
  refine lv_aload_n C.1 C.2.1 dL_law_277 rfl (lv_at hl 0 rfl) ?_
  refine lv_iload C.1 C.2.1 dL_law_278 (lv_at hl 4 rfl) ?_
  refine lv_iconst (v := 1) C.1 C.2.1 dL_law_280 (by decide) ?_
  refine lv_iadd C.1 C.2.1 dL_law_281 ?_
  refine va_sld C.1 C.2.1 C.2.2.2.2.2.2.2.2.2.2.1 C.2.2.2.2.2.2.2.2.2.2.2 hbA hw.2.1 (lw_ix hL hi6 (by decide) (k := 1) rfl) dL_law_282 ?_
  refine r_callL (As := [.int (xs (nI i + 1).toNatClampNeg)]) C hw (ok_X8_now X l σ (xs (nI i + 1).toNatClampNeg) r h1) l_0 vc_8 gw_658 gw_655 gw_656 gw_657 gw_114 hl.1 pd_X8_now ⟨Nat.le_of_ble_eq_true rfl, Nat.le_of_ble_eq_true rfl⟩ ⟨lw_c hi6 hL, lw_s hi6 hL⟩ (rest := []) (Nat.le_of_ble_eq_true rfl) dL_law_283 rfl (fun H locs hw => ?_)
  refine lv_aload_n C.1 C.2.1 dL_law_286 rfl (lv_at hl 2 rfl) ?_
  refine lv_aload_n C.1 C.2.1 dL_law_287 rfl (lv_at hl 0 rfl) ?_
  refine lv_iload C.1 C.2.1 dL_law_288 (lv_at hl 4 rfl) ?_
  refine lv_iconst (v := 1) C.1 C.2.1 dL_law_290 (by decide) ?_
  refine lv_iadd C.1 C.2.1 dL_law_291 ?_
  refine va_sld C.1 C.2.1 C.2.2.2.2.2.2.2.2.2.2.1 C.2.2.2.2.2.2.2.2.2.2.2 hbA hw.2.1 (lw_ix hL hi6 (by decide) (k := 1) rfl) dL_law_292 ?_
  refine r_callL (As := [.int (xs (nI i + 1).toNatClampNeg)]) C hw (ok_X9_now X l σ (xs (nI i + 1).toNatClampNeg) r σ2 h2) l_50 vc_9 gw_1171 gw_1168 gw_1169 gw_1170 gw_123 hl.1 pd_X9_now ⟨Nat.le_of_ble_eq_true rfl, Nat.le_of_ble_eq_true rfl⟩ ⟨lw_c hi6 hL, lw_s hi6 hL⟩ (rest := [.int r]) (Nat.le_of_ble_eq_true rfl) dL_law_293 rfl (fun H locs hw => ?_)
  refine lv_icmp_eq (tgt := 1114) C.1 C.2.1 dL_law_296 (by decide) (fun c1 => ?_) (fun c1 => absurd rfl c1)
  refine W.widen (k := 58 + (i + 6)) (n := 14100 + 6 * (i + 6)) (by omega) (by omega) ?_
  exact hend σ2 hI2 _ _ hw ls (lv_sub hl [0, 1, 2, 3, 4] rfl)
set_option maxRecDepth 100000 in
set_option maxHeartbeats 4000000 in
theorem lc_5 {p : Program} {l : Launch} {e : Env} {s : State} {m : MethodId} {below : List Frame} {meth : Method} {c : Code} {X : Xc} {b L : Nat} {xs : Nat → Int32} {Inv : St → Prop} (hl0 : l.stackTraces = false) (hL : L ≤ 3072) (C : CxW p s m c X b L xs) (HS : StepsAll Inv) {i : Nat} (hi6 : i + 6 ≤ L) (hend : LEnd p l e s m below meth c X b Inv i) : LHead p l e s m below meth c X b Inv i 301 := by
  intro σ hI H locs hw ls hl
  have hbA : ¬ A0 s b := Nat.not_le.mpr C.2.2.2.2.2.2.2.2.2.2.2
  obtain ⟨r, σ2, h1, h2, hI2⟩ := HS.2.2.2.2.2.1 σ hI (xs (nI i + 1).toNatClampNeg) (xs (nI i + 2).toNatClampNeg)
  refine lv_aload_n C.1 C.2.1 dL_law_301 rfl (lv_at hl 1 rfl) ?_
  refine lv_aload_n C.1 C.2.1 dL_law_302 rfl (lv_at hl 0 rfl) ?_
  refine lv_iload C.1 C.2.1 dL_law_303 (lv_at hl 4 rfl) ?_
  refine lv_iconst (v := 1) C.1 C.2.1 dL_law_305 (by decide) ?_
  refine lv_iadd C.1 C.2.1 dL_law_306 ?_
  refine va_sld C.1 C.2.1 C.2.2.2.2.2.2.2.2.2.2.1 C.2.2.2.2.2.2.2.2.2.2.2 hbA hw.2.1 (lw_ix hL hi6 (by decide) (k := 1) rfl) dL_law_307 ?_
  refine lv_aload_n C.1 C.2.1 dL_law_308 rfl (lv_at hl 0 rfl) ?_
  refine lv_iload C.1 C.2.1 dL_law_309 (lv_at hl 4 rfl) ?_
  refine lv_iconst (v := 2) C.1 C.2.1 dL_law_311 (by decide) ?_
  refine lv_iadd C.1 C.2.1 dL_law_312 ?_
  refine va_sld C.1 C.2.1 C.2.2.2.2.2.2.2.2.2.2.1 C.2.2.2.2.2.2.2.2.2.2.2 hbA hw.2.1 (lw_ix hL hi6 (by decide) (k := 2) rfl) dL_law_313 ?_
  refine r_callL (As := [.int (xs (nI i + 1).toNatClampNeg), .int (xs (nI i + 2).toNatClampNeg)]) C hw (ok_X8_item X l σ (xs (nI i + 1).toNatClampNeg) (xs (nI i + 2).toNatClampNeg) r h1) l_0 vc_8 gw_666 gw_663 gw_664 gw_665 gw_114 hl.1 pd_X8_item ⟨Nat.le_of_ble_eq_true rfl, Nat.le_of_ble_eq_true rfl⟩ ⟨lw_c hi6 hL, lw_s hi6 hL⟩ (rest := []) (Nat.le_of_ble_eq_true rfl) dL_law_314 rfl (fun H locs hw => ?_)
  refine lv_aload_n C.1 C.2.1 dL_law_317 rfl (lv_at hl 2 rfl) ?_
  refine lv_aload_n C.1 C.2.1 dL_law_318 rfl (lv_at hl 0 rfl) ?_
  refine lv_iload C.1 C.2.1 dL_law_319 (lv_at hl 4 rfl) ?_
  refine lv_iconst (v := 1) C.1 C.2.1 dL_law_321 (by decide) ?_
  refine lv_iadd C.1 C.2.1 dL_law_322 ?_
  refine va_sld C.1 C.2.1 C.2.2.2.2.2.2.2.2.2.2.1 C.2.2.2.2.2.2.2.2.2.2.2 hbA hw.2.1 (lw_ix hL hi6 (by decide) (k := 1) rfl) dL_law_323 ?_
  refine lv_aload_n C.1 C.2.1 dL_law_324 rfl (lv_at hl 0 rfl) ?_
  refine lv_iload C.1 C.2.1 dL_law_325 (lv_at hl 4 rfl) ?_
  refine lv_iconst (v := 2) C.1 C.2.1 dL_law_327 (by decide) ?_
  refine lv_iadd C.1 C.2.1 dL_law_328 ?_
  refine va_sld C.1 C.2.1 C.2.2.2.2.2.2.2.2.2.2.1 C.2.2.2.2.2.2.2.2.2.2.2 hbA hw.2.1 (lw_ix hL hi6 (by decide) (k := 2) rfl) dL_law_329 ?_
  refine r_callL (As := [.int (xs (nI i + 1).toNatClampNeg), .int (xs (nI i + 2).toNatClampNeg)]) C hw (ok_X9_item X l σ (xs (nI i + 1).toNatClampNeg) (xs (nI i + 2).toNatClampNeg) r σ2 h2) l_50 vc_9 gw_1183 gw_1180 gw_1181 gw_1182 gw_123 hl.1 pd_X9_item ⟨Nat.le_of_ble_eq_true rfl, Nat.le_of_ble_eq_true rfl⟩ ⟨lw_c hi6 hL, lw_s hi6 hL⟩ (rest := [.int r]) (Nat.le_of_ble_eq_true rfl) dL_law_330 rfl (fun H locs hw => ?_)
  refine lv_icmp_eq (tgt := 1114) C.1 C.2.1 dL_law_333 (by decide) (fun c1 => ?_) (fun c1 => absurd rfl c1)
  refine W.widen (k := 58 + (i + 6)) (n := 14100 + 6 * (i + 6)) (by omega) (by omega) ?_
  exact hend σ2 hI2 _ _ hw ls (lv_sub hl [0, 1, 2, 3, 4] rfl)
set_option maxRecDepth 100000 in
set_option maxHeartbeats 4000000 in
theorem lc_6 {p : Program} {l : Launch} {e : Env} {s : State} {m : MethodId} {below : List Frame} {meth : Method} {c : Code} {X : Xc} {b L : Nat} {xs : Nat → Int32} {Inv : St → Prop} (hl0 : l.stackTraces = false) (hL : L ≤ 3072) (C : CxW p s m c X b L xs) (HS : StepsAll Inv) {i : Nat} (hi6 : i + 6 ≤ L) (hend : LEnd p l e s m below meth c X b Inv i) : LHead p l e s m below meth c X b Inv i 338 := by
  intro σ hI H locs hw ls hl
  have hbA : ¬ A0 s b := Nat.not_le.mpr C.2.2.2.2.2.2.2.2.2.2.2
  obtain ⟨o, b9, σ2, h1, h2, h3, h4, h5, hI2⟩ := HS.2.2.2.2.2.2.1 σ hI (xs (nI i + 1).toNatClampNeg) (xs (nI i + 2).toNatClampNeg)
  refine lv_aload_n C.1 C.2.1 dL_law_338 rfl (lv_at hl 1 rfl) ?_
  refine lv_aload_n C.1 C.2.1 dL_law_339 rfl (lv_at hl 0 rfl) ?_
  refine lv_iload C.1 C.2.1 dL_law_340 (lv_at hl 4 rfl) ?_
  refine lv_iconst (v := 1) C.1 C.2.1 dL_law_342 (by decide) ?_
  refine lv_iadd C.1 C.2.1 dL_law_343 ?_
  refine va_sld C.1 C.2.1 C.2.2.2.2.2.2.2.2.2.2.1 C.2.2.2.2.2.2.2.2.2.2.2 hbA hw.2.1 (lw_ix hL hi6 (by decide) (k := 1) rfl) dL_law_344 ?_
  refine lv_aload_n C.1 C.2.1 dL_law_345 rfl (lv_at hl 0 rfl) ?_
  refine lv_iload C.1 C.2.1 dL_law_346 (lv_at hl 4 rfl) ?_
  refine lv_iconst (v := 2) C.1 C.2.1 dL_law_348 (by decide) ?_
  refine lv_iadd C.1 C.2.1 dL_law_349 ?_
  refine va_sld C.1 C.2.1 C.2.2.2.2.2.2.2.2.2.2.1 C.2.2.2.2.2.2.2.2.2.2.2 hbA hw.2.1 (lw_ix hL hi6 (by decide) (k := 2) rfl) dL_law_350 ?_
  refine lv_aload_n C.1 C.2.1 dL_law_351 rfl (lv_at hl 3 rfl) ?_
  refine r_callLW (As := [.ref (X.2.1 0), .int (xs (nI i + 1).toNatClampNeg), .int (xs (nI i + 2).toNatClampNeg), .ref (X.2.1 57)]) C hw (ok_L_move X l hl0 σ (xs (nI i + 1).toNatClampNeg) (xs (nI i + 2).toNatClampNeg) o h1) gw_911 gw_909 gw_910 gw_113 hl.1 pd_L_move ⟨Nat.le_of_ble_eq_true rfl, Nat.le_of_ble_eq_true rfl⟩ ⟨lw_c1 hi6 hL, lw_s1 hi6 hL⟩ (rest := []) (Nat.le_of_ble_eq_true rfl) dL_law_352 rfl (fun H locs hw => ?_)
  refine W.widen (k := 58 + (i + 6)) (n := 14100 + 6 * (i + 6)) (by omega) (by omega) ?_
  refine lv_istore (lv' := [(5, .int (oR o)), (0, .ref b), (1, .ref (X.2.1 0)), (2, .ref (X.2.1 50)), (3, .ref (X.2.1 57)), (4, .int (nI i))]) C.1 C.2.1 dL_law_355 hl (by decide) rfl (fun ls hl => ?_)
  refine lv_aload_n C.1 C.2.1 dL_law_357 rfl (lv_at hl 3 rfl) ?_
  refine lv_aload_n C.1 C.2.1 dL_law_358 rfl (lv_at hl 1 rfl) ?_
  refine lv_iload C.1 C.2.1 dL_law_359 (lv_at hl 5 rfl) ?_
  refine lv_iconst (v := 1) C.1 C.2.1 dL_law_361 (by decide) ?_
  refine lv_iadd C.1 C.2.1 dL_law_362 ?_
  refine va_sld C.1 C.2.1 C.2.2.2.2.2.2.2.2.2.2.1 C.2.2.2.2.2.2.2.2.2.2.2 hbA hw.2.1 (lw_ix hL hi6 (by decide) (k := 1) rfl) dL_law_363 ?_
  refine lv_aload_n C.1 C.2.1 dL_law_364 rfl (lv_at hl 1 rfl) ?_
  refine lv_iload C.1 C.2.1 dL_law_365 (lv_at hl 5 rfl) ?_
  refine lv_iconst (v := 2) C.1 C.2.1 dL_law_367 (by decide) ?_
  refine lv_iadd C.1 C.2.1 dL_law_368 ?_
  refine va_sld C.1 C.2.1 C.2.2.2.2.2.2.2.2.2.2.1 C.2.2.2.2.2.2.2.2.2.2.2 hbA hw.2.1 (lw_ix hL hi6 (by decide) (k := 2) rfl) dL_law_369 ?_
  refine r_callL (As := [.int (xs (nI i + 1).toNatClampNeg), .int (xs (nI i + 2).toNatClampNeg)]) C hw (ok_X9_move X l (oS o σ) (xs (nI i + 1).toNatClampNeg) (xs (nI i + 2).toNatClampNeg) b9 σ2 h2) l_50 vc_9 gw_1191 gw_1188 gw_1189 gw_1190 gw_123 hl.1 pd_X9_move ⟨Nat.le_of_ble_eq_true rfl, Nat.le_of_ble_eq_true rfl⟩ ⟨lw_c6 hi6 hL, lw_s6 hi6 hL⟩ (rest := []) (Nat.le_of_ble_eq_true rfl) dL_law_370 rfl (fun H locs hw => ?_)
  refine lv_istore (lv' := [(6, .int b9), (5, .int (oR o)), (0, .ref b), (1, .ref (X.2.1 0)), (2, .ref (X.2.1 50)), (3, .ref (X.2.1 57)), (4, .int (nI i))]) C.1 C.2.1 dL_law_373 hl (by decide) rfl (fun ls hl => ?_)
  refine lv_aload_n C.1 C.2.1 dL_law_375 rfl (lv_at hl 4 rfl) ?_
  refine r_callL (As := []) C hw (ok_X9_thrown X l σ2 _ h3) l_50 vc_9 gw_995 gw_992 gw_993 gw_994 gw_123 hl.1 pd_X9_thrown ⟨Nat.le_of_ble_eq_true rfl, Nat.le_of_ble_eq_true rfl⟩ ⟨lw_c6 hi6 hL, lw_s6 hi6 hL⟩ (rest := []) (Nat.le_of_ble_eq_true rfl) dL_law_376 rfl (fun H locs hw => ?_)
  refine lv_iload C.1 C.2.1 dL_law_379 (lv_at hl 1 rfl) ?_
  refine lv_icmp_eq (tgt := 386) C.1 C.2.1 dL_law_381 (by decide) (fun c1 => ?_) (fun c1 => absurd rfl c1)
  refine lv_iload C.1 C.2.1 dL_law_386 (lv_at hl 1 rfl) ?_
  refine lv_if_ne (tgt := 403) C.1 C.2.1 dL_law_388 (by decide) (fun c1 => ?_) (fun c1 => ?_)
  · refine lv_goto (tgt := 1114) C.1 C.2.1 dL_law_403 (by decide) ?_
    exact hend σ2 hI2 _ _ hw ls (lv_sub hl [2, 3, 4, 5, 6] rfl)
  · obtain ⟨z, hz9⟩ : ∃ z, o = some z := by
      cases o with
      | none => exact absurd c1 (by decide)
      | some z => exact ⟨z, rfl⟩
    refine lv_aload_n C.1 C.2.1 dL_law_391 rfl (lv_at hl 5 rfl) ?_
    refine lv_iconst (v := 0) C.1 C.2.1 dL_law_392 (by decide) ?_
    refine r_laldL C hw dL_law_393 ?_
    refine lv_iload C.1 C.2.1 dL_law_394 (lv_at hl 0 rfl) ?_
    refine lv_i2l (v := b9.toInt64) C.1 C.2.1 dL_law_396 rfl ?_
    refine W.lcmp C.1 C.2.1 dL_law_397 ?_
    have hz : lg_cmp (σ2.2.1 57) b9.toInt64 = 0 := by rw [h5 z hz9, h4 z hz9]; exact lg_cmp_self _
    refine lv_if_eq (tgt := 403) C.1 C.2.1 dL_law_398 (by decide) (fun c1 => ?_) (fun c1 => absurd hz c1)
    refine lv_goto (tgt := 1114) C.1 C.2.1 dL_law_403 (by decide) ?_
    exact hend σ2 hI2 _ _ hw ls (lv_sub hl [2, 3, 4, 5, 6] rfl)
set_option maxRecDepth 100000 in
set_option maxHeartbeats 4000000 in
theorem lc_7 {p : Program} {l : Launch} {e : Env} {s : State} {m : MethodId} {below : List Frame} {meth : Method} {c : Code} {X : Xc} {b L : Nat} {xs : Nat → Int32} {Inv : St → Prop} (hl0 : l.stackTraces = false) (hL : L ≤ 3072) (C : CxW p s m c X b L xs) (HS : StepsAll Inv) {i : Nat} (hi6 : i + 6 ≤ L) (hend : LEnd p l e s m below meth c X b Inv i) : LHead p l e s m below meth c X b Inv i 406 := by
  intro σ hI H locs hw ls hl
  have hbA : ¬ A0 s b := Nat.not_le.mpr C.2.2.2.2.2.2.2.2.2.2.2
  obtain ⟨r, σ1, σ2, h1, h2, hI2⟩ := HS.2.2.2.2.2.2.2.1 σ hI (xs (nI i + 1).toNatClampNeg) (xs (nI i + 2).toNatClampNeg) (xs (nI i + 3).toNatClampNeg) (xs (nI i + 4).toNatClampNeg)
  refine lv_aload_n C.1 C.2.1 dL_law_406 rfl (lv_at hl 1 rfl) ?_
  refine lv_aload_n C.1 C.2.1 dL_law_407 rfl (lv_at hl 0 rfl) ?_
  refine lv_iload C.1 C.2.1 dL_law_408 (lv_at hl 4 rfl) ?_
  refine lv_iconst (v := 1) C.1 C.2.1 dL_law_410 (by decide) ?_
  refine lv_iadd C.1 C.2.1 dL_law_411 ?_
  refine va_sld C.1 C.2.1 C.2.2.2.2.2.2.2.2.2.2.1 C.2.2.2.2.2.2.2.2.2.2.2 hbA hw.2.1 (lw_ix hL hi6 (by decide) (k := 1) rfl) dL_law_412 ?_
  refine lv_aload_n C.1 C.2.1 dL_law_413 rfl (lv_at hl 0 rfl) ?_
  refine lv_iload C.1 C.2.1 dL_law_414 (lv_at hl 4 rfl) ?_
  refine lv_iconst (v := 2) C.1 C.2.1 dL_law_416 (by decide) ?_
  refine lv_iadd C.1 C.2.1 dL_law_417 ?_
  refine va_sld C.1 C.2.1 C.2.2.2.2.2.2.2.2.2.2.1 C.2.2.2.2.2.2.2.2.2.2.2 hbA hw.2.1 (lw_ix hL hi6 (by decide) (k := 2) rfl) dL_law_418 ?_
  refine lv_aload_n C.1 C.2.1 dL_law_419 rfl (lv_at hl 0 rfl) ?_
  refine lv_iload C.1 C.2.1 dL_law_420 (lv_at hl 4 rfl) ?_
  refine lv_iconst (v := 3) C.1 C.2.1 dL_law_422 (by decide) ?_
  refine lv_iadd C.1 C.2.1 dL_law_423 ?_
  refine va_sld C.1 C.2.1 C.2.2.2.2.2.2.2.2.2.2.1 C.2.2.2.2.2.2.2.2.2.2.2 hbA hw.2.1 (lw_ix hL hi6 (by decide) (k := 3) rfl) dL_law_424 ?_
  refine lv_aload_n C.1 C.2.1 dL_law_425 rfl (lv_at hl 0 rfl) ?_
  refine lv_iload C.1 C.2.1 dL_law_426 (lv_at hl 4 rfl) ?_
  refine lv_iconst (v := 4) C.1 C.2.1 dL_law_428 (by decide) ?_
  refine lv_iadd C.1 C.2.1 dL_law_429 ?_
  refine va_sld C.1 C.2.1 C.2.2.2.2.2.2.2.2.2.2.1 C.2.2.2.2.2.2.2.2.2.2.2 hbA hw.2.1 (lw_ix hL hi6 (by decide) (k := 4) rfl) dL_law_430 ?_
  refine r_callL (As := [.int (xs (nI i + 1).toNatClampNeg), .int (xs (nI i + 2).toNatClampNeg), .int (xs (nI i + 3).toNatClampNeg), .int (xs (nI i + 4).toNatClampNeg)]) C hw (ok_X8_book X l σ (xs (nI i + 1).toNatClampNeg) (xs (nI i + 2).toNatClampNeg) (xs (nI i + 3).toNatClampNeg) (xs (nI i + 4).toNatClampNeg) r σ1 h1) l_0 vc_8 gw_671 gw_668 gw_669 gw_670 gw_114 hl.1 pd_X8_book ⟨Nat.le_of_ble_eq_true rfl, Nat.le_of_ble_eq_true rfl⟩ ⟨lw_c hi6 hL, lw_s hi6 hL⟩ (rest := []) (Nat.le_of_ble_eq_true rfl) dL_law_431 rfl (fun H locs hw => ?_)
  refine lv_aload_n C.1 C.2.1 dL_law_434 rfl (lv_at hl 2 rfl) ?_
  refine lv_aload_n C.1 C.2.1 dL_law_435 rfl (lv_at hl 0 rfl) ?_
  refine lv_iload C.1 C.2.1 dL_law_436 (lv_at hl 4 rfl) ?_
  refine lv_iconst (v := 1) C.1 C.2.1 dL_law_438 (by decide) ?_
  refine lv_iadd C.1 C.2.1 dL_law_439 ?_
  refine va_sld C.1 C.2.1 C.2.2.2.2.2.2.2.2.2.2.1 C.2.2.2.2.2.2.2.2.2.2.2 hbA hw.2.1 (lw_ix hL hi6 (by decide) (k := 1) rfl) dL_law_440 ?_
  refine lv_aload_n C.1 C.2.1 dL_law_441 rfl (lv_at hl 0 rfl) ?_
  refine lv_iload C.1 C.2.1 dL_law_442 (lv_at hl 4 rfl) ?_
  refine lv_iconst (v := 2) C.1 C.2.1 dL_law_444 (by decide) ?_
  refine lv_iadd C.1 C.2.1 dL_law_445 ?_
  refine va_sld C.1 C.2.1 C.2.2.2.2.2.2.2.2.2.2.1 C.2.2.2.2.2.2.2.2.2.2.2 hbA hw.2.1 (lw_ix hL hi6 (by decide) (k := 2) rfl) dL_law_446 ?_
  refine lv_aload_n C.1 C.2.1 dL_law_447 rfl (lv_at hl 0 rfl) ?_
  refine lv_iload C.1 C.2.1 dL_law_448 (lv_at hl 4 rfl) ?_
  refine lv_iconst (v := 3) C.1 C.2.1 dL_law_450 (by decide) ?_
  refine lv_iadd C.1 C.2.1 dL_law_451 ?_
  refine va_sld C.1 C.2.1 C.2.2.2.2.2.2.2.2.2.2.1 C.2.2.2.2.2.2.2.2.2.2.2 hbA hw.2.1 (lw_ix hL hi6 (by decide) (k := 3) rfl) dL_law_452 ?_
  refine lv_aload_n C.1 C.2.1 dL_law_453 rfl (lv_at hl 0 rfl) ?_
  refine lv_iload C.1 C.2.1 dL_law_454 (lv_at hl 4 rfl) ?_
  refine lv_iconst (v := 4) C.1 C.2.1 dL_law_456 (by decide) ?_
  refine lv_iadd C.1 C.2.1 dL_law_457 ?_
  refine va_sld C.1 C.2.1 C.2.2.2.2.2.2.2.2.2.2.1 C.2.2.2.2.2.2.2.2.2.2.2 hbA hw.2.1 (lw_ix hL hi6 (by decide) (k := 4) rfl) dL_law_458 ?_
  refine r_callL (As := [.int (xs (nI i + 1).toNatClampNeg), .int (xs (nI i + 2).toNatClampNeg), .int (xs (nI i + 3).toNatClampNeg), .int (xs (nI i + 4).toNatClampNeg)]) C hw (ok_X9_book X l σ1 (xs (nI i + 1).toNatClampNeg) (xs (nI i + 2).toNatClampNeg) (xs (nI i + 3).toNatClampNeg) (xs (nI i + 4).toNatClampNeg) r σ2 h2) l_50 vc_9 gw_1215 gw_1212 gw_1213 gw_1214 gw_123 hl.1 pd_X9_book ⟨Nat.le_of_ble_eq_true rfl, Nat.le_of_ble_eq_true rfl⟩ ⟨lw_c hi6 hL, lw_s hi6 hL⟩ (rest := [.int r]) (Nat.le_of_ble_eq_true rfl) dL_law_459 rfl (fun H locs hw => ?_)
  refine lv_icmp_eq (tgt := 1114) C.1 C.2.1 dL_law_462 (by decide) (fun c1 => ?_) (fun c1 => absurd rfl c1)
  refine W.widen (k := 58 + (i + 6)) (n := 14100 + 6 * (i + 6)) (by omega) (by omega) ?_
  exact hend σ2 hI2 _ _ hw ls (lv_sub hl [0, 1, 2, 3, 4] rfl)
set_option maxRecDepth 100000 in
set_option maxHeartbeats 4000000 in
theorem lc_8 {p : Program} {l : Launch} {e : Env} {s : State} {m : MethodId} {below : List Frame} {meth : Method} {c : Code} {X : Xc} {b L : Nat} {xs : Nat → Int32} {Inv : St → Prop} (hl0 : l.stackTraces = false) (hL : L ≤ 3072) (C : CxW p s m c X b L xs) (HS : StepsAll Inv) {i : Nat} (hi6 : i + 6 ≤ L) (hend : LEnd p l e s m below meth c X b Inv i) : LHead p l e s m below meth c X b Inv i 467 := by
  intro σ hI H locs hw ls hl
  have hbA : ¬ A0 s b := Nat.not_le.mpr C.2.2.2.2.2.2.2.2.2.2.2
  obtain ⟨r, σ2, h1, h2, hI2⟩ := HS.2.2.2.2.2.2.2.2.1 σ hI (xs (nI i + 1).toNatClampNeg) (xs (nI i + 2).toNatClampNeg) (xs (nI i + 3).toNatClampNeg)
  refine lv_aload_n C.1 C.2.1 dL_law_467 rfl (lv_at hl 1 rfl) ?_
  refine lv_aload_n C.1 C.2.1 dL_law_468 rfl (lv_at hl 0 rfl) ?_
  refine lv_iload C.1 C.2.1 dL_law_469 (lv_at hl 4 rfl) ?_
  refine lv_iconst (v := 1) C.1 C.2.1 dL_law_471 (by decide) ?_
  refine lv_iadd C.1 C.2.1 dL_law_472 ?_
  refine va_sld C.1 C.2.1 C.2.2.2.2.2.2.2.2.2.2.1 C.2.2.2.2.2.2.2.2.2.2.2 hbA hw.2.1 (lw_ix hL hi6 (by decide) (k := 1) rfl) dL_law_473 ?_
  refine lv_aload_n C.1 C.2.1 dL_law_474 rfl (lv_at hl 0 rfl) ?_
  refine lv_iload C.1 C.2.1 dL_law_475 (lv_at hl 4 rfl) ?_
  refine lv_iconst (v := 2) C.1 C.2.1 dL_law_477 (by decide) ?_
  refine lv_iadd C.1 C.2.1 dL_law_478 ?_
  refine va_sld C.1 C.2.1 C.2.2.2.2.2.2.2.2.2.2.1 C.2.2.2.2.2.2.2.2.2.2.2 hbA hw.2.1 (lw_ix hL hi6 (by decide) (k := 2) rfl) dL_law_479 ?_
  refine lv_aload_n C.1 C.2.1 dL_law_480 rfl (lv_at hl 0 rfl) ?_
  refine lv_iload C.1 C.2.1 dL_law_481 (lv_at hl 4 rfl) ?_
  refine lv_iconst (v := 3) C.1 C.2.1 dL_law_483 (by decide) ?_
  refine lv_iadd C.1 C.2.1 dL_law_484 ?_
  refine va_sld C.1 C.2.1 C.2.2.2.2.2.2.2.2.2.2.1 C.2.2.2.2.2.2.2.2.2.2.2 hbA hw.2.1 (lw_ix hL hi6 (by decide) (k := 3) rfl) dL_law_485 ?_
  refine r_callL (As := [.int (xs (nI i + 1).toNatClampNeg), .int (xs (nI i + 2).toNatClampNeg), .int (xs (nI i + 3).toNatClampNeg)]) C hw (ok_X8_transit X l σ (xs (nI i + 1).toNatClampNeg) (xs (nI i + 2).toNatClampNeg) (xs (nI i + 3).toNatClampNeg) r h1) l_0 vc_8 gw_714 gw_711 gw_712 gw_713 gw_114 hl.1 pd_X8_transit ⟨Nat.le_of_ble_eq_true rfl, Nat.le_of_ble_eq_true rfl⟩ ⟨lw_c hi6 hL, lw_s hi6 hL⟩ (rest := []) (Nat.le_of_ble_eq_true rfl) dL_law_486 rfl (fun H locs hw => ?_)
  refine lv_aload_n C.1 C.2.1 dL_law_489 rfl (lv_at hl 2 rfl) ?_
  refine lv_aload_n C.1 C.2.1 dL_law_490 rfl (lv_at hl 0 rfl) ?_
  refine lv_iload C.1 C.2.1 dL_law_491 (lv_at hl 4 rfl) ?_
  refine lv_iconst (v := 1) C.1 C.2.1 dL_law_493 (by decide) ?_
  refine lv_iadd C.1 C.2.1 dL_law_494 ?_
  refine va_sld C.1 C.2.1 C.2.2.2.2.2.2.2.2.2.2.1 C.2.2.2.2.2.2.2.2.2.2.2 hbA hw.2.1 (lw_ix hL hi6 (by decide) (k := 1) rfl) dL_law_495 ?_
  refine lv_aload_n C.1 C.2.1 dL_law_496 rfl (lv_at hl 0 rfl) ?_
  refine lv_iload C.1 C.2.1 dL_law_497 (lv_at hl 4 rfl) ?_
  refine lv_iconst (v := 2) C.1 C.2.1 dL_law_499 (by decide) ?_
  refine lv_iadd C.1 C.2.1 dL_law_500 ?_
  refine va_sld C.1 C.2.1 C.2.2.2.2.2.2.2.2.2.2.1 C.2.2.2.2.2.2.2.2.2.2.2 hbA hw.2.1 (lw_ix hL hi6 (by decide) (k := 2) rfl) dL_law_501 ?_
  refine lv_aload_n C.1 C.2.1 dL_law_502 rfl (lv_at hl 0 rfl) ?_
  refine lv_iload C.1 C.2.1 dL_law_503 (lv_at hl 4 rfl) ?_
  refine lv_iconst (v := 3) C.1 C.2.1 dL_law_505 (by decide) ?_
  refine lv_iadd C.1 C.2.1 dL_law_506 ?_
  refine va_sld C.1 C.2.1 C.2.2.2.2.2.2.2.2.2.2.1 C.2.2.2.2.2.2.2.2.2.2.2 hbA hw.2.1 (lw_ix hL hi6 (by decide) (k := 3) rfl) dL_law_507 ?_
  refine r_callL (As := [.int (xs (nI i + 1).toNatClampNeg), .int (xs (nI i + 2).toNatClampNeg), .int (xs (nI i + 3).toNatClampNeg)]) C hw (ok_X9_transit X l σ (xs (nI i + 1).toNatClampNeg) (xs (nI i + 2).toNatClampNeg) (xs (nI i + 3).toNatClampNeg) r σ2 h2) l_50 vc_9 gw_1259 gw_1256 gw_1257 gw_1258 gw_123 hl.1 pd_X9_transit ⟨Nat.le_of_ble_eq_true rfl, Nat.le_of_ble_eq_true rfl⟩ ⟨lw_c hi6 hL, lw_s hi6 hL⟩ (rest := [.int r]) (Nat.le_of_ble_eq_true rfl) dL_law_508 rfl (fun H locs hw => ?_)
  refine lv_icmp_eq (tgt := 1114) C.1 C.2.1 dL_law_511 (by decide) (fun c1 => ?_) (fun c1 => absurd rfl c1)
  refine W.widen (k := 58 + (i + 6)) (n := 14100 + 6 * (i + 6)) (by omega) (by omega) ?_
  exact hend σ2 hI2 _ _ hw ls (lv_sub hl [0, 1, 2, 3, 4] rfl)
set_option maxRecDepth 100000 in
set_option maxHeartbeats 4000000 in
theorem lc_9 {p : Program} {l : Launch} {e : Env} {s : State} {m : MethodId} {below : List Frame} {meth : Method} {c : Code} {X : Xc} {b L : Nat} {xs : Nat → Int32} {Inv : St → Prop} (hl0 : l.stackTraces = false) (hL : L ≤ 3072) (C : CxW p s m c X b L xs) (HS : StepsAll Inv) {i : Nat} (hi6 : i + 6 ≤ L) (hend : LEnd p l e s m below meth c X b Inv i) : LHead p l e s m below meth c X b Inv i 516 := by
  intro σ hI H locs hw ls hl
  have hbA : ¬ A0 s b := Nat.not_le.mpr C.2.2.2.2.2.2.2.2.2.2.2
  obtain ⟨r, σ1, σ2, h1, h2, hI2⟩ := HS.2.2.2.2.2.2.2.2.2.1 σ hI (xs (nI i + 1).toNatClampNeg) (xs (nI i + 2).toNatClampNeg)
  refine lv_aload_n C.1 C.2.1 dL_law_516 rfl (lv_at hl 1 rfl) ?_
  refine lv_aload_n C.1 C.2.1 dL_law_517 rfl (lv_at hl 0 rfl) ?_
  refine lv_iload C.1 C.2.1 dL_law_518 (lv_at hl 4 rfl) ?_
  refine lv_iconst (v := 1) C.1 C.2.1 dL_law_520 (by decide) ?_
  refine lv_iadd C.1 C.2.1 dL_law_521 ?_
  refine va_sld C.1 C.2.1 C.2.2.2.2.2.2.2.2.2.2.1 C.2.2.2.2.2.2.2.2.2.2.2 hbA hw.2.1 (lw_ix hL hi6 (by decide) (k := 1) rfl) dL_law_522 ?_
  refine lv_aload_n C.1 C.2.1 dL_law_523 rfl (lv_at hl 0 rfl) ?_
  refine lv_iload C.1 C.2.1 dL_law_524 (lv_at hl 4 rfl) ?_
  refine lv_iconst (v := 2) C.1 C.2.1 dL_law_526 (by decide) ?_
  refine lv_iadd C.1 C.2.1 dL_law_527 ?_
  refine va_sld C.1 C.2.1 C.2.2.2.2.2.2.2.2.2.2.1 C.2.2.2.2.2.2.2.2.2.2.2 hbA hw.2.1 (lw_ix hL hi6 (by decide) (k := 2) rfl) dL_law_528 ?_
  refine r_callL (As := [.int (xs (nI i + 1).toNatClampNeg), .int (xs (nI i + 2).toNatClampNeg)]) C hw (ok_X8_below X l σ (xs (nI i + 1).toNatClampNeg) (xs (nI i + 2).toNatClampNeg) r σ1 h1) l_0 vc_8 gw_729 gw_726 gw_727 gw_728 gw_114 hl.1 pd_X8_below ⟨Nat.le_of_ble_eq_true rfl, Nat.le_of_ble_eq_true rfl⟩ ⟨lw_c hi6 hL, lw_s hi6 hL⟩ (rest := []) (Nat.le_of_ble_eq_true rfl) dL_law_529 rfl (fun H locs hw => ?_)
  refine lv_aload_n C.1 C.2.1 dL_law_532 rfl (lv_at hl 2 rfl) ?_
  refine lv_aload_n C.1 C.2.1 dL_law_533 rfl (lv_at hl 0 rfl) ?_
  refine lv_iload C.1 C.2.1 dL_law_534 (lv_at hl 4 rfl) ?_
  refine lv_iconst (v := 1) C.1 C.2.1 dL_law_536 (by decide) ?_
  refine lv_iadd C.1 C.2.1 dL_law_537 ?_
  refine va_sld C.1 C.2.1 C.2.2.2.2.2.2.2.2.2.2.1 C.2.2.2.2.2.2.2.2.2.2.2 hbA hw.2.1 (lw_ix hL hi6 (by decide) (k := 1) rfl) dL_law_538 ?_
  refine lv_aload_n C.1 C.2.1 dL_law_539 rfl (lv_at hl 0 rfl) ?_
  refine lv_iload C.1 C.2.1 dL_law_540 (lv_at hl 4 rfl) ?_
  refine lv_iconst (v := 2) C.1 C.2.1 dL_law_542 (by decide) ?_
  refine lv_iadd C.1 C.2.1 dL_law_543 ?_
  refine va_sld C.1 C.2.1 C.2.2.2.2.2.2.2.2.2.2.1 C.2.2.2.2.2.2.2.2.2.2.2 hbA hw.2.1 (lw_ix hL hi6 (by decide) (k := 2) rfl) dL_law_544 ?_
  refine r_callL (As := [.int (xs (nI i + 1).toNatClampNeg), .int (xs (nI i + 2).toNatClampNeg)]) C hw (ok_X9_below X l σ1 (xs (nI i + 1).toNatClampNeg) (xs (nI i + 2).toNatClampNeg) r σ2 h2) l_50 vc_9 gw_1263 gw_1260 gw_1261 gw_1262 gw_123 hl.1 pd_X9_below ⟨Nat.le_of_ble_eq_true rfl, Nat.le_of_ble_eq_true rfl⟩ ⟨lw_c hi6 hL, lw_s hi6 hL⟩ (rest := [.int r]) (Nat.le_of_ble_eq_true rfl) dL_law_545 rfl (fun H locs hw => ?_)
  refine lv_icmp_eq (tgt := 1114) C.1 C.2.1 dL_law_548 (by decide) (fun c1 => ?_) (fun c1 => absurd rfl c1)
  refine W.widen (k := 58 + (i + 6)) (n := 14100 + 6 * (i + 6)) (by omega) (by omega) ?_
  exact hend σ2 hI2 _ _ hw ls (lv_sub hl [0, 1, 2, 3, 4] rfl)
set_option maxRecDepth 100000 in
set_option maxHeartbeats 4000000 in
theorem lc_10 {p : Program} {l : Launch} {e : Env} {s : State} {m : MethodId} {below : List Frame} {meth : Method} {c : Code} {X : Xc} {b L : Nat} {xs : Nat → Int32} {Inv : St → Prop} (hl0 : l.stackTraces = false) (hL : L ≤ 3072) (C : CxW p s m c X b L xs) (HS : StepsAll Inv) {i : Nat} (hi6 : i + 6 ≤ L) (hend : LEnd p l e s m below meth c X b Inv i) : LHead p l e s m below meth c X b Inv i 553 := by
  intro σ hI H locs hw ls hl
  have hbA : ¬ A0 s b := Nat.not_le.mpr C.2.2.2.2.2.2.2.2.2.2.2
  obtain ⟨o, σ1, b9, σ2, h1, h2, h3, h4, h5, hI2⟩ := HS.2.2.2.2.2.2.2.2.2.2.1 σ hI (xs (nI i + 1).toNatClampNeg) (xs (nI i + 2).toNatClampNeg)
  refine lv_aload_n C.1 C.2.1 dL_law_553 rfl (lv_at hl 1 rfl) ?_
  refine lv_aload_n C.1 C.2.1 dL_law_554 rfl (lv_at hl 0 rfl) ?_
  refine lv_iload C.1 C.2.1 dL_law_555 (lv_at hl 4 rfl) ?_
  refine lv_iconst (v := 1) C.1 C.2.1 dL_law_557 (by decide) ?_
  refine lv_iadd C.1 C.2.1 dL_law_558 ?_
  refine va_sld C.1 C.2.1 C.2.2.2.2.2.2.2.2.2.2.1 C.2.2.2.2.2.2.2.2.2.2.2 hbA hw.2.1 (lw_ix hL hi6 (by decide) (k := 1) rfl) dL_law_559 ?_
  refine lv_aload_n C.1 C.2.1 dL_law_560 rfl (lv_at hl 0 rfl) ?_
  refine lv_iload C.1 C.2.1 dL_law_561 (lv_at hl 4 rfl) ?_
  refine lv_iconst (v := 2) C.1 C.2.1 dL_law_563 (by decide) ?_
  refine lv_iadd C.1 C.2.1 dL_law_564 ?_
  refine va_sld C.1 C.2.1 C.2.2.2.2.2.2.2.2.2.2.1 C.2.2.2.2.2.2.2.2.2.2.2 hbA hw.2.1 (lw_ix hL hi6 (by decide) (k := 2) rfl) dL_law_565 ?_
  refine lv_aload_n C.1 C.2.1 dL_law_566 rfl (lv_at hl 3 rfl) ?_
  refine r_callLW (As := [.ref (X.2.1 0), .int (xs (nI i + 1).toNatClampNeg), .int (xs (nI i + 2).toNatClampNeg), .ref (X.2.1 57)]) C hw (ok_L_count X l hl0 σ (xs (nI i + 1).toNatClampNeg) (xs (nI i + 2).toNatClampNeg) o σ1 h1) gw_985 gw_983 gw_984 gw_113 hl.1 pd_L_count ⟨Nat.le_of_ble_eq_true rfl, Nat.le_of_ble_eq_true rfl⟩ ⟨lw_c1 hi6 hL, lw_s1 hi6 hL⟩ (rest := []) (Nat.le_of_ble_eq_true rfl) dL_law_567 rfl (fun H locs hw => ?_)
  refine W.widen (k := 58 + (i + 6)) (n := 14100 + 6 * (i + 6)) (by omega) (by omega) ?_
  refine lv_istore (lv' := [(5, .int (oR o)), (0, .ref b), (1, .ref (X.2.1 0)), (2, .ref (X.2.1 50)), (3, .ref (X.2.1 57)), (4, .int (nI i))]) C.1 C.2.1 dL_law_570 hl (by decide) rfl (fun ls hl => ?_)
  refine lv_aload_n C.1 C.2.1 dL_law_572 rfl (lv_at hl 3 rfl) ?_
  refine lv_aload_n C.1 C.2.1 dL_law_573 rfl (lv_at hl 1 rfl) ?_
  refine lv_iload C.1 C.2.1 dL_law_574 (lv_at hl 5 rfl) ?_
  refine lv_iconst (v := 1) C.1 C.2.1 dL_law_576 (by decide) ?_
  refine lv_iadd C.1 C.2.1 dL_law_577 ?_
  refine va_sld C.1 C.2.1 C.2.2.2.2.2.2.2.2.2.2.1 C.2.2.2.2.2.2.2.2.2.2.2 hbA hw.2.1 (lw_ix hL hi6 (by decide) (k := 1) rfl) dL_law_578 ?_
  refine lv_aload_n C.1 C.2.1 dL_law_579 rfl (lv_at hl 1 rfl) ?_
  refine lv_iload C.1 C.2.1 dL_law_580 (lv_at hl 5 rfl) ?_
  refine lv_iconst (v := 2) C.1 C.2.1 dL_law_582 (by decide) ?_
  refine lv_iadd C.1 C.2.1 dL_law_583 ?_
  refine va_sld C.1 C.2.1 C.2.2.2.2.2.2.2.2.2.2.1 C.2.2.2.2.2.2.2.2.2.2.2 hbA hw.2.1 (lw_ix hL hi6 (by decide) (k := 2) rfl) dL_law_584 ?_
  refine r_callL (As := [.int (xs (nI i + 1).toNatClampNeg), .int (xs (nI i + 2).toNatClampNeg)]) C hw (ok_X9_count X l (oS o σ1) (xs (nI i + 1).toNatClampNeg) (xs (nI i + 2).toNatClampNeg) b9 σ2 h2) l_50 vc_9 gw_1267 gw_1264 gw_1265 gw_1266 gw_123 hl.1 pd_X9_count ⟨Nat.le_of_ble_eq_true rfl, Nat.le_of_ble_eq_true rfl⟩ ⟨lw_c6 hi6 hL, lw_s6 hi6 hL⟩ (rest := []) (Nat.le_of_ble_eq_true rfl) dL_law_585 rfl (fun H locs hw => ?_)
  refine lv_istore (lv' := [(6, .int b9), (5, .int (oR o)), (0, .ref b), (1, .ref (X.2.1 0)), (2, .ref (X.2.1 50)), (3, .ref (X.2.1 57)), (4, .int (nI i))]) C.1 C.2.1 dL_law_588 hl (by decide) rfl (fun ls hl => ?_)
  refine lv_aload_n C.1 C.2.1 dL_law_590 rfl (lv_at hl 4 rfl) ?_
  refine r_callL (As := []) C hw (ok_X9_thrown X l σ2 _ h3) l_50 vc_9 gw_995 gw_992 gw_993 gw_994 gw_123 hl.1 pd_X9_thrown ⟨Nat.le_of_ble_eq_true rfl, Nat.le_of_ble_eq_true rfl⟩ ⟨lw_c6 hi6 hL, lw_s6 hi6 hL⟩ (rest := []) (Nat.le_of_ble_eq_true rfl) dL_law_591 rfl (fun H locs hw => ?_)
  refine lv_iload C.1 C.2.1 dL_law_594 (lv_at hl 1 rfl) ?_
  refine lv_icmp_eq (tgt := 601) C.1 C.2.1 dL_law_596 (by decide) (fun c1 => ?_) (fun c1 => absurd rfl c1)
  refine lv_iload C.1 C.2.1 dL_law_601 (lv_at hl 1 rfl) ?_
  refine lv_if_ne (tgt := 618) C.1 C.2.1 dL_law_603 (by decide) (fun c1 => ?_) (fun c1 => ?_)
  · refine lv_goto (tgt := 1114) C.1 C.2.1 dL_law_618 (by decide) ?_
    exact hend σ2 hI2 _ _ hw ls (lv_sub hl [2, 3, 4, 5, 6] rfl)
  · obtain ⟨z, hz9⟩ : ∃ z, o = some z := by
      cases o with
      | none => exact absurd c1 (by decide)
      | some z => exact ⟨z, rfl⟩
    refine lv_aload_n C.1 C.2.1 dL_law_606 rfl (lv_at hl 5 rfl) ?_
    refine lv_iconst (v := 0) C.1 C.2.1 dL_law_607 (by decide) ?_
    refine r_laldL C hw dL_law_608 ?_
    refine lv_iload C.1 C.2.1 dL_law_609 (lv_at hl 0 rfl) ?_
    refine lv_i2l (v := b9.toInt64) C.1 C.2.1 dL_law_611 rfl ?_
    refine W.lcmp C.1 C.2.1 dL_law_612 ?_
    have hz : lg_cmp (σ2.2.1 57) b9.toInt64 = 0 := by rw [h5 z hz9, h4 z hz9]; exact lg_cmp_self _
    refine lv_if_eq (tgt := 618) C.1 C.2.1 dL_law_613 (by decide) (fun c1 => ?_) (fun c1 => absurd hz c1)
    refine lv_goto (tgt := 1114) C.1 C.2.1 dL_law_618 (by decide) ?_
    exact hend σ2 hI2 _ _ hw ls (lv_sub hl [2, 3, 4, 5, 6] rfl)
set_option maxRecDepth 100000 in
set_option maxHeartbeats 4000000 in
theorem lc_11 {p : Program} {l : Launch} {e : Env} {s : State} {m : MethodId} {below : List Frame} {meth : Method} {c : Code} {X : Xc} {b L : Nat} {xs : Nat → Int32} {Inv : St → Prop} (hl0 : l.stackTraces = false) (hL : L ≤ 3072) (C : CxW p s m c X b L xs) (HS : StepsAll Inv) {i : Nat} (hi6 : i + 6 ≤ L) (hend : LEnd p l e s m below meth c X b Inv i) : LHead p l e s m below meth c X b Inv i 621 := by
  intro σ hI H locs hw ls hl
  have hbA : ¬ A0 s b := Nat.not_le.mpr C.2.2.2.2.2.2.2.2.2.2.2
  obtain ⟨r, σ1, σ2, h1, h2, hI2⟩ := HS.2.2.2.2.2.2.2.2.2.2.2.1 σ hI (xs (nI i + 1).toNatClampNeg)
  refine lv_aload_n C.1 C.2.1 dL_law_621 rfl (lv_at hl 1 rfl) ?_
  refine lv_aload_n C.1 C.2.1 dL_law_622 rfl (lv_at hl 0 rfl) ?_
  refine lv_iload C.1 C.2.1 dL_law_623 (lv_at hl 4 rfl) ?_
  refine lv_iconst (v := 1) C.1 C.2.1 dL_law_625 (by decide) ?_
  refine lv_iadd C.1 C.2.1 dL_law_626 ?_
  refine va_sld C.1 C.2.1 C.2.2.2.2.2.2.2.2.2.2.1 C.2.2.2.2.2.2.2.2.2.2.2 hbA hw.2.1 (lw_ix hL hi6 (by decide) (k := 1) rfl) dL_law_627 ?_
  refine r_callL (As := [.int (xs (nI i + 1).toNatClampNeg)]) C hw (ok_X8_difference X l σ (xs (nI i + 1).toNatClampNeg) r σ1 h1) l_0 vc_8 gw_738 gw_735 gw_736 gw_737 gw_114 hl.1 pd_X8_difference ⟨Nat.le_of_ble_eq_true rfl, Nat.le_of_ble_eq_true rfl⟩ ⟨lw_c hi6 hL, lw_s hi6 hL⟩ (rest := []) (Nat.le_of_ble_eq_true rfl) dL_law_628 rfl (fun H locs hw => ?_)
  refine lv_aload_n C.1 C.2.1 dL_law_631 rfl (lv_at hl 2 rfl) ?_
  refine lv_aload_n C.1 C.2.1 dL_law_632 rfl (lv_at hl 0 rfl) ?_
  refine lv_iload C.1 C.2.1 dL_law_633 (lv_at hl 4 rfl) ?_
  refine lv_iconst (v := 1) C.1 C.2.1 dL_law_635 (by decide) ?_
  refine lv_iadd C.1 C.2.1 dL_law_636 ?_
  refine va_sld C.1 C.2.1 C.2.2.2.2.2.2.2.2.2.2.1 C.2.2.2.2.2.2.2.2.2.2.2 hbA hw.2.1 (lw_ix hL hi6 (by decide) (k := 1) rfl) dL_law_637 ?_
  refine r_callL (As := [.int (xs (nI i + 1).toNatClampNeg)]) C hw (ok_X9_difference X l σ1 (xs (nI i + 1).toNatClampNeg) r σ2 h2) l_50 vc_9 gw_1283 gw_1280 gw_1281 gw_1282 gw_123 hl.1 pd_X9_difference ⟨Nat.le_of_ble_eq_true rfl, Nat.le_of_ble_eq_true rfl⟩ ⟨lw_c hi6 hL, lw_s hi6 hL⟩ (rest := [.int r]) (Nat.le_of_ble_eq_true rfl) dL_law_638 rfl (fun H locs hw => ?_)
  refine lv_icmp_eq (tgt := 1114) C.1 C.2.1 dL_law_641 (by decide) (fun c1 => ?_) (fun c1 => absurd rfl c1)
  refine W.widen (k := 58 + (i + 6)) (n := 14100 + 6 * (i + 6)) (by omega) (by omega) ?_
  exact hend σ2 hI2 _ _ hw ls (lv_sub hl [0, 1, 2, 3, 4] rfl)
set_option maxRecDepth 100000 in
set_option maxHeartbeats 4000000 in
theorem lc_12 {p : Program} {l : Launch} {e : Env} {s : State} {m : MethodId} {below : List Frame} {meth : Method} {c : Code} {X : Xc} {b L : Nat} {xs : Nat → Int32} {Inv : St → Prop} (hl0 : l.stackTraces = false) (hL : L ≤ 3072) (C : CxW p s m c X b L xs) (HS : StepsAll Inv) {i : Nat} (hi6 : i + 6 ≤ L) (hend : LEnd p l e s m below meth c X b Inv i) : LHead p l e s m below meth c X b Inv i 646 := by
  intro σ hI H locs hw ls hl
  have hbA : ¬ A0 s b := Nat.not_le.mpr C.2.2.2.2.2.2.2.2.2.2.2
  obtain ⟨r, σ1, σ2, h1, h2, hI2⟩ := HS.2.2.2.2.2.2.2.2.2.2.2.2.1 σ hI (xs (nI i + 1).toNatClampNeg)
  refine lv_aload_n C.1 C.2.1 dL_law_646 rfl (lv_at hl 1 rfl) ?_
  refine lv_aload_n C.1 C.2.1 dL_law_647 rfl (lv_at hl 0 rfl) ?_
  refine lv_iload C.1 C.2.1 dL_law_648 (lv_at hl 4 rfl) ?_
  refine lv_iconst (v := 1) C.1 C.2.1 dL_law_650 (by decide) ?_
  refine lv_iadd C.1 C.2.1 dL_law_651 ?_
  refine va_sld C.1 C.2.1 C.2.2.2.2.2.2.2.2.2.2.1 C.2.2.2.2.2.2.2.2.2.2.2 hbA hw.2.1 (lw_ix hL hi6 (by decide) (k := 1) rfl) dL_law_652 ?_
  refine r_callL (As := [.int (xs (nI i + 1).toNatClampNeg)]) C hw (ok_X8_share X l σ (xs (nI i + 1).toNatClampNeg) r σ1 h1) l_0 vc_8 gw_754 gw_751 gw_752 gw_753 gw_114 hl.1 pd_X8_share ⟨Nat.le_of_ble_eq_true rfl, Nat.le_of_ble_eq_true rfl⟩ ⟨lw_c hi6 hL, lw_s hi6 hL⟩ (rest := []) (Nat.le_of_ble_eq_true rfl) dL_law_653 rfl (fun H locs hw => ?_)
  refine lv_aload_n C.1 C.2.1 dL_law_656 rfl (lv_at hl 2 rfl) ?_
  refine lv_aload_n C.1 C.2.1 dL_law_657 rfl (lv_at hl 0 rfl) ?_
  refine lv_iload C.1 C.2.1 dL_law_658 (lv_at hl 4 rfl) ?_
  refine lv_iconst (v := 1) C.1 C.2.1 dL_law_660 (by decide) ?_
  refine lv_iadd C.1 C.2.1 dL_law_661 ?_
  refine va_sld C.1 C.2.1 C.2.2.2.2.2.2.2.2.2.2.1 C.2.2.2.2.2.2.2.2.2.2.2 hbA hw.2.1 (lw_ix hL hi6 (by decide) (k := 1) rfl) dL_law_662 ?_
  refine r_callL (As := [.int (xs (nI i + 1).toNatClampNeg)]) C hw (ok_X9_share X l σ1 (xs (nI i + 1).toNatClampNeg) r σ2 h2) l_50 vc_9 gw_1291 gw_1288 gw_1289 gw_1290 gw_123 hl.1 pd_X9_share ⟨Nat.le_of_ble_eq_true rfl, Nat.le_of_ble_eq_true rfl⟩ ⟨lw_c hi6 hL, lw_s hi6 hL⟩ (rest := [.int r]) (Nat.le_of_ble_eq_true rfl) dL_law_663 rfl (fun H locs hw => ?_)
  refine lv_icmp_eq (tgt := 1114) C.1 C.2.1 dL_law_666 (by decide) (fun c1 => ?_) (fun c1 => absurd rfl c1)
  refine W.widen (k := 58 + (i + 6)) (n := 14100 + 6 * (i + 6)) (by omega) (by omega) ?_
  exact hend σ2 hI2 _ _ hw ls (lv_sub hl [0, 1, 2, 3, 4] rfl)
set_option maxRecDepth 100000 in
set_option maxHeartbeats 4000000 in
theorem lc_13 {p : Program} {l : Launch} {e : Env} {s : State} {m : MethodId} {below : List Frame} {meth : Method} {c : Code} {X : Xc} {b L : Nat} {xs : Nat → Int32} {Inv : St → Prop} (hl0 : l.stackTraces = false) (hL : L ≤ 3072) (C : CxW p s m c X b L xs) (HS : StepsAll Inv) {i : Nat} (hi6 : i + 6 ≤ L) (hend : LEnd p l e s m below meth c X b Inv i) : LHead p l e s m below meth c X b Inv i 671 := by
  intro σ hI H locs hw ls hl
  have hbA : ¬ A0 s b := Nat.not_le.mpr C.2.2.2.2.2.2.2.2.2.2.2
  obtain ⟨r, σ1, σ2, h1, h2, hI2⟩ := HS.2.2.2.2.2.2.2.2.2.2.2.2.2.1 σ hI (xs (nI i + 1).toNatClampNeg) (xs (nI i + 2).toNatClampNeg)
  refine lv_aload_n C.1 C.2.1 dL_law_671 rfl (lv_at hl 1 rfl) ?_
  refine lv_aload_n C.1 C.2.1 dL_law_672 rfl (lv_at hl 0 rfl) ?_
  refine lv_iload C.1 C.2.1 dL_law_673 (lv_at hl 4 rfl) ?_
  refine lv_iconst (v := 1) C.1 C.2.1 dL_law_675 (by decide) ?_
  refine lv_iadd C.1 C.2.1 dL_law_676 ?_
  refine va_sld C.1 C.2.1 C.2.2.2.2.2.2.2.2.2.2.1 C.2.2.2.2.2.2.2.2.2.2.2 hbA hw.2.1 (lw_ix hL hi6 (by decide) (k := 1) rfl) dL_law_677 ?_
  refine lv_aload_n C.1 C.2.1 dL_law_678 rfl (lv_at hl 0 rfl) ?_
  refine lv_iload C.1 C.2.1 dL_law_679 (lv_at hl 4 rfl) ?_
  refine lv_iconst (v := 2) C.1 C.2.1 dL_law_681 (by decide) ?_
  refine lv_iadd C.1 C.2.1 dL_law_682 ?_
  refine va_sld C.1 C.2.1 C.2.2.2.2.2.2.2.2.2.2.1 C.2.2.2.2.2.2.2.2.2.2.2 hbA hw.2.1 (lw_ix hL hi6 (by decide) (k := 2) rfl) dL_law_683 ?_
  refine r_callL (As := [.int (xs (nI i + 1).toNatClampNeg), .int (xs (nI i + 2).toNatClampNeg)]) C hw (ok_X8_chosen X l σ (xs (nI i + 1).toNatClampNeg) (xs (nI i + 2).toNatClampNeg) r σ1 h1) l_0 vc_8 gw_759 gw_756 gw_757 gw_758 gw_114 hl.1 pd_X8_chosen ⟨Nat.le_of_ble_eq_true rfl, Nat.le_of_ble_eq_true rfl⟩ ⟨lw_c hi6 hL, lw_s hi6 hL⟩ (rest := []) (Nat.le_of_ble_eq_true rfl) dL_law_684 rfl (fun H locs hw => ?_)
  refine lv_aload_n C.1 C.2.1 dL_law_687 rfl (lv_at hl 2 rfl) ?_
  refine lv_aload_n C.1 C.2.1 dL_law_688 rfl (lv_at hl 0 rfl) ?_
  refine lv_iload C.1 C.2.1 dL_law_689 (lv_at hl 4 rfl) ?_
  refine lv_iconst (v := 1) C.1 C.2.1 dL_law_691 (by decide) ?_
  refine lv_iadd C.1 C.2.1 dL_law_692 ?_
  refine va_sld C.1 C.2.1 C.2.2.2.2.2.2.2.2.2.2.1 C.2.2.2.2.2.2.2.2.2.2.2 hbA hw.2.1 (lw_ix hL hi6 (by decide) (k := 1) rfl) dL_law_693 ?_
  refine lv_aload_n C.1 C.2.1 dL_law_694 rfl (lv_at hl 0 rfl) ?_
  refine lv_iload C.1 C.2.1 dL_law_695 (lv_at hl 4 rfl) ?_
  refine lv_iconst (v := 2) C.1 C.2.1 dL_law_697 (by decide) ?_
  refine lv_iadd C.1 C.2.1 dL_law_698 ?_
  refine va_sld C.1 C.2.1 C.2.2.2.2.2.2.2.2.2.2.1 C.2.2.2.2.2.2.2.2.2.2.2 hbA hw.2.1 (lw_ix hL hi6 (by decide) (k := 2) rfl) dL_law_699 ?_
  refine r_callL (As := [.int (xs (nI i + 1).toNatClampNeg), .int (xs (nI i + 2).toNatClampNeg)]) C hw (ok_X9_chosen X l σ1 (xs (nI i + 1).toNatClampNeg) (xs (nI i + 2).toNatClampNeg) r σ2 h2) l_50 vc_9 gw_1296 gw_1293 gw_1294 gw_1295 gw_123 hl.1 pd_X9_chosen ⟨Nat.le_of_ble_eq_true rfl, Nat.le_of_ble_eq_true rfl⟩ ⟨lw_c hi6 hL, lw_s hi6 hL⟩ (rest := [.int r]) (Nat.le_of_ble_eq_true rfl) dL_law_700 rfl (fun H locs hw => ?_)
  refine lv_icmp_eq (tgt := 1114) C.1 C.2.1 dL_law_703 (by decide) (fun c1 => ?_) (fun c1 => absurd rfl c1)
  refine W.widen (k := 58 + (i + 6)) (n := 14100 + 6 * (i + 6)) (by omega) (by omega) ?_
  exact hend σ2 hI2 _ _ hw ls (lv_sub hl [0, 1, 2, 3, 4] rfl)
set_option maxRecDepth 100000 in
set_option maxHeartbeats 4000000 in
theorem lc_14 {p : Program} {l : Launch} {e : Env} {s : State} {m : MethodId} {below : List Frame} {meth : Method} {c : Code} {X : Xc} {b L : Nat} {xs : Nat → Int32} {Inv : St → Prop} (hl0 : l.stackTraces = false) (hL : L ≤ 3072) (C : CxW p s m c X b L xs) (HS : StepsAll Inv) {i : Nat} (hi6 : i + 6 ≤ L) (hend : LEnd p l e s m below meth c X b Inv i) : LHead p l e s m below meth c X b Inv i 708 := by
  intro σ hI H locs hw ls hl
  have hbA : ¬ A0 s b := Nat.not_le.mpr C.2.2.2.2.2.2.2.2.2.2.2
  obtain ⟨r, σ1, σ2, h1, h2, hI2⟩ := HS.2.2.2.2.2.2.2.2.2.2.2.2.2.2.1 σ hI
  refine lv_aload_n C.1 C.2.1 dL_law_708 rfl (lv_at hl 1 rfl) ?_
  refine r_callL (As := []) C hw (ok_X8_due X l σ r σ1 h1) l_0 vc_8 gw_795 gw_792 gw_793 gw_794 gw_114 hl.1 pd_X8_due ⟨Nat.le_of_ble_eq_true rfl, Nat.le_of_ble_eq_true rfl⟩ ⟨lw_c hi6 hL, lw_s hi6 hL⟩ (rest := []) (Nat.le_of_ble_eq_true rfl) dL_law_709 rfl (fun H locs hw => ?_)
  refine lv_aload_n C.1 C.2.1 dL_law_712 rfl (lv_at hl 2 rfl) ?_
  refine r_callL (As := []) C hw (ok_X9_due X l σ1 r σ2 h2) l_50 vc_9 gw_1315 gw_1312 gw_1313 gw_1314 gw_123 hl.1 pd_X9_due ⟨Nat.le_of_ble_eq_true rfl, Nat.le_of_ble_eq_true rfl⟩ ⟨lw_c hi6 hL, lw_s hi6 hL⟩ (rest := [.int r]) (Nat.le_of_ble_eq_true rfl) dL_law_713 rfl (fun H locs hw => ?_)
  refine lv_icmp_eq (tgt := 1114) C.1 C.2.1 dL_law_716 (by decide) (fun c1 => ?_) (fun c1 => absurd rfl c1)
  refine W.widen (k := 58 + (i + 6)) (n := 14100 + 6 * (i + 6)) (by omega) (by omega) ?_
  exact hend σ2 hI2 _ _ hw ls (lv_sub hl [0, 1, 2, 3, 4] rfl)
set_option maxRecDepth 100000 in
set_option maxHeartbeats 4000000 in
theorem lc_15 {p : Program} {l : Launch} {e : Env} {s : State} {m : MethodId} {below : List Frame} {meth : Method} {c : Code} {X : Xc} {b L : Nat} {xs : Nat → Int32} {Inv : St → Prop} (hl0 : l.stackTraces = false) (hL : L ≤ 3072) (C : CxW p s m c X b L xs) (HS : StepsAll Inv) {i : Nat} (hi6 : i + 6 ≤ L) (hend : LEnd p l e s m below meth c X b Inv i) : LHead p l e s m below meth c X b Inv i 721 := by
  intro σ hI H locs hw ls hl
  have hbA : ¬ A0 s b := Nat.not_le.mpr C.2.2.2.2.2.2.2.2.2.2.2
  obtain ⟨r, σ1, σ2, h1, h2, hI2⟩ := HS.2.2.2.2.2.2.2.2.2.2.2.2.2.2.2.1 σ hI (xs (nI i + 1).toNatClampNeg) (xs (nI i + 2).toNatClampNeg)
  refine lv_aload_n C.1 C.2.1 dL_law_721 rfl (lv_at hl 1 rfl) ?_
  refine lv_aload_n C.1 C.2.1 dL_law_722 rfl (lv_at hl 0 rfl) ?_
  refine lv_iload C.1 C.2.1 dL_law_723 (lv_at hl 4 rfl) ?_
  refine lv_iconst (v := 1) C.1 C.2.1 dL_law_725 (by decide) ?_
  refine lv_iadd C.1 C.2.1 dL_law_726 ?_
  refine va_sld C.1 C.2.1 C.2.2.2.2.2.2.2.2.2.2.1 C.2.2.2.2.2.2.2.2.2.2.2 hbA hw.2.1 (lw_ix hL hi6 (by decide) (k := 1) rfl) dL_law_727 ?_
  refine lv_aload_n C.1 C.2.1 dL_law_728 rfl (lv_at hl 0 rfl) ?_
  refine lv_iload C.1 C.2.1 dL_law_729 (lv_at hl 4 rfl) ?_
  refine lv_iconst (v := 2) C.1 C.2.1 dL_law_731 (by decide) ?_
  refine lv_iadd C.1 C.2.1 dL_law_732 ?_
  refine va_sld C.1 C.2.1 C.2.2.2.2.2.2.2.2.2.2.1 C.2.2.2.2.2.2.2.2.2.2.2 hbA hw.2.1 (lw_ix hL hi6 (by decide) (k := 2) rfl) dL_law_733 ?_
  refine r_callL (As := [.int (xs (nI i + 1).toNatClampNeg), .int (xs (nI i + 2).toNatClampNeg)]) C hw (ok_X8_explained X l σ (xs (nI i + 1).toNatClampNeg) (xs (nI i + 2).toNatClampNeg) r σ1 h1) l_0 vc_8 gw_799 gw_796 gw_797 gw_798 gw_114 hl.1 pd_X8_explained ⟨Nat.le_of_ble_eq_true rfl, Nat.le_of_ble_eq_true rfl⟩ ⟨lw_c hi6 hL, lw_s hi6 hL⟩ (rest := []) (Nat.le_of_ble_eq_true rfl) dL_law_734 rfl (fun H locs hw => ?_)
  refine lv_aload_n C.1 C.2.1 dL_law_737 rfl (lv_at hl 2 rfl) ?_
  refine lv_aload_n C.1 C.2.1 dL_law_738 rfl (lv_at hl 0 rfl) ?_
  refine lv_iload C.1 C.2.1 dL_law_739 (lv_at hl 4 rfl) ?_
  refine lv_iconst (v := 1) C.1 C.2.1 dL_law_741 (by decide) ?_
  refine lv_iadd C.1 C.2.1 dL_law_742 ?_
  refine va_sld C.1 C.2.1 C.2.2.2.2.2.2.2.2.2.2.1 C.2.2.2.2.2.2.2.2.2.2.2 hbA hw.2.1 (lw_ix hL hi6 (by decide) (k := 1) rfl) dL_law_743 ?_
  refine lv_aload_n C.1 C.2.1 dL_law_744 rfl (lv_at hl 0 rfl) ?_
  refine lv_iload C.1 C.2.1 dL_law_745 (lv_at hl 4 rfl) ?_
  refine lv_iconst (v := 2) C.1 C.2.1 dL_law_747 (by decide) ?_
  refine lv_iadd C.1 C.2.1 dL_law_748 ?_
  refine va_sld C.1 C.2.1 C.2.2.2.2.2.2.2.2.2.2.1 C.2.2.2.2.2.2.2.2.2.2.2 hbA hw.2.1 (lw_ix hL hi6 (by decide) (k := 2) rfl) dL_law_749 ?_
  refine r_callL (As := [.int (xs (nI i + 1).toNatClampNeg), .int (xs (nI i + 2).toNatClampNeg)]) C hw (ok_X9_explained X l σ1 (xs (nI i + 1).toNatClampNeg) (xs (nI i + 2).toNatClampNeg) r σ2 h2) l_50 vc_9 gw_1319 gw_1316 gw_1317 gw_1318 gw_123 hl.1 pd_X9_explained ⟨Nat.le_of_ble_eq_true rfl, Nat.le_of_ble_eq_true rfl⟩ ⟨lw_c hi6 hL, lw_s hi6 hL⟩ (rest := [.int r]) (Nat.le_of_ble_eq_true rfl) dL_law_750 rfl (fun H locs hw => ?_)
  refine lv_icmp_eq (tgt := 1114) C.1 C.2.1 dL_law_753 (by decide) (fun c1 => ?_) (fun c1 => absurd rfl c1)
  refine W.widen (k := 58 + (i + 6)) (n := 14100 + 6 * (i + 6)) (by omega) (by omega) ?_
  exact hend σ2 hI2 _ _ hw ls (lv_sub hl [0, 1, 2, 3, 4] rfl)
set_option maxRecDepth 100000 in
set_option maxHeartbeats 4000000 in
theorem lc_16 {p : Program} {l : Launch} {e : Env} {s : State} {m : MethodId} {below : List Frame} {meth : Method} {c : Code} {X : Xc} {b L : Nat} {xs : Nat → Int32} {Inv : St → Prop} (hl0 : l.stackTraces = false) (hL : L ≤ 3072) (C : CxW p s m c X b L xs) (HS : StepsAll Inv) {i : Nat} (hi6 : i + 6 ≤ L) (hend : LEnd p l e s m below meth c X b Inv i) : LHead p l e s m below meth c X b Inv i 758 := by
  intro σ hI H locs hw ls hl
  have hbA : ¬ A0 s b := Nat.not_le.mpr C.2.2.2.2.2.2.2.2.2.2.2
  obtain ⟨r, σ2, h1, h2, hI2⟩ := HS.2.2.2.2.2.2.2.2.2.2.2.2.2.2.2.2.1 σ hI (xs (nI i + 1).toNatClampNeg) (xs (nI i + 2).toNatClampNeg)
  refine lv_aload_n C.1 C.2.1 dL_law_758 rfl (lv_at hl 1 rfl) ?_
  refine lv_aload_n C.1 C.2.1 dL_law_759 rfl (lv_at hl 0 rfl) ?_
  refine lv_iload C.1 C.2.1 dL_law_760 (lv_at hl 4 rfl) ?_
  refine lv_iconst (v := 1) C.1 C.2.1 dL_law_762 (by decide) ?_
  refine lv_iadd C.1 C.2.1 dL_law_763 ?_
  refine va_sld C.1 C.2.1 C.2.2.2.2.2.2.2.2.2.2.1 C.2.2.2.2.2.2.2.2.2.2.2 hbA hw.2.1 (lw_ix hL hi6 (by decide) (k := 1) rfl) dL_law_764 ?_
  refine lv_aload_n C.1 C.2.1 dL_law_765 rfl (lv_at hl 0 rfl) ?_
  refine lv_iload C.1 C.2.1 dL_law_766 (lv_at hl 4 rfl) ?_
  refine lv_iconst (v := 2) C.1 C.2.1 dL_law_768 (by decide) ?_
  refine lv_iadd C.1 C.2.1 dL_law_769 ?_
  refine va_sld C.1 C.2.1 C.2.2.2.2.2.2.2.2.2.2.1 C.2.2.2.2.2.2.2.2.2.2.2 hbA hw.2.1 (lw_ix hL hi6 (by decide) (k := 2) rfl) dL_law_770 ?_
  refine r_callL (As := [.int (xs (nI i + 1).toNatClampNeg), .int (xs (nI i + 2).toNatClampNeg)]) C hw (ok_X8_adjusted X l σ (xs (nI i + 1).toNatClampNeg) (xs (nI i + 2).toNatClampNeg) r h1) l_0 vc_8 gw_807 gw_804 gw_805 gw_806 gw_114 hl.1 pd_X8_adjusted ⟨Nat.le_of_ble_eq_true rfl, Nat.le_of_ble_eq_true rfl⟩ ⟨lw_c hi6 hL, lw_s hi6 hL⟩ (rest := []) (Nat.le_of_ble_eq_true rfl) dL_law_771 rfl (fun H locs hw => ?_)
  refine lv_aload_n C.1 C.2.1 dL_law_774 rfl (lv_at hl 2 rfl) ?_
  refine lv_aload_n C.1 C.2.1 dL_law_775 rfl (lv_at hl 0 rfl) ?_
  refine lv_iload C.1 C.2.1 dL_law_776 (lv_at hl 4 rfl) ?_
  refine lv_iconst (v := 1) C.1 C.2.1 dL_law_778 (by decide) ?_
  refine lv_iadd C.1 C.2.1 dL_law_779 ?_
  refine va_sld C.1 C.2.1 C.2.2.2.2.2.2.2.2.2.2.1 C.2.2.2.2.2.2.2.2.2.2.2 hbA hw.2.1 (lw_ix hL hi6 (by decide) (k := 1) rfl) dL_law_780 ?_
  refine lv_aload_n C.1 C.2.1 dL_law_781 rfl (lv_at hl 0 rfl) ?_
  refine lv_iload C.1 C.2.1 dL_law_782 (lv_at hl 4 rfl) ?_
  refine lv_iconst (v := 2) C.1 C.2.1 dL_law_784 (by decide) ?_
  refine lv_iadd C.1 C.2.1 dL_law_785 ?_
  refine va_sld C.1 C.2.1 C.2.2.2.2.2.2.2.2.2.2.1 C.2.2.2.2.2.2.2.2.2.2.2 hbA hw.2.1 (lw_ix hL hi6 (by decide) (k := 2) rfl) dL_law_786 ?_
  refine r_callL (As := [.int (xs (nI i + 1).toNatClampNeg), .int (xs (nI i + 2).toNatClampNeg)]) C hw (ok_X9_adjusted X l σ (xs (nI i + 1).toNatClampNeg) (xs (nI i + 2).toNatClampNeg) r σ2 h2) l_50 vc_9 gw_1323 gw_1320 gw_1321 gw_1322 gw_123 hl.1 pd_X9_adjusted ⟨Nat.le_of_ble_eq_true rfl, Nat.le_of_ble_eq_true rfl⟩ ⟨lw_c hi6 hL, lw_s hi6 hL⟩ (rest := [.int r]) (Nat.le_of_ble_eq_true rfl) dL_law_787 rfl (fun H locs hw => ?_)
  refine lv_icmp_eq (tgt := 1114) C.1 C.2.1 dL_law_790 (by decide) (fun c1 => ?_) (fun c1 => absurd rfl c1)
  refine W.widen (k := 58 + (i + 6)) (n := 14100 + 6 * (i + 6)) (by omega) (by omega) ?_
  exact hend σ2 hI2 _ _ hw ls (lv_sub hl [0, 1, 2, 3, 4] rfl)
set_option maxRecDepth 100000 in
set_option maxHeartbeats 4000000 in
theorem lc_17 {p : Program} {l : Launch} {e : Env} {s : State} {m : MethodId} {below : List Frame} {meth : Method} {c : Code} {X : Xc} {b L : Nat} {xs : Nat → Int32} {Inv : St → Prop} (hl0 : l.stackTraces = false) (hL : L ≤ 3072) (C : CxW p s m c X b L xs) (HS : StepsAll Inv) {i : Nat} (hi6 : i + 6 ≤ L) (hend : LEnd p l e s m below meth c X b Inv i) : LHead p l e s m below meth c X b Inv i 795 := by
  intro σ hI H locs hw ls hl
  have hbA : ¬ A0 s b := Nat.not_le.mpr C.2.2.2.2.2.2.2.2.2.2.2
  obtain ⟨r, σ1, σ2, h1, h2, hI2⟩ := HS.2.2.2.2.2.2.2.2.2.2.2.2.2.2.2.2.2.1 σ hI (xs (nI i + 1).toNatClampNeg) (xs (nI i + 2).toNatClampNeg)
  refine lv_aload_n C.1 C.2.1 dL_law_795 rfl (lv_at hl 1 rfl) ?_
  refine lv_aload_n C.1 C.2.1 dL_law_796 rfl (lv_at hl 0 rfl) ?_
  refine lv_iload C.1 C.2.1 dL_law_797 (lv_at hl 4 rfl) ?_
  refine lv_iconst (v := 1) C.1 C.2.1 dL_law_799 (by decide) ?_
  refine lv_iadd C.1 C.2.1 dL_law_800 ?_
  refine va_sld C.1 C.2.1 C.2.2.2.2.2.2.2.2.2.2.1 C.2.2.2.2.2.2.2.2.2.2.2 hbA hw.2.1 (lw_ix hL hi6 (by decide) (k := 1) rfl) dL_law_801 ?_
  refine lv_aload_n C.1 C.2.1 dL_law_802 rfl (lv_at hl 0 rfl) ?_
  refine lv_iload C.1 C.2.1 dL_law_803 (lv_at hl 4 rfl) ?_
  refine lv_iconst (v := 2) C.1 C.2.1 dL_law_805 (by decide) ?_
  refine lv_iadd C.1 C.2.1 dL_law_806 ?_
  refine va_sld C.1 C.2.1 C.2.2.2.2.2.2.2.2.2.2.1 C.2.2.2.2.2.2.2.2.2.2.2 hbA hw.2.1 (lw_ix hL hi6 (by decide) (k := 2) rfl) dL_law_807 ?_
  refine r_callL (As := [.int (xs (nI i + 1).toNatClampNeg), .int (xs (nI i + 2).toNatClampNeg)]) C hw (ok_X8_moves X l σ (xs (nI i + 1).toNatClampNeg) (xs (nI i + 2).toNatClampNeg) r σ1 h1) l_0 vc_8 gw_811 gw_808 gw_809 gw_810 gw_114 hl.1 pd_X8_moves ⟨Nat.le_of_ble_eq_true rfl, Nat.le_of_ble_eq_true rfl⟩ ⟨lw_c hi6 hL, lw_s hi6 hL⟩ (rest := []) (Nat.le_of_ble_eq_true rfl) dL_law_808 rfl (fun H locs hw => ?_)
  refine lv_aload_n C.1 C.2.1 dL_law_811 rfl (lv_at hl 2 rfl) ?_
  refine lv_aload_n C.1 C.2.1 dL_law_812 rfl (lv_at hl 0 rfl) ?_
  refine lv_iload C.1 C.2.1 dL_law_813 (lv_at hl 4 rfl) ?_
  refine lv_iconst (v := 1) C.1 C.2.1 dL_law_815 (by decide) ?_
  refine lv_iadd C.1 C.2.1 dL_law_816 ?_
  refine va_sld C.1 C.2.1 C.2.2.2.2.2.2.2.2.2.2.1 C.2.2.2.2.2.2.2.2.2.2.2 hbA hw.2.1 (lw_ix hL hi6 (by decide) (k := 1) rfl) dL_law_817 ?_
  refine lv_aload_n C.1 C.2.1 dL_law_818 rfl (lv_at hl 0 rfl) ?_
  refine lv_iload C.1 C.2.1 dL_law_819 (lv_at hl 4 rfl) ?_
  refine lv_iconst (v := 2) C.1 C.2.1 dL_law_821 (by decide) ?_
  refine lv_iadd C.1 C.2.1 dL_law_822 ?_
  refine va_sld C.1 C.2.1 C.2.2.2.2.2.2.2.2.2.2.1 C.2.2.2.2.2.2.2.2.2.2.2 hbA hw.2.1 (lw_ix hL hi6 (by decide) (k := 2) rfl) dL_law_823 ?_
  refine r_callL (As := [.int (xs (nI i + 1).toNatClampNeg), .int (xs (nI i + 2).toNatClampNeg)]) C hw (ok_X9_moves X l σ1 (xs (nI i + 1).toNatClampNeg) (xs (nI i + 2).toNatClampNeg) r σ2 h2) l_50 vc_9 gw_1327 gw_1324 gw_1325 gw_1326 gw_123 hl.1 pd_X9_moves ⟨Nat.le_of_ble_eq_true rfl, Nat.le_of_ble_eq_true rfl⟩ ⟨lw_c hi6 hL, lw_s hi6 hL⟩ (rest := [.int r]) (Nat.le_of_ble_eq_true rfl) dL_law_824 rfl (fun H locs hw => ?_)
  refine lv_icmp_eq (tgt := 1114) C.1 C.2.1 dL_law_827 (by decide) (fun c1 => ?_) (fun c1 => absurd rfl c1)
  refine W.widen (k := 58 + (i + 6)) (n := 14100 + 6 * (i + 6)) (by omega) (by omega) ?_
  exact hend σ2 hI2 _ _ hw ls (lv_sub hl [0, 1, 2, 3, 4] rfl)
set_option maxRecDepth 100000 in
set_option maxHeartbeats 4000000 in
theorem lc_18 {p : Program} {l : Launch} {e : Env} {s : State} {m : MethodId} {below : List Frame} {meth : Method} {c : Code} {X : Xc} {b L : Nat} {xs : Nat → Int32} {Inv : St → Prop} (hl0 : l.stackTraces = false) (hL : L ≤ 3072) (C : CxW p s m c X b L xs) (HS : StepsAll Inv) {i : Nat} (hi6 : i + 6 ≤ L) (hend : LEnd p l e s m below meth c X b Inv i) : LHead p l e s m below meth c X b Inv i 832 := by
  intro σ hI H locs hw ls hl
  have hbA : ¬ A0 s b := Nat.not_le.mpr C.2.2.2.2.2.2.2.2.2.2.2
  obtain ⟨r, σ1, σ2, h1, h2, hI2⟩ := HS.2.2.2.2.2.2.2.2.2.2.2.2.2.2.2.2.2.2.1 σ hI (xs (nI i + 1).toNatClampNeg) (xs (nI i + 2).toNatClampNeg) (xs (nI i + 3).toNatClampNeg) (xs (nI i + 4).toNatClampNeg) (xs (nI i + 5).toNatClampNeg)
  refine lv_aload_n C.1 C.2.1 dL_law_832 rfl (lv_at hl 1 rfl) ?_
  refine lv_aload_n C.1 C.2.1 dL_law_833 rfl (lv_at hl 0 rfl) ?_
  refine lv_iload C.1 C.2.1 dL_law_834 (lv_at hl 4 rfl) ?_
  refine lv_iconst (v := 1) C.1 C.2.1 dL_law_836 (by decide) ?_
  refine lv_iadd C.1 C.2.1 dL_law_837 ?_
  refine va_sld C.1 C.2.1 C.2.2.2.2.2.2.2.2.2.2.1 C.2.2.2.2.2.2.2.2.2.2.2 hbA hw.2.1 (lw_ix hL hi6 (by decide) (k := 1) rfl) dL_law_838 ?_
  refine lv_aload_n C.1 C.2.1 dL_law_839 rfl (lv_at hl 0 rfl) ?_
  refine lv_iload C.1 C.2.1 dL_law_840 (lv_at hl 4 rfl) ?_
  refine lv_iconst (v := 2) C.1 C.2.1 dL_law_842 (by decide) ?_
  refine lv_iadd C.1 C.2.1 dL_law_843 ?_
  refine va_sld C.1 C.2.1 C.2.2.2.2.2.2.2.2.2.2.1 C.2.2.2.2.2.2.2.2.2.2.2 hbA hw.2.1 (lw_ix hL hi6 (by decide) (k := 2) rfl) dL_law_844 ?_
  refine lv_aload_n C.1 C.2.1 dL_law_845 rfl (lv_at hl 0 rfl) ?_
  refine lv_iload C.1 C.2.1 dL_law_846 (lv_at hl 4 rfl) ?_
  refine lv_iconst (v := 3) C.1 C.2.1 dL_law_848 (by decide) ?_
  refine lv_iadd C.1 C.2.1 dL_law_849 ?_
  refine va_sld C.1 C.2.1 C.2.2.2.2.2.2.2.2.2.2.1 C.2.2.2.2.2.2.2.2.2.2.2 hbA hw.2.1 (lw_ix hL hi6 (by decide) (k := 3) rfl) dL_law_850 ?_
  refine lv_aload_n C.1 C.2.1 dL_law_851 rfl (lv_at hl 0 rfl) ?_
  refine lv_iload C.1 C.2.1 dL_law_852 (lv_at hl 4 rfl) ?_
  refine lv_iconst (v := 4) C.1 C.2.1 dL_law_854 (by decide) ?_
  refine lv_iadd C.1 C.2.1 dL_law_855 ?_
  refine va_sld C.1 C.2.1 C.2.2.2.2.2.2.2.2.2.2.1 C.2.2.2.2.2.2.2.2.2.2.2 hbA hw.2.1 (lw_ix hL hi6 (by decide) (k := 4) rfl) dL_law_856 ?_
  refine lv_aload_n C.1 C.2.1 dL_law_857 rfl (lv_at hl 0 rfl) ?_
  refine lv_iload C.1 C.2.1 dL_law_858 (lv_at hl 4 rfl) ?_
  refine lv_iconst (v := 5) C.1 C.2.1 dL_law_860 (by decide) ?_
  refine lv_iadd C.1 C.2.1 dL_law_861 ?_
  refine va_sld C.1 C.2.1 C.2.2.2.2.2.2.2.2.2.2.1 C.2.2.2.2.2.2.2.2.2.2.2 hbA hw.2.1 (lw_ix hL hi6 (by decide) (k := 5) rfl) dL_law_862 ?_
  refine r_callL (As := [.int (xs (nI i + 1).toNatClampNeg), .int (xs (nI i + 2).toNatClampNeg), .int (xs (nI i + 3).toNatClampNeg), .int (xs (nI i + 4).toNatClampNeg), .int (xs (nI i + 5).toNatClampNeg)]) C hw (ok_X8_leg X l σ (xs (nI i + 1).toNatClampNeg) (xs (nI i + 2).toNatClampNeg) (xs (nI i + 3).toNatClampNeg) (xs (nI i + 4).toNatClampNeg) (xs (nI i + 5).toNatClampNeg) r σ1 h1) l_0 vc_8 gw_821 gw_818 gw_819 gw_820 gw_114 hl.1 pd_X8_leg ⟨Nat.le_of_ble_eq_true rfl, Nat.le_of_ble_eq_true rfl⟩ ⟨lw_c hi6 hL, lw_s hi6 hL⟩ (rest := []) (Nat.le_of_ble_eq_true rfl) dL_law_863 rfl (fun H locs hw => ?_)
  refine lv_aload_n C.1 C.2.1 dL_law_866 rfl (lv_at hl 2 rfl) ?_
  refine lv_aload_n C.1 C.2.1 dL_law_867 rfl (lv_at hl 0 rfl) ?_
  refine lv_iload C.1 C.2.1 dL_law_868 (lv_at hl 4 rfl) ?_
  refine lv_iconst (v := 1) C.1 C.2.1 dL_law_870 (by decide) ?_
  refine lv_iadd C.1 C.2.1 dL_law_871 ?_
  refine va_sld C.1 C.2.1 C.2.2.2.2.2.2.2.2.2.2.1 C.2.2.2.2.2.2.2.2.2.2.2 hbA hw.2.1 (lw_ix hL hi6 (by decide) (k := 1) rfl) dL_law_872 ?_
  refine lv_aload_n C.1 C.2.1 dL_law_873 rfl (lv_at hl 0 rfl) ?_
  refine lv_iload C.1 C.2.1 dL_law_874 (lv_at hl 4 rfl) ?_
  refine lv_iconst (v := 2) C.1 C.2.1 dL_law_876 (by decide) ?_
  refine lv_iadd C.1 C.2.1 dL_law_877 ?_
  refine va_sld C.1 C.2.1 C.2.2.2.2.2.2.2.2.2.2.1 C.2.2.2.2.2.2.2.2.2.2.2 hbA hw.2.1 (lw_ix hL hi6 (by decide) (k := 2) rfl) dL_law_878 ?_
  refine lv_aload_n C.1 C.2.1 dL_law_879 rfl (lv_at hl 0 rfl) ?_
  refine lv_iload C.1 C.2.1 dL_law_880 (lv_at hl 4 rfl) ?_
  refine lv_iconst (v := 3) C.1 C.2.1 dL_law_882 (by decide) ?_
  refine lv_iadd C.1 C.2.1 dL_law_883 ?_
  refine va_sld C.1 C.2.1 C.2.2.2.2.2.2.2.2.2.2.1 C.2.2.2.2.2.2.2.2.2.2.2 hbA hw.2.1 (lw_ix hL hi6 (by decide) (k := 3) rfl) dL_law_884 ?_
  refine lv_aload_n C.1 C.2.1 dL_law_885 rfl (lv_at hl 0 rfl) ?_
  refine lv_iload C.1 C.2.1 dL_law_886 (lv_at hl 4 rfl) ?_
  refine lv_iconst (v := 4) C.1 C.2.1 dL_law_888 (by decide) ?_
  refine lv_iadd C.1 C.2.1 dL_law_889 ?_
  refine va_sld C.1 C.2.1 C.2.2.2.2.2.2.2.2.2.2.1 C.2.2.2.2.2.2.2.2.2.2.2 hbA hw.2.1 (lw_ix hL hi6 (by decide) (k := 4) rfl) dL_law_890 ?_
  refine lv_aload_n C.1 C.2.1 dL_law_891 rfl (lv_at hl 0 rfl) ?_
  refine lv_iload C.1 C.2.1 dL_law_892 (lv_at hl 4 rfl) ?_
  refine lv_iconst (v := 5) C.1 C.2.1 dL_law_894 (by decide) ?_
  refine lv_iadd C.1 C.2.1 dL_law_895 ?_
  refine va_sld C.1 C.2.1 C.2.2.2.2.2.2.2.2.2.2.1 C.2.2.2.2.2.2.2.2.2.2.2 hbA hw.2.1 (lw_ix hL hi6 (by decide) (k := 5) rfl) dL_law_896 ?_
  refine r_callL (As := [.int (xs (nI i + 1).toNatClampNeg), .int (xs (nI i + 2).toNatClampNeg), .int (xs (nI i + 3).toNatClampNeg), .int (xs (nI i + 4).toNatClampNeg), .int (xs (nI i + 5).toNatClampNeg)]) C hw (ok_X9_leg_ X l σ1 (xs (nI i + 1).toNatClampNeg) (xs (nI i + 2).toNatClampNeg) (xs (nI i + 3).toNatClampNeg) (xs (nI i + 4).toNatClampNeg) (xs (nI i + 5).toNatClampNeg) r σ2 h2) l_50 vc_9 gw_1335 gw_1332 gw_1333 gw_1334 gw_123 hl.1 pd_X9_leg_ ⟨Nat.le_of_ble_eq_true rfl, Nat.le_of_ble_eq_true rfl⟩ ⟨lw_c hi6 hL, lw_s hi6 hL⟩ (rest := [.int (b2i r)]) (Nat.le_of_ble_eq_true rfl) dL_law_897 rfl (fun H locs hw => ?_)
  refine lv_icmp_eq (tgt := 1114) C.1 C.2.1 dL_law_900 (by decide) (fun c1 => ?_) (fun c1 => absurd rfl c1)
  refine W.widen (k := 58 + (i + 6)) (n := 14100 + 6 * (i + 6)) (by omega) (by omega) ?_
  exact hend σ2 hI2 _ _ hw ls (lv_sub hl [0, 1, 2, 3, 4] rfl)
set_option maxRecDepth 100000 in
set_option maxHeartbeats 4000000 in
theorem lc_19 {p : Program} {l : Launch} {e : Env} {s : State} {m : MethodId} {below : List Frame} {meth : Method} {c : Code} {X : Xc} {b L : Nat} {xs : Nat → Int32} {Inv : St → Prop} (hl0 : l.stackTraces = false) (hL : L ≤ 3072) (C : CxW p s m c X b L xs) (HS : StepsAll Inv) {i : Nat} (hi6 : i + 6 ≤ L) (hend : LEnd p l e s m below meth c X b Inv i) : LHead p l e s m below meth c X b Inv i 905 := by
  intro σ hI H locs hw ls hl
  have hbA : ¬ A0 s b := Nat.not_le.mpr C.2.2.2.2.2.2.2.2.2.2.2
  obtain ⟨r, σ1, σ2, h1, h2, hI2⟩ := HS.2.2.2.2.2.2.2.2.2.2.2.2.2.2.2.2.2.2.2.1 σ hI (xs (nI i + 1).toNatClampNeg) (xs (nI i + 2).toNatClampNeg) (xs (nI i + 3).toNatClampNeg) (xs (nI i + 4).toNatClampNeg)
  refine lv_aload_n C.1 C.2.1 dL_law_905 rfl (lv_at hl 1 rfl) ?_
  refine lv_aload_n C.1 C.2.1 dL_law_906 rfl (lv_at hl 0 rfl) ?_
  refine lv_iload C.1 C.2.1 dL_law_907 (lv_at hl 4 rfl) ?_
  refine lv_iconst (v := 1) C.1 C.2.1 dL_law_909 (by decide) ?_
  refine lv_iadd C.1 C.2.1 dL_law_910 ?_
  refine va_sld C.1 C.2.1 C.2.2.2.2.2.2.2.2.2.2.1 C.2.2.2.2.2.2.2.2.2.2.2 hbA hw.2.1 (lw_ix hL hi6 (by decide) (k := 1) rfl) dL_law_911 ?_
  refine lv_aload_n C.1 C.2.1 dL_law_912 rfl (lv_at hl 0 rfl) ?_
  refine lv_iload C.1 C.2.1 dL_law_913 (lv_at hl 4 rfl) ?_
  refine lv_iconst (v := 2) C.1 C.2.1 dL_law_915 (by decide) ?_
  refine lv_iadd C.1 C.2.1 dL_law_916 ?_
  refine va_sld C.1 C.2.1 C.2.2.2.2.2.2.2.2.2.2.1 C.2.2.2.2.2.2.2.2.2.2.2 hbA hw.2.1 (lw_ix hL hi6 (by decide) (k := 2) rfl) dL_law_917 ?_
  refine lv_aload_n C.1 C.2.1 dL_law_918 rfl (lv_at hl 0 rfl) ?_
  refine lv_iload C.1 C.2.1 dL_law_919 (lv_at hl 4 rfl) ?_
  refine lv_iconst (v := 3) C.1 C.2.1 dL_law_921 (by decide) ?_
  refine lv_iadd C.1 C.2.1 dL_law_922 ?_
  refine va_sld C.1 C.2.1 C.2.2.2.2.2.2.2.2.2.2.1 C.2.2.2.2.2.2.2.2.2.2.2 hbA hw.2.1 (lw_ix hL hi6 (by decide) (k := 3) rfl) dL_law_923 ?_
  refine lv_aload_n C.1 C.2.1 dL_law_924 rfl (lv_at hl 0 rfl) ?_
  refine lv_iload C.1 C.2.1 dL_law_925 (lv_at hl 4 rfl) ?_
  refine lv_iconst (v := 4) C.1 C.2.1 dL_law_927 (by decide) ?_
  refine lv_iadd C.1 C.2.1 dL_law_928 ?_
  refine va_sld C.1 C.2.1 C.2.2.2.2.2.2.2.2.2.2.1 C.2.2.2.2.2.2.2.2.2.2.2 hbA hw.2.1 (lw_ix hL hi6 (by decide) (k := 4) rfl) dL_law_929 ?_
  refine r_callL (As := [.int (xs (nI i + 1).toNatClampNeg), .int (xs (nI i + 2).toNatClampNeg), .int (xs (nI i + 3).toNatClampNeg), .int (xs (nI i + 4).toNatClampNeg)]) C hw (ok_X8_narrow X l σ (xs (nI i + 1).toNatClampNeg) (xs (nI i + 2).toNatClampNeg) (xs (nI i + 3).toNatClampNeg) (xs (nI i + 4).toNatClampNeg) r σ1 h1) l_0 vc_8 gw_837 gw_834 gw_835 gw_836 gw_114 hl.1 pd_X8_narrow ⟨Nat.le_of_ble_eq_true rfl, Nat.le_of_ble_eq_true rfl⟩ ⟨lw_c hi6 hL, lw_s hi6 hL⟩ (rest := []) (Nat.le_of_ble_eq_true rfl) dL_law_930 rfl (fun H locs hw => ?_)
  refine lv_aload_n C.1 C.2.1 dL_law_933 rfl (lv_at hl 2 rfl) ?_
  refine lv_aload_n C.1 C.2.1 dL_law_934 rfl (lv_at hl 0 rfl) ?_
  refine lv_iload C.1 C.2.1 dL_law_935 (lv_at hl 4 rfl) ?_
  refine lv_iconst (v := 1) C.1 C.2.1 dL_law_937 (by decide) ?_
  refine lv_iadd C.1 C.2.1 dL_law_938 ?_
  refine va_sld C.1 C.2.1 C.2.2.2.2.2.2.2.2.2.2.1 C.2.2.2.2.2.2.2.2.2.2.2 hbA hw.2.1 (lw_ix hL hi6 (by decide) (k := 1) rfl) dL_law_939 ?_
  refine lv_aload_n C.1 C.2.1 dL_law_940 rfl (lv_at hl 0 rfl) ?_
  refine lv_iload C.1 C.2.1 dL_law_941 (lv_at hl 4 rfl) ?_
  refine lv_iconst (v := 2) C.1 C.2.1 dL_law_943 (by decide) ?_
  refine lv_iadd C.1 C.2.1 dL_law_944 ?_
  refine va_sld C.1 C.2.1 C.2.2.2.2.2.2.2.2.2.2.1 C.2.2.2.2.2.2.2.2.2.2.2 hbA hw.2.1 (lw_ix hL hi6 (by decide) (k := 2) rfl) dL_law_945 ?_
  refine lv_aload_n C.1 C.2.1 dL_law_946 rfl (lv_at hl 0 rfl) ?_
  refine lv_iload C.1 C.2.1 dL_law_947 (lv_at hl 4 rfl) ?_
  refine lv_iconst (v := 3) C.1 C.2.1 dL_law_949 (by decide) ?_
  refine lv_iadd C.1 C.2.1 dL_law_950 ?_
  refine va_sld C.1 C.2.1 C.2.2.2.2.2.2.2.2.2.2.1 C.2.2.2.2.2.2.2.2.2.2.2 hbA hw.2.1 (lw_ix hL hi6 (by decide) (k := 3) rfl) dL_law_951 ?_
  refine lv_aload_n C.1 C.2.1 dL_law_952 rfl (lv_at hl 0 rfl) ?_
  refine lv_iload C.1 C.2.1 dL_law_953 (lv_at hl 4 rfl) ?_
  refine lv_iconst (v := 4) C.1 C.2.1 dL_law_955 (by decide) ?_
  refine lv_iadd C.1 C.2.1 dL_law_956 ?_
  refine va_sld C.1 C.2.1 C.2.2.2.2.2.2.2.2.2.2.1 C.2.2.2.2.2.2.2.2.2.2.2 hbA hw.2.1 (lw_ix hL hi6 (by decide) (k := 4) rfl) dL_law_957 ?_
  refine r_callL (As := [.int (xs (nI i + 1).toNatClampNeg), .int (xs (nI i + 2).toNatClampNeg), .int (xs (nI i + 3).toNatClampNeg), .int (xs (nI i + 4).toNatClampNeg)]) C hw (ok_X9_narrow X l σ1 (xs (nI i + 1).toNatClampNeg) (xs (nI i + 2).toNatClampNeg) (xs (nI i + 3).toNatClampNeg) (xs (nI i + 4).toNatClampNeg) r σ2 h2) l_50 vc_9 gw_1342 gw_1339 gw_1340 gw_1341 gw_123 hl.1 pd_X9_narrow ⟨Nat.le_of_ble_eq_true rfl, Nat.le_of_ble_eq_true rfl⟩ ⟨lw_c hi6 hL, lw_s hi6 hL⟩ (rest := [.int r]) (Nat.le_of_ble_eq_true rfl) dL_law_958 rfl (fun H locs hw => ?_)
  refine lv_icmp_eq (tgt := 1114) C.1 C.2.1 dL_law_961 (by decide) (fun c1 => ?_) (fun c1 => absurd rfl c1)
  refine W.widen (k := 58 + (i + 6)) (n := 14100 + 6 * (i + 6)) (by omega) (by omega) ?_
  exact hend σ2 hI2 _ _ hw ls (lv_sub hl [0, 1, 2, 3, 4] rfl)
set_option maxRecDepth 100000 in
set_option maxHeartbeats 4000000 in
theorem lc_20 {p : Program} {l : Launch} {e : Env} {s : State} {m : MethodId} {below : List Frame} {meth : Method} {c : Code} {X : Xc} {b L : Nat} {xs : Nat → Int32} {Inv : St → Prop} (hl0 : l.stackTraces = false) (hL : L ≤ 3072) (C : CxW p s m c X b L xs) (HS : StepsAll Inv) {i : Nat} (hi6 : i + 6 ≤ L) (hend : LEnd p l e s m below meth c X b Inv i) : LHead p l e s m below meth c X b Inv i 966 := by
  intro σ hI H locs hw ls hl
  have hbA : ¬ A0 s b := Nat.not_le.mpr C.2.2.2.2.2.2.2.2.2.2.2
  obtain ⟨r, σ1, σ2, h1, h2, hI2⟩ := HS.2.2.2.2.2.2.2.2.2.2.2.2.2.2.2.2.2.2.2.2.1 σ hI (xs (nI i + 1).toNatClampNeg) (xs (nI i + 2).toNatClampNeg) (xs (nI i + 3).toNatClampNeg) (xs (nI i + 4).toNatClampNeg) (xs (nI i + 5).toNatClampNeg)
  refine lv_aload_n C.1 C.2.1 dL_law_966 rfl (lv_at hl 1 rfl) ?_
  refine lv_aload_n C.1 C.2.1 dL_law_967 rfl (lv_at hl 0 rfl) ?_
  refine lv_iload C.1 C.2.1 dL_law_968 (lv_at hl 4 rfl) ?_
  refine lv_iconst (v := 1) C.1 C.2.1 dL_law_970 (by decide) ?_
  refine lv_iadd C.1 C.2.1 dL_law_971 ?_
  refine va_sld C.1 C.2.1 C.2.2.2.2.2.2.2.2.2.2.1 C.2.2.2.2.2.2.2.2.2.2.2 hbA hw.2.1 (lw_ix hL hi6 (by decide) (k := 1) rfl) dL_law_972 ?_
  refine lv_aload_n C.1 C.2.1 dL_law_973 rfl (lv_at hl 0 rfl) ?_
  refine lv_iload C.1 C.2.1 dL_law_974 (lv_at hl 4 rfl) ?_
  refine lv_iconst (v := 2) C.1 C.2.1 dL_law_976 (by decide) ?_
  refine lv_iadd C.1 C.2.1 dL_law_977 ?_
  refine va_sld C.1 C.2.1 C.2.2.2.2.2.2.2.2.2.2.1 C.2.2.2.2.2.2.2.2.2.2.2 hbA hw.2.1 (lw_ix hL hi6 (by decide) (k := 2) rfl) dL_law_978 ?_
  refine lv_aload_n C.1 C.2.1 dL_law_979 rfl (lv_at hl 0 rfl) ?_
  refine lv_iload C.1 C.2.1 dL_law_980 (lv_at hl 4 rfl) ?_
  refine lv_iconst (v := 3) C.1 C.2.1 dL_law_982 (by decide) ?_
  refine lv_iadd C.1 C.2.1 dL_law_983 ?_
  refine va_sld C.1 C.2.1 C.2.2.2.2.2.2.2.2.2.2.1 C.2.2.2.2.2.2.2.2.2.2.2 hbA hw.2.1 (lw_ix hL hi6 (by decide) (k := 3) rfl) dL_law_984 ?_
  refine lv_aload_n C.1 C.2.1 dL_law_985 rfl (lv_at hl 0 rfl) ?_
  refine lv_iload C.1 C.2.1 dL_law_986 (lv_at hl 4 rfl) ?_
  refine lv_iconst (v := 4) C.1 C.2.1 dL_law_988 (by decide) ?_
  refine lv_iadd C.1 C.2.1 dL_law_989 ?_
  refine va_sld C.1 C.2.1 C.2.2.2.2.2.2.2.2.2.2.1 C.2.2.2.2.2.2.2.2.2.2.2 hbA hw.2.1 (lw_ix hL hi6 (by decide) (k := 4) rfl) dL_law_990 ?_
  refine lv_aload_n C.1 C.2.1 dL_law_991 rfl (lv_at hl 0 rfl) ?_
  refine lv_iload C.1 C.2.1 dL_law_992 (lv_at hl 4 rfl) ?_
  refine lv_iconst (v := 5) C.1 C.2.1 dL_law_994 (by decide) ?_
  refine lv_iadd C.1 C.2.1 dL_law_995 ?_
  refine va_sld C.1 C.2.1 C.2.2.2.2.2.2.2.2.2.2.1 C.2.2.2.2.2.2.2.2.2.2.2 hbA hw.2.1 (lw_ix hL hi6 (by decide) (k := 5) rfl) dL_law_996 ?_
  refine r_callL (As := [.int (xs (nI i + 1).toNatClampNeg), .int (xs (nI i + 2).toNatClampNeg), .int (xs (nI i + 3).toNatClampNeg), .int (xs (nI i + 4).toNatClampNeg), .int (xs (nI i + 5).toNatClampNeg)]) C hw (ok_X8_counts X l σ (xs (nI i + 1).toNatClampNeg) (xs (nI i + 2).toNatClampNeg) (xs (nI i + 3).toNatClampNeg) (xs (nI i + 4).toNatClampNeg) (xs (nI i + 5).toNatClampNeg) r σ1 h1) l_0 vc_8 gw_845 gw_842 gw_843 gw_844 gw_114 hl.1 pd_X8_counts ⟨Nat.le_of_ble_eq_true rfl, Nat.le_of_ble_eq_true rfl⟩ ⟨lw_c hi6 hL, lw_s hi6 hL⟩ (rest := []) (Nat.le_of_ble_eq_true rfl) dL_law_997 rfl (fun H locs hw => ?_)
  refine lv_aload_n C.1 C.2.1 dL_law_1000 rfl (lv_at hl 2 rfl) ?_
  refine lv_aload_n C.1 C.2.1 dL_law_1001 rfl (lv_at hl 0 rfl) ?_
  refine lv_iload C.1 C.2.1 dL_law_1002 (lv_at hl 4 rfl) ?_
  refine lv_iconst (v := 1) C.1 C.2.1 dL_law_1004 (by decide) ?_
  refine lv_iadd C.1 C.2.1 dL_law_1005 ?_
  refine va_sld C.1 C.2.1 C.2.2.2.2.2.2.2.2.2.2.1 C.2.2.2.2.2.2.2.2.2.2.2 hbA hw.2.1 (lw_ix hL hi6 (by decide) (k := 1) rfl) dL_law_1006 ?_
  refine lv_aload_n C.1 C.2.1 dL_law_1007 rfl (lv_at hl 0 rfl) ?_
  refine lv_iload C.1 C.2.1 dL_law_1008 (lv_at hl 4 rfl) ?_
  refine lv_iconst (v := 2) C.1 C.2.1 dL_law_1010 (by decide) ?_
  refine lv_iadd C.1 C.2.1 dL_law_1011 ?_
  refine va_sld C.1 C.2.1 C.2.2.2.2.2.2.2.2.2.2.1 C.2.2.2.2.2.2.2.2.2.2.2 hbA hw.2.1 (lw_ix hL hi6 (by decide) (k := 2) rfl) dL_law_1012 ?_
  refine lv_aload_n C.1 C.2.1 dL_law_1013 rfl (lv_at hl 0 rfl) ?_
  refine lv_iload C.1 C.2.1 dL_law_1014 (lv_at hl 4 rfl) ?_
  refine lv_iconst (v := 3) C.1 C.2.1 dL_law_1016 (by decide) ?_
  refine lv_iadd C.1 C.2.1 dL_law_1017 ?_
  refine va_sld C.1 C.2.1 C.2.2.2.2.2.2.2.2.2.2.1 C.2.2.2.2.2.2.2.2.2.2.2 hbA hw.2.1 (lw_ix hL hi6 (by decide) (k := 3) rfl) dL_law_1018 ?_
  refine lv_aload_n C.1 C.2.1 dL_law_1019 rfl (lv_at hl 0 rfl) ?_
  refine lv_iload C.1 C.2.1 dL_law_1020 (lv_at hl 4 rfl) ?_
  refine lv_iconst (v := 4) C.1 C.2.1 dL_law_1022 (by decide) ?_
  refine lv_iadd C.1 C.2.1 dL_law_1023 ?_
  refine va_sld C.1 C.2.1 C.2.2.2.2.2.2.2.2.2.2.1 C.2.2.2.2.2.2.2.2.2.2.2 hbA hw.2.1 (lw_ix hL hi6 (by decide) (k := 4) rfl) dL_law_1024 ?_
  refine lv_aload_n C.1 C.2.1 dL_law_1025 rfl (lv_at hl 0 rfl) ?_
  refine lv_iload C.1 C.2.1 dL_law_1026 (lv_at hl 4 rfl) ?_
  refine lv_iconst (v := 5) C.1 C.2.1 dL_law_1028 (by decide) ?_
  refine lv_iadd C.1 C.2.1 dL_law_1029 ?_
  refine va_sld C.1 C.2.1 C.2.2.2.2.2.2.2.2.2.2.1 C.2.2.2.2.2.2.2.2.2.2.2 hbA hw.2.1 (lw_ix hL hi6 (by decide) (k := 5) rfl) dL_law_1030 ?_
  refine r_callL (As := [.int (xs (nI i + 1).toNatClampNeg), .int (xs (nI i + 2).toNatClampNeg), .int (xs (nI i + 3).toNatClampNeg), .int (xs (nI i + 4).toNatClampNeg), .int (xs (nI i + 5).toNatClampNeg)]) C hw (ok_X9_counts X l σ1 (xs (nI i + 1).toNatClampNeg) (xs (nI i + 2).toNatClampNeg) (xs (nI i + 3).toNatClampNeg) (xs (nI i + 4).toNatClampNeg) (xs (nI i + 5).toNatClampNeg) r σ2 h2) l_50 vc_9 gw_1346 gw_1343 gw_1344 gw_1345 gw_123 hl.1 pd_X9_counts ⟨Nat.le_of_ble_eq_true rfl, Nat.le_of_ble_eq_true rfl⟩ ⟨lw_c hi6 hL, lw_s hi6 hL⟩ (rest := [.int r]) (Nat.le_of_ble_eq_true rfl) dL_law_1031 rfl (fun H locs hw => ?_)
  refine lv_icmp_eq (tgt := 1114) C.1 C.2.1 dL_law_1034 (by decide) (fun c1 => ?_) (fun c1 => absurd rfl c1)
  refine W.widen (k := 58 + (i + 6)) (n := 14100 + 6 * (i + 6)) (by omega) (by omega) ?_
  exact hend σ2 hI2 _ _ hw ls (lv_sub hl [0, 1, 2, 3, 4] rfl)
set_option maxRecDepth 100000 in
set_option maxHeartbeats 4000000 in
theorem lc_21 {p : Program} {l : Launch} {e : Env} {s : State} {m : MethodId} {below : List Frame} {meth : Method} {c : Code} {X : Xc} {b L : Nat} {xs : Nat → Int32} {Inv : St → Prop} (hl0 : l.stackTraces = false) (hL : L ≤ 3072) (C : CxW p s m c X b L xs) (HS : StepsAll Inv) {i : Nat} (hi6 : i + 6 ≤ L) (hend : LEnd p l e s m below meth c X b Inv i) : LHead p l e s m below meth c X b Inv i 1039 := by
  intro σ hI H locs hw ls hl
  have hbA : ¬ A0 s b := Nat.not_le.mpr C.2.2.2.2.2.2.2.2.2.2.2
  obtain ⟨r, σ1, σ2, h1, h2, hI2⟩ := HS.2.2.2.2.2.2.2.2.2.2.2.2.2.2.2.2.2.2.2.2.2.1 σ hI (xs (nI i + 1).toNatClampNeg) (xs (nI i + 2).toNatClampNeg)
  refine lv_aload_n C.1 C.2.1 dL_law_1039 rfl (lv_at hl 1 rfl) ?_
  refine lv_aload_n C.1 C.2.1 dL_law_1040 rfl (lv_at hl 0 rfl) ?_
  refine lv_iload C.1 C.2.1 dL_law_1041 (lv_at hl 4 rfl) ?_
  refine lv_iconst (v := 1) C.1 C.2.1 dL_law_1043 (by decide) ?_
  refine lv_iadd C.1 C.2.1 dL_law_1044 ?_
  refine va_sld C.1 C.2.1 C.2.2.2.2.2.2.2.2.2.2.1 C.2.2.2.2.2.2.2.2.2.2.2 hbA hw.2.1 (lw_ix hL hi6 (by decide) (k := 1) rfl) dL_law_1045 ?_
  refine lv_aload_n C.1 C.2.1 dL_law_1046 rfl (lv_at hl 0 rfl) ?_
  refine lv_iload C.1 C.2.1 dL_law_1047 (lv_at hl 4 rfl) ?_
  refine lv_iconst (v := 2) C.1 C.2.1 dL_law_1049 (by decide) ?_
  refine lv_iadd C.1 C.2.1 dL_law_1050 ?_
  refine va_sld C.1 C.2.1 C.2.2.2.2.2.2.2.2.2.2.1 C.2.2.2.2.2.2.2.2.2.2.2 hbA hw.2.1 (lw_ix hL hi6 (by decide) (k := 2) rfl) dL_law_1051 ?_
  refine r_callL (As := [.int (xs (nI i + 1).toNatClampNeg), .int (xs (nI i + 2).toNatClampNeg)]) C hw (ok_X8_post X l σ (xs (nI i + 1).toNatClampNeg) (xs (nI i + 2).toNatClampNeg) r σ1 h1) l_0 vc_8 gw_865 gw_862 gw_863 gw_864 gw_114 hl.1 pd_X8_post ⟨Nat.le_of_ble_eq_true rfl, Nat.le_of_ble_eq_true rfl⟩ ⟨lw_c hi6 hL, lw_s hi6 hL⟩ (rest := []) (Nat.le_of_ble_eq_true rfl) dL_law_1052 rfl (fun H locs hw => ?_)
  refine lv_aload_n C.1 C.2.1 dL_law_1055 rfl (lv_at hl 2 rfl) ?_
  refine lv_aload_n C.1 C.2.1 dL_law_1056 rfl (lv_at hl 0 rfl) ?_
  refine lv_iload C.1 C.2.1 dL_law_1057 (lv_at hl 4 rfl) ?_
  refine lv_iconst (v := 1) C.1 C.2.1 dL_law_1059 (by decide) ?_
  refine lv_iadd C.1 C.2.1 dL_law_1060 ?_
  refine va_sld C.1 C.2.1 C.2.2.2.2.2.2.2.2.2.2.1 C.2.2.2.2.2.2.2.2.2.2.2 hbA hw.2.1 (lw_ix hL hi6 (by decide) (k := 1) rfl) dL_law_1061 ?_
  refine lv_aload_n C.1 C.2.1 dL_law_1062 rfl (lv_at hl 0 rfl) ?_
  refine lv_iload C.1 C.2.1 dL_law_1063 (lv_at hl 4 rfl) ?_
  refine lv_iconst (v := 2) C.1 C.2.1 dL_law_1065 (by decide) ?_
  refine lv_iadd C.1 C.2.1 dL_law_1066 ?_
  refine va_sld C.1 C.2.1 C.2.2.2.2.2.2.2.2.2.2.1 C.2.2.2.2.2.2.2.2.2.2.2 hbA hw.2.1 (lw_ix hL hi6 (by decide) (k := 2) rfl) dL_law_1067 ?_
  refine r_callL (As := [.int (xs (nI i + 1).toNatClampNeg), .int (xs (nI i + 2).toNatClampNeg)]) C hw (ok_X9_post X l σ1 (xs (nI i + 1).toNatClampNeg) (xs (nI i + 2).toNatClampNeg) r σ2 h2) l_50 vc_9 gw_1354 gw_1351 gw_1352 gw_1353 gw_123 hl.1 pd_X9_post ⟨Nat.le_of_ble_eq_true rfl, Nat.le_of_ble_eq_true rfl⟩ ⟨lw_c hi6 hL, lw_s hi6 hL⟩ (rest := [.int r]) (Nat.le_of_ble_eq_true rfl) dL_law_1068 rfl (fun H locs hw => ?_)
  refine lv_icmp_eq (tgt := 1114) C.1 C.2.1 dL_law_1071 (by decide) (fun c1 => ?_) (fun c1 => absurd rfl c1)
  refine W.widen (k := 58 + (i + 6)) (n := 14100 + 6 * (i + 6)) (by omega) (by omega) ?_
  exact hend σ2 hI2 _ _ hw ls (lv_sub hl [0, 1, 2, 3, 4] rfl)
set_option maxRecDepth 100000 in
set_option maxHeartbeats 4000000 in
theorem lc_22 {p : Program} {l : Launch} {e : Env} {s : State} {m : MethodId} {below : List Frame} {meth : Method} {c : Code} {X : Xc} {b L : Nat} {xs : Nat → Int32} {Inv : St → Prop} (hl0 : l.stackTraces = false) (hL : L ≤ 3072) (C : CxW p s m c X b L xs) (HS : StepsAll Inv) {i : Nat} (hi6 : i + 6 ≤ L) (hend : LEnd p l e s m below meth c X b Inv i) : LHead p l e s m below meth c X b Inv i 1076 := by
  intro σ hI H locs hw ls hl
  have hbA : ¬ A0 s b := Nat.not_le.mpr C.2.2.2.2.2.2.2.2.2.2.2
  obtain ⟨r, σ1, σ2, h1, h2, hI2⟩ := HS.2.2.2.2.2.2.2.2.2.2.2.2.2.2.2.2.2.2.2.2.2.2.1 σ hI (xs (nI i + 1).toNatClampNeg)
  refine lv_aload_n C.1 C.2.1 dL_law_1076 rfl (lv_at hl 1 rfl) ?_
  refine lv_aload_n C.1 C.2.1 dL_law_1077 rfl (lv_at hl 0 rfl) ?_
  refine lv_iload C.1 C.2.1 dL_law_1078 (lv_at hl 4 rfl) ?_
  refine lv_iconst (v := 1) C.1 C.2.1 dL_law_1080 (by decide) ?_
  refine lv_iadd C.1 C.2.1 dL_law_1081 ?_
  refine va_sld C.1 C.2.1 C.2.2.2.2.2.2.2.2.2.2.1 C.2.2.2.2.2.2.2.2.2.2.2 hbA hw.2.1 (lw_ix hL hi6 (by decide) (k := 1) rfl) dL_law_1082 ?_
  refine r_callL (As := [.int (xs (nI i + 1).toNatClampNeg)]) C hw (ok_X8_drop X l σ (xs (nI i + 1).toNatClampNeg) r σ1 h1) l_0 vc_8 gw_877 gw_874 gw_875 gw_876 gw_114 hl.1 pd_X8_drop ⟨Nat.le_of_ble_eq_true rfl, Nat.le_of_ble_eq_true rfl⟩ ⟨lw_c hi6 hL, lw_s hi6 hL⟩ (rest := []) (Nat.le_of_ble_eq_true rfl) dL_law_1083 rfl (fun H locs hw => ?_)
  refine lv_aload_n C.1 C.2.1 dL_law_1086 rfl (lv_at hl 2 rfl) ?_
  refine lv_aload_n C.1 C.2.1 dL_law_1087 rfl (lv_at hl 0 rfl) ?_
  refine lv_iload C.1 C.2.1 dL_law_1088 (lv_at hl 4 rfl) ?_
  refine lv_iconst (v := 1) C.1 C.2.1 dL_law_1090 (by decide) ?_
  refine lv_iadd C.1 C.2.1 dL_law_1091 ?_
  refine va_sld C.1 C.2.1 C.2.2.2.2.2.2.2.2.2.2.1 C.2.2.2.2.2.2.2.2.2.2.2 hbA hw.2.1 (lw_ix hL hi6 (by decide) (k := 1) rfl) dL_law_1092 ?_
  refine r_callL (As := [.int (xs (nI i + 1).toNatClampNeg)]) C hw (ok_X9_drop X l σ1 (xs (nI i + 1).toNatClampNeg) r σ2 h2) l_50 vc_9 gw_1358 gw_1355 gw_1356 gw_1357 gw_123 hl.1 pd_X9_drop ⟨Nat.le_of_ble_eq_true rfl, Nat.le_of_ble_eq_true rfl⟩ ⟨lw_c hi6 hL, lw_s hi6 hL⟩ (rest := [.int (b2i r)]) (Nat.le_of_ble_eq_true rfl) dL_law_1093 rfl (fun H locs hw => ?_)
  refine lv_icmp_eq (tgt := 1114) C.1 C.2.1 dL_law_1096 (by decide) (fun c1 => ?_) (fun c1 => absurd rfl c1)
  refine W.widen (k := 58 + (i + 6)) (n := 14100 + 6 * (i + 6)) (by omega) (by omega) ?_
  exact hend σ2 hI2 _ _ hw ls (lv_sub hl [0, 1, 2, 3, 4] rfl)
set_option maxRecDepth 100000 in
set_option maxHeartbeats 4000000 in
theorem lc_23 {p : Program} {l : Launch} {e : Env} {s : State} {m : MethodId} {below : List Frame} {meth : Method} {c : Code} {X : Xc} {b L : Nat} {xs : Nat → Int32} {Inv : St → Prop} (hl0 : l.stackTraces = false) (hL : L ≤ 3072) (C : CxW p s m c X b L xs) (HS : StepsAll Inv) {i : Nat} (hi6 : i + 6 ≤ L) (hend : LEnd p l e s m below meth c X b Inv i) : LHead p l e s m below meth c X b Inv i 1101 := by
  intro σ hI H locs hw ls hl
  have hbA : ¬ A0 s b := Nat.not_le.mpr C.2.2.2.2.2.2.2.2.2.2.2
  obtain ⟨r, σ1, σ2, h1, h2, hI2⟩ := HS.2.2.2.2.2.2.2.2.2.2.2.2.2.2.2.2.2.2.2.2.2.2.2 σ hI
  refine lv_aload_n C.1 C.2.1 dL_law_1101 rfl (lv_at hl 1 rfl) ?_
  refine r_callL (As := []) C hw (ok_X8_undo X l σ r σ1 h1) l_0 vc_8 gw_886 gw_883 gw_884 gw_885 gw_114 hl.1 pd_X8_undo ⟨Nat.le_of_ble_eq_true rfl, Nat.le_of_ble_eq_true rfl⟩ ⟨lw_c hi6 hL, lw_s hi6 hL⟩ (rest := []) (Nat.le_of_ble_eq_true rfl) dL_law_1102 rfl (fun H locs hw => ?_)
  refine lv_aload_n C.1 C.2.1 dL_law_1105 rfl (lv_at hl 2 rfl) ?_
  refine r_callL (As := []) C hw (ok_X9_undo X l σ1 r σ2 h2) l_50 vc_9 gw_1362 gw_1359 gw_1360 gw_1361 gw_123 hl.1 pd_X9_undo ⟨Nat.le_of_ble_eq_true rfl, Nat.le_of_ble_eq_true rfl⟩ ⟨lw_c hi6 hL, lw_s hi6 hL⟩ (rest := [.int r]) (Nat.le_of_ble_eq_true rfl) dL_law_1106 rfl (fun H locs hw => ?_)
  refine lv_icmp_eq (tgt := 1114) C.1 C.2.1 dL_law_1109 (by decide) (fun c1 => ?_) (fun c1 => absurd rfl c1)
  refine W.widen (k := 58 + (i + 6)) (n := 14100 + 6 * (i + 6)) (by omega) (by omega) ?_
  exact hend σ2 hI2 _ _ hw ls (lv_sub hl [0, 1, 2, 3, 4] rfl)
set_option maxRecDepth 100000 in
set_option maxHeartbeats 4000000 in
theorem law_loop {p : Program} {l : Launch} {e : Env} {s : State} {m : MethodId} {below : List Frame} {meth : Method} {c : Code} {X : Xc} {b L : Nat} {xs : Nat → Int32} {Inv : St → Prop} (hl0 : l.stackTraces = false) (hL : L ≤ 3072) (hr : meth.sig.returnType = ret) (hlocks : meth.locks = false) (C : CxW p s m c X b L xs) (HS : StepsAll Inv) :
    ∀ (n i : Nat), i ≤ 3078 → 3079 ≤ i + n → LHead p l e s m below meth c X b Inv i 23 := by
  have hbA : ¬ A0 s b := Nat.not_le.mpr C.2.2.2.2.2.2.2.2.2.2.2
  intro n
  induction n with
  | zero =>
    intro i h1 h2
    exact absurd h2 (by omega)
  | succ n ih =>
    intro i hi hin σ hI H locs hw ls hl
    refine lv_iload C.1 C.2.1 dL_law_23 (lv_at hl 4 rfl) ?_
    refine lv_aload_n C.1 C.2.1 dL_law_25 rfl (lv_at hl 0 rfl) ?_
    refine va_slen C.1 C.2.1 C.2.2.2.2.2.2.2.2.2.2.1 C.2.2.2.2.2.2.2.2.2.2.2 hbA hw.2.1 dL_law_26 ?_
    refine lv_bipush (v := 6) C.1 C.2.1 dL_law_27 (by decide) ?_
    refine lv_isub C.1 C.2.1 dL_law_29 ?_
    refine lv_icmp_gt (tgt := 1120) C.1 C.2.1 dL_law_30 (by decide) (fun c1 => ?_) (fun c1 => ?_)
    · refine lv_iconst (v := 1) C.1 C.2.1 dL_law_1120 (by decide) ?_
      refine va_forget (fun q hq => hw.2.1.2.2 q hq) ?_
      refine W.widen (k := 601024) (n := 7293034) (by omega) (by omega) ?_
      exact W.base (lw_ret (d0 := s.drawn) (Drawn.sameBut.refl s.drawn lw_cs) C.1 C.2.1 hr hlocks dL_law_1121)
    · have hi6 : i + 6 ≤ L := lw_more hL hi c1
      have hend : LEnd p l e s m below meth c X b Inv i := by
        intro σ hI H locs hw ls hl
        refine lv_iinc (v := nI (i + 6)) (lv' := [(4, .int (nI (i + 6))), (0, .ref b), (1, .ref (X.2.1 0)), (2, .ref (X.2.1 50)), (3, .ref (X.2.1 57))]) C.1 C.2.1 dL_law_1114 hl (k := 4) rfl (nI_add i 6) (by decide) rfl (fun ls hl => ?_)
        refine lv_goto (tgt := 23) C.1 C.2.1 dL_law_1117 (by decide) ?_
        exact ih (i + 6) (by omega) (by omega) σ hI _ _ hw ls (lv_sub hl [1, 2, 3, 4, 0] rfl)
      refine lv_aload_n C.1 C.2.1 dL_law_33 rfl (lv_at hl 0 rfl) ?_
      refine lv_iload C.1 C.2.1 dL_law_34 (lv_at hl 4 rfl) ?_
      refine va_sld C.1 C.2.1 C.2.2.2.2.2.2.2.2.2.2.1 C.2.2.2.2.2.2.2.2.2.2.2 hbA hw.2.1 (vp_in_nI (by omega) (by omega)) dL_law_36 ?_
      refine lv_bipush (v := 31) C.1 C.2.1 dL_law_37 (by decide) ?_
      refine lv_iand C.1 C.2.1 dL_law_39 ?_
      generalize xs (nI i).toNatClampNeg &&& 31 = z
      by_cases c_0 : z = 0
      · refine lv_tableIn (tgt := 152) C.1 C.2.1 dL_law_40 (by rw [c_0]; decide) (by rw [c_0]; decide) (by rw [c_0]; rfl) (by decide) ?_
        exact lc_0 hl0 hL C HS hi6 hend σ hI _ _ hw ls hl
      by_cases c_1 : z = 1
      · refine lv_tableIn (tgt := 225) C.1 C.2.1 dL_law_40 (by rw [c_1]; decide) (by rw [c_1]; decide) (by rw [c_1]; rfl) (by decide) ?_
        exact lc_1 hl0 hL C HS hi6 hend σ hI _ _ hw ls hl
      by_cases c_2 : z = 2
      · refine lv_tableIn (tgt := 250) C.1 C.2.1 dL_law_40 (by rw [c_2]; decide) (by rw [c_2]; decide) (by rw [c_2]; rfl) (by decide) ?_
        exact lc_2 hl0 hL C HS hi6 hend σ hI _ _ hw ls hl
      by_cases c_3 : z = 3
      · refine lv_tableIn (tgt := 263) C.1 C.2.1 dL_law_40 (by rw [c_3]; decide) (by rw [c_3]; decide) (by rw [c_3]; rfl) (by decide) ?_
        exact lc_3 hl0 hL C HS hi6 hend σ hI _ _ hw ls hl
      by_cases c_4 : z = 4
      · refine lv_tableIn (tgt := 276) C.1 C.2.1 dL_law_40 (by rw [c_4]; decide) (by rw [c_4]; decide) (by rw [c_4]; rfl) (by decide) ?_
        exact lc_4 hl0 hL C HS hi6 hend σ hI _ _ hw ls hl
      by_cases c_5 : z = 5
      · refine lv_tableIn (tgt := 301) C.1 C.2.1 dL_law_40 (by rw [c_5]; decide) (by rw [c_5]; decide) (by rw [c_5]; rfl) (by decide) ?_
        exact lc_5 hl0 hL C HS hi6 hend σ hI _ _ hw ls hl
      by_cases c_6 : z = 6
      · refine lv_tableIn (tgt := 338) C.1 C.2.1 dL_law_40 (by rw [c_6]; decide) (by rw [c_6]; decide) (by rw [c_6]; rfl) (by decide) ?_
        exact lc_6 hl0 hL C HS hi6 hend σ hI _ _ hw ls hl
      by_cases c_7 : z = 7
      · refine lv_tableIn (tgt := 406) C.1 C.2.1 dL_law_40 (by rw [c_7]; decide) (by rw [c_7]; decide) (by rw [c_7]; rfl) (by decide) ?_
        exact lc_7 hl0 hL C HS hi6 hend σ hI _ _ hw ls hl
      by_cases c_8 : z = 8
      · refine lv_tableIn (tgt := 467) C.1 C.2.1 dL_law_40 (by rw [c_8]; decide) (by rw [c_8]; decide) (by rw [c_8]; rfl) (by decide) ?_
        exact lc_8 hl0 hL C HS hi6 hend σ hI _ _ hw ls hl
      by_cases c_9 : z = 9
      · refine lv_tableIn (tgt := 516) C.1 C.2.1 dL_law_40 (by rw [c_9]; decide) (by rw [c_9]; decide) (by rw [c_9]; rfl) (by decide) ?_
        exact lc_9 hl0 hL C HS hi6 hend σ hI _ _ hw ls hl
      by_cases c_10 : z = 10
      · refine lv_tableIn (tgt := 553) C.1 C.2.1 dL_law_40 (by rw [c_10]; decide) (by rw [c_10]; decide) (by rw [c_10]; rfl) (by decide) ?_
        exact lc_10 hl0 hL C HS hi6 hend σ hI _ _ hw ls hl
      by_cases c_11 : z = 11
      · refine lv_tableIn (tgt := 621) C.1 C.2.1 dL_law_40 (by rw [c_11]; decide) (by rw [c_11]; decide) (by rw [c_11]; rfl) (by decide) ?_
        exact lc_11 hl0 hL C HS hi6 hend σ hI _ _ hw ls hl
      by_cases c_12 : z = 12
      · refine lv_tableIn (tgt := 646) C.1 C.2.1 dL_law_40 (by rw [c_12]; decide) (by rw [c_12]; decide) (by rw [c_12]; rfl) (by decide) ?_
        exact lc_12 hl0 hL C HS hi6 hend σ hI _ _ hw ls hl
      by_cases c_13 : z = 13
      · refine lv_tableIn (tgt := 671) C.1 C.2.1 dL_law_40 (by rw [c_13]; decide) (by rw [c_13]; decide) (by rw [c_13]; rfl) (by decide) ?_
        exact lc_13 hl0 hL C HS hi6 hend σ hI _ _ hw ls hl
      by_cases c_14 : z = 14
      · refine lv_tableIn (tgt := 708) C.1 C.2.1 dL_law_40 (by rw [c_14]; decide) (by rw [c_14]; decide) (by rw [c_14]; rfl) (by decide) ?_
        exact lc_14 hl0 hL C HS hi6 hend σ hI _ _ hw ls hl
      by_cases c_15 : z = 15
      · refine lv_tableIn (tgt := 721) C.1 C.2.1 dL_law_40 (by rw [c_15]; decide) (by rw [c_15]; decide) (by rw [c_15]; rfl) (by decide) ?_
        exact lc_15 hl0 hL C HS hi6 hend σ hI _ _ hw ls hl
      by_cases c_16 : z = 16
      · refine lv_tableIn (tgt := 758) C.1 C.2.1 dL_law_40 (by rw [c_16]; decide) (by rw [c_16]; decide) (by rw [c_16]; rfl) (by decide) ?_
        exact lc_16 hl0 hL C HS hi6 hend σ hI _ _ hw ls hl
      by_cases c_17 : z = 17
      · refine lv_tableIn (tgt := 795) C.1 C.2.1 dL_law_40 (by rw [c_17]; decide) (by rw [c_17]; decide) (by rw [c_17]; rfl) (by decide) ?_
        exact lc_17 hl0 hL C HS hi6 hend σ hI _ _ hw ls hl
      by_cases c_18 : z = 18
      · refine lv_tableIn (tgt := 832) C.1 C.2.1 dL_law_40 (by rw [c_18]; decide) (by rw [c_18]; decide) (by rw [c_18]; rfl) (by decide) ?_
        exact lc_18 hl0 hL C HS hi6 hend σ hI _ _ hw ls hl
      by_cases c_19 : z = 19
      · refine lv_tableIn (tgt := 905) C.1 C.2.1 dL_law_40 (by rw [c_19]; decide) (by rw [c_19]; decide) (by rw [c_19]; rfl) (by decide) ?_
        exact lc_19 hl0 hL C HS hi6 hend σ hI _ _ hw ls hl
      by_cases c_20 : z = 20
      · refine lv_tableIn (tgt := 966) C.1 C.2.1 dL_law_40 (by rw [c_20]; decide) (by rw [c_20]; decide) (by rw [c_20]; rfl) (by decide) ?_
        exact lc_20 hl0 hL C HS hi6 hend σ hI _ _ hw ls hl
      by_cases c_21 : z = 21
      · refine lv_tableIn (tgt := 1039) C.1 C.2.1 dL_law_40 (by rw [c_21]; decide) (by rw [c_21]; decide) (by rw [c_21]; rfl) (by decide) ?_
        exact lc_21 hl0 hL C HS hi6 hend σ hI _ _ hw ls hl
      by_cases c_22 : z = 22
      · refine lv_tableIn (tgt := 1076) C.1 C.2.1 dL_law_40 (by rw [c_22]; decide) (by rw [c_22]; decide) (by rw [c_22]; rfl) (by decide) ?_
        exact lc_22 hl0 hL C HS hi6 hend σ hI _ _ hw ls hl
      by_cases c_23 : z = 23
      · refine lv_tableIn (tgt := 1101) C.1 C.2.1 dL_law_40 (by rw [c_23]; decide) (by rw [c_23]; decide) (by rw [c_23]; rfl) (by decide) ?_
        exact lc_23 hl0 hL C HS hi6 hend σ hI _ _ hw ls hl
      refine sw_out (ts := 1114) C.1 C.2.1 dL_law_40 [0, 1, 2, 3, 4, 5, 6, 7, 8, 9, 10, 11, 12, 13, 14, 15, 16, 17, 18, 19, 20, 21, 22, 23] (by decide) (by decide) (List.forall_mem_cons.mpr ⟨c_0, (List.forall_mem_cons.mpr ⟨c_1, (List.forall_mem_cons.mpr ⟨c_2, (List.forall_mem_cons.mpr ⟨c_3, (List.forall_mem_cons.mpr ⟨c_4, (List.forall_mem_cons.mpr ⟨c_5, (List.forall_mem_cons.mpr ⟨c_6, (List.forall_mem_cons.mpr ⟨c_7, (List.forall_mem_cons.mpr ⟨c_8, (List.forall_mem_cons.mpr ⟨c_9, (List.forall_mem_cons.mpr ⟨c_10, (List.forall_mem_cons.mpr ⟨c_11, (List.forall_mem_cons.mpr ⟨c_12, (List.forall_mem_cons.mpr ⟨c_13, (List.forall_mem_cons.mpr ⟨c_14, (List.forall_mem_cons.mpr ⟨c_15, (List.forall_mem_cons.mpr ⟨c_16, (List.forall_mem_cons.mpr ⟨c_17, (List.forall_mem_cons.mpr ⟨c_18, (List.forall_mem_cons.mpr ⟨c_19, (List.forall_mem_cons.mpr ⟨c_20, (List.forall_mem_cons.mpr ⟨c_21, (List.forall_mem_cons.mpr ⟨c_22, (List.forall_mem_cons.mpr ⟨c_23, fun _ h => absurd h List.not_mem_nil⟩)⟩)⟩)⟩)⟩)⟩)⟩)⟩)⟩)⟩)⟩)⟩)⟩)⟩)⟩)⟩)⟩)⟩)⟩)⟩)⟩)⟩)⟩)⟩) (by decide) ?_
      refine W.widen (k := 58 + (i + 6)) (n := 14100 + 6 * (i + 6)) (by omega) (by omega) ?_
      exact hend σ hI _ _ hw ls hl
