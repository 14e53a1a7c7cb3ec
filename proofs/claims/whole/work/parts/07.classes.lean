/-! cells by number, classes, words of fields, descriptors -/
theorem l_0 : lay[0]? = some (.inl (8, [5, 2, 3, 28, 35, 40, 52])) := rfl
theorem l_1 : lay[1]? = some (.inl (7, [5, 0, 0, 0, 0, 0, 0, 0])) := rfl
theorem l_2 : lay[2]? = some (.inl (6, [0, 5, 0, 6, 7])) := rfl
theorem l_3 : lay[3]? = some (.inr (0, 640)) := rfl
theorem l_4 : lay[4]? = some (.inr (1, 601)) := rfl
theorem l_5 : lay[5]? = some (.inr (1, 601)) := rfl
theorem l_6 : lay[6]? = some (.inl (4, [0, 0, 0, 5, 6, 7, 8, 9, 10, 11, 12])) := rfl
theorem l_7 : lay[7]? = some (.inr (1, 5)) := rfl
theorem l_8 : lay[8]? = some (.inr (1, 5)) := rfl
theorem l_9 : lay[9]? = some (.inr (1, 30)) := rfl
theorem l_10 : lay[10]? = some (.inr (1, 40)) := rfl
theorem l_11 : lay[11]? = some (.inr (1, 40)) := rfl
theorem l_12 : lay[12]? = some (.inr (1, 80)) := rfl
theorem l_13 : lay[13]? = some (.inr (1, 80)) := rfl
theorem l_14 : lay[14]? = some (.inr (1, 80)) := rfl
theorem l_15 : lay[15]? = some (.inl (4, [0, 0, 0, 5, 6, 7, 8, 9, 10, 11, 12])) := rfl
theorem l_16 : lay[16]? = some (.inr (1, 5)) := rfl
theorem l_17 : lay[17]? = some (.inr (1, 5)) := rfl
theorem l_18 : lay[18]? = some (.inr (1, 30)) := rfl
theorem l_19 : lay[19]? = some (.inr (1, 40)) := rfl
theorem l_20 : lay[20]? = some (.inr (1, 40)) := rfl
theorem l_21 : lay[21]? = some (.inr (1, 80)) := rfl
theorem l_22 : lay[22]? = some (.inr (1, 80)) := rfl
theorem l_23 : lay[23]? = some (.inr (1, 80)) := rfl
theorem l_24 : lay[24]? = some (.inl (3, [0, 5, 6, 7, 8, 9, 10])) := rfl
theorem l_25 : lay[25]? = some (.inr (1, 40)) := rfl
theorem l_26 : lay[26]? = some (.inr (1, 40)) := rfl
theorem l_27 : lay[27]? = some (.inr (1, 40)) := rfl
theorem l_28 : lay[28]? = some (.inr (1, 40)) := rfl
theorem l_29 : lay[29]? = some (.inr (1, 40)) := rfl
theorem l_30 : lay[30]? = some (.inr (2, 40)) := rfl
theorem l_31 : lay[31]? = some (.inl (1, [0, 5, 6, 7, 8])) := rfl
theorem l_32 : lay[32]? = some (.inr (1, 40)) := rfl
theorem l_33 : lay[33]? = some (.inr (1, 40)) := rfl
theorem l_34 : lay[34]? = some (.inr (1, 40)) := rfl
theorem l_35 : lay[35]? = some (.inr (1, 40)) := rfl
theorem l_36 : lay[36]? = some (.inl (5, [0, 0, 5])) := rfl
theorem l_37 : lay[37]? = some (.inr (4, 10)) := rfl
theorem l_38 : lay[38]? = some (.inl (0, [0, 0, 0, 0, 0, 0, 0, 0, 0, 1])) := rfl
theorem l_39 : lay[39]? = some (.inl (0, [0, 0, 0, 0, 0, 0, 0, 0, 0, 1])) := rfl
theorem l_40 : lay[40]? = some (.inl (0, [0, 0, 0, 0, 0, 0, 0, 0, 0, 1])) := rfl
theorem l_41 : lay[41]? = some (.inl (0, [0, 0, 0, 0, 0, 0, 0, 0, 0, 1])) := rfl
theorem l_42 : lay[42]? = some (.inl (0, [0, 0, 0, 0, 0, 0, 0, 0, 0, 1])) := rfl
theorem l_43 : lay[43]? = some (.inl (0, [0, 0, 0, 0, 0, 0, 0, 0, 0, 1])) := rfl
theorem l_44 : lay[44]? = some (.inl (0, [0, 0, 0, 0, 0, 0, 0, 0, 0, 1])) := rfl
theorem l_45 : lay[45]? = some (.inl (0, [0, 0, 0, 0, 0, 0, 0, 0, 0, 1])) := rfl
theorem l_46 : lay[46]? = some (.inl (0, [0, 0, 0, 0, 0, 0, 0, 0, 0, 1])) := rfl
theorem l_47 : lay[47]? = some (.inl (0, [0, 0, 0, 0, 0, 0, 0, 0, 0, 1])) := rfl
theorem l_48 : lay[48]? = some (.inl (2, [0, 0, 0, 0, 5])) := rfl
theorem l_49 : lay[49]? = some (.inr (1, 10)) := rfl
theorem l_50 : lay[50]? = some (.inl (9, [0, 5, 0, 0, 0, 0, 0, 0, 0, 0, 1, 6, 7, 8, 0, 0, 0, 0, 9, 0, 10])) := rfl
theorem l_51 : lay[51]? = some (.inr (1, 640)) := rfl
theorem l_52 : lay[52]? = some (.inr (1, 845)) := rfl
theorem l_53 : lay[53]? = some (.inr (1, 845)) := rfl
theorem l_54 : lay[54]? = some (.inr (1, 8450)) := rfl
theorem l_55 : lay[55]? = some (.inr (1, 40)) := rfl
theorem l_56 : lay[56]? = some (.inr (1, 80)) := rfl
theorem l_57 : lay[57]? = some (.inr (3, 1)) := rfl
theorem lg_0 {g : Nat} (h : isG g) : lay[g]? = some (.inl (4, [0, 0, 0, 5, 6, 7, 8, 9, 10, 11, 12])) := by rcases h with rfl | rfl <;> rfl
theorem lg_1 {g : Nat} (h : isG g) : lay[g + 1]? = some (.inr (1, 5)) := by rcases h with rfl | rfl <;> rfl
theorem lg_2 {g : Nat} (h : isG g) : lay[g + 2]? = some (.inr (1, 5)) := by rcases h with rfl | rfl <;> rfl
theorem lg_3 {g : Nat} (h : isG g) : lay[g + 3]? = some (.inr (1, 30)) := by rcases h with rfl | rfl <;> rfl
theorem lg_4 {g : Nat} (h : isG g) : lay[g + 4]? = some (.inr (1, 40)) := by rcases h with rfl | rfl <;> rfl
theorem lg_5 {g : Nat} (h : isG g) : lay[g + 5]? = some (.inr (1, 40)) := by rcases h with rfl | rfl <;> rfl
theorem lg_6 {g : Nat} (h : isG g) : lay[g + 6]? = some (.inr (1, 80)) := by rcases h with rfl | rfl <;> rfl
theorem lg_7 {g : Nat} (h : isG g) : lay[g + 7]? = some (.inr (1, 80)) := by rcases h with rfl | rfl <;> rfl
theorem lg_8 {g : Nat} (h : isG g) : lay[g + 8]? = some (.inr (1, 80)) := by rcases h with rfl | rfl <;> rfl
def isA (a : Nat) : Prop := 38 ≤ a ∧ a < 48
theorem isA_of {v : Nat} (h : v < 10) : isA (37 + 1 + v) := ⟨by omega, by omega⟩
theorem la_o {a : Nat} (h : isA a) : lay[a]? = some (.inl (0, [0, 0, 0, 0, 0, 0, 0, 0, 0, 1])) := by
  obtain ⟨h1, h2⟩ := h
  rcases (show a = 38 ∨ a = 39 ∨ a = 40 ∨ a = 41 ∨ a = 42 ∨ a = 43 ∨ a = 44 ∨ a = 45 ∨ a = 46 ∨ a = 47 by omega) with rfl | rfl | rfl | rfl | rfl | rfl | rfl | rfl | rfl | rfl <;> rfl
theorem vc_0 : vwCl[0]? = some (RX0, TX0, 10) := rfl
theorem kX0 : ∀ w ∈ u_ws RX0 TX0 10, w ∈ GW := by
  intro w hw
  obtain ⟨k, hk, rfl⟩ := List.mem_map.mp hw
  have hk := List.mem_range.mp hk
  match k, hk with
  | 0, _ => exact gw_350
  | 1, _ => exact gw_352
  | 2, _ => exact gw_354
  | 3, _ => exact gw_356
  | 4, _ => exact gw_358
  | 5, _ => exact gw_360
  | 6, _ => exact gw_362
  | 7, _ => exact gw_364
  | 8, _ => exact gw_366
  | 9, _ => exact gw_368
  | k + 10, h => exact absurd h (by omega)
theorem vc_1 : vwCl[1]? = some (RX1, TX1, 5) := rfl
theorem kX1 : ∀ w ∈ u_ws RX1 TX1 5, w ∈ GW := by
  intro w hw
  obtain ⟨k, hk, rfl⟩ := List.mem_map.mp hw
  have hk := List.mem_range.mp hk
  match k, hk with
  | 0, _ => exact gw_314
  | 1, _ => exact gw_316
  | 2, _ => exact gw_318
  | 3, _ => exact gw_320
  | 4, _ => exact gw_322
  | k + 5, h => exact absurd h (by omega)
theorem vc_2 : vwCl[2]? = some (RX2, TX2, 5) := rfl
theorem kX2 : ∀ w ∈ u_ws RX2 TX2 5, w ∈ GW := by
  intro w hw
  obtain ⟨k, hk, rfl⟩ := List.mem_map.mp hw
  have hk := List.mem_range.mp hk
  match k, hk with
  | 0, _ => exact gw_397
  | 1, _ => exact gw_399
  | 2, _ => exact gw_401
  | 3, _ => exact gw_403
  | 4, _ => exact gw_405
  | k + 5, h => exact absurd h (by omega)
theorem vc_3 : vwCl[3]? = some (RX3, TX3, 7) := rfl
theorem kX3 : ∀ w ∈ u_ws RX3 TX3 7, w ∈ GW := by
  intro w hw
  obtain ⟨k, hk, rfl⟩ := List.mem_map.mp hw
  have hk := List.mem_range.mp hk
  match k, hk with
  | 0, _ => exact gw_282
  | 1, _ => exact gw_284
  | 2, _ => exact gw_286
  | 3, _ => exact gw_288
  | 4, _ => exact gw_290
  | 5, _ => exact gw_292
  | 6, _ => exact gw_294
  | k + 7, h => exact absurd h (by omega)
theorem vc_4 : vwCl[4]? = some (RX4, TX4, 11) := rfl
theorem kX4 : ∀ w ∈ u_ws RX4 TX4 11, w ∈ GW := by
  intro w hw
  obtain ⟨k, hk, rfl⟩ := List.mem_map.mp hw
  have hk := List.mem_range.mp hk
  match k, hk with
  | 0, _ => exact gw_239
  | 1, _ => exact gw_241
  | 2, _ => exact gw_243
  | 3, _ => exact gw_245
  | 4, _ => exact gw_247
  | 5, _ => exact gw_249
  | 6, _ => exact gw_251
  | 7, _ => exact gw_253
  | 8, _ => exact gw_255
  | 9, _ => exact gw_257
  | 10, _ => exact gw_259
  | k + 11, h => exact absurd h (by omega)
theorem vc_5 : vwCl[5]? = some (RX5, TX5, 3) := rfl
theorem kX5 : ∀ w ∈ u_ws RX5 TX5 3, w ∈ GW := by
  intro w hw
  obtain ⟨k, hk, rfl⟩ := List.mem_map.mp hw
  have hk := List.mem_range.mp hk
  match k, hk with
  | 0, _ => exact gw_375
  | 1, _ => exact gw_377
  | 2, _ => exact gw_379
  | k + 3, h => exact absurd h (by omega)
theorem vc_6 : vwCl[6]? = some (RX6, TX6, 5) := rfl
theorem kX6 : ∀ w ∈ u_ws RX6 TX6 5, w ∈ GW := by
  intro w hw
  obtain ⟨k, hk, rfl⟩ := List.mem_map.mp hw
  have hk := List.mem_range.mp hk
  match k, hk with
  | 0, _ => exact gw_163
  | 1, _ => exact gw_165
  | 2, _ => exact gw_167
  | 3, _ => exact gw_169
  | 4, _ => exact gw_171
  | k + 5, h => exact absurd h (by omega)
theorem vc_7 : vwCl[7]? = some (RX7, TX7, 8) := rfl
theorem kX7 : ∀ w ∈ u_ws RX7 TX7 8, w ∈ GW := by
  intro w hw
  obtain ⟨k, hk, rfl⟩ := List.mem_map.mp hw
  have hk := List.mem_range.mp hk
  match k, hk with
  | 0, _ => exact gw_188
  | 1, _ => exact gw_190
  | 2, _ => exact gw_192
  | 3, _ => exact gw_194
  | 4, _ => exact gw_196
  | 5, _ => exact gw_198
  | 6, _ => exact gw_200
  | 7, _ => exact gw_202
  | k + 8, h => exact absurd h (by omega)
theorem vc_8 : vwCl[8]? = some (RX8, TX8, 7) := rfl
theorem kX8 : ∀ w ∈ u_ws RX8 TX8 7, w ∈ GW := by
  intro w hw
  obtain ⟨k, hk, rfl⟩ := List.mem_map.mp hw
  have hk := List.mem_range.mp hk
  match k, hk with
  | 0, _ => exact gw_415
  | 1, _ => exact gw_417
  | 2, _ => exact gw_419
  | 3, _ => exact gw_421
  | 4, _ => exact gw_423
  | 5, _ => exact gw_425
  | 6, _ => exact gw_427
  | k + 7, h => exact absurd h (by omega)
theorem vc_9 : vwCl[9]? = some (RX9, TX9, 21) := rfl
theorem kX9 : ∀ w ∈ u_ws RX9 TX9 21, w ∈ GW := by
  intro w hw
  obtain ⟨k, hk, rfl⟩ := List.mem_map.mp hw
  have hk := List.mem_range.mp hk
  match k, hk with
  | 0, _ => exact gw_1035
  | 1, _ => exact gw_1037
  | 2, _ => exact gw_1039
  | 3, _ => exact gw_1041
  | 4, _ => exact gw_1043
  | 5, _ => exact gw_1045
  | 6, _ => exact gw_1047
  | 7, _ => exact gw_1049
  | 8, _ => exact gw_1051
  | 9, _ => exact gw_1053
  | 10, _ => exact gw_1055
  | 11, _ => exact gw_1057
  | 12, _ => exact gw_1059
  | 13, _ => exact gw_1061
  | 14, _ => exact gw_1063
  | 15, _ => exact gw_1065
  | 16, _ => exact gw_1067
  | 17, _ => exact gw_1069
  | 18, _ => exact gw_1071
  | 19, _ => exact gw_1073
  | 20, _ => exact gw_1075
  | k + 21, h => exact absurd h (by omega)
theorem pd_X8_init : yX8_init.cls ≠ "java/lang/invoke/MethodHandle" ∧ yX8_init.cls ≠ "java/lang/invoke/VarHandle" ∧ (parseMethodDescriptor yX8_init.desc).map (fun d => d.parameters.length) = some 0 := by decide +kernel
theorem pd_X8_feed : yX8_feed.cls ≠ "java/lang/invoke/MethodHandle" ∧ yX8_feed.cls ≠ "java/lang/invoke/VarHandle" ∧ (parseMethodDescriptor yX8_feed.desc).map (fun d => d.parameters.length) = some 5 := by decide +kernel
theorem pd_X8_end : yX8_end.cls ≠ "java/lang/invoke/MethodHandle" ∧ yX8_end.cls ≠ "java/lang/invoke/VarHandle" ∧ (parseMethodDescriptor yX8_end.desc).map (fun d => d.parameters.length) = some 1 := by decide +kernel
theorem pd_X8_text : yX8_text.cls ≠ "java/lang/invoke/MethodHandle" ∧ yX8_text.cls ≠ "java/lang/invoke/VarHandle" ∧ (parseMethodDescriptor yX8_text.desc).map (fun d => d.parameters.length) = some 0 := by decide +kernel
theorem pd_X8_fault : yX8_fault.cls ≠ "java/lang/invoke/MethodHandle" ∧ yX8_fault.cls ≠ "java/lang/invoke/VarHandle" ∧ (parseMethodDescriptor yX8_fault.desc).map (fun d => d.parameters.length) = some 0 := by decide +kernel
theorem pd_X8_now : yX8_now.cls ≠ "java/lang/invoke/MethodHandle" ∧ yX8_now.cls ≠ "java/lang/invoke/VarHandle" ∧ (parseMethodDescriptor yX8_now.desc).map (fun d => d.parameters.length) = some 1 := by decide +kernel
theorem pd_X8_item : yX8_item.cls ≠ "java/lang/invoke/MethodHandle" ∧ yX8_item.cls ≠ "java/lang/invoke/VarHandle" ∧ (parseMethodDescriptor yX8_item.desc).map (fun d => d.parameters.length) = some 2 := by decide +kernel
theorem pd_X8_move : yX8_move.cls ≠ "java/lang/invoke/MethodHandle" ∧ yX8_move.cls ≠ "java/lang/invoke/VarHandle" ∧ (parseMethodDescriptor yX8_move.desc).map (fun d => d.parameters.length) = some 2 := by decide +kernel
theorem pd_X8_book : yX8_book.cls ≠ "java/lang/invoke/MethodHandle" ∧ yX8_book.cls ≠ "java/lang/invoke/VarHandle" ∧ (parseMethodDescriptor yX8_book.desc).map (fun d => d.parameters.length) = some 4 := by decide +kernel
theorem pd_X8_transit : yX8_transit.cls ≠ "java/lang/invoke/MethodHandle" ∧ yX8_transit.cls ≠ "java/lang/invoke/VarHandle" ∧ (parseMethodDescriptor yX8_transit.desc).map (fun d => d.parameters.length) = some 3 := by decide +kernel
theorem pd_X8_below : yX8_below.cls ≠ "java/lang/invoke/MethodHandle" ∧ yX8_below.cls ≠ "java/lang/invoke/VarHandle" ∧ (parseMethodDescriptor yX8_below.desc).map (fun d => d.parameters.length) = some 2 := by decide +kernel
theorem pd_X8_count : yX8_count.cls ≠ "java/lang/invoke/MethodHandle" ∧ yX8_count.cls ≠ "java/lang/invoke/VarHandle" ∧ (parseMethodDescriptor yX8_count.desc).map (fun d => d.parameters.length) = some 2 := by decide +kernel
theorem pd_X8_difference : yX8_difference.cls ≠ "java/lang/invoke/MethodHandle" ∧ yX8_difference.cls ≠ "java/lang/invoke/VarHandle" ∧ (parseMethodDescriptor yX8_difference.desc).map (fun d => d.parameters.length) = some 1 := by decide +kernel
theorem pd_X8_share : yX8_share.cls ≠ "java/lang/invoke/MethodHandle" ∧ yX8_share.cls ≠ "java/lang/invoke/VarHandle" ∧ (parseMethodDescriptor yX8_share.desc).map (fun d => d.parameters.length) = some 1 := by decide +kernel
theorem pd_X8_chosen : yX8_chosen.cls ≠ "java/lang/invoke/MethodHandle" ∧ yX8_chosen.cls ≠ "java/lang/invoke/VarHandle" ∧ (parseMethodDescriptor yX8_chosen.desc).map (fun d => d.parameters.length) = some 2 := by decide +kernel
theorem pd_X8_due : yX8_due.cls ≠ "java/lang/invoke/MethodHandle" ∧ yX8_due.cls ≠ "java/lang/invoke/VarHandle" ∧ (parseMethodDescriptor yX8_due.desc).map (fun d => d.parameters.length) = some 0 := by decide +kernel
theorem pd_X8_explained : yX8_explained.cls ≠ "java/lang/invoke/MethodHandle" ∧ yX8_explained.cls ≠ "java/lang/invoke/VarHandle" ∧ (parseMethodDescriptor yX8_explained.desc).map (fun d => d.parameters.length) = some 2 := by decide +kernel
theorem pd_X8_adjusted : yX8_adjusted.cls ≠ "java/lang/invoke/MethodHandle" ∧ yX8_adjusted.cls ≠ "java/lang/invoke/VarHandle" ∧ (parseMethodDescriptor yX8_adjusted.desc).map (fun d => d.parameters.length) = some 2 := by decide +kernel
theorem pd_X8_moves : yX8_moves.cls ≠ "java/lang/invoke/MethodHandle" ∧ yX8_moves.cls ≠ "java/lang/invoke/VarHandle" ∧ (parseMethodDescriptor yX8_moves.desc).map (fun d => d.parameters.length) = some 2 := by decide +kernel
theorem pd_X8_leg : yX8_leg.cls ≠ "java/lang/invoke/MethodHandle" ∧ yX8_leg.cls ≠ "java/lang/invoke/VarHandle" ∧ (parseMethodDescriptor yX8_leg.desc).map (fun d => d.parameters.length) = some 5 := by decide +kernel
theorem pd_X8_narrow : yX8_narrow.cls ≠ "java/lang/invoke/MethodHandle" ∧ yX8_narrow.cls ≠ "java/lang/invoke/VarHandle" ∧ (parseMethodDescriptor yX8_narrow.desc).map (fun d => d.parameters.length) = some 4 := by decide +kernel
theorem pd_X8_counts : yX8_counts.cls ≠ "java/lang/invoke/MethodHandle" ∧ yX8_counts.cls ≠ "java/lang/invoke/VarHandle" ∧ (parseMethodDescriptor yX8_counts.desc).map (fun d => d.parameters.length) = some 5 := by decide +kernel
theorem pd_X8_post : yX8_post.cls ≠ "java/lang/invoke/MethodHandle" ∧ yX8_post.cls ≠ "java/lang/invoke/VarHandle" ∧ (parseMethodDescriptor yX8_post.desc).map (fun d => d.parameters.length) = some 2 := by decide +kernel
theorem pd_X8_drop : yX8_drop.cls ≠ "java/lang/invoke/MethodHandle" ∧ yX8_drop.cls ≠ "java/lang/invoke/VarHandle" ∧ (parseMethodDescriptor yX8_drop.desc).map (fun d => d.parameters.length) = some 1 := by decide +kernel
theorem pd_X8_undo : yX8_undo.cls ≠ "java/lang/invoke/MethodHandle" ∧ yX8_undo.cls ≠ "java/lang/invoke/VarHandle" ∧ (parseMethodDescriptor yX8_undo.desc).map (fun d => d.parameters.length) = some 0 := by decide +kernel
theorem pd_X8_takeBack : yX8_takeBack.cls ≠ "java/lang/invoke/MethodHandle" ∧ yX8_takeBack.cls ≠ "java/lang/invoke/VarHandle" ∧ (parseMethodDescriptor yX8_takeBack.desc).map (fun d => d.parameters.length) = some 1 := by decide +kernel
theorem pd_X8_isInstant : yX8_isInstant.cls ≠ "java/lang/invoke/MethodHandle" ∧ yX8_isInstant.cls ≠ "java/lang/invoke/VarHandle" ∧ (parseMethodDescriptor yX8_isInstant.desc).map (fun d => d.parameters.length) = some 1 := by decide +kernel
theorem pd_X8_isSpan : yX8_isSpan.cls ≠ "java/lang/invoke/MethodHandle" ∧ yX8_isSpan.cls ≠ "java/lang/invoke/VarHandle" ∧ (parseMethodDescriptor yX8_isSpan.desc).map (fun d => d.parameters.length) = some 2 := by decide +kernel
theorem pd_X8_isLeg : yX8_isLeg.cls ≠ "java/lang/invoke/MethodHandle" ∧ yX8_isLeg.cls ≠ "java/lang/invoke/VarHandle" ∧ (parseMethodDescriptor yX8_isLeg.desc).map (fun d => d.parameters.length) = some 1 := by decide +kernel
theorem pd_X8_legOf : yX8_legOf.cls ≠ "java/lang/invoke/MethodHandle" ∧ yX8_legOf.cls ≠ "java/lang/invoke/VarHandle" ∧ (parseMethodDescriptor yX8_legOf.desc).map (fun d => d.parameters.length) = some 2 := by decide +kernel
theorem pd_X8_isInTransit : yX8_isInTransit.cls ≠ "java/lang/invoke/MethodHandle" ∧ yX8_isInTransit.cls ≠ "java/lang/invoke/VarHandle" ∧ (parseMethodDescriptor yX8_isInTransit.desc).map (fun d => d.parameters.length) = some 3 := by decide +kernel
theorem pd_X8_isBelow : yX8_isBelow.cls ≠ "java/lang/invoke/MethodHandle" ∧ yX8_isBelow.cls ≠ "java/lang/invoke/VarHandle" ∧ (parseMethodDescriptor yX8_isBelow.desc).map (fun d => d.parameters.length) = some 3 := by decide +kernel
theorem pd_X8_turnTo : yX8_turnTo.cls ≠ "java/lang/invoke/MethodHandle" ∧ yX8_turnTo.cls ≠ "java/lang/invoke/VarHandle" ∧ (parseMethodDescriptor yX8_turnTo.desc).map (fun d => d.parameters.length) = some 1 := by decide +kernel
theorem pd_X8_differenceOf : yX8_differenceOf.cls ≠ "java/lang/invoke/MethodHandle" ∧ yX8_differenceOf.cls ≠ "java/lang/invoke/VarHandle" ∧ (parseMethodDescriptor yX8_differenceOf.desc).map (fun d => d.parameters.length) = some 1 := by decide +kernel
theorem pd_X8_allowedFor : yX8_allowedFor.cls ≠ "java/lang/invoke/MethodHandle" ∧ yX8_allowedFor.cls ≠ "java/lang/invoke/VarHandle" ∧ (parseMethodDescriptor yX8_allowedFor.desc).map (fun d => d.parameters.length) = some 1 := by decide +kernel
theorem pd_X8_chosenOf : yX8_chosenOf.cls ≠ "java/lang/invoke/MethodHandle" ∧ yX8_chosenOf.cls ≠ "java/lang/invoke/VarHandle" ∧ (parseMethodDescriptor yX8_chosenOf.desc).map (fun d => d.parameters.length) = some 2 := by decide +kernel
theorem pd_X8_middleOf : yX8_middleOf.cls ≠ "java/lang/invoke/MethodHandle" ∧ yX8_middleOf.cls ≠ "java/lang/invoke/VarHandle" ∧ (parseMethodDescriptor yX8_middleOf.desc).map (fun d => d.parameters.length) = some 3 := by decide +kernel
theorem pd_X9_thrown : yX9_thrown.cls ≠ "java/lang/invoke/MethodHandle" ∧ yX9_thrown.cls ≠ "java/lang/invoke/VarHandle" ∧ (parseMethodDescriptor yX9_thrown.desc).map (fun d => d.parameters.length) = some 0 := by decide +kernel
theorem pd_X9_refuse : yX9_refuse.cls ≠ "java/lang/invoke/MethodHandle" ∧ yX9_refuse.cls ≠ "java/lang/invoke/VarHandle" ∧ (parseMethodDescriptor yX9_refuse.desc).map (fun d => d.parameters.length) = some 0 := by decide +kernel
theorem pd_X9_isIn : yX9_isIn.cls ≠ "java/lang/invoke/MethodHandle" ∧ yX9_isIn.cls ≠ "java/lang/invoke/VarHandle" ∧ (parseMethodDescriptor yX9_isIn.desc).map (fun d => d.parameters.length) = some 3 := by decide +kernel
theorem pd_X9_lays : yX9_lays.cls ≠ "java/lang/invoke/MethodHandle" ∧ yX9_lays.cls ≠ "java/lang/invoke/VarHandle" ∧ (parseMethodDescriptor yX9_lays.desc).map (fun d => d.parameters.length) = some 1 := by decide +kernel
theorem pd_X9_feed : yX9_feed.cls ≠ "java/lang/invoke/MethodHandle" ∧ yX9_feed.cls ≠ "java/lang/invoke/VarHandle" ∧ (parseMethodDescriptor yX9_feed.desc).map (fun d => d.parameters.length) = some 5 := by decide +kernel
theorem pd_X9_end : yX9_end.cls ≠ "java/lang/invoke/MethodHandle" ∧ yX9_end.cls ≠ "java/lang/invoke/VarHandle" ∧ (parseMethodDescriptor yX9_end.desc).map (fun d => d.parameters.length) = some 1 := by decide +kernel
theorem pd_X9_tapeAt : yX9_tapeAt.cls ≠ "java/lang/invoke/MethodHandle" ∧ yX9_tapeAt.cls ≠ "java/lang/invoke/VarHandle" ∧ (parseMethodDescriptor yX9_tapeAt.desc).map (fun d => d.parameters.length) = some 1 := by decide +kernel
theorem pd_X9_isDigit : yX9_isDigit.cls ≠ "java/lang/invoke/MethodHandle" ∧ yX9_isDigit.cls ≠ "java/lang/invoke/VarHandle" ∧ (parseMethodDescriptor yX9_isDigit.desc).map (fun d => d.parameters.length) = some 1 := by decide +kernel
theorem pd_X9_isLetter : yX9_isLetter.cls ≠ "java/lang/invoke/MethodHandle" ∧ yX9_isLetter.cls ≠ "java/lang/invoke/VarHandle" ∧ (parseMethodDescriptor yX9_isLetter.desc).map (fun d => d.parameters.length) = some 1 := by decide +kernel
theorem pd_X9_go : yX9_go.cls ≠ "java/lang/invoke/MethodHandle" ∧ yX9_go.cls ≠ "java/lang/invoke/VarHandle" ∧ (parseMethodDescriptor yX9_go.desc).map (fun d => d.parameters.length) = some 0 := by decide +kernel
theorem pd_X9_two : yX9_two.cls ≠ "java/lang/invoke/MethodHandle" ∧ yX9_two.cls ≠ "java/lang/invoke/VarHandle" ∧ (parseMethodDescriptor yX9_two.desc).map (fun d => d.parameters.length) = some 2 := by decide +kernel
theorem pd_X9_four : yX9_four.cls ≠ "java/lang/invoke/MethodHandle" ∧ yX9_four.cls ≠ "java/lang/invoke/VarHandle" ∧ (parseMethodDescriptor yX9_four.desc).map (fun d => d.parameters.length) = some 4 := by decide +kernel
theorem pd_X9_seven : yX9_seven.cls ≠ "java/lang/invoke/MethodHandle" ∧ yX9_seven.cls ≠ "java/lang/invoke/VarHandle" ∧ (parseMethodDescriptor yX9_seven.desc).map (fun d => d.parameters.length) = some 7 := by decide +kernel
theorem pd_X9_isWord : yX9_isWord.cls ≠ "java/lang/invoke/MethodHandle" ∧ yX9_isWord.cls ≠ "java/lang/invoke/VarHandle" ∧ (parseMethodDescriptor yX9_isWord.desc).map (fun d => d.parameters.length) = some 1 := by decide +kernel
theorem pd_X9_bad : yX9_bad.cls ≠ "java/lang/invoke/MethodHandle" ∧ yX9_bad.cls ≠ "java/lang/invoke/VarHandle" ∧ (parseMethodDescriptor yX9_bad.desc).map (fun d => d.parameters.length) = some 1 := by decide +kernel
theorem pd_X9_init : yX9_init.cls ≠ "java/lang/invoke/MethodHandle" ∧ yX9_init.cls ≠ "java/lang/invoke/VarHandle" ∧ (parseMethodDescriptor yX9_init.desc).map (fun d => d.parameters.length) = some 0 := by decide +kernel
theorem pd_X9_told : yX9_told.cls ≠ "java/lang/invoke/MethodHandle" ∧ yX9_told.cls ≠ "java/lang/invoke/VarHandle" ∧ (parseMethodDescriptor yX9_told.desc).map (fun d => d.parameters.length) = some 3 := by decide +kernel
theorem pd_X9_takes : yX9_takes.cls ≠ "java/lang/invoke/MethodHandle" ∧ yX9_takes.cls ≠ "java/lang/invoke/VarHandle" ∧ (parseMethodDescriptor yX9_takes.desc).map (fun d => d.parameters.length) = some 2 := by decide +kernel
theorem pd_X9_readEnd : yX9_readEnd.cls ≠ "java/lang/invoke/MethodHandle" ∧ yX9_readEnd.cls ≠ "java/lang/invoke/VarHandle" ∧ (parseMethodDescriptor yX9_readEnd.desc).map (fun d => d.parameters.length) = some 0 := by decide +kernel
theorem pd_X9_readShelves : yX9_readShelves.cls ≠ "java/lang/invoke/MethodHandle" ∧ yX9_readShelves.cls ≠ "java/lang/invoke/VarHandle" ∧ (parseMethodDescriptor yX9_readShelves.desc).map (fun d => d.parameters.length) = some 0 := by decide +kernel
theorem pd_X9_readItem : yX9_readItem.cls ≠ "java/lang/invoke/MethodHandle" ∧ yX9_readItem.cls ≠ "java/lang/invoke/VarHandle" ∧ (parseMethodDescriptor yX9_readItem.desc).map (fun d => d.parameters.length) = some 0 := by decide +kernel
theorem pd_X9_readStock : yX9_readStock.cls ≠ "java/lang/invoke/MethodHandle" ∧ yX9_readStock.cls ≠ "java/lang/invoke/VarHandle" ∧ (parseMethodDescriptor yX9_readStock.desc).map (fun d => d.parameters.length) = some 0 := by decide +kernel
theorem pd_X9_readLeg : yX9_readLeg.cls ≠ "java/lang/invoke/MethodHandle" ∧ yX9_readLeg.cls ≠ "java/lang/invoke/VarHandle" ∧ (parseMethodDescriptor yX9_readLeg.desc).map (fun d => d.parameters.length) = some 1 := by decide +kernel
theorem pd_X9_readMove : yX9_readMove.cls ≠ "java/lang/invoke/MethodHandle" ∧ yX9_readMove.cls ≠ "java/lang/invoke/VarHandle" ∧ (parseMethodDescriptor yX9_readMove.desc).map (fun d => d.parameters.length) = some 0 := by decide +kernel
theorem pd_X9_isSort : yX9_isSort.cls ≠ "java/lang/invoke/MethodHandle" ∧ yX9_isSort.cls ≠ "java/lang/invoke/VarHandle" ∧ (parseMethodDescriptor yX9_isSort.desc).map (fun d => d.parameters.length) = some 1 := by decide +kernel
theorem pd_X9_readAll : yX9_readAll.cls ≠ "java/lang/invoke/MethodHandle" ∧ yX9_readAll.cls ≠ "java/lang/invoke/VarHandle" ∧ (parseMethodDescriptor yX9_readAll.desc).map (fun d => d.parameters.length) = some 1 := by decide +kernel
theorem pd_X9_readWhole : yX9_readWhole.cls ≠ "java/lang/invoke/MethodHandle" ∧ yX9_readWhole.cls ≠ "java/lang/invoke/VarHandle" ∧ (parseMethodDescriptor yX9_readWhole.desc).map (fun d => d.parameters.length) = some 0 := by decide +kernel
theorem pd_X9_text : yX9_text.cls ≠ "java/lang/invoke/MethodHandle" ∧ yX9_text.cls ≠ "java/lang/invoke/VarHandle" ∧ (parseMethodDescriptor yX9_text.desc).map (fun d => d.parameters.length) = some 0 := by decide +kernel
theorem pd_X9_fault : yX9_fault.cls ≠ "java/lang/invoke/MethodHandle" ∧ yX9_fault.cls ≠ "java/lang/invoke/VarHandle" ∧ (parseMethodDescriptor yX9_fault.desc).map (fun d => d.parameters.length) = some 0 := by decide +kernel
theorem pd_X9_isShelf : yX9_isShelf.cls ≠ "java/lang/invoke/MethodHandle" ∧ yX9_isShelf.cls ≠ "java/lang/invoke/VarHandle" ∧ (parseMethodDescriptor yX9_isShelf.desc).map (fun d => d.parameters.length) = some 1 := by decide +kernel
theorem pd_X9_isItem : yX9_isItem.cls ≠ "java/lang/invoke/MethodHandle" ∧ yX9_isItem.cls ≠ "java/lang/invoke/VarHandle" ∧ (parseMethodDescriptor yX9_isItem.desc).map (fun d => d.parameters.length) = some 1 := by decide +kernel
theorem pd_X9_isMove : yX9_isMove.cls ≠ "java/lang/invoke/MethodHandle" ∧ yX9_isMove.cls ≠ "java/lang/invoke/VarHandle" ∧ (parseMethodDescriptor yX9_isMove.desc).map (fun d => d.parameters.length) = some 1 := by decide +kernel
theorem pd_X9_isCount : yX9_isCount.cls ≠ "java/lang/invoke/MethodHandle" ∧ yX9_isCount.cls ≠ "java/lang/invoke/VarHandle" ∧ (parseMethodDescriptor yX9_isCount.desc).map (fun d => d.parameters.length) = some 1 := by decide +kernel
theorem pd_X9_isInstant : yX9_isInstant.cls ≠ "java/lang/invoke/MethodHandle" ∧ yX9_isInstant.cls ≠ "java/lang/invoke/VarHandle" ∧ (parseMethodDescriptor yX9_isInstant.desc).map (fun d => d.parameters.length) = some 1 := by decide +kernel
theorem pd_X9_moved : yX9_moved.cls ≠ "java/lang/invoke/MethodHandle" ∧ yX9_moved.cls ≠ "java/lang/invoke/VarHandle" ∧ (parseMethodDescriptor yX9_moved.desc).map (fun d => d.parameters.length) = some 2 := by decide +kernel
theorem pd_X9_leg : yX9_leg.cls ≠ "java/lang/invoke/MethodHandle" ∧ yX9_leg.cls ≠ "java/lang/invoke/VarHandle" ∧ (parseMethodDescriptor yX9_leg.desc).map (fun d => d.parameters.length) = some 3 := by decide +kernel
theorem pd_X9_isThere : yX9_isThere.cls ≠ "java/lang/invoke/MethodHandle" ∧ yX9_isThere.cls ≠ "java/lang/invoke/VarHandle" ∧ (parseMethodDescriptor yX9_isThere.desc).map (fun d => d.parameters.length) = some 2 := by decide +kernel
theorem pd_X9_isAt : yX9_isAt.cls ≠ "java/lang/invoke/MethodHandle" ∧ yX9_isAt.cls ≠ "java/lang/invoke/VarHandle" ∧ (parseMethodDescriptor yX9_isAt.desc).map (fun d => d.parameters.length) = some 4 := by decide +kernel
theorem pd_X9_isOver : yX9_isOver.cls ≠ "java/lang/invoke/MethodHandle" ∧ yX9_isOver.cls ≠ "java/lang/invoke/VarHandle" ∧ (parseMethodDescriptor yX9_isOver.desc).map (fun d => d.parameters.length) = some 3 := by decide +kernel
theorem pd_X9_isToCome : yX9_isToCome.cls ≠ "java/lang/invoke/MethodHandle" ∧ yX9_isToCome.cls ≠ "java/lang/invoke/VarHandle" ∧ (parseMethodDescriptor yX9_isToCome.desc).map (fun d => d.parameters.length) = some 3 := by decide +kernel
theorem pd_X9_isDoubtful : yX9_isDoubtful.cls ≠ "java/lang/invoke/MethodHandle" ∧ yX9_isDoubtful.cls ≠ "java/lang/invoke/VarHandle" ∧ (parseMethodDescriptor yX9_isDoubtful.desc).map (fun d => d.parameters.length) = some 3 := by decide +kernel
theorem pd_X9_sure : yX9_sure.cls ≠ "java/lang/invoke/MethodHandle" ∧ yX9_sure.cls ≠ "java/lang/invoke/VarHandle" ∧ (parseMethodDescriptor yX9_sure.desc).map (fun d => d.parameters.length) = some 3 := by decide +kernel
theorem pd_X9_doubtful : yX9_doubtful.cls ≠ "java/lang/invoke/MethodHandle" ∧ yX9_doubtful.cls ≠ "java/lang/invoke/VarHandle" ∧ (parseMethodDescriptor yX9_doubtful.desc).map (fun d => d.parameters.length) = some 4 := by decide +kernel
theorem pd_X9_least : yX9_least.cls ≠ "java/lang/invoke/MethodHandle" ∧ yX9_least.cls ≠ "java/lang/invoke/VarHandle" ∧ (parseMethodDescriptor yX9_least.desc).map (fun d => d.parameters.length) = some 3 := by decide +kernel
theorem pd_X9_most : yX9_most.cls ≠ "java/lang/invoke/MethodHandle" ∧ yX9_most.cls ≠ "java/lang/invoke/VarHandle" ∧ (parseMethodDescriptor yX9_most.desc).map (fun d => d.parameters.length) = some 3 := by decide +kernel
theorem pd_X9_now : yX9_now.cls ≠ "java/lang/invoke/MethodHandle" ∧ yX9_now.cls ≠ "java/lang/invoke/VarHandle" ∧ (parseMethodDescriptor yX9_now.desc).map (fun d => d.parameters.length) = some 1 := by decide +kernel
theorem pd_X9_item : yX9_item.cls ≠ "java/lang/invoke/MethodHandle" ∧ yX9_item.cls ≠ "java/lang/invoke/VarHandle" ∧ (parseMethodDescriptor yX9_item.desc).map (fun d => d.parameters.length) = some 2 := by decide +kernel
theorem pd_X9_move : yX9_move.cls ≠ "java/lang/invoke/MethodHandle" ∧ yX9_move.cls ≠ "java/lang/invoke/VarHandle" ∧ (parseMethodDescriptor yX9_move.desc).map (fun d => d.parameters.length) = some 2 := by decide +kernel
theorem pd_X9_book : yX9_book.cls ≠ "java/lang/invoke/MethodHandle" ∧ yX9_book.cls ≠ "java/lang/invoke/VarHandle" ∧ (parseMethodDescriptor yX9_book.desc).map (fun d => d.parameters.length) = some 4 := by decide +kernel
theorem pd_X9_transit : yX9_transit.cls ≠ "java/lang/invoke/MethodHandle" ∧ yX9_transit.cls ≠ "java/lang/invoke/VarHandle" ∧ (parseMethodDescriptor yX9_transit.desc).map (fun d => d.parameters.length) = some 3 := by decide +kernel
theorem pd_X9_below : yX9_below.cls ≠ "java/lang/invoke/MethodHandle" ∧ yX9_below.cls ≠ "java/lang/invoke/VarHandle" ∧ (parseMethodDescriptor yX9_below.desc).map (fun d => d.parameters.length) = some 2 := by decide +kernel
theorem pd_X9_counted : yX9_counted.cls ≠ "java/lang/invoke/MethodHandle" ∧ yX9_counted.cls ≠ "java/lang/invoke/VarHandle" ∧ (parseMethodDescriptor yX9_counted.desc).map (fun d => d.parameters.length) = some 2 := by decide +kernel
theorem pd_X9_sureOf : yX9_sureOf.cls ≠ "java/lang/invoke/MethodHandle" ∧ yX9_sureOf.cls ≠ "java/lang/invoke/VarHandle" ∧ (parseMethodDescriptor yX9_sureOf.desc).map (fun d => d.parameters.length) = some 1 := by decide +kernel
theorem pd_X9_differenceOf : yX9_differenceOf.cls ≠ "java/lang/invoke/MethodHandle" ∧ yX9_differenceOf.cls ≠ "java/lang/invoke/VarHandle" ∧ (parseMethodDescriptor yX9_differenceOf.desc).map (fun d => d.parameters.length) = some 1 := by decide +kernel
theorem pd_X9_allowed : yX9_allowed.cls ≠ "java/lang/invoke/MethodHandle" ∧ yX9_allowed.cls ≠ "java/lang/invoke/VarHandle" ∧ (parseMethodDescriptor yX9_allowed.desc).map (fun d => d.parameters.length) = some 1 := by decide +kernel
theorem pd_X9_isOpenAt : yX9_isOpenAt.cls ≠ "java/lang/invoke/MethodHandle" ∧ yX9_isOpenAt.cls ≠ "java/lang/invoke/VarHandle" ∧ (parseMethodDescriptor yX9_isOpenAt.desc).map (fun d => d.parameters.length) = some 3 := by decide +kernel
theorem pd_X9_openMany : yX9_openMany.cls ≠ "java/lang/invoke/MethodHandle" ∧ yX9_openMany.cls ≠ "java/lang/invoke/VarHandle" ∧ (parseMethodDescriptor yX9_openMany.desc).map (fun d => d.parameters.length) = some 0 := by decide +kernel
theorem pd_X9_count : yX9_count.cls ≠ "java/lang/invoke/MethodHandle" ∧ yX9_count.cls ≠ "java/lang/invoke/VarHandle" ∧ (parseMethodDescriptor yX9_count.desc).map (fun d => d.parameters.length) = some 2 := by decide +kernel
theorem pd_X9_difference : yX9_difference.cls ≠ "java/lang/invoke/MethodHandle" ∧ yX9_difference.cls ≠ "java/lang/invoke/VarHandle" ∧ (parseMethodDescriptor yX9_difference.desc).map (fun d => d.parameters.length) = some 1 := by decide +kernel
theorem pd_X9_share : yX9_share.cls ≠ "java/lang/invoke/MethodHandle" ∧ yX9_share.cls ≠ "java/lang/invoke/VarHandle" ∧ (parseMethodDescriptor yX9_share.desc).map (fun d => d.parameters.length) = some 1 := by decide +kernel
theorem pd_X9_laysOpen : yX9_laysOpen.cls ≠ "java/lang/invoke/MethodHandle" ∧ yX9_laysOpen.cls ≠ "java/lang/invoke/VarHandle" ∧ (parseMethodDescriptor yX9_laysOpen.desc).map (fun d => d.parameters.length) = some 2 := by decide +kernel
theorem pd_X9_far : yX9_far.cls ≠ "java/lang/invoke/MethodHandle" ∧ yX9_far.cls ≠ "java/lang/invoke/VarHandle" ∧ (parseMethodDescriptor yX9_far.desc).map (fun d => d.parameters.length) = some 2 := by decide +kernel
theorem pd_X9_choose : yX9_choose.cls ≠ "java/lang/invoke/MethodHandle" ∧ yX9_choose.cls ≠ "java/lang/invoke/VarHandle" ∧ (parseMethodDescriptor yX9_choose.desc).map (fun d => d.parameters.length) = some 2 := by decide +kernel
theorem pd_X9_chosen : yX9_chosen.cls ≠ "java/lang/invoke/MethodHandle" ∧ yX9_chosen.cls ≠ "java/lang/invoke/VarHandle" ∧ (parseMethodDescriptor yX9_chosen.desc).map (fun d => d.parameters.length) = some 2 := by decide +kernel
theorem pd_X9_due : yX9_due.cls ≠ "java/lang/invoke/MethodHandle" ∧ yX9_due.cls ≠ "java/lang/invoke/VarHandle" ∧ (parseMethodDescriptor yX9_due.desc).map (fun d => d.parameters.length) = some 0 := by decide +kernel
theorem pd_X9_explained : yX9_explained.cls ≠ "java/lang/invoke/MethodHandle" ∧ yX9_explained.cls ≠ "java/lang/invoke/VarHandle" ∧ (parseMethodDescriptor yX9_explained.desc).map (fun d => d.parameters.length) = some 2 := by decide +kernel
theorem pd_X9_adjusted : yX9_adjusted.cls ≠ "java/lang/invoke/MethodHandle" ∧ yX9_adjusted.cls ≠ "java/lang/invoke/VarHandle" ∧ (parseMethodDescriptor yX9_adjusted.desc).map (fun d => d.parameters.length) = some 2 := by decide +kernel
theorem pd_X9_snap : yX9_snap.cls ≠ "java/lang/invoke/MethodHandle" ∧ yX9_snap.cls ≠ "java/lang/invoke/VarHandle" ∧ (parseMethodDescriptor yX9_snap.desc).map (fun d => d.parameters.length) = some 0 := by decide +kernel
theorem pd_X9_moves : yX9_moves.cls ≠ "java/lang/invoke/MethodHandle" ∧ yX9_moves.cls ≠ "java/lang/invoke/VarHandle" ∧ (parseMethodDescriptor yX9_moves.desc).map (fun d => d.parameters.length) = some 2 := by decide +kernel
theorem pd_X9_isSpan : yX9_isSpan.cls ≠ "java/lang/invoke/MethodHandle" ∧ yX9_isSpan.cls ≠ "java/lang/invoke/VarHandle" ∧ (parseMethodDescriptor yX9_isSpan.desc).map (fun d => d.parameters.length) = some 2 := by decide +kernel
theorem pd_X9_leg_ : yX9_leg_.cls ≠ "java/lang/invoke/MethodHandle" ∧ yX9_leg_.cls ≠ "java/lang/invoke/VarHandle" ∧ (parseMethodDescriptor yX9_leg_.desc).map (fun d => d.parameters.length) = some 5 := by decide +kernel
theorem pd_X9_narrow : yX9_narrow.cls ≠ "java/lang/invoke/MethodHandle" ∧ yX9_narrow.cls ≠ "java/lang/invoke/VarHandle" ∧ (parseMethodDescriptor yX9_narrow.desc).map (fun d => d.parameters.length) = some 4 := by decide +kernel
theorem pd_X9_whyNot : yX9_whyNot.cls ≠ "java/lang/invoke/MethodHandle" ∧ yX9_whyNot.cls ≠ "java/lang/invoke/VarHandle" ∧ (parseMethodDescriptor yX9_whyNot.desc).map (fun d => d.parameters.length) = some 4 := by decide +kernel
theorem pd_X9_counts : yX9_counts.cls ≠ "java/lang/invoke/MethodHandle" ∧ yX9_counts.cls ≠ "java/lang/invoke/VarHandle" ∧ (parseMethodDescriptor yX9_counts.desc).map (fun d => d.parameters.length) = some 5 := by decide +kernel
theorem pd_X9_post : yX9_post.cls ≠ "java/lang/invoke/MethodHandle" ∧ yX9_post.cls ≠ "java/lang/invoke/VarHandle" ∧ (parseMethodDescriptor yX9_post.desc).map (fun d => d.parameters.length) = some 2 := by decide +kernel
theorem pd_X9_drop : yX9_drop.cls ≠ "java/lang/invoke/MethodHandle" ∧ yX9_drop.cls ≠ "java/lang/invoke/VarHandle" ∧ (parseMethodDescriptor yX9_drop.desc).map (fun d => d.parameters.length) = some 1 := by decide +kernel
theorem pd_X9_undo : yX9_undo.cls ≠ "java/lang/invoke/MethodHandle" ∧ yX9_undo.cls ≠ "java/lang/invoke/VarHandle" ∧ (parseMethodDescriptor yX9_undo.desc).map (fun d => d.parameters.length) = some 0 := by decide +kernel
theorem pd_X0_init : yX0_init.cls ≠ "java/lang/invoke/MethodHandle" ∧ yX0_init.cls ≠ "java/lang/invoke/VarHandle" ∧ (parseMethodDescriptor yX0_init.desc).map (fun d => d.parameters.length) = some 0 := by decide +kernel
theorem pd_X1_init : yX1_init.cls ≠ "java/lang/invoke/MethodHandle" ∧ yX1_init.cls ≠ "java/lang/invoke/VarHandle" ∧ (parseMethodDescriptor yX1_init.desc).map (fun d => d.parameters.length) = some 0 := by decide +kernel
theorem pd_X1_append : yX1_append.cls ≠ "java/lang/invoke/MethodHandle" ∧ yX1_append.cls ≠ "java/lang/invoke/VarHandle" ∧ (parseMethodDescriptor yX1_append.desc).map (fun d => d.parameters.length) = some 4 := by decide +kernel
theorem pd_X1_removeLast : yX1_removeLast.cls ≠ "java/lang/invoke/MethodHandle" ∧ yX1_removeLast.cls ≠ "java/lang/invoke/VarHandle" ∧ (parseMethodDescriptor yX1_removeLast.desc).map (fun d => d.parameters.length) = some 0 := by decide +kernel
theorem pd_X1_isAt : yX1_isAt.cls ≠ "java/lang/invoke/MethodHandle" ∧ yX1_isAt.cls ≠ "java/lang/invoke/VarHandle" ∧ (parseMethodDescriptor yX1_isAt.desc).map (fun d => d.parameters.length) = some 3 := by decide +kernel
theorem pd_X1_sumUpTo : yX1_sumUpTo.cls ≠ "java/lang/invoke/MethodHandle" ∧ yX1_sumUpTo.cls ≠ "java/lang/invoke/VarHandle" ∧ (parseMethodDescriptor yX1_sumUpTo.desc).map (fun d => d.parameters.length) = some 3 := by decide +kernel
theorem pd_X2_init : yX2_init.cls ≠ "java/lang/invoke/MethodHandle" ∧ yX2_init.cls ≠ "java/lang/invoke/VarHandle" ∧ (parseMethodDescriptor yX2_init.desc).map (fun d => d.parameters.length) = some 0 := by decide +kernel
theorem pd_X2_readAt : yX2_readAt.cls ≠ "java/lang/invoke/MethodHandle" ∧ yX2_readAt.cls ≠ "java/lang/invoke/VarHandle" ∧ (parseMethodDescriptor yX2_readAt.desc).map (fun d => d.parameters.length) = some 5 := by decide +kernel
theorem pd_X2_readLeg : yX2_readLeg.cls ≠ "java/lang/invoke/MethodHandle" ∧ yX2_readLeg.cls ≠ "java/lang/invoke/VarHandle" ∧ (parseMethodDescriptor yX2_readLeg.desc).map (fun d => d.parameters.length) = some 5 := by decide +kernel
theorem pd_X2_addDoubt : yX2_addDoubt.cls ≠ "java/lang/invoke/MethodHandle" ∧ yX2_addDoubt.cls ≠ "java/lang/invoke/VarHandle" ∧ (parseMethodDescriptor yX2_addDoubt.desc).map (fun d => d.parameters.length) = some 1 := by decide +kernel
theorem pd_X2_sureWith : yX2_sureWith.cls ≠ "java/lang/invoke/MethodHandle" ∧ yX2_sureWith.cls ≠ "java/lang/invoke/VarHandle" ∧ (parseMethodDescriptor yX2_sureWith.desc).map (fun d => d.parameters.length) = some 1 := by decide +kernel
theorem pd_X3_init : yX3_init.cls ≠ "java/lang/invoke/MethodHandle" ∧ yX3_init.cls ≠ "java/lang/invoke/VarHandle" ∧ (parseMethodDescriptor yX3_init.desc).map (fun d => d.parameters.length) = some 0 := by decide +kernel
theorem pd_X3_has : yX3_has.cls ≠ "java/lang/invoke/MethodHandle" ∧ yX3_has.cls ≠ "java/lang/invoke/VarHandle" ∧ (parseMethodDescriptor yX3_has.desc).map (fun d => d.parameters.length) = some 1 := by decide +kernel
theorem pd_X3_isAt : yX3_isAt.cls ≠ "java/lang/invoke/MethodHandle" ∧ yX3_isAt.cls ≠ "java/lang/invoke/VarHandle" ∧ (parseMethodDescriptor yX3_isAt.desc).map (fun d => d.parameters.length) = some 3 := by decide +kernel
theorem pd_X3_isOpenAt : yX3_isOpenAt.cls ≠ "java/lang/invoke/MethodHandle" ∧ yX3_isOpenAt.cls ≠ "java/lang/invoke/VarHandle" ∧ (parseMethodDescriptor yX3_isOpenAt.desc).map (fun d => d.parameters.length) = some 3 := by decide +kernel
theorem pd_X3_openCounts : yX3_openCounts.cls ≠ "java/lang/invoke/MethodHandle" ∧ yX3_openCounts.cls ≠ "java/lang/invoke/VarHandle" ∧ (parseMethodDescriptor yX3_openCounts.desc).map (fun d => d.parameters.length) = some 0 := by decide +kernel
theorem pd_X3_isCountedAt : yX3_isCountedAt.cls ≠ "java/lang/invoke/MethodHandle" ∧ yX3_isCountedAt.cls ≠ "java/lang/invoke/VarHandle" ∧ (parseMethodDescriptor yX3_isCountedAt.desc).map (fun d => d.parameters.length) = some 3 := by decide +kernel
theorem pd_X3_isPostedBehind : yX3_isPostedBehind.cls ≠ "java/lang/invoke/MethodHandle" ∧ yX3_isPostedBehind.cls ≠ "java/lang/invoke/VarHandle" ∧ (parseMethodDescriptor yX3_isPostedBehind.desc).map (fun d => d.parameters.length) = some 3 := by decide +kernel
theorem pd_X3_openFirst : yX3_openFirst.cls ≠ "java/lang/invoke/MethodHandle" ∧ yX3_openFirst.cls ≠ "java/lang/invoke/VarHandle" ∧ (parseMethodDescriptor yX3_openFirst.desc).map (fun d => d.parameters.length) = some 2 := by decide +kernel
theorem pd_X3_openAhead : yX3_openAhead.cls ≠ "java/lang/invoke/MethodHandle" ∧ yX3_openAhead.cls ≠ "java/lang/invoke/VarHandle" ∧ (parseMethodDescriptor yX3_openAhead.desc).map (fun d => d.parameters.length) = some 3 := by decide +kernel
theorem pd_X3_postUpTo : yX3_postUpTo.cls ≠ "java/lang/invoke/MethodHandle" ∧ yX3_postUpTo.cls ≠ "java/lang/invoke/VarHandle" ∧ (parseMethodDescriptor yX3_postUpTo.desc).map (fun d => d.parameters.length) = some 3 := by decide +kernel
theorem pd_X3_reopen : yX3_reopen.cls ≠ "java/lang/invoke/MethodHandle" ∧ yX3_reopen.cls ≠ "java/lang/invoke/VarHandle" ∧ (parseMethodDescriptor yX3_reopen.desc).map (fun d => d.parameters.length) = some 1 := by decide +kernel
theorem pd_X3_insert : yX3_insert.cls ≠ "java/lang/invoke/MethodHandle" ∧ yX3_insert.cls ≠ "java/lang/invoke/VarHandle" ∧ (parseMethodDescriptor yX3_insert.desc).map (fun d => d.parameters.length) = some 6 := by decide +kernel
theorem pd_X3_remove : yX3_remove.cls ≠ "java/lang/invoke/MethodHandle" ∧ yX3_remove.cls ≠ "java/lang/invoke/VarHandle" ∧ (parseMethodDescriptor yX3_remove.desc).map (fun d => d.parameters.length) = some 1 := by decide +kernel
theorem pd_X3_copy : yX3_copy.cls ≠ "java/lang/invoke/MethodHandle" ∧ yX3_copy.cls ≠ "java/lang/invoke/VarHandle" ∧ (parseMethodDescriptor yX3_copy.desc).map (fun d => d.parameters.length) = some 2 := by decide +kernel
theorem pd_X4_init : yX4_init.cls ≠ "java/lang/invoke/MethodHandle" ∧ yX4_init.cls ≠ "java/lang/invoke/VarHandle" ∧ (parseMethodDescriptor yX4_init.desc).map (fun d => d.parameters.length) = some 0 := by decide +kernel
theorem pd_X4_clear : yX4_clear.cls ≠ "java/lang/invoke/MethodHandle" ∧ yX4_clear.cls ≠ "java/lang/invoke/VarHandle" ∧ (parseMethodDescriptor yX4_clear.desc).map (fun d => d.parameters.length) = some 0 := by decide +kernel
theorem pd_X4_hasShelf : yX4_hasShelf.cls ≠ "java/lang/invoke/MethodHandle" ∧ yX4_hasShelf.cls ≠ "java/lang/invoke/VarHandle" ∧ (parseMethodDescriptor yX4_hasShelf.desc).map (fun d => d.parameters.length) = some 1 := by decide +kernel
theorem pd_X4_hasItem : yX4_hasItem.cls ≠ "java/lang/invoke/MethodHandle" ∧ yX4_hasItem.cls ≠ "java/lang/invoke/VarHandle" ∧ (parseMethodDescriptor yX4_hasItem.desc).map (fun d => d.parameters.length) = some 1 := by decide +kernel
theorem pd_X4_hasCouple : yX4_hasCouple.cls ≠ "java/lang/invoke/MethodHandle" ∧ yX4_hasCouple.cls ≠ "java/lang/invoke/VarHandle" ∧ (parseMethodDescriptor yX4_hasCouple.desc).map (fun d => d.parameters.length) = some 2 := by decide +kernel
theorem pd_X4_hasMove : yX4_hasMove.cls ≠ "java/lang/invoke/MethodHandle" ∧ yX4_hasMove.cls ≠ "java/lang/invoke/VarHandle" ∧ (parseMethodDescriptor yX4_hasMove.desc).map (fun d => d.parameters.length) = some 1 := by decide +kernel
theorem pd_X4_placeOf : yX4_placeOf.cls ≠ "java/lang/invoke/MethodHandle" ∧ yX4_placeOf.cls ≠ "java/lang/invoke/VarHandle" ∧ (parseMethodDescriptor yX4_placeOf.desc).map (fun d => d.parameters.length) = some 2 := by decide +kernel
theorem pd_X4_isStockTold : yX4_isStockTold.cls ≠ "java/lang/invoke/MethodHandle" ∧ yX4_isStockTold.cls ≠ "java/lang/invoke/VarHandle" ∧ (parseMethodDescriptor yX4_isStockTold.desc).map (fun d => d.parameters.length) = some 2 := by decide +kernel
theorem pd_X4_tellStock : yX4_tellStock.cls ≠ "java/lang/invoke/MethodHandle" ∧ yX4_tellStock.cls ≠ "java/lang/invoke/VarHandle" ∧ (parseMethodDescriptor yX4_tellStock.desc).map (fun d => d.parameters.length) = some 3 := by decide +kernel
theorem pd_X4_stockOf : yX4_stockOf.cls ≠ "java/lang/invoke/MethodHandle" ∧ yX4_stockOf.cls ≠ "java/lang/invoke/VarHandle" ∧ (parseMethodDescriptor yX4_stockOf.desc).map (fun d => d.parameters.length) = some 2 := by decide +kernel
theorem pd_X4_addItem : yX4_addItem.cls ≠ "java/lang/invoke/MethodHandle" ∧ yX4_addItem.cls ≠ "java/lang/invoke/VarHandle" ∧ (parseMethodDescriptor yX4_addItem.desc).map (fun d => d.parameters.length) = some 2 := by decide +kernel
theorem pd_X4_addMove : yX4_addMove.cls ≠ "java/lang/invoke/MethodHandle" ∧ yX4_addMove.cls ≠ "java/lang/invoke/VarHandle" ∧ (parseMethodDescriptor yX4_addMove.desc).map (fun d => d.parameters.length) = some 2 := by decide +kernel
theorem pd_X4_removeLastMove : yX4_removeLastMove.cls ≠ "java/lang/invoke/MethodHandle" ∧ yX4_removeLastMove.cls ≠ "java/lang/invoke/VarHandle" ∧ (parseMethodDescriptor yX4_removeLastMove.desc).map (fun d => d.parameters.length) = some 0 := by decide +kernel
theorem pd_X4_setLeg : yX4_setLeg.cls ≠ "java/lang/invoke/MethodHandle" ∧ yX4_setLeg.cls ≠ "java/lang/invoke/VarHandle" ∧ (parseMethodDescriptor yX4_setLeg.desc).map (fun d => d.parameters.length) = some 4 := by decide +kernel
theorem pd_X4_removeLeg : yX4_removeLeg.cls ≠ "java/lang/invoke/MethodHandle" ∧ yX4_removeLeg.cls ≠ "java/lang/invoke/VarHandle" ∧ (parseMethodDescriptor yX4_removeLeg.desc).map (fun d => d.parameters.length) = some 1 := by decide +kernel
theorem pd_X4_setSpan : yX4_setSpan.cls ≠ "java/lang/invoke/MethodHandle" ∧ yX4_setSpan.cls ≠ "java/lang/invoke/VarHandle" ∧ (parseMethodDescriptor yX4_setSpan.desc).map (fun d => d.parameters.length) = some 3 := by decide +kernel
theorem pd_X4_isThere : yX4_isThere.cls ≠ "java/lang/invoke/MethodHandle" ∧ yX4_isThere.cls ≠ "java/lang/invoke/VarHandle" ∧ (parseMethodDescriptor yX4_isThere.desc).map (fun d => d.parameters.length) = some 1 := by decide +kernel
theorem pd_X4_isOver : yX4_isOver.cls ≠ "java/lang/invoke/MethodHandle" ∧ yX4_isOver.cls ≠ "java/lang/invoke/VarHandle" ∧ (parseMethodDescriptor yX4_isOver.desc).map (fun d => d.parameters.length) = some 2 := by decide +kernel
theorem pd_X4_isToCome : yX4_isToCome.cls ≠ "java/lang/invoke/MethodHandle" ∧ yX4_isToCome.cls ≠ "java/lang/invoke/VarHandle" ∧ (parseMethodDescriptor yX4_isToCome.desc).map (fun d => d.parameters.length) = some 2 := by decide +kernel
theorem pd_X5_init : yX5_init.cls ≠ "java/lang/invoke/MethodHandle" ∧ yX5_init.cls ≠ "java/lang/invoke/VarHandle" ∧ (parseMethodDescriptor yX5_init.desc).map (fun d => d.parameters.length) = some 0 := by decide +kernel
theorem pd_X5_begin : yX5_begin.cls ≠ "java/lang/invoke/MethodHandle" ∧ yX5_begin.cls ≠ "java/lang/invoke/VarHandle" ∧ (parseMethodDescriptor yX5_begin.desc).map (fun d => d.parameters.length) = some 2 := by decide +kernel
theorem pd_X5_takeLatest : yX5_takeLatest.cls ≠ "java/lang/invoke/MethodHandle" ∧ yX5_takeLatest.cls ≠ "java/lang/invoke/VarHandle" ∧ (parseMethodDescriptor yX5_takeLatest.desc).map (fun d => d.parameters.length) = some 0 := by decide +kernel
theorem pd_X6_init : yX6_init.cls ≠ "java/lang/invoke/MethodHandle" ∧ yX6_init.cls ≠ "java/lang/invoke/VarHandle" ∧ (parseMethodDescriptor yX6_init.desc).map (fun d => d.parameters.length) = some 0 := by decide +kernel
theorem pd_X6_hasRoom : yX6_hasRoom.cls ≠ "java/lang/invoke/MethodHandle" ∧ yX6_hasRoom.cls ≠ "java/lang/invoke/VarHandle" ∧ (parseMethodDescriptor yX6_hasRoom.desc).map (fun d => d.parameters.length) = some 0 := by decide +kernel
theorem pd_X6_append : yX6_append.cls ≠ "java/lang/invoke/MethodHandle" ∧ yX6_append.cls ≠ "java/lang/invoke/VarHandle" ∧ (parseMethodDescriptor yX6_append.desc).map (fun d => d.parameters.length) = some 1 := by decide +kernel
theorem pd_X6_scan : yX6_scan.cls ≠ "java/lang/invoke/MethodHandle" ∧ yX6_scan.cls ≠ "java/lang/invoke/VarHandle" ∧ (parseMethodDescriptor yX6_scan.desc).map (fun d => d.parameters.length) = some 0 := by decide +kernel
theorem pd_X6_addToken : yX6_addToken.cls ≠ "java/lang/invoke/MethodHandle" ∧ yX6_addToken.cls ≠ "java/lang/invoke/VarHandle" ∧ (parseMethodDescriptor yX6_addToken.desc).map (fun d => d.parameters.length) = some 2 := by decide +kernel
theorem pd_X6_behindRun : yX6_behindRun.cls ≠ "java/lang/invoke/MethodHandle" ∧ yX6_behindRun.cls ≠ "java/lang/invoke/VarHandle" ∧ (parseMethodDescriptor yX6_behindRun.desc).map (fun d => d.parameters.length) = some 1 := by decide +kernel
theorem pd_X6_kindOf : yX6_kindOf.cls ≠ "java/lang/invoke/MethodHandle" ∧ yX6_kindOf.cls ≠ "java/lang/invoke/VarHandle" ∧ (parseMethodDescriptor yX6_kindOf.desc).map (fun d => d.parameters.length) = some 2 := by decide +kernel
theorem pd_X6_kindOfWord : yX6_kindOfWord.cls ≠ "java/lang/invoke/MethodHandle" ∧ yX6_kindOfWord.cls ≠ "java/lang/invoke/VarHandle" ∧ (parseMethodDescriptor yX6_kindOfWord.desc).map (fun d => d.parameters.length) = some 2 := by decide +kernel
theorem pd_X6_isWord : yX6_isWord.cls ≠ "java/lang/invoke/MethodHandle" ∧ yX6_isWord.cls ≠ "java/lang/invoke/VarHandle" ∧ (parseMethodDescriptor yX6_isWord.desc).map (fun d => d.parameters.length) = some 3 := by decide +kernel
theorem pd_X6_isBlank : yX6_isBlank.cls ≠ "java/lang/invoke/MethodHandle" ∧ yX6_isBlank.cls ≠ "java/lang/invoke/VarHandle" ∧ (parseMethodDescriptor yX6_isBlank.desc).map (fun d => d.parameters.length) = some 1 := by decide +kernel
theorem pd_X6_isLetter : yX6_isLetter.cls ≠ "java/lang/invoke/MethodHandle" ∧ yX6_isLetter.cls ≠ "java/lang/invoke/VarHandle" ∧ (parseMethodDescriptor yX6_isLetter.desc).map (fun d => d.parameters.length) = some 1 := by decide +kernel
theorem pd_X6_isDigit : yX6_isDigit.cls ≠ "java/lang/invoke/MethodHandle" ∧ yX6_isDigit.cls ≠ "java/lang/invoke/VarHandle" ∧ (parseMethodDescriptor yX6_isDigit.desc).map (fun d => d.parameters.length) = some 1 := by decide +kernel
theorem pd_X7_init : yX7_init.cls ≠ "java/lang/invoke/MethodHandle" ∧ yX7_init.cls ≠ "java/lang/invoke/VarHandle" ∧ (parseMethodDescriptor yX7_init.desc).map (fun d => d.parameters.length) = some 0 := by decide +kernel
theorem pd_X7_readText : yX7_readText.cls ≠ "java/lang/invoke/MethodHandle" ∧ yX7_readText.cls ≠ "java/lang/invoke/VarHandle" ∧ (parseMethodDescriptor yX7_readText.desc).map (fun d => d.parameters.length) = some 1 := by decide +kernel
theorem pd_X7_readShelves : yX7_readShelves.cls ≠ "java/lang/invoke/MethodHandle" ∧ yX7_readShelves.cls ≠ "java/lang/invoke/VarHandle" ∧ (parseMethodDescriptor yX7_readShelves.desc).map (fun d => d.parameters.length) = some 1 := by decide +kernel
theorem pd_X7_readItems : yX7_readItems.cls ≠ "java/lang/invoke/MethodHandle" ∧ yX7_readItems.cls ≠ "java/lang/invoke/VarHandle" ∧ (parseMethodDescriptor yX7_readItems.desc).map (fun d => d.parameters.length) = some 1 := by decide +kernel
theorem pd_X7_readItem : yX7_readItem.cls ≠ "java/lang/invoke/MethodHandle" ∧ yX7_readItem.cls ≠ "java/lang/invoke/VarHandle" ∧ (parseMethodDescriptor yX7_readItem.desc).map (fun d => d.parameters.length) = some 1 := by decide +kernel
theorem pd_X7_readStocks : yX7_readStocks.cls ≠ "java/lang/invoke/MethodHandle" ∧ yX7_readStocks.cls ≠ "java/lang/invoke/VarHandle" ∧ (parseMethodDescriptor yX7_readStocks.desc).map (fun d => d.parameters.length) = some 1 := by decide +kernel
theorem pd_X7_readStock : yX7_readStock.cls ≠ "java/lang/invoke/MethodHandle" ∧ yX7_readStock.cls ≠ "java/lang/invoke/VarHandle" ∧ (parseMethodDescriptor yX7_readStock.desc).map (fun d => d.parameters.length) = some 1 := by decide +kernel
theorem pd_X7_readMoves : yX7_readMoves.cls ≠ "java/lang/invoke/MethodHandle" ∧ yX7_readMoves.cls ≠ "java/lang/invoke/VarHandle" ∧ (parseMethodDescriptor yX7_readMoves.desc).map (fun d => d.parameters.length) = some 1 := by decide +kernel
theorem pd_X7_readMove : yX7_readMove.cls ≠ "java/lang/invoke/MethodHandle" ∧ yX7_readMove.cls ≠ "java/lang/invoke/VarHandle" ∧ (parseMethodDescriptor yX7_readMove.desc).map (fun d => d.parameters.length) = some 1 := by decide +kernel
theorem pd_X7_readLeg : yX7_readLeg.cls ≠ "java/lang/invoke/MethodHandle" ∧ yX7_readLeg.cls ≠ "java/lang/invoke/VarHandle" ∧ (parseMethodDescriptor yX7_readLeg.desc).map (fun d => d.parameters.length) = some 3 := by decide +kernel
theorem pd_X7_readEnd : yX7_readEnd.cls ≠ "java/lang/invoke/MethodHandle" ∧ yX7_readEnd.cls ≠ "java/lang/invoke/VarHandle" ∧ (parseMethodDescriptor yX7_readEnd.desc).map (fun d => d.parameters.length) = some 0 := by decide +kernel
theorem pd_X7_takeLineEnd : yX7_takeLineEnd.cls ≠ "java/lang/invoke/MethodHandle" ∧ yX7_takeLineEnd.cls ≠ "java/lang/invoke/VarHandle" ∧ (parseMethodDescriptor yX7_takeLineEnd.desc).map (fun d => d.parameters.length) = some 0 := by decide +kernel
theorem pd_X7_take : yX7_take.cls ≠ "java/lang/invoke/MethodHandle" ∧ yX7_take.cls ≠ "java/lang/invoke/VarHandle" ∧ (parseMethodDescriptor yX7_take.desc).map (fun d => d.parameters.length) = some 1 := by decide +kernel
theorem pd_X7_takeNumber : yX7_takeNumber.cls ≠ "java/lang/invoke/MethodHandle" ∧ yX7_takeNumber.cls ≠ "java/lang/invoke/VarHandle" ∧ (parseMethodDescriptor yX7_takeNumber.desc).map (fun d => d.parameters.length) = some 2 := by decide +kernel
theorem pd_X7_advance : yX7_advance.cls ≠ "java/lang/invoke/MethodHandle" ∧ yX7_advance.cls ≠ "java/lang/invoke/VarHandle" ∧ (parseMethodDescriptor yX7_advance.desc).map (fun d => d.parameters.length) = some 0 := by decide +kernel
theorem pd_X7_fail : yX7_fail.cls ≠ "java/lang/invoke/MethodHandle" ∧ yX7_fail.cls ≠ "java/lang/invoke/VarHandle" ∧ (parseMethodDescriptor yX7_fail.desc).map (fun d => d.parameters.length) = some 1 := by decide +kernel
