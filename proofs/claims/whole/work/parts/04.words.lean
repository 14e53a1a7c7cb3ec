/-! the words of the tables that keep (GW), the words of nest mates (NW), and each by its place -/
def GW : List Cond := lw_tbl.filter goodWord
def isNest : Cond → Bool
  | .fieldLinkNest .. => true
  | .methodLinkNest .. => true
  | _ => false
def NW : List Cond := lw_tbl.filter isNest
theorem gwm {w : Cond} (i : Nat) (h : lw_tbl[i]? = some w) (hg : goodWord w = true) : w ∈ GW := List.mem_filter.mpr ⟨List.mem_of_getElem? h, hg⟩
theorem nwm {w : Cond} (i : Nat) (h : lw_tbl[i]? = some w) (hg : isNest w = true) : w ∈ NW := List.mem_filter.mpr ⟨List.mem_of_getElem? h, hg⟩
def nwOk (U : State) : Prop := ∀ w ∈ NW, va_Nw w U
theorem nwOk.warm {s U : State} (hW : s.WarmedH U.vm) (h : nwOk s) : nwOk U := by
  intro w hw
  have h1 := (List.mem_filter.mp hw).2
  have h2 := h w hw
  cases w <;> first | exact va_Nw.warmF hW h2 | exact va_Nw.warmM hW h2 | exact absurd h1 (by simp [isNest])
theorem nwOk.same {s U : State} (hv : s.vm = U.vm) (h : nwOk s) : nwOk U := by
  intro w hw
  have h1 := (List.mem_filter.mp hw).2
  have h2 := h w hw
  cases w <;> first | exact va_Nw.same rfl hv h2 | exact absurd h1 (by simp [isNest])
theorem gw_good {w : Cond} (h : w ∈ GW) : (w.onTables && w.keeps) = true ∨ ∃ ty, w = .arrayClass ty := good_of_word (List.mem_filter.mp h).2
theorem gw_in {x y : MethodName} {bx bY : ByteArray} {nx ny : Nat} {rx ry : Option FieldType} (h : Cond.code y bY ny ry ∈ GW) : GoodIn (.code x bx nx rx :: GW) (.code y bY ny ry :: GW) := by
  intro w hw
  rcases List.mem_cons.mp hw with rfl | hw
  · exact ⟨List.mem_cons_of_mem _ h, gw_good h⟩
  · exact ⟨List.mem_cons_of_mem _ hw, gw_good hw⟩
theorem gw_tbl {y : MethodName} {bY : ByteArray} {ny : Nat} {ry : Option FieldType} (h : Cond.code y bY ny ry ∈ GW) : GoodIn GW (.code y bY ny ry :: GW) := by
  intro w hw
  rcases List.mem_cons.mp hw with rfl | hw
  · exact ⟨h, gw_good h⟩
  · exact ⟨hw, gw_good hw⟩

theorem gw_0 : Cond.selects "RunningCount$Tape" (⟨"RunningCount$Tape", "hasRoom", "()Z"⟩ : MethodName) (⟨"RunningCount$Tape", "hasRoom", "()Z"⟩ : MethodName) ∈ GW := gwm 0 (by decide +kernel) rfl
theorem gw_1 : Cond.selects "RunningCount$Tape" (⟨"RunningCount$Tape", "append", "(I)V"⟩ : MethodName) (⟨"RunningCount$Tape", "append", "(I)V"⟩ : MethodName) ∈ GW := gwm 1 (by decide +kernel) rfl
theorem gw_2 : Cond.selects "RunningCount$TextReader" (⟨"RunningCount$TextReader", "readText", "(LRunningCount$Goods;)Z"⟩ : MethodName) (⟨"RunningCount$TextReader", "readText", "(LRunningCount$Goods;)Z"⟩ : MethodName) ∈ GW := gwm 2 (by decide +kernel) rfl
theorem gw_3 : Cond.selects "RunningCount$Tape" (⟨"RunningCount$Tape", "scan", "()V"⟩ : MethodName) (⟨"RunningCount$Tape", "scan", "()V"⟩ : MethodName) ∈ GW := gwm 3 (by decide +kernel) rfl
theorem gw_4 : Cond.selects "RunningCount$Tape" (⟨"RunningCount$Tape", "behindRun", "(I)I"⟩ : MethodName) (⟨"RunningCount$Tape", "behindRun", "(I)I"⟩ : MethodName) ∈ GW := gwm 4 (by decide +kernel) rfl
theorem gw_5 : Cond.selects "RunningCount$Tape" (⟨"RunningCount$Tape", "kindOf", "(II)I"⟩ : MethodName) (⟨"RunningCount$Tape", "kindOf", "(II)I"⟩ : MethodName) ∈ GW := gwm 5 (by decide +kernel) rfl
theorem gw_6 : Cond.selects "RunningCount$Tape" (⟨"RunningCount$Tape", "kindOfWord", "(II)I"⟩ : MethodName) (⟨"RunningCount$Tape", "kindOfWord", "(II)I"⟩ : MethodName) ∈ GW := gwm 6 (by decide +kernel) rfl
theorem gw_7 : Cond.selects "RunningCount$Tape" (⟨"RunningCount$Tape", "isWord", "(IILjava/lang/String;)Z"⟩ : MethodName) (⟨"RunningCount$Tape", "isWord", "(IILjava/lang/String;)Z"⟩ : MethodName) ∈ GW := gwm 7 (by decide +kernel) rfl
theorem gw_8 : Cond.selects "RunningCount$Tape" (⟨"RunningCount$Tape", "addToken", "(II)V"⟩ : MethodName) (⟨"RunningCount$Tape", "addToken", "(II)V"⟩ : MethodName) ∈ GW := gwm 8 (by decide +kernel) rfl
theorem gw_9 : Cond.selects "RunningCount$Goods" (⟨"RunningCount$Goods", "clear", "()V"⟩ : MethodName) (⟨"RunningCount$Goods", "clear", "()V"⟩ : MethodName) ∈ GW := gwm 9 (by decide +kernel) rfl
theorem gw_10 : Cond.selects "RunningCount$TextReader" (⟨"RunningCount$TextReader", "advance", "()V"⟩ : MethodName) (⟨"RunningCount$TextReader", "advance", "()V"⟩ : MethodName) ∈ GW := gwm 10 (by decide +kernel) rfl
theorem gw_11 : Cond.selects "RunningCount$TextReader" (⟨"RunningCount$TextReader", "readShelves", "(LRunningCount$Goods;)Z"⟩ : MethodName) (⟨"RunningCount$TextReader", "readShelves", "(LRunningCount$Goods;)Z"⟩ : MethodName) ∈ GW := gwm 11 (by decide +kernel) rfl
theorem gw_12 : Cond.selects "RunningCount$TextReader" (⟨"RunningCount$TextReader", "take", "(I)Z"⟩ : MethodName) (⟨"RunningCount$TextReader", "take", "(I)Z"⟩ : MethodName) ∈ GW := gwm 12 (by decide +kernel) rfl
theorem gw_13 : Cond.selects "RunningCount$TextReader" (⟨"RunningCount$TextReader", "fail", "(I)Z"⟩ : MethodName) (⟨"RunningCount$TextReader", "fail", "(I)Z"⟩ : MethodName) ∈ GW := gwm 13 (by decide +kernel) rfl
theorem gw_14 : Cond.selects "RunningCount$TextReader" (⟨"RunningCount$TextReader", "takeNumber", "(II)Z"⟩ : MethodName) (⟨"RunningCount$TextReader", "takeNumber", "(II)Z"⟩ : MethodName) ∈ GW := gwm 14 (by decide +kernel) rfl
theorem gw_15 : Cond.selects "RunningCount$TextReader" (⟨"RunningCount$TextReader", "takeLineEnd", "()Z"⟩ : MethodName) (⟨"RunningCount$TextReader", "takeLineEnd", "()Z"⟩ : MethodName) ∈ GW := gwm 15 (by decide +kernel) rfl
theorem gw_16 : Cond.selects "RunningCount$TextReader" (⟨"RunningCount$TextReader", "readItems", "(LRunningCount$Goods;)Z"⟩ : MethodName) (⟨"RunningCount$TextReader", "readItems", "(LRunningCount$Goods;)Z"⟩ : MethodName) ∈ GW := gwm 16 (by decide +kernel) rfl
theorem gw_17 : Cond.selects "RunningCount$TextReader" (⟨"RunningCount$TextReader", "readItem", "(LRunningCount$Goods;)Z"⟩ : MethodName) (⟨"RunningCount$TextReader", "readItem", "(LRunningCount$Goods;)Z"⟩ : MethodName) ∈ GW := gwm 17 (by decide +kernel) rfl
theorem gw_18 : Cond.selects "RunningCount$Goods" (⟨"RunningCount$Goods", "addItem", "(II)V"⟩ : MethodName) (⟨"RunningCount$Goods", "addItem", "(II)V"⟩ : MethodName) ∈ GW := gwm 18 (by decide +kernel) rfl
theorem gw_19 : Cond.selects "RunningCount$TextReader" (⟨"RunningCount$TextReader", "readStocks", "(LRunningCount$Goods;)Z"⟩ : MethodName) (⟨"RunningCount$TextReader", "readStocks", "(LRunningCount$Goods;)Z"⟩ : MethodName) ∈ GW := gwm 19 (by decide +kernel) rfl
theorem gw_20 : Cond.selects "RunningCount$TextReader" (⟨"RunningCount$TextReader", "readStock", "(LRunningCount$Goods;)Z"⟩ : MethodName) (⟨"RunningCount$TextReader", "readStock", "(LRunningCount$Goods;)Z"⟩ : MethodName) ∈ GW := gwm 20 (by decide +kernel) rfl
theorem gw_21 : Cond.selects "RunningCount$Goods" (⟨"RunningCount$Goods", "isStockTold", "(II)Z"⟩ : MethodName) (⟨"RunningCount$Goods", "isStockTold", "(II)Z"⟩ : MethodName) ∈ GW := gwm 21 (by decide +kernel) rfl
theorem gw_22 : Cond.selects "RunningCount$Goods" (⟨"RunningCount$Goods", "hasCouple", "(II)Z"⟩ : MethodName) (⟨"RunningCount$Goods", "hasCouple", "(II)Z"⟩ : MethodName) ∈ GW := gwm 22 (by decide +kernel) rfl
theorem gw_23 : Cond.selects "RunningCount$Goods" (⟨"RunningCount$Goods", "hasShelf", "(I)Z"⟩ : MethodName) (⟨"RunningCount$Goods", "hasShelf", "(I)Z"⟩ : MethodName) ∈ GW := gwm 23 (by decide +kernel) rfl
theorem gw_24 : Cond.selects "RunningCount$Goods" (⟨"RunningCount$Goods", "hasItem", "(I)Z"⟩ : MethodName) (⟨"RunningCount$Goods", "hasItem", "(I)Z"⟩ : MethodName) ∈ GW := gwm 24 (by decide +kernel) rfl
theorem gw_25 : Cond.selects "RunningCount$Goods" (⟨"RunningCount$Goods", "tellStock", "(III)V"⟩ : MethodName) (⟨"RunningCount$Goods", "tellStock", "(III)V"⟩ : MethodName) ∈ GW := gwm 25 (by decide +kernel) rfl
theorem gw_26 : Cond.selects "RunningCount$TextReader" (⟨"RunningCount$TextReader", "readMoves", "(LRunningCount$Goods;)Z"⟩ : MethodName) (⟨"RunningCount$TextReader", "readMoves", "(LRunningCount$Goods;)Z"⟩ : MethodName) ∈ GW := gwm 26 (by decide +kernel) rfl
theorem gw_27 : Cond.selects "RunningCount$TextReader" (⟨"RunningCount$TextReader", "readMove", "(LRunningCount$Goods;)Z"⟩ : MethodName) (⟨"RunningCount$TextReader", "readMove", "(LRunningCount$Goods;)Z"⟩ : MethodName) ∈ GW := gwm 27 (by decide +kernel) rfl
theorem gw_28 : Cond.selects "RunningCount$Goods" (⟨"RunningCount$Goods", "addMove", "(II)I"⟩ : MethodName) (⟨"RunningCount$Goods", "addMove", "(II)I"⟩ : MethodName) ∈ GW := gwm 28 (by decide +kernel) rfl
theorem gw_29 : Cond.selects "RunningCount$Goods" (⟨"RunningCount$Goods", "removeLeg", "(I)V"⟩ : MethodName) (⟨"RunningCount$Goods", "removeLeg", "(I)V"⟩ : MethodName) ∈ GW := gwm 29 (by decide +kernel) rfl
theorem gw_30 : Cond.selects "RunningCount$Goods" (⟨"RunningCount$Goods", "setLeg", "(IIII)V"⟩ : MethodName) (⟨"RunningCount$Goods", "setLeg", "(IIII)V"⟩ : MethodName) ∈ GW := gwm 30 (by decide +kernel) rfl
theorem gw_31 : Cond.selects "RunningCount$TextReader" (⟨"RunningCount$TextReader", "readLeg", "(LRunningCount$Goods;II)Z"⟩ : MethodName) (⟨"RunningCount$TextReader", "readLeg", "(LRunningCount$Goods;II)Z"⟩ : MethodName) ∈ GW := gwm 31 (by decide +kernel) rfl
theorem gw_32 : Cond.selects "RunningCount$TextReader" (⟨"RunningCount$TextReader", "readEnd", "()Z"⟩ : MethodName) (⟨"RunningCount$TextReader", "readEnd", "()Z"⟩ : MethodName) ∈ GW := gwm 32 (by decide +kernel) rfl
theorem gw_33 : Cond.selects "RunningCount$CountList" (⟨"RunningCount$CountList", "openCounts", "()I"⟩ : MethodName) (⟨"RunningCount$CountList", "openCounts", "()I"⟩ : MethodName) ∈ GW := gwm 33 (by decide +kernel) rfl
theorem gw_34 : Cond.selects "RunningCount$Book" (⟨"RunningCount$Book", "readAt", "(LRunningCount$Goods;LRunningCount$AdjustmentList;III)V"⟩ : MethodName) (⟨"RunningCount$Book", "readAt", "(LRunningCount$Goods;LRunningCount$AdjustmentList;III)V"⟩ : MethodName) ∈ GW := gwm 34 (by decide +kernel) rfl
theorem gw_35 : Cond.selects "RunningCount$Goods" (⟨"RunningCount$Goods", "stockOf", "(II)I"⟩ : MethodName) (⟨"RunningCount$Goods", "stockOf", "(II)I"⟩ : MethodName) ∈ GW := gwm 35 (by decide +kernel) rfl
theorem gw_36 : Cond.selects "RunningCount$AdjustmentList" (⟨"RunningCount$AdjustmentList", "sumUpTo", "(III)I"⟩ : MethodName) (⟨"RunningCount$AdjustmentList", "sumUpTo", "(III)I"⟩ : MethodName) ∈ GW := gwm 36 (by decide +kernel) rfl
theorem gw_37 : Cond.selects "RunningCount$AdjustmentList" (⟨"RunningCount$AdjustmentList", "isAt", "(III)Z"⟩ : MethodName) (⟨"RunningCount$AdjustmentList", "isAt", "(III)Z"⟩ : MethodName) ∈ GW := gwm 37 (by decide +kernel) rfl
theorem gw_38 : Cond.selects "RunningCount$Book" (⟨"RunningCount$Book", "readLeg", "(LRunningCount$Goods;IIII)V"⟩ : MethodName) (⟨"RunningCount$Book", "readLeg", "(LRunningCount$Goods;IIII)V"⟩ : MethodName) ∈ GW := gwm 38 (by decide +kernel) rfl
theorem gw_39 : Cond.selects "RunningCount$Goods" (⟨"RunningCount$Goods", "isOver", "(II)Z"⟩ : MethodName) (⟨"RunningCount$Goods", "isOver", "(II)Z"⟩ : MethodName) ∈ GW := gwm 39 (by decide +kernel) rfl
theorem gw_40 : Cond.selects "RunningCount$Goods" (⟨"RunningCount$Goods", "isToCome", "(II)Z"⟩ : MethodName) (⟨"RunningCount$Goods", "isToCome", "(II)Z"⟩ : MethodName) ∈ GW := gwm 40 (by decide +kernel) rfl
theorem gw_41 : Cond.selects "RunningCount$Book" (⟨"RunningCount$Book", "addDoubt", "(I)V"⟩ : MethodName) (⟨"RunningCount$Book", "addDoubt", "(I)V"⟩ : MethodName) ∈ GW := gwm 41 (by decide +kernel) rfl
theorem gw_42 : Cond.selects "RunningCount" (⟨"RunningCount", "isInTransit", "(IIZ)Z"⟩ : MethodName) (⟨"RunningCount", "isInTransit", "(IIZ)Z"⟩ : MethodName) ∈ GW := gwm 42 (by decide +kernel) rfl
theorem gw_43 : Cond.selects "RunningCount$Goods" (⟨"RunningCount$Goods", "isThere", "(I)Z"⟩ : MethodName) (⟨"RunningCount$Goods", "isThere", "(I)Z"⟩ : MethodName) ∈ GW := gwm 43 (by decide +kernel) rfl
theorem gw_44 : Cond.selects "RunningCount" (⟨"RunningCount", "isBelow", "(III)Z"⟩ : MethodName) (⟨"RunningCount", "isBelow", "(III)Z"⟩ : MethodName) ∈ GW := gwm 44 (by decide +kernel) rfl
theorem gw_45 : Cond.selects "RunningCount$CountList" (⟨"RunningCount$CountList", "has", "(I)Z"⟩ : MethodName) (⟨"RunningCount$CountList", "has", "(I)Z"⟩ : MethodName) ∈ GW := gwm 45 (by decide +kernel) rfl
theorem gw_46 : Cond.selects "RunningCount" (⟨"RunningCount", "differenceOf", "(I)I"⟩ : MethodName) (⟨"RunningCount", "differenceOf", "(I)I"⟩ : MethodName) ∈ GW := gwm 46 (by decide +kernel) rfl
theorem gw_47 : Cond.selects "RunningCount" (⟨"RunningCount", "turnTo", "(I)V"⟩ : MethodName) (⟨"RunningCount", "turnTo", "(I)V"⟩ : MethodName) ∈ GW := gwm 47 (by decide +kernel) rfl
theorem gw_48 : Cond.selects "RunningCount" (⟨"RunningCount", "chosenOf", "(II)I"⟩ : MethodName) (⟨"RunningCount", "chosenOf", "(II)I"⟩ : MethodName) ∈ GW := gwm 48 (by decide +kernel) rfl
theorem gw_49 : Cond.selects "RunningCount$CountList" (⟨"RunningCount$CountList", "openFirst", "(II)I"⟩ : MethodName) (⟨"RunningCount$CountList", "openFirst", "(II)I"⟩ : MethodName) ∈ GW := gwm 49 (by decide +kernel) rfl
theorem gw_50 : Cond.selects "RunningCount$CountList" (⟨"RunningCount$CountList", "isOpenAt", "(III)Z"⟩ : MethodName) (⟨"RunningCount$CountList", "isOpenAt", "(III)Z"⟩ : MethodName) ∈ GW := gwm 50 (by decide +kernel) rfl
theorem gw_51 : Cond.selects "RunningCount$CountList" (⟨"RunningCount$CountList", "isAt", "(III)Z"⟩ : MethodName) (⟨"RunningCount$CountList", "isAt", "(III)Z"⟩ : MethodName) ∈ GW := gwm 51 (by decide +kernel) rfl
theorem gw_52 : Cond.selects "RunningCount" (⟨"RunningCount", "allowedFor", "(I)I"⟩ : MethodName) (⟨"RunningCount", "allowedFor", "(I)I"⟩ : MethodName) ∈ GW := gwm 52 (by decide +kernel) rfl
theorem gw_53 : Cond.selects "RunningCount$CountList" (⟨"RunningCount$CountList", "openAhead", "(III)I"⟩ : MethodName) (⟨"RunningCount$CountList", "openAhead", "(III)I"⟩ : MethodName) ∈ GW := gwm 53 (by decide +kernel) rfl
theorem gw_54 : Cond.selects "RunningCount$Book" (⟨"RunningCount$Book", "sureWith", "(I)I"⟩ : MethodName) (⟨"RunningCount$Book", "sureWith", "(I)I"⟩ : MethodName) ∈ GW := gwm 54 (by decide +kernel) rfl
theorem gw_55 : Cond.selects "RunningCount$Journal" (⟨"RunningCount$Journal", "begin", "(II)LRunningCount$Act;"⟩ : MethodName) (⟨"RunningCount$Journal", "begin", "(II)LRunningCount$Act;"⟩ : MethodName) ∈ GW := gwm 55 (by decide +kernel) rfl
theorem gw_56 : Cond.selects "RunningCount$Goods" (⟨"RunningCount$Goods", "hasMove", "(I)Z"⟩ : MethodName) (⟨"RunningCount$Goods", "hasMove", "(I)Z"⟩ : MethodName) ∈ GW := gwm 56 (by decide +kernel) rfl
theorem gw_57 : Cond.selects "RunningCount$Goods" (⟨"RunningCount$Goods", "setSpan", "(III)V"⟩ : MethodName) (⟨"RunningCount$Goods", "setSpan", "(III)V"⟩ : MethodName) ∈ GW := gwm 57 (by decide +kernel) rfl
theorem gw_58 : Cond.selects "RunningCount$CountList" (⟨"RunningCount$CountList", "isCountedAt", "(III)Z"⟩ : MethodName) (⟨"RunningCount$CountList", "isCountedAt", "(III)Z"⟩ : MethodName) ∈ GW := gwm 58 (by decide +kernel) rfl
theorem gw_59 : Cond.selects "RunningCount$CountList" (⟨"RunningCount$CountList", "isPostedBehind", "(III)Z"⟩ : MethodName) (⟨"RunningCount$CountList", "isPostedBehind", "(III)Z"⟩ : MethodName) ∈ GW := gwm 59 (by decide +kernel) rfl
theorem gw_60 : Cond.selects "RunningCount$CountList" (⟨"RunningCount$CountList", "insert", "(IIIIII)V"⟩ : MethodName) (⟨"RunningCount$CountList", "insert", "(IIIIII)V"⟩ : MethodName) ∈ GW := gwm 60 (by decide +kernel) rfl
theorem gw_61 : Cond.selects "RunningCount$CountList" (⟨"RunningCount$CountList", "copy", "(II)V"⟩ : MethodName) (⟨"RunningCount$CountList", "copy", "(II)V"⟩ : MethodName) ∈ GW := gwm 61 (by decide +kernel) rfl
theorem gw_62 : Cond.selects "RunningCount$AdjustmentList" (⟨"RunningCount$AdjustmentList", "append", "(IIII)V"⟩ : MethodName) (⟨"RunningCount$AdjustmentList", "append", "(IIII)V"⟩ : MethodName) ∈ GW := gwm 62 (by decide +kernel) rfl
theorem gw_63 : Cond.selects "RunningCount$CountList" (⟨"RunningCount$CountList", "postUpTo", "(III)J"⟩ : MethodName) (⟨"RunningCount$CountList", "postUpTo", "(III)J"⟩ : MethodName) ∈ GW := gwm 63 (by decide +kernel) rfl
theorem gw_64 : Cond.selects "RunningCount$CountList" (⟨"RunningCount$CountList", "remove", "(I)V"⟩ : MethodName) (⟨"RunningCount$CountList", "remove", "(I)V"⟩ : MethodName) ∈ GW := gwm 64 (by decide +kernel) rfl
theorem gw_65 : Cond.selects "RunningCount$Journal" (⟨"RunningCount$Journal", "takeLatest", "()LRunningCount$Act;"⟩ : MethodName) (⟨"RunningCount$Journal", "takeLatest", "()LRunningCount$Act;"⟩ : MethodName) ∈ GW := gwm 65 (by decide +kernel) rfl
theorem gw_66 : Cond.selects "RunningCount" (⟨"RunningCount", "takeBack", "(LRunningCount$Act;)V"⟩ : MethodName) (⟨"RunningCount", "takeBack", "(LRunningCount$Act;)V"⟩ : MethodName) ∈ GW := gwm 66 (by decide +kernel) rfl
theorem gw_67 : Cond.selects "RunningCount$Goods" (⟨"RunningCount$Goods", "removeLastMove", "()V"⟩ : MethodName) (⟨"RunningCount$Goods", "removeLastMove", "()V"⟩ : MethodName) ∈ GW := gwm 67 (by decide +kernel) rfl
theorem gw_68 : Cond.selects "RunningCount$AdjustmentList" (⟨"RunningCount$AdjustmentList", "removeLast", "()V"⟩ : MethodName) (⟨"RunningCount$AdjustmentList", "removeLast", "()V"⟩ : MethodName) ∈ GW := gwm 68 (by decide +kernel) rfl
theorem gw_69 : Cond.selects "RunningCount$CountList" (⟨"RunningCount$CountList", "reopen", "(J)V"⟩ : MethodName) (⟨"RunningCount$CountList", "reopen", "(J)V"⟩ : MethodName) ∈ GW := gwm 69 (by decide +kernel) rfl
theorem gw_70 : Cond.selects "java/lang/Throwable" (⟨"java/lang/Throwable", "fillInStackTrace", "(I)Ljava/lang/Throwable;"⟩ : MethodName) (⟨"java/lang/Throwable", "fillInStackTrace", "(I)Ljava/lang/Throwable;"⟩ : MethodName) ∈ GW := gwm 70 (by decide +kernel) rfl
theorem gw_71 : Cond.selects "RunningCountModel" (⟨"RunningCountModel", "lays", "(I)V"⟩ : MethodName) (⟨"RunningCountModel", "lays", "(I)V"⟩ : MethodName) ∈ GW := gwm 71 (by decide +kernel) rfl
theorem gw_72 : Cond.selects "RunningCountModel" (⟨"RunningCountModel", "go", "()V"⟩ : MethodName) (⟨"RunningCountModel", "go", "()V"⟩ : MethodName) ∈ GW := gwm 72 (by decide +kernel) rfl
theorem gw_73 : Cond.selects "RunningCountModel" (⟨"RunningCountModel", "tapeAt", "(I)I"⟩ : MethodName) (⟨"RunningCountModel", "tapeAt", "(I)I"⟩ : MethodName) ∈ GW := gwm 73 (by decide +kernel) rfl
theorem gw_74 : Cond.selects "RunningCountModel" (⟨"RunningCountModel", "readWhole", "()Z"⟩ : MethodName) (⟨"RunningCountModel", "readWhole", "()Z"⟩ : MethodName) ∈ GW := gwm 74 (by decide +kernel) rfl
theorem gw_75 : Cond.selects "RunningCountModel" (⟨"RunningCountModel", "readShelves", "()Z"⟩ : MethodName) (⟨"RunningCountModel", "readShelves", "()Z"⟩ : MethodName) ∈ GW := gwm 75 (by decide +kernel) rfl
theorem gw_76 : Cond.selects "RunningCountModel" (⟨"RunningCountModel", "isWord", "(J)Z"⟩ : MethodName) (⟨"RunningCountModel", "isWord", "(J)Z"⟩ : MethodName) ∈ GW := gwm 76 (by decide +kernel) rfl
theorem gw_77 : Cond.selects "RunningCountModel" (⟨"RunningCountModel", "bad", "(I)Z"⟩ : MethodName) (⟨"RunningCountModel", "bad", "(I)Z"⟩ : MethodName) ∈ GW := gwm 77 (by decide +kernel) rfl
theorem gw_78 : Cond.selects "RunningCountModel" (⟨"RunningCountModel", "told", "(III)Z"⟩ : MethodName) (⟨"RunningCountModel", "told", "(III)Z"⟩ : MethodName) ∈ GW := gwm 78 (by decide +kernel) rfl
theorem gw_79 : Cond.selects "RunningCountModel" (⟨"RunningCountModel", "readEnd", "()Z"⟩ : MethodName) (⟨"RunningCountModel", "readEnd", "()Z"⟩ : MethodName) ∈ GW := gwm 79 (by decide +kernel) rfl
theorem gw_80 : Cond.selects "RunningCountModel" (⟨"RunningCountModel", "readAll", "(I)Z"⟩ : MethodName) (⟨"RunningCountModel", "readAll", "(I)Z"⟩ : MethodName) ∈ GW := gwm 80 (by decide +kernel) rfl
theorem gw_81 : Cond.selects "RunningCountModel" (⟨"RunningCountModel", "isSort", "(I)Z"⟩ : MethodName) (⟨"RunningCountModel", "isSort", "(I)Z"⟩ : MethodName) ∈ GW := gwm 81 (by decide +kernel) rfl
theorem gw_82 : Cond.selects "RunningCountModel" (⟨"RunningCountModel", "readItem", "()Z"⟩ : MethodName) (⟨"RunningCountModel", "readItem", "()Z"⟩ : MethodName) ∈ GW := gwm 82 (by decide +kernel) rfl
theorem gw_83 : Cond.selects "RunningCountModel" (⟨"RunningCountModel", "readStock", "()Z"⟩ : MethodName) (⟨"RunningCountModel", "readStock", "()Z"⟩ : MethodName) ∈ GW := gwm 83 (by decide +kernel) rfl
theorem gw_84 : Cond.selects "RunningCountModel" (⟨"RunningCountModel", "takes", "(II)Z"⟩ : MethodName) (⟨"RunningCountModel", "takes", "(II)Z"⟩ : MethodName) ∈ GW := gwm 84 (by decide +kernel) rfl
theorem gw_85 : Cond.selects "RunningCountModel" (⟨"RunningCountModel", "readMove", "()Z"⟩ : MethodName) (⟨"RunningCountModel", "readMove", "()Z"⟩ : MethodName) ∈ GW := gwm 85 (by decide +kernel) rfl
theorem gw_86 : Cond.selects "RunningCountModel" (⟨"RunningCountModel", "readLeg", "(I)Z"⟩ : MethodName) (⟨"RunningCountModel", "readLeg", "(I)Z"⟩ : MethodName) ∈ GW := gwm 86 (by decide +kernel) rfl
theorem gw_87 : Cond.selects "RunningCountModel" (⟨"RunningCountModel", "openMany", "()I"⟩ : MethodName) (⟨"RunningCountModel", "openMany", "()I"⟩ : MethodName) ∈ GW := gwm 87 (by decide +kernel) rfl
theorem gw_88 : Cond.selects "RunningCountModel" (⟨"RunningCountModel", "counted", "(II)I"⟩ : MethodName) (⟨"RunningCountModel", "counted", "(II)I"⟩ : MethodName) ∈ GW := gwm 88 (by decide +kernel) rfl
theorem gw_89 : Cond.selects "RunningCountModel" (⟨"RunningCountModel", "isItem", "(I)Z"⟩ : MethodName) (⟨"RunningCountModel", "isItem", "(I)Z"⟩ : MethodName) ∈ GW := gwm 89 (by decide +kernel) rfl
theorem gw_90 : Cond.selects "RunningCountModel" (⟨"RunningCountModel", "isMove", "(I)Z"⟩ : MethodName) (⟨"RunningCountModel", "isMove", "(I)Z"⟩ : MethodName) ∈ GW := gwm 90 (by decide +kernel) rfl
theorem gw_91 : Cond.selects "RunningCountModel" (⟨"RunningCountModel", "refuse", "()I"⟩ : MethodName) (⟨"RunningCountModel", "refuse", "()I"⟩ : MethodName) ∈ GW := gwm 91 (by decide +kernel) rfl
theorem gw_92 : Cond.selects "RunningCountModel" (⟨"RunningCountModel", "moved", "(II)I"⟩ : MethodName) (⟨"RunningCountModel", "moved", "(II)I"⟩ : MethodName) ∈ GW := gwm 92 (by decide +kernel) rfl
theorem gw_93 : Cond.selects "RunningCountModel" (⟨"RunningCountModel", "isThere", "(II)Z"⟩ : MethodName) (⟨"RunningCountModel", "isThere", "(II)Z"⟩ : MethodName) ∈ GW := gwm 93 (by decide +kernel) rfl
theorem gw_94 : Cond.selects "RunningCountModel" (⟨"RunningCountModel", "leg", "(III)I"⟩ : MethodName) (⟨"RunningCountModel", "leg", "(III)I"⟩ : MethodName) ∈ GW := gwm 94 (by decide +kernel) rfl
theorem gw_95 : Cond.selects "RunningCountModel" (⟨"RunningCountModel", "isShelf", "(I)Z"⟩ : MethodName) (⟨"RunningCountModel", "isShelf", "(I)Z"⟩ : MethodName) ∈ GW := gwm 95 (by decide +kernel) rfl
theorem gw_96 : Cond.selects "RunningCountModel" (⟨"RunningCountModel", "sure", "(III)I"⟩ : MethodName) (⟨"RunningCountModel", "sure", "(III)I"⟩ : MethodName) ∈ GW := gwm 96 (by decide +kernel) rfl
theorem gw_97 : Cond.selects "RunningCountModel" (⟨"RunningCountModel", "isAt", "(IIII)Z"⟩ : MethodName) (⟨"RunningCountModel", "isAt", "(IIII)Z"⟩ : MethodName) ∈ GW := gwm 97 (by decide +kernel) rfl
theorem gw_98 : Cond.selects "RunningCountModel" (⟨"RunningCountModel", "isOver", "(III)Z"⟩ : MethodName) (⟨"RunningCountModel", "isOver", "(III)Z"⟩ : MethodName) ∈ GW := gwm 98 (by decide +kernel) rfl
theorem gw_99 : Cond.selects "RunningCountModel" (⟨"RunningCountModel", "least", "(III)I"⟩ : MethodName) (⟨"RunningCountModel", "least", "(III)I"⟩ : MethodName) ∈ GW := gwm 99 (by decide +kernel) rfl
theorem gw_100 : Cond.selects "RunningCountModel" (⟨"RunningCountModel", "doubtful", "(IIII)I"⟩ : MethodName) (⟨"RunningCountModel", "doubtful", "(IIII)I"⟩ : MethodName) ∈ GW := gwm 100 (by decide +kernel) rfl
theorem gw_101 : Cond.selects "RunningCountModel" (⟨"RunningCountModel", "isDoubtful", "(III)Z"⟩ : MethodName) (⟨"RunningCountModel", "isDoubtful", "(III)Z"⟩ : MethodName) ∈ GW := gwm 101 (by decide +kernel) rfl
theorem gw_102 : Cond.selects "RunningCountModel" (⟨"RunningCountModel", "isToCome", "(III)Z"⟩ : MethodName) (⟨"RunningCountModel", "isToCome", "(III)Z"⟩ : MethodName) ∈ GW := gwm 102 (by decide +kernel) rfl
theorem gw_103 : Cond.selects "RunningCountModel" (⟨"RunningCountModel", "most", "(III)I"⟩ : MethodName) (⟨"RunningCountModel", "most", "(III)I"⟩ : MethodName) ∈ GW := gwm 103 (by decide +kernel) rfl
theorem gw_104 : Cond.selects "RunningCountModel" (⟨"RunningCountModel", "isCount", "(I)Z"⟩ : MethodName) (⟨"RunningCountModel", "isCount", "(I)Z"⟩ : MethodName) ∈ GW := gwm 104 (by decide +kernel) rfl
theorem gw_105 : Cond.selects "RunningCountModel" (⟨"RunningCountModel", "allowed", "(I)I"⟩ : MethodName) (⟨"RunningCountModel", "allowed", "(I)I"⟩ : MethodName) ∈ GW := gwm 105 (by decide +kernel) rfl
theorem gw_106 : Cond.selects "RunningCountModel" (⟨"RunningCountModel", "sureOf", "(I)I"⟩ : MethodName) (⟨"RunningCountModel", "sureOf", "(I)I"⟩ : MethodName) ∈ GW := gwm 106 (by decide +kernel) rfl
theorem gw_107 : Cond.selects "RunningCountModel" (⟨"RunningCountModel", "differenceOf", "(I)I"⟩ : MethodName) (⟨"RunningCountModel", "differenceOf", "(I)I"⟩ : MethodName) ∈ GW := gwm 107 (by decide +kernel) rfl
theorem gw_108 : Cond.selects "RunningCountModel" (⟨"RunningCountModel", "choose", "(II)I"⟩ : MethodName) (⟨"RunningCountModel", "choose", "(II)I"⟩ : MethodName) ∈ GW := gwm 108 (by decide +kernel) rfl
theorem gw_109 : Cond.selects "RunningCountModel" (⟨"RunningCountModel", "laysOpen", "(II)V"⟩ : MethodName) (⟨"RunningCountModel", "laysOpen", "(II)V"⟩ : MethodName) ∈ GW := gwm 109 (by decide +kernel) rfl
theorem gw_110 : Cond.selects "RunningCountModel" (⟨"RunningCountModel", "isOpenAt", "(III)Z"⟩ : MethodName) (⟨"RunningCountModel", "isOpenAt", "(III)Z"⟩ : MethodName) ∈ GW := gwm 110 (by decide +kernel) rfl
theorem gw_111 : Cond.selects "RunningCountModel" (⟨"RunningCountModel", "snap", "()V"⟩ : MethodName) (⟨"RunningCountModel", "snap", "()V"⟩ : MethodName) ∈ GW := gwm 111 (by decide +kernel) rfl
theorem gw_112 : Cond.selects "RunningCountModel" (⟨"RunningCountModel", "whyNot", "(IIII)I"⟩ : MethodName) (⟨"RunningCountModel", "whyNot", "(IIII)I"⟩ : MethodName) ∈ GW := gwm 112 (by decide +kernel) rfl
theorem gw_113 : (Jvm.Cond.initialized "RunningCountLaw") ∈ GW := gwm 113 (by decide +kernel) rfl
theorem gw_114 : (Jvm.Cond.initialized "RunningCount") ∈ GW := gwm 114 (by decide +kernel) rfl
theorem gw_115 : (Jvm.Cond.initialized "RunningCount$TextReader") ∈ GW := gwm 115 (by decide +kernel) rfl
theorem gw_116 : (Jvm.Cond.initialized "RunningCount$Tape") ∈ GW := gwm 116 (by decide +kernel) rfl
theorem gw_117 : (Jvm.Cond.initialized "RunningCount$Goods") ∈ GW := gwm 117 (by decide +kernel) rfl
theorem gw_118 : (Jvm.Cond.initialized "RunningCount$CountList") ∈ GW := gwm 118 (by decide +kernel) rfl
theorem gw_119 : (Jvm.Cond.initialized "RunningCount$AdjustmentList") ∈ GW := gwm 119 (by decide +kernel) rfl
theorem gw_120 : (Jvm.Cond.initialized "RunningCount$Journal") ∈ GW := gwm 120 (by decide +kernel) rfl
theorem gw_121 : (Jvm.Cond.initialized "RunningCount$Act") ∈ GW := gwm 121 (by decide +kernel) rfl
theorem gw_122 : (Jvm.Cond.initialized "RunningCount$Book") ∈ GW := gwm 122 (by decide +kernel) rfl
theorem gw_123 : (Jvm.Cond.initialized "RunningCountModel") ∈ GW := gwm 123 (by decide +kernel) rfl
theorem gw_124 : (Jvm.Cond.initialized "java/lang/Math") ∈ GW := gwm 124 (by decide +kernel) rfl
theorem gw_125 : (Jvm.Cond.initialized "java/lang/String") ∈ GW := gwm 125 (by decide +kernel) rfl
theorem gw_126 : (Jvm.Cond.initialized "java/lang/StringLatin1") ∈ GW := gwm 126 (by decide +kernel) rfl
theorem gw_127 : (Jvm.Cond.initialized "jdk/internal/util/Preconditions") ∈ GW := gwm 127 (by decide +kernel) rfl
theorem gw_128 : (Jvm.Cond.initialized "java/lang/StringUTF16") ∈ GW := gwm 128 (by decide +kernel) rfl
theorem gw_129 : (Jvm.Cond.initialized "java/lang/Throwable") ∈ GW := gwm 129 (by decide +kernel) rfl
theorem gw_130 : (Jvm.Cond.initialized "java/lang/Exception") ∈ GW := gwm 130 (by decide +kernel) rfl
theorem gw_131 : (Jvm.Cond.initialized "java/lang/RuntimeException") ∈ GW := gwm 131 (by decide +kernel) rfl
theorem gw_132 : (Jvm.Cond.initialized "java/util/NoSuchElementException") ∈ GW := gwm 132 (by decide +kernel) rfl
theorem gw_133 : (Jvm.Cond.classLink "RunningCountLaw" (8 : Nat) "RunningCount") ∈ GW := gwm 133 (by decide +kernel) rfl
theorem gw_134 : (Jvm.Cond.instantiable "RunningCount" (7 : Nat)) ∈ GW := gwm 134 (by decide +kernel) rfl
theorem gw_135 : (Jvm.Cond.methodLink "RunningCountLaw" (18 : Nat) ({ cls := "RunningCount", name := "<init>", desc := "()V" } : Jvm.MethodName)) ∈ GW := gwm 135 (by decide +kernel) rfl
theorem gw_136 : (Jvm.Cond.instanceMethod ({ cls := "RunningCount", name := "<init>", desc := "()V" } : Jvm.MethodName)) ∈ GW := gwm 136 (by decide +kernel) rfl
theorem gw_137 : (Jvm.Cond.code ({ cls := "RunningCount", name := "<init>", desc := "()V" } : Jvm.MethodName) prog_1_method_1_code (1 : Nat) (Option.none : Option Jvm.ClassFile.FieldType)) ∈ GW := gwm 137 (by decide +kernel) rfl
theorem gw_138 : (Jvm.Cond.methodLink "RunningCount" (3 : Nat) ({ cls := "java/lang/Object", name := "<init>", desc := "()V" } : Jvm.MethodName)) ∈ GW := gwm 138 (by decide +kernel) rfl
theorem gw_139 : (Jvm.Cond.instanceMethod ({ cls := "java/lang/Object", name := "<init>", desc := "()V" } : Jvm.MethodName)) ∈ GW := gwm 139 (by decide +kernel) rfl
theorem gw_140 : (Jvm.Cond.code ({ cls := "java/lang/Object", name := "<init>", desc := "()V" } : Jvm.MethodName) object_method_1_code (1 : Nat) (Option.none : Option Jvm.ClassFile.FieldType)) ∈ GW := gwm 140 (by decide +kernel) rfl
theorem gw_141 : (Jvm.Cond.classLink "RunningCount" (9 : Nat) "RunningCount$TextReader") ∈ GW := gwm 141 (by decide +kernel) rfl
theorem gw_142 : (Jvm.Cond.instantiable "RunningCount$TextReader" (8 : Nat)) ∈ GW := gwm 142 (by decide +kernel) rfl
theorem nw_143 : (Jvm.Cond.methodLinkNest "RunningCount" (11 : Nat) ({ cls := "RunningCount$TextReader", name := "<init>", desc := "()V" } : Jvm.MethodName) "RunningCount") ∈ NW := nwm 143 (by decide +kernel) rfl
theorem gw_144 : (Jvm.Cond.instanceMethod ({ cls := "RunningCount$TextReader", name := "<init>", desc := "()V" } : Jvm.MethodName)) ∈ GW := gwm 144 (by decide +kernel) rfl
theorem gw_145 : (Jvm.Cond.code ({ cls := "RunningCount$TextReader", name := "<init>", desc := "()V" } : Jvm.MethodName) prog_9_method_1_code (1 : Nat) (Option.none : Option Jvm.ClassFile.FieldType)) ∈ GW := gwm 145 (by decide +kernel) rfl
theorem gw_146 : (Jvm.Cond.methodLink "RunningCount$TextReader" (3 : Nat) ({ cls := "java/lang/Object", name := "<init>", desc := "()V" } : Jvm.MethodName)) ∈ GW := gwm 146 (by decide +kernel) rfl
theorem gw_147 : (Jvm.Cond.classLink "RunningCount$TextReader" (9 : Nat) "RunningCount$Tape") ∈ GW := gwm 147 (by decide +kernel) rfl
theorem gw_148 : (Jvm.Cond.instantiable "RunningCount$Tape" (5 : Nat)) ∈ GW := gwm 148 (by decide +kernel) rfl
theorem nw_149 : (Jvm.Cond.methodLinkNest "RunningCount$TextReader" (11 : Nat) ({ cls := "RunningCount$Tape", name := "<init>", desc := "()V" } : Jvm.MethodName) "RunningCount") ∈ NW := nwm 149 (by decide +kernel) rfl
theorem gw_150 : (Jvm.Cond.instanceMethod ({ cls := "RunningCount$Tape", name := "<init>", desc := "()V" } : Jvm.MethodName)) ∈ GW := gwm 150 (by decide +kernel) rfl
theorem gw_151 : (Jvm.Cond.code ({ cls := "RunningCount$Tape", name := "<init>", desc := "()V" } : Jvm.MethodName) prog_8_method_1_code (1 : Nat) (Option.none : Option Jvm.ClassFile.FieldType)) ∈ GW := gwm 151 (by decide +kernel) rfl
theorem gw_152 : (Jvm.Cond.methodLink "RunningCount$Tape" (1 : Nat) ({ cls := "java/lang/Object", name := "<init>", desc := "()V" } : Jvm.MethodName)) ∈ GW := gwm 152 (by decide +kernel) rfl
theorem gw_153 : (Jvm.Cond.fieldLink "RunningCount$Tape" (7 : Nat) "RunningCount$Tape" "length" "I") ∈ GW := gwm 153 (by decide +kernel) rfl
theorem nw_154 : (Jvm.Cond.fieldLinkNest "RunningCount" (68 : Nat) "RunningCount$Tape" "length" "I" "RunningCount") ∈ NW := nwm 154 (by decide +kernel) rfl
theorem nw_155 : (Jvm.Cond.fieldLinkNest "RunningCount$TextReader" (126 : Nat) "RunningCount$Tape" "length" "I" "RunningCount") ∈ NW := nwm 155 (by decide +kernel) rfl
theorem gw_156 : (Jvm.Cond.fieldLink "RunningCount$Tape" (13 : Nat) "RunningCount$Tape" "bytes" "[B") ∈ GW := gwm 156 (by decide +kernel) rfl
theorem gw_157 : (Jvm.Cond.fieldLink "RunningCount$Tape" (17 : Nat) "RunningCount$Tape" "tokens" "I") ∈ GW := gwm 157 (by decide +kernel) rfl
theorem nw_158 : (Jvm.Cond.fieldLinkNest "RunningCount$TextReader" (129 : Nat) "RunningCount$Tape" "tokens" "I" "RunningCount") ∈ NW := nwm 158 (by decide +kernel) rfl
theorem gw_159 : (Jvm.Cond.fieldLink "RunningCount$Tape" (20 : Nat) "RunningCount$Tape" "kinds" "[I") ∈ GW := gwm 159 (by decide +kernel) rfl
theorem nw_160 : (Jvm.Cond.fieldLinkNest "RunningCount$TextReader" (132 : Nat) "RunningCount$Tape" "kinds" "[I" "RunningCount") ∈ NW := nwm 160 (by decide +kernel) rfl
theorem gw_161 : (Jvm.Cond.fieldLink "RunningCount$Tape" (24 : Nat) "RunningCount$Tape" "starts" "[I") ∈ GW := gwm 161 (by decide +kernel) rfl
theorem nw_162 : (Jvm.Cond.fieldLinkNest "RunningCount$TextReader" (136 : Nat) "RunningCount$Tape" "starts" "[I" "RunningCount") ∈ NW := nwm 162 (by decide +kernel) rfl
theorem gw_163 : (Jvm.Cond.lays "RunningCount$Tape" "RunningCount$Tape" "length" "I") ∈ GW := gwm 163 (by decide +kernel) rfl
theorem gw_165 : (Jvm.Cond.laysFinal "RunningCount$Tape" "RunningCount$Tape" "bytes" "[B") ∈ GW := gwm 165 (by decide +kernel) rfl
theorem gw_167 : (Jvm.Cond.lays "RunningCount$Tape" "RunningCount$Tape" "tokens" "I") ∈ GW := gwm 167 (by decide +kernel) rfl
theorem gw_169 : (Jvm.Cond.laysFinal "RunningCount$Tape" "RunningCount$Tape" "kinds" "[I") ∈ GW := gwm 169 (by decide +kernel) rfl
theorem gw_171 : (Jvm.Cond.laysFinal "RunningCount$Tape" "RunningCount$Tape" "starts" "[I") ∈ GW := gwm 171 (by decide +kernel) rfl
theorem gw_174 : (Jvm.Cond.arrayClass Jvm.ClassFile.FieldType.byte) ∈ GW := gwm 174 (by decide +kernel) rfl
theorem gw_175 : (Jvm.Cond.arrayClass Jvm.ClassFile.FieldType.int) ∈ GW := gwm 175 (by decide +kernel) rfl
theorem gw_176 : (Jvm.Cond.fieldLink "RunningCount$TextReader" (12 : Nat) "RunningCount$TextReader" "tape" "LRunningCount$Tape;") ∈ GW := gwm 176 (by decide +kernel) rfl
theorem nw_177 : (Jvm.Cond.fieldLinkNest "RunningCount" (54 : Nat) "RunningCount$TextReader" "tape" "LRunningCount$Tape;" "RunningCount") ∈ NW := nwm 177 (by decide +kernel) rfl
theorem gw_178 : (Jvm.Cond.fieldLink "RunningCount$TextReader" (18 : Nat) "RunningCount$TextReader" "next" "I") ∈ GW := gwm 178 (by decide +kernel) rfl
theorem gw_179 : (Jvm.Cond.fieldLink "RunningCount$TextReader" (22 : Nat) "RunningCount$TextReader" "token" "I") ∈ GW := gwm 179 (by decide +kernel) rfl
theorem gw_180 : (Jvm.Cond.fieldLink "RunningCount$TextReader" (25 : Nat) "RunningCount$TextReader" "start" "I") ∈ GW := gwm 180 (by decide +kernel) rfl
theorem gw_181 : (Jvm.Cond.fieldLink "RunningCount$TextReader" (28 : Nat) "RunningCount$TextReader" "value" "I") ∈ GW := gwm 181 (by decide +kernel) rfl
theorem gw_182 : (Jvm.Cond.fieldLink "RunningCount$TextReader" (31 : Nat) "RunningCount$TextReader" "lines" "I") ∈ GW := gwm 182 (by decide +kernel) rfl
theorem nw_183 : (Jvm.Cond.fieldLinkNest "RunningCount" (84 : Nat) "RunningCount$TextReader" "lines" "I" "RunningCount") ∈ NW := nwm 183 (by decide +kernel) rfl
theorem gw_184 : (Jvm.Cond.fieldLink "RunningCount$TextReader" (34 : Nat) "RunningCount$TextReader" "faultKind" "I") ∈ GW := gwm 184 (by decide +kernel) rfl
theorem nw_185 : (Jvm.Cond.fieldLinkNest "RunningCount" (87 : Nat) "RunningCount$TextReader" "faultKind" "I" "RunningCount") ∈ NW := nwm 185 (by decide +kernel) rfl
theorem gw_186 : (Jvm.Cond.fieldLink "RunningCount$TextReader" (37 : Nat) "RunningCount$TextReader" "faultPlace" "I") ∈ GW := gwm 186 (by decide +kernel) rfl
theorem nw_187 : (Jvm.Cond.fieldLinkNest "RunningCount" (76 : Nat) "RunningCount$TextReader" "faultPlace" "I" "RunningCount") ∈ NW := nwm 187 (by decide +kernel) rfl
theorem gw_188 : (Jvm.Cond.laysFinal "RunningCount$TextReader" "RunningCount$TextReader" "tape" "LRunningCount$Tape;") ∈ GW := gwm 188 (by decide +kernel) rfl
theorem gw_190 : (Jvm.Cond.lays "RunningCount$TextReader" "RunningCount$TextReader" "next" "I") ∈ GW := gwm 190 (by decide +kernel) rfl
theorem gw_192 : (Jvm.Cond.lays "RunningCount$TextReader" "RunningCount$TextReader" "token" "I") ∈ GW := gwm 192 (by decide +kernel) rfl
theorem gw_194 : (Jvm.Cond.lays "RunningCount$TextReader" "RunningCount$TextReader" "start" "I") ∈ GW := gwm 194 (by decide +kernel) rfl
theorem gw_196 : (Jvm.Cond.lays "RunningCount$TextReader" "RunningCount$TextReader" "value" "I") ∈ GW := gwm 196 (by decide +kernel) rfl
theorem gw_198 : (Jvm.Cond.lays "RunningCount$TextReader" "RunningCount$TextReader" "lines" "I") ∈ GW := gwm 198 (by decide +kernel) rfl
theorem gw_200 : (Jvm.Cond.lays "RunningCount$TextReader" "RunningCount$TextReader" "faultKind" "I") ∈ GW := gwm 200 (by decide +kernel) rfl
theorem gw_202 : (Jvm.Cond.lays "RunningCount$TextReader" "RunningCount$TextReader" "faultPlace" "I") ∈ GW := gwm 202 (by decide +kernel) rfl
theorem gw_205 : (Jvm.Cond.classLink "RunningCount" (16 : Nat) "RunningCount$Goods") ∈ GW := gwm 205 (by decide +kernel) rfl
theorem gw_206 : (Jvm.Cond.instantiable "RunningCount$Goods" (11 : Nat)) ∈ GW := gwm 206 (by decide +kernel) rfl
theorem nw_207 : (Jvm.Cond.methodLinkNest "RunningCount" (18 : Nat) ({ cls := "RunningCount$Goods", name := "<init>", desc := "()V" } : Jvm.MethodName) "RunningCount") ∈ NW := nwm 207 (by decide +kernel) rfl
theorem gw_208 : (Jvm.Cond.instanceMethod ({ cls := "RunningCount$Goods", name := "<init>", desc := "()V" } : Jvm.MethodName)) ∈ GW := gwm 208 (by decide +kernel) rfl
theorem gw_209 : (Jvm.Cond.code ({ cls := "RunningCount$Goods", name := "<init>", desc := "()V" } : Jvm.MethodName) prog_6_method_1_code (1 : Nat) (Option.none : Option Jvm.ClassFile.FieldType)) ∈ GW := gwm 209 (by decide +kernel) rfl
theorem gw_210 : (Jvm.Cond.methodLink "RunningCount$Goods" (3 : Nat) ({ cls := "java/lang/Object", name := "<init>", desc := "()V" } : Jvm.MethodName)) ∈ GW := gwm 210 (by decide +kernel) rfl
theorem gw_211 : (Jvm.Cond.fieldLink "RunningCount$Goods" (9 : Nat) "RunningCount$Goods" "shelves" "I") ∈ GW := gwm 211 (by decide +kernel) rfl
theorem nw_212 : (Jvm.Cond.fieldLinkNest "RunningCount$TextReader" (76 : Nat) "RunningCount$Goods" "shelves" "I" "RunningCount") ∈ NW := nwm 212 (by decide +kernel) rfl
theorem nw_213 : (Jvm.Cond.fieldLinkNest "RunningCount" (90 : Nat) "RunningCount$Goods" "shelves" "I" "RunningCount") ∈ NW := nwm 213 (by decide +kernel) rfl
theorem gw_214 : (Jvm.Cond.fieldLink "RunningCount$Goods" (15 : Nat) "RunningCount$Goods" "items" "I") ∈ GW := gwm 214 (by decide +kernel) rfl
theorem nw_215 : (Jvm.Cond.fieldLinkNest "RunningCount$TextReader" (82 : Nat) "RunningCount$Goods" "items" "I" "RunningCount") ∈ NW := nwm 215 (by decide +kernel) rfl
theorem nw_216 : (Jvm.Cond.fieldLinkNest "RunningCount" (93 : Nat) "RunningCount$Goods" "items" "I" "RunningCount") ∈ NW := nwm 216 (by decide +kernel) rfl
theorem gw_217 : (Jvm.Cond.fieldLink "RunningCount$Goods" (18 : Nat) "RunningCount$Goods" "moves" "I") ∈ GW := gwm 217 (by decide +kernel) rfl
theorem nw_218 : (Jvm.Cond.fieldLinkNest "RunningCount$Book" (40 : Nat) "RunningCount$Goods" "moves" "I" "RunningCount") ∈ NW := nwm 218 (by decide +kernel) rfl
theorem nw_219 : (Jvm.Cond.fieldLinkNest "RunningCount" (96 : Nat) "RunningCount$Goods" "moves" "I" "RunningCount") ∈ NW := nwm 219 (by decide +kernel) rfl
theorem nw_220 : (Jvm.Cond.fieldLinkNest "RunningCount$TextReader" (105 : Nat) "RunningCount$Goods" "moves" "I" "RunningCount") ∈ NW := nwm 220 (by decide +kernel) rfl
theorem gw_221 : (Jvm.Cond.fieldLink "RunningCount$Goods" (21 : Nat) "RunningCount$Goods" "units" "[I") ∈ GW := gwm 221 (by decide +kernel) rfl
theorem nw_222 : (Jvm.Cond.fieldLinkNest "RunningCount" (107 : Nat) "RunningCount$Goods" "units" "[I" "RunningCount") ∈ NW := nwm 222 (by decide +kernel) rfl
theorem gw_223 : (Jvm.Cond.fieldLink "RunningCount$Goods" (25 : Nat) "RunningCount$Goods" "shares" "[I") ∈ GW := gwm 223 (by decide +kernel) rfl
theorem nw_224 : (Jvm.Cond.fieldLinkNest "RunningCount" (111 : Nat) "RunningCount$Goods" "shares" "[I" "RunningCount") ∈ NW := nwm 224 (by decide +kernel) rfl
theorem gw_225 : (Jvm.Cond.fieldLink "RunningCount$Goods" (28 : Nat) "RunningCount$Goods" "stock" "[I") ∈ GW := gwm 225 (by decide +kernel) rfl
theorem gw_226 : (Jvm.Cond.fieldLink "RunningCount$Goods" (31 : Nat) "RunningCount$Goods" "moveItem" "[I") ∈ GW := gwm 226 (by decide +kernel) rfl
theorem nw_227 : (Jvm.Cond.fieldLinkNest "RunningCount$Book" (43 : Nat) "RunningCount$Goods" "moveItem" "[I" "RunningCount") ∈ NW := nwm 227 (by decide +kernel) rfl
theorem nw_228 : (Jvm.Cond.fieldLinkNest "RunningCount" (124 : Nat) "RunningCount$Goods" "moveItem" "[I" "RunningCount") ∈ NW := nwm 228 (by decide +kernel) rfl
theorem gw_229 : (Jvm.Cond.fieldLink "RunningCount$Goods" (34 : Nat) "RunningCount$Goods" "moveSum" "[I") ∈ GW := gwm 229 (by decide +kernel) rfl
theorem nw_230 : (Jvm.Cond.fieldLinkNest "RunningCount$Book" (46 : Nat) "RunningCount$Goods" "moveSum" "[I" "RunningCount") ∈ NW := nwm 230 (by decide +kernel) rfl
theorem nw_231 : (Jvm.Cond.fieldLinkNest "RunningCount" (127 : Nat) "RunningCount$Goods" "moveSum" "[I" "RunningCount") ∈ NW := nwm 231 (by decide +kernel) rfl
theorem gw_232 : (Jvm.Cond.fieldLink "RunningCount$Goods" (37 : Nat) "RunningCount$Goods" "legShelf" "[I") ∈ GW := gwm 232 (by decide +kernel) rfl
theorem nw_233 : (Jvm.Cond.fieldLinkNest "RunningCount$Book" (56 : Nat) "RunningCount$Goods" "legShelf" "[I" "RunningCount") ∈ NW := nwm 233 (by decide +kernel) rfl
theorem nw_234 : (Jvm.Cond.fieldLinkNest "RunningCount" (130 : Nat) "RunningCount$Goods" "legShelf" "[I" "RunningCount") ∈ NW := nwm 234 (by decide +kernel) rfl
theorem gw_235 : (Jvm.Cond.fieldLink "RunningCount$Goods" (40 : Nat) "RunningCount$Goods" "legEarly" "[I") ∈ GW := gwm 235 (by decide +kernel) rfl
theorem nw_236 : (Jvm.Cond.fieldLinkNest "RunningCount" (137 : Nat) "RunningCount$Goods" "legEarly" "[I" "RunningCount") ∈ NW := nwm 236 (by decide +kernel) rfl
theorem gw_237 : (Jvm.Cond.fieldLink "RunningCount$Goods" (43 : Nat) "RunningCount$Goods" "legLate" "[I") ∈ GW := gwm 237 (by decide +kernel) rfl
theorem nw_238 : (Jvm.Cond.fieldLinkNest "RunningCount" (140 : Nat) "RunningCount$Goods" "legLate" "[I" "RunningCount") ∈ NW := nwm 238 (by decide +kernel) rfl
theorem gw_239 : (Jvm.Cond.lays "RunningCount$Goods" "RunningCount$Goods" "shelves" "I") ∈ GW := gwm 239 (by decide +kernel) rfl
theorem gw_241 : (Jvm.Cond.lays "RunningCount$Goods" "RunningCount$Goods" "items" "I") ∈ GW := gwm 241 (by decide +kernel) rfl
theorem gw_243 : (Jvm.Cond.lays "RunningCount$Goods" "RunningCount$Goods" "moves" "I") ∈ GW := gwm 243 (by decide +kernel) rfl
theorem gw_245 : (Jvm.Cond.laysFinal "RunningCount$Goods" "RunningCount$Goods" "units" "[I") ∈ GW := gwm 245 (by decide +kernel) rfl
theorem gw_247 : (Jvm.Cond.laysFinal "RunningCount$Goods" "RunningCount$Goods" "shares" "[I") ∈ GW := gwm 247 (by decide +kernel) rfl
theorem gw_249 : (Jvm.Cond.laysFinal "RunningCount$Goods" "RunningCount$Goods" "stock" "[I") ∈ GW := gwm 249 (by decide +kernel) rfl
theorem gw_251 : (Jvm.Cond.laysFinal "RunningCount$Goods" "RunningCount$Goods" "moveItem" "[I") ∈ GW := gwm 251 (by decide +kernel) rfl
theorem gw_253 : (Jvm.Cond.laysFinal "RunningCount$Goods" "RunningCount$Goods" "moveSum" "[I") ∈ GW := gwm 253 (by decide +kernel) rfl
theorem gw_255 : (Jvm.Cond.laysFinal "RunningCount$Goods" "RunningCount$Goods" "legShelf" "[I") ∈ GW := gwm 255 (by decide +kernel) rfl
theorem gw_257 : (Jvm.Cond.laysFinal "RunningCount$Goods" "RunningCount$Goods" "legEarly" "[I") ∈ GW := gwm 257 (by decide +kernel) rfl
theorem gw_259 : (Jvm.Cond.laysFinal "RunningCount$Goods" "RunningCount$Goods" "legLate" "[I") ∈ GW := gwm 259 (by decide +kernel) rfl
theorem gw_262 : (Jvm.Cond.classLink "RunningCount" (26 : Nat) "RunningCount$CountList") ∈ GW := gwm 262 (by decide +kernel) rfl
theorem gw_263 : (Jvm.Cond.instantiable "RunningCount$CountList" (7 : Nat)) ∈ GW := gwm 263 (by decide +kernel) rfl
theorem nw_264 : (Jvm.Cond.methodLinkNest "RunningCount" (28 : Nat) ({ cls := "RunningCount$CountList", name := "<init>", desc := "()V" } : Jvm.MethodName) "RunningCount") ∈ NW := nwm 264 (by decide +kernel) rfl
theorem gw_265 : (Jvm.Cond.instanceMethod ({ cls := "RunningCount$CountList", name := "<init>", desc := "()V" } : Jvm.MethodName)) ∈ GW := gwm 265 (by decide +kernel) rfl
theorem gw_266 : (Jvm.Cond.code ({ cls := "RunningCount$CountList", name := "<init>", desc := "()V" } : Jvm.MethodName) prog_5_method_1_code (1 : Nat) (Option.none : Option Jvm.ClassFile.FieldType)) ∈ GW := gwm 266 (by decide +kernel) rfl
theorem gw_267 : (Jvm.Cond.methodLink "RunningCount$CountList" (3 : Nat) ({ cls := "java/lang/Object", name := "<init>", desc := "()V" } : Jvm.MethodName)) ∈ GW := gwm 267 (by decide +kernel) rfl
theorem gw_268 : (Jvm.Cond.fieldLink "RunningCount$CountList" (9 : Nat) "RunningCount$CountList" "size" "I") ∈ GW := gwm 268 (by decide +kernel) rfl
theorem nw_269 : (Jvm.Cond.fieldLinkNest "RunningCount" (79 : Nat) "RunningCount$CountList" "size" "I" "RunningCount") ∈ NW := nwm 269 (by decide +kernel) rfl
theorem gw_270 : (Jvm.Cond.fieldLink "RunningCount$CountList" (15 : Nat) "RunningCount$CountList" "shelf" "[I") ∈ GW := gwm 270 (by decide +kernel) rfl
theorem nw_271 : (Jvm.Cond.fieldLinkNest "RunningCount" (188 : Nat) "RunningCount$CountList" "shelf" "[I" "RunningCount") ∈ NW := nwm 271 (by decide +kernel) rfl
theorem gw_272 : (Jvm.Cond.fieldLink "RunningCount$CountList" (19 : Nat) "RunningCount$CountList" "item" "[I") ∈ GW := gwm 272 (by decide +kernel) rfl
theorem nw_273 : (Jvm.Cond.fieldLinkNest "RunningCount" (191 : Nat) "RunningCount$CountList" "item" "[I" "RunningCount") ∈ NW := nwm 273 (by decide +kernel) rfl
theorem gw_274 : (Jvm.Cond.fieldLink "RunningCount$CountList" (22 : Nat) "RunningCount$CountList" "instant" "[I") ∈ GW := gwm 274 (by decide +kernel) rfl
theorem nw_275 : (Jvm.Cond.fieldLinkNest "RunningCount" (194 : Nat) "RunningCount$CountList" "instant" "[I" "RunningCount") ∈ NW := nwm 275 (by decide +kernel) rfl
theorem gw_276 : (Jvm.Cond.fieldLink "RunningCount$CountList" (25 : Nat) "RunningCount$CountList" "sum" "[I") ∈ GW := gwm 276 (by decide +kernel) rfl
theorem nw_277 : (Jvm.Cond.fieldLinkNest "RunningCount" (195 : Nat) "RunningCount$CountList" "sum" "[I" "RunningCount") ∈ NW := nwm 277 (by decide +kernel) rfl
theorem gw_278 : (Jvm.Cond.fieldLink "RunningCount$CountList" (28 : Nat) "RunningCount$CountList" "who" "[I") ∈ GW := gwm 278 (by decide +kernel) rfl
theorem nw_279 : (Jvm.Cond.fieldLinkNest "RunningCount" (198 : Nat) "RunningCount$CountList" "who" "[I" "RunningCount") ∈ NW := nwm 279 (by decide +kernel) rfl
theorem gw_280 : (Jvm.Cond.fieldLink "RunningCount$CountList" (31 : Nat) "RunningCount$CountList" "posted" "[Z") ∈ GW := gwm 280 (by decide +kernel) rfl
theorem nw_281 : (Jvm.Cond.fieldLinkNest "RunningCount" (201 : Nat) "RunningCount$CountList" "posted" "[Z" "RunningCount") ∈ NW := nwm 281 (by decide +kernel) rfl
theorem gw_282 : (Jvm.Cond.lays "RunningCount$CountList" "RunningCount$CountList" "size" "I") ∈ GW := gwm 282 (by decide +kernel) rfl
theorem gw_284 : (Jvm.Cond.laysFinal "RunningCount$CountList" "RunningCount$CountList" "shelf" "[I") ∈ GW := gwm 284 (by decide +kernel) rfl
theorem gw_286 : (Jvm.Cond.laysFinal "RunningCount$CountList" "RunningCount$CountList" "item" "[I") ∈ GW := gwm 286 (by decide +kernel) rfl
theorem gw_288 : (Jvm.Cond.laysFinal "RunningCount$CountList" "RunningCount$CountList" "instant" "[I") ∈ GW := gwm 288 (by decide +kernel) rfl
theorem gw_290 : (Jvm.Cond.laysFinal "RunningCount$CountList" "RunningCount$CountList" "sum" "[I") ∈ GW := gwm 290 (by decide +kernel) rfl
theorem gw_292 : (Jvm.Cond.laysFinal "RunningCount$CountList" "RunningCount$CountList" "who" "[I") ∈ GW := gwm 292 (by decide +kernel) rfl
theorem gw_294 : (Jvm.Cond.laysFinal "RunningCount$CountList" "RunningCount$CountList" "posted" "[Z") ∈ GW := gwm 294 (by decide +kernel) rfl
theorem gw_297 : (Jvm.Cond.arrayClass Jvm.ClassFile.FieldType.boolean) ∈ GW := gwm 297 (by decide +kernel) rfl
theorem gw_298 : (Jvm.Cond.classLink "RunningCount" (33 : Nat) "RunningCount$AdjustmentList") ∈ GW := gwm 298 (by decide +kernel) rfl
theorem gw_299 : (Jvm.Cond.instantiable "RunningCount$AdjustmentList" (5 : Nat)) ∈ GW := gwm 299 (by decide +kernel) rfl
theorem nw_300 : (Jvm.Cond.methodLinkNest "RunningCount" (35 : Nat) ({ cls := "RunningCount$AdjustmentList", name := "<init>", desc := "()V" } : Jvm.MethodName) "RunningCount") ∈ NW := nwm 300 (by decide +kernel) rfl
theorem gw_301 : (Jvm.Cond.instanceMethod ({ cls := "RunningCount$AdjustmentList", name := "<init>", desc := "()V" } : Jvm.MethodName)) ∈ GW := gwm 301 (by decide +kernel) rfl
theorem gw_302 : (Jvm.Cond.code ({ cls := "RunningCount$AdjustmentList", name := "<init>", desc := "()V" } : Jvm.MethodName) prog_3_method_1_code (1 : Nat) (Option.none : Option Jvm.ClassFile.FieldType)) ∈ GW := gwm 302 (by decide +kernel) rfl
theorem gw_303 : (Jvm.Cond.methodLink "RunningCount$AdjustmentList" (3 : Nat) ({ cls := "java/lang/Object", name := "<init>", desc := "()V" } : Jvm.MethodName)) ∈ GW := gwm 303 (by decide +kernel) rfl
theorem gw_304 : (Jvm.Cond.fieldLink "RunningCount$AdjustmentList" (9 : Nat) "RunningCount$AdjustmentList" "size" "I") ∈ GW := gwm 304 (by decide +kernel) rfl
theorem nw_305 : (Jvm.Cond.fieldLinkNest "RunningCount" (82 : Nat) "RunningCount$AdjustmentList" "size" "I" "RunningCount") ∈ NW := nwm 305 (by decide +kernel) rfl
theorem gw_306 : (Jvm.Cond.fieldLink "RunningCount$AdjustmentList" (15 : Nat) "RunningCount$AdjustmentList" "shelf" "[I") ∈ GW := gwm 306 (by decide +kernel) rfl
theorem nw_307 : (Jvm.Cond.fieldLinkNest "RunningCount" (224 : Nat) "RunningCount$AdjustmentList" "shelf" "[I" "RunningCount") ∈ NW := nwm 307 (by decide +kernel) rfl
theorem gw_308 : (Jvm.Cond.fieldLink "RunningCount$AdjustmentList" (19 : Nat) "RunningCount$AdjustmentList" "item" "[I") ∈ GW := gwm 308 (by decide +kernel) rfl
theorem nw_309 : (Jvm.Cond.fieldLinkNest "RunningCount" (225 : Nat) "RunningCount$AdjustmentList" "item" "[I" "RunningCount") ∈ NW := nwm 309 (by decide +kernel) rfl
theorem gw_310 : (Jvm.Cond.fieldLink "RunningCount$AdjustmentList" (22 : Nat) "RunningCount$AdjustmentList" "instant" "[I") ∈ GW := gwm 310 (by decide +kernel) rfl
theorem nw_311 : (Jvm.Cond.fieldLinkNest "RunningCount" (180 : Nat) "RunningCount$AdjustmentList" "instant" "[I" "RunningCount") ∈ NW := nwm 311 (by decide +kernel) rfl
theorem gw_312 : (Jvm.Cond.fieldLink "RunningCount$AdjustmentList" (25 : Nat) "RunningCount$AdjustmentList" "much" "[I") ∈ GW := gwm 312 (by decide +kernel) rfl
theorem nw_313 : (Jvm.Cond.fieldLinkNest "RunningCount" (226 : Nat) "RunningCount$AdjustmentList" "much" "[I" "RunningCount") ∈ NW := nwm 313 (by decide +kernel) rfl
theorem gw_314 : (Jvm.Cond.lays "RunningCount$AdjustmentList" "RunningCount$AdjustmentList" "size" "I") ∈ GW := gwm 314 (by decide +kernel) rfl
theorem gw_316 : (Jvm.Cond.laysFinal "RunningCount$AdjustmentList" "RunningCount$AdjustmentList" "shelf" "[I") ∈ GW := gwm 316 (by decide +kernel) rfl
theorem gw_318 : (Jvm.Cond.laysFinal "RunningCount$AdjustmentList" "RunningCount$AdjustmentList" "item" "[I") ∈ GW := gwm 318 (by decide +kernel) rfl
theorem gw_320 : (Jvm.Cond.laysFinal "RunningCount$AdjustmentList" "RunningCount$AdjustmentList" "instant" "[I") ∈ GW := gwm 320 (by decide +kernel) rfl
theorem gw_322 : (Jvm.Cond.laysFinal "RunningCount$AdjustmentList" "RunningCount$AdjustmentList" "much" "[I") ∈ GW := gwm 322 (by decide +kernel) rfl
theorem gw_325 : (Jvm.Cond.classLink "RunningCount" (40 : Nat) "RunningCount$Journal") ∈ GW := gwm 325 (by decide +kernel) rfl
theorem gw_326 : (Jvm.Cond.instantiable "RunningCount$Journal" (3 : Nat)) ∈ GW := gwm 326 (by decide +kernel) rfl
theorem nw_327 : (Jvm.Cond.methodLinkNest "RunningCount" (42 : Nat) ({ cls := "RunningCount$Journal", name := "<init>", desc := "()V" } : Jvm.MethodName) "RunningCount") ∈ NW := nwm 327 (by decide +kernel) rfl
theorem gw_328 : (Jvm.Cond.instanceMethod ({ cls := "RunningCount$Journal", name := "<init>", desc := "()V" } : Jvm.MethodName)) ∈ GW := gwm 328 (by decide +kernel) rfl
theorem gw_329 : (Jvm.Cond.code ({ cls := "RunningCount$Journal", name := "<init>", desc := "()V" } : Jvm.MethodName) prog_7_method_1_code (2 : Nat) (Option.none : Option Jvm.ClassFile.FieldType)) ∈ GW := gwm 329 (by decide +kernel) rfl
theorem gw_330 : (Jvm.Cond.methodLink "RunningCount$Journal" (3 : Nat) ({ cls := "java/lang/Object", name := "<init>", desc := "()V" } : Jvm.MethodName)) ∈ GW := gwm 330 (by decide +kernel) rfl
theorem gw_331 : (Jvm.Cond.classLink "RunningCount$Journal" (18 : Nat) "RunningCount$Act") ∈ GW := gwm 331 (by decide +kernel) rfl
theorem gw_333 : (Jvm.Cond.instantiable "RunningCount$Act" (10 : Nat)) ∈ GW := gwm 333 (by decide +kernel) rfl
theorem nw_334 : (Jvm.Cond.methodLinkNest "RunningCount$Journal" (24 : Nat) ({ cls := "RunningCount$Act", name := "<init>", desc := "()V" } : Jvm.MethodName) "RunningCount") ∈ NW := nwm 334 (by decide +kernel) rfl
theorem gw_335 : (Jvm.Cond.instanceMethod ({ cls := "RunningCount$Act", name := "<init>", desc := "()V" } : Jvm.MethodName)) ∈ GW := gwm 335 (by decide +kernel) rfl
theorem gw_336 : (Jvm.Cond.code ({ cls := "RunningCount$Act", name := "<init>", desc := "()V" } : Jvm.MethodName) prog_2_method_1_code (1 : Nat) (Option.none : Option Jvm.ClassFile.FieldType)) ∈ GW := gwm 336 (by decide +kernel) rfl
theorem gw_337 : (Jvm.Cond.methodLink "RunningCount$Act" (1 : Nat) ({ cls := "java/lang/Object", name := "<init>", desc := "()V" } : Jvm.MethodName)) ∈ GW := gwm 337 (by decide +kernel) rfl
theorem nw_338 : (Jvm.Cond.fieldLinkNest "RunningCount$Journal" (25 : Nat) "RunningCount$Act" "kind" "I" "RunningCount") ∈ NW := nwm 338 (by decide +kernel) rfl
theorem nw_339 : (Jvm.Cond.fieldLinkNest "RunningCount" (308 : Nat) "RunningCount$Act" "kind" "I" "RunningCount") ∈ NW := nwm 339 (by decide +kernel) rfl
theorem nw_340 : (Jvm.Cond.fieldLinkNest "RunningCount$Journal" (28 : Nat) "RunningCount$Act" "number" "I" "RunningCount") ∈ NW := nwm 340 (by decide +kernel) rfl
theorem nw_341 : (Jvm.Cond.fieldLinkNest "RunningCount" (314 : Nat) "RunningCount$Act" "number" "I" "RunningCount") ∈ NW := nwm 341 (by decide +kernel) rfl
theorem nw_342 : (Jvm.Cond.fieldLinkNest "RunningCount" (254 : Nat) "RunningCount$Act" "early" "I" "RunningCount") ∈ NW := nwm 342 (by decide +kernel) rfl
theorem nw_343 : (Jvm.Cond.fieldLinkNest "RunningCount" (257 : Nat) "RunningCount$Act" "late" "I" "RunningCount") ∈ NW := nwm 343 (by decide +kernel) rfl
theorem nw_344 : (Jvm.Cond.fieldLinkNest "RunningCount" (287 : Nat) "RunningCount$Act" "shelf" "I" "RunningCount") ∈ NW := nwm 344 (by decide +kernel) rfl
theorem nw_345 : (Jvm.Cond.fieldLinkNest "RunningCount" (289 : Nat) "RunningCount$Act" "item" "I" "RunningCount") ∈ NW := nwm 345 (by decide +kernel) rfl
theorem nw_346 : (Jvm.Cond.fieldLinkNest "RunningCount" (291 : Nat) "RunningCount$Act" "instant" "I" "RunningCount") ∈ NW := nwm 346 (by decide +kernel) rfl
theorem nw_347 : (Jvm.Cond.fieldLinkNest "RunningCount" (293 : Nat) "RunningCount$Act" "sum" "I" "RunningCount") ∈ NW := nwm 347 (by decide +kernel) rfl
theorem nw_348 : (Jvm.Cond.fieldLinkNest "RunningCount" (295 : Nat) "RunningCount$Act" "who" "I" "RunningCount") ∈ NW := nwm 348 (by decide +kernel) rfl
theorem nw_349 : (Jvm.Cond.fieldLinkNest "RunningCount" (284 : Nat) "RunningCount$Act" "posted" "J" "RunningCount") ∈ NW := nwm 349 (by decide +kernel) rfl
theorem gw_350 : (Jvm.Cond.lays "RunningCount$Act" "RunningCount$Act" "kind" "I") ∈ GW := gwm 350 (by decide +kernel) rfl
theorem gw_352 : (Jvm.Cond.lays "RunningCount$Act" "RunningCount$Act" "number" "I") ∈ GW := gwm 352 (by decide +kernel) rfl
theorem gw_354 : (Jvm.Cond.lays "RunningCount$Act" "RunningCount$Act" "early" "I") ∈ GW := gwm 354 (by decide +kernel) rfl
theorem gw_356 : (Jvm.Cond.lays "RunningCount$Act" "RunningCount$Act" "late" "I") ∈ GW := gwm 356 (by decide +kernel) rfl
theorem gw_358 : (Jvm.Cond.lays "RunningCount$Act" "RunningCount$Act" "shelf" "I") ∈ GW := gwm 358 (by decide +kernel) rfl
theorem gw_360 : (Jvm.Cond.lays "RunningCount$Act" "RunningCount$Act" "item" "I") ∈ GW := gwm 360 (by decide +kernel) rfl
theorem gw_362 : (Jvm.Cond.lays "RunningCount$Act" "RunningCount$Act" "instant" "I") ∈ GW := gwm 362 (by decide +kernel) rfl
theorem gw_364 : (Jvm.Cond.lays "RunningCount$Act" "RunningCount$Act" "sum" "I") ∈ GW := gwm 364 (by decide +kernel) rfl
theorem gw_366 : (Jvm.Cond.lays "RunningCount$Act" "RunningCount$Act" "who" "I") ∈ GW := gwm 366 (by decide +kernel) rfl
theorem gw_368 : (Jvm.Cond.lays "RunningCount$Act" "RunningCount$Act" "posted" "J") ∈ GW := gwm 368 (by decide +kernel) rfl
theorem gw_371 : (Jvm.Cond.fieldLink "RunningCount$Journal" (9 : Nat) "RunningCount$Journal" "size" "I") ∈ GW := gwm 371 (by decide +kernel) rfl
theorem nw_372 : (Jvm.Cond.fieldLinkNest "RunningCount" (83 : Nat) "RunningCount$Journal" "size" "I" "RunningCount") ∈ NW := nwm 372 (by decide +kernel) rfl
theorem gw_373 : (Jvm.Cond.fieldLink "RunningCount$Journal" (15 : Nat) "RunningCount$Journal" "next" "I") ∈ GW := gwm 373 (by decide +kernel) rfl
theorem gw_374 : (Jvm.Cond.fieldLink "RunningCount$Journal" (20 : Nat) "RunningCount$Journal" "acts" "[LRunningCount$Act;") ∈ GW := gwm 374 (by decide +kernel) rfl
theorem gw_375 : (Jvm.Cond.lays "RunningCount$Journal" "RunningCount$Journal" "size" "I") ∈ GW := gwm 375 (by decide +kernel) rfl
theorem gw_377 : (Jvm.Cond.lays "RunningCount$Journal" "RunningCount$Journal" "next" "I") ∈ GW := gwm 377 (by decide +kernel) rfl
theorem gw_379 : (Jvm.Cond.laysFinal "RunningCount$Journal" "RunningCount$Journal" "acts" "[LRunningCount$Act;") ∈ GW := gwm 379 (by decide +kernel) rfl
theorem gw_382 : (Jvm.Cond.classLink "RunningCount" (47 : Nat) "RunningCount$Book") ∈ GW := gwm 382 (by decide +kernel) rfl
theorem gw_383 : (Jvm.Cond.instantiable "RunningCount$Book" (5 : Nat)) ∈ GW := gwm 383 (by decide +kernel) rfl
theorem nw_384 : (Jvm.Cond.methodLinkNest "RunningCount" (49 : Nat) ({ cls := "RunningCount$Book", name := "<init>", desc := "()V" } : Jvm.MethodName) "RunningCount") ∈ NW := nwm 384 (by decide +kernel) rfl
theorem gw_385 : (Jvm.Cond.instanceMethod ({ cls := "RunningCount$Book", name := "<init>", desc := "()V" } : Jvm.MethodName)) ∈ GW := gwm 385 (by decide +kernel) rfl
theorem gw_386 : (Jvm.Cond.code ({ cls := "RunningCount$Book", name := "<init>", desc := "()V" } : Jvm.MethodName) prog_4_method_1_code (1 : Nat) (Option.none : Option Jvm.ClassFile.FieldType)) ∈ GW := gwm 386 (by decide +kernel) rfl
theorem gw_387 : (Jvm.Cond.methodLink "RunningCount$Book" (3 : Nat) ({ cls := "java/lang/Object", name := "<init>", desc := "()V" } : Jvm.MethodName)) ∈ GW := gwm 387 (by decide +kernel) rfl
theorem gw_388 : (Jvm.Cond.fieldLink "RunningCount$Book" (27 : Nat) "RunningCount$Book" "sure" "I") ∈ GW := gwm 388 (by decide +kernel) rfl
theorem nw_389 : (Jvm.Cond.fieldLinkNest "RunningCount" (157 : Nat) "RunningCount$Book" "sure" "I" "RunningCount") ∈ NW := nwm 389 (by decide +kernel) rfl
theorem gw_390 : (Jvm.Cond.fieldLink "RunningCount$Book" (31 : Nat) "RunningCount$Book" "least" "I") ∈ GW := gwm 390 (by decide +kernel) rfl
theorem nw_391 : (Jvm.Cond.fieldLinkNest "RunningCount" (160 : Nat) "RunningCount$Book" "least" "I" "RunningCount") ∈ NW := nwm 391 (by decide +kernel) rfl
theorem gw_392 : (Jvm.Cond.fieldLink "RunningCount$Book" (34 : Nat) "RunningCount$Book" "most" "I") ∈ GW := gwm 392 (by decide +kernel) rfl
theorem nw_393 : (Jvm.Cond.fieldLinkNest "RunningCount" (163 : Nat) "RunningCount$Book" "most" "I" "RunningCount") ∈ NW := nwm 393 (by decide +kernel) rfl
theorem gw_394 : (Jvm.Cond.fieldLink "RunningCount$Book" (37 : Nat) "RunningCount$Book" "doubtful" "I") ∈ GW := gwm 394 (by decide +kernel) rfl
theorem nw_395 : (Jvm.Cond.fieldLinkNest "RunningCount" (166 : Nat) "RunningCount$Book" "doubtful" "I" "RunningCount") ∈ NW := nwm 395 (by decide +kernel) rfl
theorem gw_396 : (Jvm.Cond.fieldLink "RunningCount$Book" (9 : Nat) "RunningCount$Book" "doubts" "[I") ∈ GW := gwm 396 (by decide +kernel) rfl
theorem gw_397 : (Jvm.Cond.lays "RunningCount$Book" "RunningCount$Book" "sure" "I") ∈ GW := gwm 397 (by decide +kernel) rfl
theorem gw_399 : (Jvm.Cond.lays "RunningCount$Book" "RunningCount$Book" "least" "I") ∈ GW := gwm 399 (by decide +kernel) rfl
theorem gw_401 : (Jvm.Cond.lays "RunningCount$Book" "RunningCount$Book" "most" "I") ∈ GW := gwm 401 (by decide +kernel) rfl
theorem gw_403 : (Jvm.Cond.lays "RunningCount$Book" "RunningCount$Book" "doubtful" "I") ∈ GW := gwm 403 (by decide +kernel) rfl
theorem gw_405 : (Jvm.Cond.laysFinal "RunningCount$Book" "RunningCount$Book" "doubts" "[I") ∈ GW := gwm 405 (by decide +kernel) rfl
theorem gw_408 : (Jvm.Cond.fieldLink "RunningCount" (12 : Nat) "RunningCount" "reader" "LRunningCount$TextReader;") ∈ GW := gwm 408 (by decide +kernel) rfl
theorem gw_409 : (Jvm.Cond.fieldLink "RunningCount" (19 : Nat) "RunningCount" "goods" "LRunningCount$Goods;") ∈ GW := gwm 409 (by decide +kernel) rfl
theorem gw_410 : (Jvm.Cond.fieldLink "RunningCount" (23 : Nat) "RunningCount" "spare" "LRunningCount$Goods;") ∈ GW := gwm 410 (by decide +kernel) rfl
theorem gw_411 : (Jvm.Cond.fieldLink "RunningCount" (29 : Nat) "RunningCount" "tally" "LRunningCount$CountList;") ∈ GW := gwm 411 (by decide +kernel) rfl
theorem gw_412 : (Jvm.Cond.fieldLink "RunningCount" (36 : Nat) "RunningCount" "ledger" "LRunningCount$AdjustmentList;") ∈ GW := gwm 412 (by decide +kernel) rfl
theorem gw_413 : (Jvm.Cond.fieldLink "RunningCount" (43 : Nat) "RunningCount" "journal" "LRunningCount$Journal;") ∈ GW := gwm 413 (by decide +kernel) rfl
theorem gw_414 : (Jvm.Cond.fieldLink "RunningCount" (50 : Nat) "RunningCount" "page" "LRunningCount$Book;") ∈ GW := gwm 414 (by decide +kernel) rfl
theorem gw_415 : (Jvm.Cond.laysFinal "RunningCount" "RunningCount" "reader" "LRunningCount$TextReader;") ∈ GW := gwm 415 (by decide +kernel) rfl
theorem gw_417 : (Jvm.Cond.lays "RunningCount" "RunningCount" "goods" "LRunningCount$Goods;") ∈ GW := gwm 417 (by decide +kernel) rfl
theorem gw_419 : (Jvm.Cond.lays "RunningCount" "RunningCount" "spare" "LRunningCount$Goods;") ∈ GW := gwm 419 (by decide +kernel) rfl
theorem gw_421 : (Jvm.Cond.laysFinal "RunningCount" "RunningCount" "tally" "LRunningCount$CountList;") ∈ GW := gwm 421 (by decide +kernel) rfl
theorem gw_423 : (Jvm.Cond.laysFinal "RunningCount" "RunningCount" "ledger" "LRunningCount$AdjustmentList;") ∈ GW := gwm 423 (by decide +kernel) rfl
theorem gw_425 : (Jvm.Cond.laysFinal "RunningCount" "RunningCount" "journal" "LRunningCount$Journal;") ∈ GW := gwm 425 (by decide +kernel) rfl
theorem gw_427 : (Jvm.Cond.laysFinal "RunningCount" "RunningCount" "page" "LRunningCount$Book;") ∈ GW := gwm 427 (by decide +kernel) rfl
theorem gw_430 : (Jvm.Cond.methodLink "RunningCountLaw" (22 : Nat) ({ cls := "RunningCount", name := "feed", desc := "(IIIII)I" } : Jvm.MethodName)) ∈ GW := gwm 430 (by decide +kernel) rfl
theorem gw_431 : (Jvm.Cond.instanceMethod ({ cls := "RunningCount", name := "feed", desc := "(IIIII)I" } : Jvm.MethodName)) ∈ GW := gwm 431 (by decide +kernel) rfl
theorem gw_432 : (Jvm.Cond.selects "RunningCount" ({ cls := "RunningCount", name := "feed", desc := "(IIIII)I" } : Jvm.MethodName) ({ cls := "RunningCount", name := "feed", desc := "(IIIII)I" } : Jvm.MethodName)) ∈ GW := gwm 432 (by decide +kernel) rfl
theorem gw_433 : (Jvm.Cond.code ({ cls := "RunningCount", name := "feed", desc := "(IIIII)I" } : Jvm.MethodName) prog_1_method_2_code (7 : Nat) (Option.some Jvm.ClassFile.FieldType.int)) ∈ GW := gwm 433 (by decide +kernel) rfl
theorem nw_434 : (Jvm.Cond.methodLinkNest "RunningCount" (58 : Nat) ({ cls := "RunningCount$Tape", name := "hasRoom", desc := "()Z" } : Jvm.MethodName) "RunningCount") ∈ NW := nwm 434 (by decide +kernel) rfl
theorem gw_436 : (Jvm.Cond.instanceMethod ({ cls := "RunningCount$Tape", name := "hasRoom", desc := "()Z" } : Jvm.MethodName)) ∈ GW := gwm 436 (by decide +kernel) rfl
theorem gw_437 : (Jvm.Cond.code ({ cls := "RunningCount$Tape", name := "hasRoom", desc := "()Z" } : Jvm.MethodName) prog_8_method_2_code (1 : Nat) (Option.some Jvm.ClassFile.FieldType.boolean)) ∈ GW := gwm 437 (by decide +kernel) rfl
theorem nw_438 : (Jvm.Cond.methodLinkNest "RunningCount" (64 : Nat) ({ cls := "RunningCount$Tape", name := "append", desc := "(I)V" } : Jvm.MethodName) "RunningCount") ∈ NW := nwm 438 (by decide +kernel) rfl
theorem gw_440 : (Jvm.Cond.instanceMethod ({ cls := "RunningCount$Tape", name := "append", desc := "(I)V" } : Jvm.MethodName)) ∈ GW := gwm 440 (by decide +kernel) rfl
theorem gw_441 : (Jvm.Cond.code ({ cls := "RunningCount$Tape", name := "append", desc := "(I)V" } : Jvm.MethodName) prog_8_method_3_code (3 : Nat) (Option.none : Option Jvm.ClassFile.FieldType)) ∈ GW := gwm 441 (by decide +kernel) rfl
theorem gw_442 : (Jvm.Cond.methodLink "RunningCountLaw" (27 : Nat) ({ cls := "RunningCount", name := "end", desc := "(I)Z" } : Jvm.MethodName)) ∈ GW := gwm 442 (by decide +kernel) rfl
theorem gw_443 : (Jvm.Cond.instanceMethod ({ cls := "RunningCount", name := "end", desc := "(I)Z" } : Jvm.MethodName)) ∈ GW := gwm 443 (by decide +kernel) rfl
theorem gw_444 : (Jvm.Cond.selects "RunningCount" ({ cls := "RunningCount", name := "end", desc := "(I)Z" } : Jvm.MethodName) ({ cls := "RunningCount", name := "end", desc := "(I)Z" } : Jvm.MethodName)) ∈ GW := gwm 444 (by decide +kernel) rfl
theorem gw_445 : (Jvm.Cond.code ({ cls := "RunningCount", name := "end", desc := "(I)Z" } : Jvm.MethodName) prog_1_method_3_code (2 : Nat) (Option.some Jvm.ClassFile.FieldType.boolean)) ∈ GW := gwm 445 (by decide +kernel) rfl
theorem gw_446 : (Jvm.Cond.methodLink "RunningCountLaw" (32 : Nat) ({ cls := "RunningCount", name := "text", desc := "()I" } : Jvm.MethodName)) ∈ GW := gwm 446 (by decide +kernel) rfl
theorem gw_447 : (Jvm.Cond.instanceMethod ({ cls := "RunningCount", name := "text", desc := "()I" } : Jvm.MethodName)) ∈ GW := gwm 447 (by decide +kernel) rfl
theorem gw_448 : (Jvm.Cond.selects "RunningCount" ({ cls := "RunningCount", name := "text", desc := "()I" } : Jvm.MethodName) ({ cls := "RunningCount", name := "text", desc := "()I" } : Jvm.MethodName)) ∈ GW := gwm 448 (by decide +kernel) rfl
theorem gw_449 : (Jvm.Cond.code ({ cls := "RunningCount", name := "text", desc := "()I" } : Jvm.MethodName) prog_1_method_4_code (3 : Nat) (Option.some Jvm.ClassFile.FieldType.int)) ∈ GW := gwm 449 (by decide +kernel) rfl
theorem nw_450 : (Jvm.Cond.methodLinkNest "RunningCount" (72 : Nat) ({ cls := "RunningCount$TextReader", name := "readText", desc := "(LRunningCount$Goods;)Z" } : Jvm.MethodName) "RunningCount") ∈ NW := nwm 450 (by decide +kernel) rfl
theorem gw_452 : (Jvm.Cond.instanceMethod ({ cls := "RunningCount$TextReader", name := "readText", desc := "(LRunningCount$Goods;)Z" } : Jvm.MethodName)) ∈ GW := gwm 452 (by decide +kernel) rfl
theorem gw_453 : (Jvm.Cond.code ({ cls := "RunningCount$TextReader", name := "readText", desc := "(LRunningCount$Goods;)Z" } : Jvm.MethodName) prog_9_method_2_code (2 : Nat) (Option.some Jvm.ClassFile.FieldType.boolean)) ∈ GW := gwm 453 (by decide +kernel) rfl
theorem nw_454 : (Jvm.Cond.methodLinkNest "RunningCount$TextReader" (40 : Nat) ({ cls := "RunningCount$Tape", name := "scan", desc := "()V" } : Jvm.MethodName) "RunningCount") ∈ NW := nwm 454 (by decide +kernel) rfl
theorem gw_456 : (Jvm.Cond.instanceMethod ({ cls := "RunningCount$Tape", name := "scan", desc := "()V" } : Jvm.MethodName)) ∈ GW := gwm 456 (by decide +kernel) rfl
theorem gw_457 : (Jvm.Cond.code ({ cls := "RunningCount$Tape", name := "scan", desc := "()V" } : Jvm.MethodName) prog_8_method_4_code (5 : Nat) (Option.none : Option Jvm.ClassFile.FieldType)) ∈ GW := gwm 457 (by decide +kernel) rfl
theorem gw_458 : (Jvm.Cond.methodLink "RunningCount$Tape" (27 : Nat) ({ cls := "java/lang/Math", name := "min", desc := "(II)I" } : Jvm.MethodName)) ∈ GW := gwm 458 (by decide +kernel) rfl
theorem gw_459 : (Jvm.Cond.static ({ cls := "java/lang/Math", name := "min", desc := "(II)I" } : Jvm.MethodName)) ∈ GW := gwm 459 (by decide +kernel) rfl
theorem gw_460 : (Jvm.Cond.code ({ cls := "java/lang/Math", name := "min", desc := "(II)I" } : Jvm.MethodName) prog_16_method_69_code (2 : Nat) (Option.some Jvm.ClassFile.FieldType.int)) ∈ GW := gwm 460 (by decide +kernel) rfl
theorem gw_461 : (Jvm.Cond.methodLink "RunningCount$Tape" (33 : Nat) ({ cls := "RunningCount$Tape", name := "isBlank", desc := "(I)Z" } : Jvm.MethodName)) ∈ GW := gwm 461 (by decide +kernel) rfl
theorem gw_462 : (Jvm.Cond.static ({ cls := "RunningCount$Tape", name := "isBlank", desc := "(I)Z" } : Jvm.MethodName)) ∈ GW := gwm 462 (by decide +kernel) rfl
theorem gw_463 : (Jvm.Cond.code ({ cls := "RunningCount$Tape", name := "isBlank", desc := "(I)Z" } : Jvm.MethodName) prog_8_method_10_code (1 : Nat) (Option.some Jvm.ClassFile.FieldType.boolean)) ∈ GW := gwm 463 (by decide +kernel) rfl
theorem gw_464 : (Jvm.Cond.methodLink "RunningCount$Tape" (37 : Nat) ({ cls := "RunningCount$Tape", name := "behindRun", desc := "(I)I" } : Jvm.MethodName)) ∈ GW := gwm 464 (by decide +kernel) rfl
theorem gw_466 : (Jvm.Cond.instanceMethod ({ cls := "RunningCount$Tape", name := "behindRun", desc := "(I)I" } : Jvm.MethodName)) ∈ GW := gwm 466 (by decide +kernel) rfl
theorem gw_467 : (Jvm.Cond.code ({ cls := "RunningCount$Tape", name := "behindRun", desc := "(I)I" } : Jvm.MethodName) prog_8_method_6_code (3 : Nat) (Option.some Jvm.ClassFile.FieldType.int)) ∈ GW := gwm 467 (by decide +kernel) rfl
theorem gw_468 : (Jvm.Cond.methodLink "RunningCount$Tape" (48 : Nat) ({ cls := "RunningCount$Tape", name := "isLetter", desc := "(I)Z" } : Jvm.MethodName)) ∈ GW := gwm 468 (by decide +kernel) rfl
theorem gw_469 : (Jvm.Cond.static ({ cls := "RunningCount$Tape", name := "isLetter", desc := "(I)Z" } : Jvm.MethodName)) ∈ GW := gwm 469 (by decide +kernel) rfl
theorem gw_470 : (Jvm.Cond.code ({ cls := "RunningCount$Tape", name := "isLetter", desc := "(I)Z" } : Jvm.MethodName) prog_8_method_11_code (1 : Nat) (Option.some Jvm.ClassFile.FieldType.boolean)) ∈ GW := gwm 470 (by decide +kernel) rfl
theorem gw_471 : (Jvm.Cond.methodLink "RunningCount$Tape" (51 : Nat) ({ cls := "RunningCount$Tape", name := "isDigit", desc := "(I)Z" } : Jvm.MethodName)) ∈ GW := gwm 471 (by decide +kernel) rfl
theorem gw_472 : (Jvm.Cond.static ({ cls := "RunningCount$Tape", name := "isDigit", desc := "(I)Z" } : Jvm.MethodName)) ∈ GW := gwm 472 (by decide +kernel) rfl
theorem gw_473 : (Jvm.Cond.code ({ cls := "RunningCount$Tape", name := "isDigit", desc := "(I)Z" } : Jvm.MethodName) prog_8_method_12_code (1 : Nat) (Option.some Jvm.ClassFile.FieldType.boolean)) ∈ GW := gwm 473 (by decide +kernel) rfl
theorem gw_474 : (Jvm.Cond.methodLink "RunningCount$Tape" (54 : Nat) ({ cls := "java/lang/Math", name := "max", desc := "(II)I" } : Jvm.MethodName)) ∈ GW := gwm 474 (by decide +kernel) rfl
theorem gw_475 : (Jvm.Cond.static ({ cls := "java/lang/Math", name := "max", desc := "(II)I" } : Jvm.MethodName)) ∈ GW := gwm 475 (by decide +kernel) rfl
theorem gw_476 : (Jvm.Cond.code ({ cls := "java/lang/Math", name := "max", desc := "(II)I" } : Jvm.MethodName) prog_16_method_65_code (2 : Nat) (Option.some Jvm.ClassFile.FieldType.int)) ∈ GW := gwm 476 (by decide +kernel) rfl
theorem gw_477 : (Jvm.Cond.methodLink "RunningCount$Tape" (41 : Nat) ({ cls := "RunningCount$Tape", name := "kindOf", desc := "(II)I" } : Jvm.MethodName)) ∈ GW := gwm 477 (by decide +kernel) rfl
theorem gw_479 : (Jvm.Cond.instanceMethod ({ cls := "RunningCount$Tape", name := "kindOf", desc := "(II)I" } : Jvm.MethodName)) ∈ GW := gwm 479 (by decide +kernel) rfl
theorem gw_480 : (Jvm.Cond.code ({ cls := "RunningCount$Tape", name := "kindOf", desc := "(II)I" } : Jvm.MethodName) prog_8_method_7_code (7 : Nat) (Option.some Jvm.ClassFile.FieldType.int)) ∈ GW := gwm 480 (by decide +kernel) rfl
theorem gw_481 : (Jvm.Cond.methodLink "RunningCount$Tape" (57 : Nat) ({ cls := "RunningCount$Tape", name := "kindOfWord", desc := "(II)I" } : Jvm.MethodName)) ∈ GW := gwm 481 (by decide +kernel) rfl
theorem gw_483 : (Jvm.Cond.instanceMethod ({ cls := "RunningCount$Tape", name := "kindOfWord", desc := "(II)I" } : Jvm.MethodName)) ∈ GW := gwm 483 (by decide +kernel) rfl
theorem gw_484 : (Jvm.Cond.code ({ cls := "RunningCount$Tape", name := "kindOfWord", desc := "(II)I" } : Jvm.MethodName) prog_8_method_8_code (3 : Nat) (Option.some Jvm.ClassFile.FieldType.int)) ∈ GW := gwm 484 (by decide +kernel) rfl
theorem gw_486 : (Jvm.Cond.methodLink "RunningCount$Tape" (62 : Nat) ({ cls := "RunningCount$Tape", name := "isWord", desc := "(IILjava/lang/String;)Z" } : Jvm.MethodName)) ∈ GW := gwm 486 (by decide +kernel) rfl
theorem gw_488 : (Jvm.Cond.instanceMethod ({ cls := "RunningCount$Tape", name := "isWord", desc := "(IILjava/lang/String;)Z" } : Jvm.MethodName)) ∈ GW := gwm 488 (by decide +kernel) rfl
theorem gw_489 : (Jvm.Cond.code ({ cls := "RunningCount$Tape", name := "isWord", desc := "(IILjava/lang/String;)Z" } : Jvm.MethodName) prog_8_method_9_code (5 : Nat) (Option.some Jvm.ClassFile.FieldType.boolean)) ∈ GW := gwm 489 (by decide +kernel) rfl
theorem gw_490 : (Jvm.Cond.methodLink "RunningCount$Tape" (76 : Nat) ({ cls := "java/lang/String", name := "length", desc := "()I" } : Jvm.MethodName)) ∈ GW := gwm 490 (by decide +kernel) rfl
theorem gw_491 : (Jvm.Cond.instanceMethod ({ cls := "java/lang/String", name := "length", desc := "()I" } : Jvm.MethodName)) ∈ GW := gwm 491 (by decide +kernel) rfl
theorem gw_492 : (Jvm.Cond.selects "java/lang/String" ({ cls := "java/lang/String", name := "length", desc := "()I" } : Jvm.MethodName) ({ cls := "java/lang/String", name := "length", desc := "()I" } : Jvm.MethodName)) ∈ GW := gwm 492 (by decide +kernel) rfl
theorem gw_493 : (Jvm.Cond.code ({ cls := "java/lang/String", name := "length", desc := "()I" } : Jvm.MethodName) prog_18_method_54_code (1 : Nat) (Option.some Jvm.ClassFile.FieldType.int)) ∈ GW := gwm 493 (by decide +kernel) rfl
theorem gw_494 : (Jvm.Cond.methodLink "java/lang/String" (335 : Nat) ({ cls := "java/lang/String", name := "coder", desc := "()B" } : Jvm.MethodName)) ∈ GW := gwm 494 (by decide +kernel) rfl
theorem gw_495 : (Jvm.Cond.instanceMethod ({ cls := "java/lang/String", name := "coder", desc := "()B" } : Jvm.MethodName)) ∈ GW := gwm 495 (by decide +kernel) rfl
theorem gw_496 : (Jvm.Cond.selects "java/lang/String" ({ cls := "java/lang/String", name := "coder", desc := "()B" } : Jvm.MethodName) ({ cls := "java/lang/String", name := "coder", desc := "()B" } : Jvm.MethodName)) ∈ GW := gwm 496 (by decide +kernel) rfl
theorem gw_497 : (Jvm.Cond.code ({ cls := "java/lang/String", name := "coder", desc := "()B" } : Jvm.MethodName) prog_18_method_152_code (1 : Nat) (Option.some Jvm.ClassFile.FieldType.byte)) ∈ GW := gwm 497 (by decide +kernel) rfl
theorem gw_498 : (Jvm.Cond.fieldLink "java/lang/String" (38 : Nat) "java/lang/String" "COMPACT_STRINGS" "Z") ∈ GW := gwm 498 (by decide +kernel) rfl
theorem gw_500 : (Jvm.Cond.methodLink "RunningCount$Tape" (81 : Nat) ({ cls := "java/lang/String", name := "charAt", desc := "(I)C" } : Jvm.MethodName)) ∈ GW := gwm 500 (by decide +kernel) rfl
theorem gw_501 : (Jvm.Cond.instanceMethod ({ cls := "java/lang/String", name := "charAt", desc := "(I)C" } : Jvm.MethodName)) ∈ GW := gwm 501 (by decide +kernel) rfl
theorem gw_502 : (Jvm.Cond.selects "java/lang/String" ({ cls := "java/lang/String", name := "charAt", desc := "(I)C" } : Jvm.MethodName) ({ cls := "java/lang/String", name := "charAt", desc := "(I)C" } : Jvm.MethodName)) ∈ GW := gwm 502 (by decide +kernel) rfl
theorem gw_503 : (Jvm.Cond.code ({ cls := "java/lang/String", name := "charAt", desc := "(I)C" } : Jvm.MethodName) prog_18_method_56_code (2 : Nat) (Option.some Jvm.ClassFile.FieldType.char)) ∈ GW := gwm 503 (by decide +kernel) rfl
theorem gw_504 : (Jvm.Cond.methodLink "java/lang/String" (492 : Nat) ({ cls := "java/lang/String", name := "isLatin1", desc := "()Z" } : Jvm.MethodName)) ∈ GW := gwm 504 (by decide +kernel) rfl
theorem gw_505 : (Jvm.Cond.instanceMethod ({ cls := "java/lang/String", name := "isLatin1", desc := "()Z" } : Jvm.MethodName)) ∈ GW := gwm 505 (by decide +kernel) rfl
theorem gw_506 : (Jvm.Cond.selects "java/lang/String" ({ cls := "java/lang/String", name := "isLatin1", desc := "()Z" } : Jvm.MethodName) ({ cls := "java/lang/String", name := "isLatin1", desc := "()Z" } : Jvm.MethodName)) ∈ GW := gwm 506 (by decide +kernel) rfl
theorem gw_507 : (Jvm.Cond.code ({ cls := "java/lang/String", name := "isLatin1", desc := "()Z" } : Jvm.MethodName) prog_18_method_154_code (1 : Nat) (Option.some Jvm.ClassFile.FieldType.boolean)) ∈ GW := gwm 507 (by decide +kernel) rfl
theorem gw_508 : (Jvm.Cond.methodLink "java/lang/String" (495 : Nat) ({ cls := "java/lang/StringLatin1", name := "charAt", desc := "([BI)C" } : Jvm.MethodName)) ∈ GW := gwm 508 (by decide +kernel) rfl
theorem gw_509 : (Jvm.Cond.static ({ cls := "java/lang/StringLatin1", name := "charAt", desc := "([BI)C" } : Jvm.MethodName)) ∈ GW := gwm 509 (by decide +kernel) rfl
theorem gw_510 : (Jvm.Cond.code ({ cls := "java/lang/StringLatin1", name := "charAt", desc := "([BI)C" } : Jvm.MethodName) prog_19_method_2_code (2 : Nat) (Option.some Jvm.ClassFile.FieldType.char)) ∈ GW := gwm 510 (by decide +kernel) rfl
theorem gw_511 : (Jvm.Cond.methodLink "java/lang/StringLatin1" (9 : Nat) ({ cls := "java/lang/String", name := "checkIndex", desc := "(II)V" } : Jvm.MethodName)) ∈ GW := gwm 511 (by decide +kernel) rfl
theorem gw_512 : (Jvm.Cond.static ({ cls := "java/lang/String", name := "checkIndex", desc := "(II)V" } : Jvm.MethodName)) ∈ GW := gwm 512 (by decide +kernel) rfl
theorem gw_513 : (Jvm.Cond.code ({ cls := "java/lang/String", name := "checkIndex", desc := "(II)V" } : Jvm.MethodName) prog_18_method_155_code (2 : Nat) (Option.none : Option Jvm.ClassFile.FieldType)) ∈ GW := gwm 513 (by decide +kernel) rfl
theorem gw_514 : (Jvm.Cond.fieldLink "java/lang/String" (1053 : Nat) "jdk/internal/util/Preconditions" "SIOOBE_FORMATTER" "Ljava/util/function/BiFunction;") ∈ GW := gwm 514 (by decide +kernel) rfl
theorem gw_516 : (Jvm.Cond.methodLink "java/lang/String" (1059 : Nat) ({ cls := "jdk/internal/util/Preconditions", name := "checkIndex", desc := "(IILjava/util/function/BiFunction;)I" } : Jvm.MethodName)) ∈ GW := gwm 516 (by decide +kernel) rfl
theorem gw_517 : (Jvm.Cond.static ({ cls := "jdk/internal/util/Preconditions", name := "checkIndex", desc := "(IILjava/util/function/BiFunction;)I" } : Jvm.MethodName)) ∈ GW := gwm 517 (by decide +kernel) rfl
theorem gw_518 : (Jvm.Cond.code ({ cls := "jdk/internal/util/Preconditions", name := "checkIndex", desc := "(IILjava/util/function/BiFunction;)I" } : Jvm.MethodName) prog_25_method_11_code (3 : Nat) (Option.some Jvm.ClassFile.FieldType.int)) ∈ GW := gwm 518 (by decide +kernel) rfl
theorem gw_519 : (Jvm.Cond.methodLink "java/lang/String" (498 : Nat) ({ cls := "java/lang/StringUTF16", name := "charAt", desc := "([BI)C" } : Jvm.MethodName)) ∈ GW := gwm 519 (by decide +kernel) rfl
theorem gw_520 : (Jvm.Cond.static ({ cls := "java/lang/StringUTF16", name := "charAt", desc := "([BI)C" } : Jvm.MethodName)) ∈ GW := gwm 520 (by decide +kernel) rfl
theorem gw_521 : (Jvm.Cond.code ({ cls := "java/lang/StringUTF16", name := "charAt", desc := "([BI)C" } : Jvm.MethodName) prog_20_method_83_code (2 : Nat) (Option.some Jvm.ClassFile.FieldType.char)) ∈ GW := gwm 521 (by decide +kernel) rfl
theorem gw_522 : (Jvm.Cond.methodLink "java/lang/StringUTF16" (67 : Nat) ({ cls := "java/lang/StringUTF16", name := "checkIndex", desc := "(I[B)V" } : Jvm.MethodName)) ∈ GW := gwm 522 (by decide +kernel) rfl
theorem gw_523 : (Jvm.Cond.static ({ cls := "java/lang/StringUTF16", name := "checkIndex", desc := "(I[B)V" } : Jvm.MethodName)) ∈ GW := gwm 523 (by decide +kernel) rfl
theorem gw_524 : (Jvm.Cond.code ({ cls := "java/lang/StringUTF16", name := "checkIndex", desc := "(I[B)V" } : Jvm.MethodName) prog_20_method_91_code (2 : Nat) (Option.none : Option Jvm.ClassFile.FieldType)) ∈ GW := gwm 524 (by decide +kernel) rfl
theorem gw_525 : (Jvm.Cond.methodLink "java/lang/StringUTF16" (48 : Nat) ({ cls := "java/lang/StringUTF16", name := "length", desc := "([B)I" } : Jvm.MethodName)) ∈ GW := gwm 525 (by decide +kernel) rfl
theorem gw_526 : (Jvm.Cond.static ({ cls := "java/lang/StringUTF16", name := "length", desc := "([B)I" } : Jvm.MethodName)) ∈ GW := gwm 526 (by decide +kernel) rfl
theorem gw_527 : (Jvm.Cond.code ({ cls := "java/lang/StringUTF16", name := "length", desc := "([B)I" } : Jvm.MethodName) prog_20_method_6_code (1 : Nat) (Option.some Jvm.ClassFile.FieldType.int)) ∈ GW := gwm 527 (by decide +kernel) rfl
theorem gw_528 : (Jvm.Cond.methodLink "java/lang/StringUTF16" (414 : Nat) ({ cls := "java/lang/String", name := "checkIndex", desc := "(II)V" } : Jvm.MethodName)) ∈ GW := gwm 528 (by decide +kernel) rfl
theorem gw_529 : (Jvm.Cond.methodLink "java/lang/StringUTF16" (71 : Nat) ({ cls := "java/lang/StringUTF16", name := "getChar", desc := "([BI)C" } : Jvm.MethodName)) ∈ GW := gwm 529 (by decide +kernel) rfl
theorem gw_530 : (Jvm.Cond.static ({ cls := "java/lang/StringUTF16", name := "getChar", desc := "([BI)C" } : Jvm.MethodName)) ∈ GW := gwm 530 (by decide +kernel) rfl
theorem gw_531 : (Jvm.Cond.code ({ cls := "java/lang/StringUTF16", name := "getChar", desc := "([BI)C" } : Jvm.MethodName) prog_20_method_5_code (2 : Nat) (Option.some Jvm.ClassFile.FieldType.char)) ∈ GW := gwm 531 (by decide +kernel) rfl
theorem gw_532 : (Jvm.Cond.fieldLink "java/lang/StringUTF16" (44 : Nat) "java/lang/StringUTF16" "$assertionsDisabled" "Z") ∈ GW := gwm 532 (by decide +kernel) rfl
theorem gw_534 : (Jvm.Cond.fieldLink "java/lang/StringUTF16" (59 : Nat) "java/lang/StringUTF16" "HI_BYTE_SHIFT" "I") ∈ GW := gwm 534 (by decide +kernel) rfl
theorem gw_536 : (Jvm.Cond.fieldLink "java/lang/StringUTF16" (63 : Nat) "java/lang/StringUTF16" "LO_BYTE_SHIFT" "I") ∈ GW := gwm 536 (by decide +kernel) rfl
theorem gw_543 : (Jvm.Cond.methodLink "RunningCount$Tape" (44 : Nat) ({ cls := "RunningCount$Tape", name := "addToken", desc := "(II)V" } : Jvm.MethodName)) ∈ GW := gwm 543 (by decide +kernel) rfl
theorem gw_545 : (Jvm.Cond.instanceMethod ({ cls := "RunningCount$Tape", name := "addToken", desc := "(II)V" } : Jvm.MethodName)) ∈ GW := gwm 545 (by decide +kernel) rfl
theorem gw_546 : (Jvm.Cond.code ({ cls := "RunningCount$Tape", name := "addToken", desc := "(II)V" } : Jvm.MethodName) prog_8_method_5_code (3 : Nat) (Option.none : Option Jvm.ClassFile.FieldType)) ∈ GW := gwm 546 (by decide +kernel) rfl
theorem nw_547 : (Jvm.Cond.methodLinkNest "RunningCount$TextReader" (43 : Nat) ({ cls := "RunningCount$Goods", name := "clear", desc := "()V" } : Jvm.MethodName) "RunningCount") ∈ NW := nwm 547 (by decide +kernel) rfl
theorem gw_549 : (Jvm.Cond.instanceMethod ({ cls := "RunningCount$Goods", name := "clear", desc := "()V" } : Jvm.MethodName)) ∈ GW := gwm 549 (by decide +kernel) rfl
theorem gw_550 : (Jvm.Cond.code ({ cls := "RunningCount$Goods", name := "clear", desc := "()V" } : Jvm.MethodName) prog_6_method_2_code (2 : Nat) (Option.none : Option Jvm.ClassFile.FieldType)) ∈ GW := gwm 550 (by decide +kernel) rfl
theorem gw_551 : (Jvm.Cond.methodLink "RunningCount$TextReader" (48 : Nat) ({ cls := "RunningCount$TextReader", name := "advance", desc := "()V" } : Jvm.MethodName)) ∈ GW := gwm 551 (by decide +kernel) rfl
theorem gw_553 : (Jvm.Cond.instanceMethod ({ cls := "RunningCount$TextReader", name := "advance", desc := "()V" } : Jvm.MethodName)) ∈ GW := gwm 553 (by decide +kernel) rfl
theorem gw_554 : (Jvm.Cond.code ({ cls := "RunningCount$TextReader", name := "advance", desc := "()V" } : Jvm.MethodName) prog_9_method_15_code (1 : Nat) (Option.none : Option Jvm.ClassFile.FieldType)) ∈ GW := gwm 554 (by decide +kernel) rfl
theorem gw_555 : (Jvm.Cond.methodLink "RunningCount$TextReader" (51 : Nat) ({ cls := "RunningCount$TextReader", name := "readShelves", desc := "(LRunningCount$Goods;)Z" } : Jvm.MethodName)) ∈ GW := gwm 555 (by decide +kernel) rfl
theorem gw_557 : (Jvm.Cond.instanceMethod ({ cls := "RunningCount$TextReader", name := "readShelves", desc := "(LRunningCount$Goods;)Z" } : Jvm.MethodName)) ∈ GW := gwm 557 (by decide +kernel) rfl
theorem gw_558 : (Jvm.Cond.code ({ cls := "RunningCount$TextReader", name := "readShelves", desc := "(LRunningCount$Goods;)Z" } : Jvm.MethodName) prog_9_method_3_code (2 : Nat) (Option.some Jvm.ClassFile.FieldType.boolean)) ∈ GW := gwm 558 (by decide +kernel) rfl
theorem gw_559 : (Jvm.Cond.methodLink "RunningCount$TextReader" (68 : Nat) ({ cls := "RunningCount$TextReader", name := "take", desc := "(I)Z" } : Jvm.MethodName)) ∈ GW := gwm 559 (by decide +kernel) rfl
theorem gw_561 : (Jvm.Cond.instanceMethod ({ cls := "RunningCount$TextReader", name := "take", desc := "(I)Z" } : Jvm.MethodName)) ∈ GW := gwm 561 (by decide +kernel) rfl
theorem gw_562 : (Jvm.Cond.code ({ cls := "RunningCount$TextReader", name := "take", desc := "(I)Z" } : Jvm.MethodName) prog_9_method_13_code (2 : Nat) (Option.some Jvm.ClassFile.FieldType.boolean)) ∈ GW := gwm 562 (by decide +kernel) rfl
theorem gw_563 : (Jvm.Cond.methodLink "RunningCount$TextReader" (85 : Nat) ({ cls := "RunningCount$TextReader", name := "fail", desc := "(I)Z" } : Jvm.MethodName)) ∈ GW := gwm 563 (by decide +kernel) rfl
theorem gw_565 : (Jvm.Cond.instanceMethod ({ cls := "RunningCount$TextReader", name := "fail", desc := "(I)Z" } : Jvm.MethodName)) ∈ GW := gwm 565 (by decide +kernel) rfl
theorem gw_566 : (Jvm.Cond.code ({ cls := "RunningCount$TextReader", name := "fail", desc := "(I)Z" } : Jvm.MethodName) prog_9_method_16_code (2 : Nat) (Option.some Jvm.ClassFile.FieldType.boolean)) ∈ GW := gwm 566 (by decide +kernel) rfl
theorem gw_567 : (Jvm.Cond.methodLink "RunningCount$TextReader" (72 : Nat) ({ cls := "RunningCount$TextReader", name := "takeNumber", desc := "(II)Z" } : Jvm.MethodName)) ∈ GW := gwm 567 (by decide +kernel) rfl
theorem gw_569 : (Jvm.Cond.instanceMethod ({ cls := "RunningCount$TextReader", name := "takeNumber", desc := "(II)Z" } : Jvm.MethodName)) ∈ GW := gwm 569 (by decide +kernel) rfl
theorem gw_570 : (Jvm.Cond.code ({ cls := "RunningCount$TextReader", name := "takeNumber", desc := "(II)Z" } : Jvm.MethodName) prog_9_method_14_code (3 : Nat) (Option.some Jvm.ClassFile.FieldType.boolean)) ∈ GW := gwm 570 (by decide +kernel) rfl
theorem gw_571 : (Jvm.Cond.methodLink "RunningCount$TextReader" (79 : Nat) ({ cls := "RunningCount$TextReader", name := "takeLineEnd", desc := "()Z" } : Jvm.MethodName)) ∈ GW := gwm 571 (by decide +kernel) rfl
theorem gw_573 : (Jvm.Cond.instanceMethod ({ cls := "RunningCount$TextReader", name := "takeLineEnd", desc := "()Z" } : Jvm.MethodName)) ∈ GW := gwm 573 (by decide +kernel) rfl
theorem gw_574 : (Jvm.Cond.code ({ cls := "RunningCount$TextReader", name := "takeLineEnd", desc := "()Z" } : Jvm.MethodName) prog_9_method_12_code (1 : Nat) (Option.some Jvm.ClassFile.FieldType.boolean)) ∈ GW := gwm 574 (by decide +kernel) rfl
theorem gw_575 : (Jvm.Cond.methodLink "RunningCount$TextReader" (55 : Nat) ({ cls := "RunningCount$TextReader", name := "readItems", desc := "(LRunningCount$Goods;)Z" } : Jvm.MethodName)) ∈ GW := gwm 575 (by decide +kernel) rfl
theorem gw_577 : (Jvm.Cond.instanceMethod ({ cls := "RunningCount$TextReader", name := "readItems", desc := "(LRunningCount$Goods;)Z" } : Jvm.MethodName)) ∈ GW := gwm 577 (by decide +kernel) rfl
theorem gw_578 : (Jvm.Cond.code ({ cls := "RunningCount$TextReader", name := "readItems", desc := "(LRunningCount$Goods;)Z" } : Jvm.MethodName) prog_9_method_4_code (3 : Nat) (Option.some Jvm.ClassFile.FieldType.boolean)) ∈ GW := gwm 578 (by decide +kernel) rfl
theorem gw_579 : (Jvm.Cond.methodLink "RunningCount$TextReader" (88 : Nat) ({ cls := "RunningCount$TextReader", name := "readItem", desc := "(LRunningCount$Goods;)Z" } : Jvm.MethodName)) ∈ GW := gwm 579 (by decide +kernel) rfl
theorem gw_581 : (Jvm.Cond.instanceMethod ({ cls := "RunningCount$TextReader", name := "readItem", desc := "(LRunningCount$Goods;)Z" } : Jvm.MethodName)) ∈ GW := gwm 581 (by decide +kernel) rfl
theorem gw_582 : (Jvm.Cond.code ({ cls := "RunningCount$TextReader", name := "readItem", desc := "(LRunningCount$Goods;)Z" } : Jvm.MethodName) prog_9_method_5_code (3 : Nat) (Option.some Jvm.ClassFile.FieldType.boolean)) ∈ GW := gwm 582 (by decide +kernel) rfl
theorem nw_583 : (Jvm.Cond.methodLinkNest "RunningCount$TextReader" (91 : Nat) ({ cls := "RunningCount$Goods", name := "addItem", desc := "(II)V" } : Jvm.MethodName) "RunningCount") ∈ NW := nwm 583 (by decide +kernel) rfl
theorem gw_585 : (Jvm.Cond.instanceMethod ({ cls := "RunningCount$Goods", name := "addItem", desc := "(II)V" } : Jvm.MethodName)) ∈ GW := gwm 585 (by decide +kernel) rfl
theorem gw_586 : (Jvm.Cond.code ({ cls := "RunningCount$Goods", name := "addItem", desc := "(II)V" } : Jvm.MethodName) prog_6_method_11_code (3 : Nat) (Option.none : Option Jvm.ClassFile.FieldType)) ∈ GW := gwm 586 (by decide +kernel) rfl
theorem gw_587 : (Jvm.Cond.methodLink "RunningCount$TextReader" (58 : Nat) ({ cls := "RunningCount$TextReader", name := "readStocks", desc := "(LRunningCount$Goods;)Z" } : Jvm.MethodName)) ∈ GW := gwm 587 (by decide +kernel) rfl
theorem gw_589 : (Jvm.Cond.instanceMethod ({ cls := "RunningCount$TextReader", name := "readStocks", desc := "(LRunningCount$Goods;)Z" } : Jvm.MethodName)) ∈ GW := gwm 589 (by decide +kernel) rfl
theorem gw_590 : (Jvm.Cond.code ({ cls := "RunningCount$TextReader", name := "readStocks", desc := "(LRunningCount$Goods;)Z" } : Jvm.MethodName) prog_9_method_6_code (3 : Nat) (Option.some Jvm.ClassFile.FieldType.boolean)) ∈ GW := gwm 590 (by decide +kernel) rfl
theorem gw_591 : (Jvm.Cond.methodLink "RunningCount$TextReader" (95 : Nat) ({ cls := "RunningCount$TextReader", name := "readStock", desc := "(LRunningCount$Goods;)Z" } : Jvm.MethodName)) ∈ GW := gwm 591 (by decide +kernel) rfl
theorem gw_593 : (Jvm.Cond.instanceMethod ({ cls := "RunningCount$TextReader", name := "readStock", desc := "(LRunningCount$Goods;)Z" } : Jvm.MethodName)) ∈ GW := gwm 593 (by decide +kernel) rfl
theorem gw_594 : (Jvm.Cond.code ({ cls := "RunningCount$TextReader", name := "readStock", desc := "(LRunningCount$Goods;)Z" } : Jvm.MethodName) prog_9_method_7_code (4 : Nat) (Option.some Jvm.ClassFile.FieldType.boolean)) ∈ GW := gwm 594 (by decide +kernel) rfl
theorem nw_595 : (Jvm.Cond.methodLinkNest "RunningCount$TextReader" (98 : Nat) ({ cls := "RunningCount$Goods", name := "isStockTold", desc := "(II)Z" } : Jvm.MethodName) "RunningCount") ∈ NW := nwm 595 (by decide +kernel) rfl
theorem gw_597 : (Jvm.Cond.instanceMethod ({ cls := "RunningCount$Goods", name := "isStockTold", desc := "(II)Z" } : Jvm.MethodName)) ∈ GW := gwm 597 (by decide +kernel) rfl
theorem gw_598 : (Jvm.Cond.code ({ cls := "RunningCount$Goods", name := "isStockTold", desc := "(II)Z" } : Jvm.MethodName) prog_6_method_8_code (3 : Nat) (Option.some Jvm.ClassFile.FieldType.boolean)) ∈ GW := gwm 598 (by decide +kernel) rfl
theorem gw_599 : (Jvm.Cond.methodLink "RunningCount$Goods" (53 : Nat) ({ cls := "RunningCount$Goods", name := "hasCouple", desc := "(II)Z" } : Jvm.MethodName)) ∈ GW := gwm 599 (by decide +kernel) rfl
theorem gw_601 : (Jvm.Cond.instanceMethod ({ cls := "RunningCount$Goods", name := "hasCouple", desc := "(II)Z" } : Jvm.MethodName)) ∈ GW := gwm 601 (by decide +kernel) rfl
theorem gw_602 : (Jvm.Cond.code ({ cls := "RunningCount$Goods", name := "hasCouple", desc := "(II)Z" } : Jvm.MethodName) prog_6_method_5_code (3 : Nat) (Option.some Jvm.ClassFile.FieldType.boolean)) ∈ GW := gwm 602 (by decide +kernel) rfl
theorem gw_603 : (Jvm.Cond.methodLink "RunningCount$Goods" (46 : Nat) ({ cls := "RunningCount$Goods", name := "hasShelf", desc := "(I)Z" } : Jvm.MethodName)) ∈ GW := gwm 603 (by decide +kernel) rfl
theorem gw_605 : (Jvm.Cond.instanceMethod ({ cls := "RunningCount$Goods", name := "hasShelf", desc := "(I)Z" } : Jvm.MethodName)) ∈ GW := gwm 605 (by decide +kernel) rfl
theorem gw_606 : (Jvm.Cond.code ({ cls := "RunningCount$Goods", name := "hasShelf", desc := "(I)Z" } : Jvm.MethodName) prog_6_method_3_code (2 : Nat) (Option.some Jvm.ClassFile.FieldType.boolean)) ∈ GW := gwm 606 (by decide +kernel) rfl
theorem gw_607 : (Jvm.Cond.methodLink "RunningCount$Goods" (50 : Nat) ({ cls := "RunningCount$Goods", name := "hasItem", desc := "(I)Z" } : Jvm.MethodName)) ∈ GW := gwm 607 (by decide +kernel) rfl
theorem gw_609 : (Jvm.Cond.instanceMethod ({ cls := "RunningCount$Goods", name := "hasItem", desc := "(I)Z" } : Jvm.MethodName)) ∈ GW := gwm 609 (by decide +kernel) rfl
theorem gw_610 : (Jvm.Cond.code ({ cls := "RunningCount$Goods", name := "hasItem", desc := "(I)Z" } : Jvm.MethodName) prog_6_method_4_code (2 : Nat) (Option.some Jvm.ClassFile.FieldType.boolean)) ∈ GW := gwm 610 (by decide +kernel) rfl
theorem gw_611 : (Jvm.Cond.methodLink "RunningCount$Goods" (57 : Nat) ({ cls := "RunningCount$Goods", name := "placeOf", desc := "(II)I" } : Jvm.MethodName)) ∈ GW := gwm 611 (by decide +kernel) rfl
theorem gw_612 : (Jvm.Cond.static ({ cls := "RunningCount$Goods", name := "placeOf", desc := "(II)I" } : Jvm.MethodName)) ∈ GW := gwm 612 (by decide +kernel) rfl
theorem gw_613 : (Jvm.Cond.code ({ cls := "RunningCount$Goods", name := "placeOf", desc := "(II)I" } : Jvm.MethodName) prog_6_method_7_code (2 : Nat) (Option.some Jvm.ClassFile.FieldType.int)) ∈ GW := gwm 613 (by decide +kernel) rfl
theorem nw_614 : (Jvm.Cond.methodLinkNest "RunningCount$TextReader" (101 : Nat) ({ cls := "RunningCount$Goods", name := "tellStock", desc := "(III)V" } : Jvm.MethodName) "RunningCount") ∈ NW := nwm 614 (by decide +kernel) rfl
theorem gw_616 : (Jvm.Cond.instanceMethod ({ cls := "RunningCount$Goods", name := "tellStock", desc := "(III)V" } : Jvm.MethodName)) ∈ GW := gwm 616 (by decide +kernel) rfl
theorem gw_617 : (Jvm.Cond.code ({ cls := "RunningCount$Goods", name := "tellStock", desc := "(III)V" } : Jvm.MethodName) prog_6_method_9_code (4 : Nat) (Option.none : Option Jvm.ClassFile.FieldType)) ∈ GW := gwm 617 (by decide +kernel) rfl
theorem gw_618 : (Jvm.Cond.methodLink "RunningCount$TextReader" (61 : Nat) ({ cls := "RunningCount$TextReader", name := "readMoves", desc := "(LRunningCount$Goods;)Z" } : Jvm.MethodName)) ∈ GW := gwm 618 (by decide +kernel) rfl
theorem gw_620 : (Jvm.Cond.instanceMethod ({ cls := "RunningCount$TextReader", name := "readMoves", desc := "(LRunningCount$Goods;)Z" } : Jvm.MethodName)) ∈ GW := gwm 620 (by decide +kernel) rfl
theorem gw_621 : (Jvm.Cond.code ({ cls := "RunningCount$TextReader", name := "readMoves", desc := "(LRunningCount$Goods;)Z" } : Jvm.MethodName) prog_9_method_8_code (3 : Nat) (Option.some Jvm.ClassFile.FieldType.boolean)) ∈ GW := gwm 621 (by decide +kernel) rfl
theorem gw_622 : (Jvm.Cond.methodLink "RunningCount$TextReader" (108 : Nat) ({ cls := "RunningCount$TextReader", name := "readMove", desc := "(LRunningCount$Goods;)Z" } : Jvm.MethodName)) ∈ GW := gwm 622 (by decide +kernel) rfl
theorem gw_624 : (Jvm.Cond.instanceMethod ({ cls := "RunningCount$TextReader", name := "readMove", desc := "(LRunningCount$Goods;)Z" } : Jvm.MethodName)) ∈ GW := gwm 624 (by decide +kernel) rfl
theorem gw_625 : (Jvm.Cond.code ({ cls := "RunningCount$TextReader", name := "readMove", desc := "(LRunningCount$Goods;)Z" } : Jvm.MethodName) prog_9_method_9_code (4 : Nat) (Option.some Jvm.ClassFile.FieldType.boolean)) ∈ GW := gwm 625 (by decide +kernel) rfl
theorem nw_626 : (Jvm.Cond.methodLinkNest "RunningCount$TextReader" (111 : Nat) ({ cls := "RunningCount$Goods", name := "addMove", desc := "(II)I" } : Jvm.MethodName) "RunningCount") ∈ NW := nwm 626 (by decide +kernel) rfl
theorem gw_628 : (Jvm.Cond.instanceMethod ({ cls := "RunningCount$Goods", name := "addMove", desc := "(II)I" } : Jvm.MethodName)) ∈ GW := gwm 628 (by decide +kernel) rfl
theorem gw_629 : (Jvm.Cond.code ({ cls := "RunningCount$Goods", name := "addMove", desc := "(II)I" } : Jvm.MethodName) prog_6_method_12_code (4 : Nat) (Option.some Jvm.ClassFile.FieldType.int)) ∈ GW := gwm 629 (by decide +kernel) rfl
theorem nw_630 : (Jvm.Cond.methodLinkNest "RunningCount$Goods" (66 : Nat) ({ cls := "RunningCount", name := "legOf", desc := "(II)I" } : Jvm.MethodName) "RunningCount") ∈ NW := nwm 630 (by decide +kernel) rfl
theorem gw_631 : (Jvm.Cond.static ({ cls := "RunningCount", name := "legOf", desc := "(II)I" } : Jvm.MethodName)) ∈ GW := gwm 631 (by decide +kernel) rfl
theorem gw_632 : (Jvm.Cond.code ({ cls := "RunningCount", name := "legOf", desc := "(II)I" } : Jvm.MethodName) prog_1_method_30_code (2 : Nat) (Option.some Jvm.ClassFile.FieldType.int)) ∈ GW := gwm 632 (by decide +kernel) rfl
theorem gw_633 : (Jvm.Cond.methodLink "RunningCount$Goods" (69 : Nat) ({ cls := "RunningCount$Goods", name := "removeLeg", desc := "(I)V" } : Jvm.MethodName)) ∈ GW := gwm 633 (by decide +kernel) rfl
theorem gw_635 : (Jvm.Cond.instanceMethod ({ cls := "RunningCount$Goods", name := "removeLeg", desc := "(I)V" } : Jvm.MethodName)) ∈ GW := gwm 635 (by decide +kernel) rfl
theorem gw_636 : (Jvm.Cond.code ({ cls := "RunningCount$Goods", name := "removeLeg", desc := "(I)V" } : Jvm.MethodName) prog_6_method_15_code (2 : Nat) (Option.none : Option Jvm.ClassFile.FieldType)) ∈ GW := gwm 636 (by decide +kernel) rfl
theorem gw_637 : (Jvm.Cond.methodLink "RunningCount$Goods" (73 : Nat) ({ cls := "RunningCount$Goods", name := "setLeg", desc := "(IIII)V" } : Jvm.MethodName)) ∈ GW := gwm 637 (by decide +kernel) rfl
theorem gw_639 : (Jvm.Cond.instanceMethod ({ cls := "RunningCount$Goods", name := "setLeg", desc := "(IIII)V" } : Jvm.MethodName)) ∈ GW := gwm 639 (by decide +kernel) rfl
theorem gw_640 : (Jvm.Cond.code ({ cls := "RunningCount$Goods", name := "setLeg", desc := "(IIII)V" } : Jvm.MethodName) prog_6_method_14_code (5 : Nat) (Option.none : Option Jvm.ClassFile.FieldType)) ∈ GW := gwm 640 (by decide +kernel) rfl
theorem nw_641 : (Jvm.Cond.methodLinkNest "RunningCount$TextReader" (115 : Nat) ({ cls := "RunningCount", name := "legOf", desc := "(II)I" } : Jvm.MethodName) "RunningCount") ∈ NW := nwm 641 (by decide +kernel) rfl
theorem gw_642 : (Jvm.Cond.methodLink "RunningCount$TextReader" (118 : Nat) ({ cls := "RunningCount$TextReader", name := "readLeg", desc := "(LRunningCount$Goods;II)Z" } : Jvm.MethodName)) ∈ GW := gwm 642 (by decide +kernel) rfl
theorem gw_644 : (Jvm.Cond.instanceMethod ({ cls := "RunningCount$TextReader", name := "readLeg", desc := "(LRunningCount$Goods;II)Z" } : Jvm.MethodName)) ∈ GW := gwm 644 (by decide +kernel) rfl
theorem gw_645 : (Jvm.Cond.code ({ cls := "RunningCount$TextReader", name := "readLeg", desc := "(LRunningCount$Goods;II)Z" } : Jvm.MethodName) prog_9_method_10_code (6 : Nat) (Option.some Jvm.ClassFile.FieldType.boolean)) ∈ GW := gwm 645 (by decide +kernel) rfl
theorem nw_646 : (Jvm.Cond.methodLinkNest "RunningCount$TextReader" (122 : Nat) ({ cls := "RunningCount$Goods", name := "setLeg", desc := "(IIII)V" } : Jvm.MethodName) "RunningCount") ∈ NW := nwm 646 (by decide +kernel) rfl
theorem gw_647 : (Jvm.Cond.methodLink "RunningCount$TextReader" (64 : Nat) ({ cls := "RunningCount$TextReader", name := "readEnd", desc := "()Z" } : Jvm.MethodName)) ∈ GW := gwm 647 (by decide +kernel) rfl
theorem gw_649 : (Jvm.Cond.instanceMethod ({ cls := "RunningCount$TextReader", name := "readEnd", desc := "()Z" } : Jvm.MethodName)) ∈ GW := gwm 649 (by decide +kernel) rfl
theorem gw_650 : (Jvm.Cond.code ({ cls := "RunningCount$TextReader", name := "readEnd", desc := "()Z" } : Jvm.MethodName) prog_9_method_11_code (1 : Nat) (Option.some Jvm.ClassFile.FieldType.boolean)) ∈ GW := gwm 650 (by decide +kernel) rfl
theorem gw_651 : (Jvm.Cond.methodLink "RunningCountLaw" (37 : Nat) ({ cls := "RunningCount", name := "fault", desc := "()I" } : Jvm.MethodName)) ∈ GW := gwm 651 (by decide +kernel) rfl
theorem gw_652 : (Jvm.Cond.instanceMethod ({ cls := "RunningCount", name := "fault", desc := "()I" } : Jvm.MethodName)) ∈ GW := gwm 652 (by decide +kernel) rfl
theorem gw_653 : (Jvm.Cond.selects "RunningCount" ({ cls := "RunningCount", name := "fault", desc := "()I" } : Jvm.MethodName) ({ cls := "RunningCount", name := "fault", desc := "()I" } : Jvm.MethodName)) ∈ GW := gwm 653 (by decide +kernel) rfl
theorem gw_654 : (Jvm.Cond.code ({ cls := "RunningCount", name := "fault", desc := "()I" } : Jvm.MethodName) prog_1_method_5_code (1 : Nat) (Option.some Jvm.ClassFile.FieldType.int)) ∈ GW := gwm 654 (by decide +kernel) rfl
theorem gw_655 : (Jvm.Cond.methodLink "RunningCountLaw" (41 : Nat) ({ cls := "RunningCount", name := "now", desc := "(I)I" } : Jvm.MethodName)) ∈ GW := gwm 655 (by decide +kernel) rfl
theorem gw_656 : (Jvm.Cond.instanceMethod ({ cls := "RunningCount", name := "now", desc := "(I)I" } : Jvm.MethodName)) ∈ GW := gwm 656 (by decide +kernel) rfl
theorem gw_657 : (Jvm.Cond.selects "RunningCount" ({ cls := "RunningCount", name := "now", desc := "(I)I" } : Jvm.MethodName) ({ cls := "RunningCount", name := "now", desc := "(I)I" } : Jvm.MethodName)) ∈ GW := gwm 657 (by decide +kernel) rfl
theorem gw_658 : (Jvm.Cond.code ({ cls := "RunningCount", name := "now", desc := "(I)I" } : Jvm.MethodName) prog_1_method_6_code (2 : Nat) (Option.some Jvm.ClassFile.FieldType.int)) ∈ GW := gwm 658 (by decide +kernel) rfl
theorem nw_659 : (Jvm.Cond.methodLinkNest "RunningCount" (99 : Nat) ({ cls := "RunningCount$CountList", name := "openCounts", desc := "()I" } : Jvm.MethodName) "RunningCount") ∈ NW := nwm 659 (by decide +kernel) rfl
theorem gw_661 : (Jvm.Cond.instanceMethod ({ cls := "RunningCount$CountList", name := "openCounts", desc := "()I" } : Jvm.MethodName)) ∈ GW := gwm 661 (by decide +kernel) rfl
theorem gw_662 : (Jvm.Cond.code ({ cls := "RunningCount$CountList", name := "openCounts", desc := "()I" } : Jvm.MethodName) prog_5_method_5_code (3 : Nat) (Option.some Jvm.ClassFile.FieldType.int)) ∈ GW := gwm 662 (by decide +kernel) rfl
theorem gw_663 : (Jvm.Cond.methodLink "RunningCountLaw" (46 : Nat) ({ cls := "RunningCount", name := "item", desc := "(II)I" } : Jvm.MethodName)) ∈ GW := gwm 663 (by decide +kernel) rfl
theorem gw_664 : (Jvm.Cond.instanceMethod ({ cls := "RunningCount", name := "item", desc := "(II)I" } : Jvm.MethodName)) ∈ GW := gwm 664 (by decide +kernel) rfl
theorem gw_665 : (Jvm.Cond.selects "RunningCount" ({ cls := "RunningCount", name := "item", desc := "(II)I" } : Jvm.MethodName) ({ cls := "RunningCount", name := "item", desc := "(II)I" } : Jvm.MethodName)) ∈ GW := gwm 665 (by decide +kernel) rfl
theorem gw_666 : (Jvm.Cond.code ({ cls := "RunningCount", name := "item", desc := "(II)I" } : Jvm.MethodName) prog_1_method_7_code (3 : Nat) (Option.some Jvm.ClassFile.FieldType.int)) ∈ GW := gwm 666 (by decide +kernel) rfl
theorem nw_667 : (Jvm.Cond.methodLinkNest "RunningCount" (103 : Nat) ({ cls := "RunningCount$Goods", name := "hasItem", desc := "(I)Z" } : Jvm.MethodName) "RunningCount") ∈ NW := nwm 667 (by decide +kernel) rfl
theorem gw_668 : (Jvm.Cond.methodLink "RunningCountLaw" (59 : Nat) ({ cls := "RunningCount", name := "book", desc := "(IIII)I" } : Jvm.MethodName)) ∈ GW := gwm 668 (by decide +kernel) rfl
theorem gw_669 : (Jvm.Cond.instanceMethod ({ cls := "RunningCount", name := "book", desc := "(IIII)I" } : Jvm.MethodName)) ∈ GW := gwm 669 (by decide +kernel) rfl
theorem gw_670 : (Jvm.Cond.selects "RunningCount" ({ cls := "RunningCount", name := "book", desc := "(IIII)I" } : Jvm.MethodName) ({ cls := "RunningCount", name := "book", desc := "(IIII)I" } : Jvm.MethodName)) ∈ GW := gwm 670 (by decide +kernel) rfl
theorem gw_671 : (Jvm.Cond.code ({ cls := "RunningCount", name := "book", desc := "(IIII)I" } : Jvm.MethodName) prog_1_method_9_code (5 : Nat) (Option.some Jvm.ClassFile.FieldType.int)) ∈ GW := gwm 671 (by decide +kernel) rfl
theorem nw_672 : (Jvm.Cond.methodLinkNest "RunningCount" (145 : Nat) ({ cls := "RunningCount$Goods", name := "hasCouple", desc := "(II)Z" } : Jvm.MethodName) "RunningCount") ∈ NW := nwm 672 (by decide +kernel) rfl
theorem gw_673 : (Jvm.Cond.methodLink "RunningCount" (149 : Nat) ({ cls := "RunningCount", name := "isInstant", desc := "(I)Z" } : Jvm.MethodName)) ∈ GW := gwm 673 (by decide +kernel) rfl
theorem gw_674 : (Jvm.Cond.static ({ cls := "RunningCount", name := "isInstant", desc := "(I)Z" } : Jvm.MethodName)) ∈ GW := gwm 674 (by decide +kernel) rfl
theorem gw_675 : (Jvm.Cond.code ({ cls := "RunningCount", name := "isInstant", desc := "(I)Z" } : Jvm.MethodName) prog_1_method_27_code (1 : Nat) (Option.some Jvm.ClassFile.FieldType.boolean)) ∈ GW := gwm 675 (by decide +kernel) rfl
theorem gw_676 : (Jvm.Cond.constant "RunningCount" (152 : Nat) (-100000000 : Int32)) ∈ GW := gwm 676 (by decide +kernel) rfl
theorem nw_677 : (Jvm.Cond.methodLinkNest "RunningCount" (153 : Nat) ({ cls := "RunningCount$Book", name := "readAt", desc := "(LRunningCount$Goods;LRunningCount$AdjustmentList;III)V" } : Jvm.MethodName) "RunningCount") ∈ NW := nwm 677 (by decide +kernel) rfl
theorem gw_679 : (Jvm.Cond.instanceMethod ({ cls := "RunningCount$Book", name := "readAt", desc := "(LRunningCount$Goods;LRunningCount$AdjustmentList;III)V" } : Jvm.MethodName)) ∈ GW := gwm 679 (by decide +kernel) rfl
theorem gw_680 : (Jvm.Cond.code ({ cls := "RunningCount$Book", name := "readAt", desc := "(LRunningCount$Goods;LRunningCount$AdjustmentList;III)V" } : Jvm.MethodName) prog_4_method_2_code (8 : Nat) (Option.none : Option Jvm.ClassFile.FieldType)) ∈ GW := gwm 680 (by decide +kernel) rfl
theorem nw_681 : (Jvm.Cond.methodLinkNest "RunningCount$Book" (15 : Nat) ({ cls := "RunningCount$Goods", name := "stockOf", desc := "(II)I" } : Jvm.MethodName) "RunningCount") ∈ NW := nwm 681 (by decide +kernel) rfl
theorem gw_683 : (Jvm.Cond.instanceMethod ({ cls := "RunningCount$Goods", name := "stockOf", desc := "(II)I" } : Jvm.MethodName)) ∈ GW := gwm 683 (by decide +kernel) rfl
theorem gw_684 : (Jvm.Cond.code ({ cls := "RunningCount$Goods", name := "stockOf", desc := "(II)I" } : Jvm.MethodName) prog_6_method_10_code (3 : Nat) (Option.some Jvm.ClassFile.FieldType.int)) ∈ GW := gwm 684 (by decide +kernel) rfl
theorem gw_685 : (Jvm.Cond.methodLink "RunningCount$Goods" (61 : Nat) ({ cls := "java/lang/Math", name := "max", desc := "(II)I" } : Jvm.MethodName)) ∈ GW := gwm 685 (by decide +kernel) rfl
theorem nw_686 : (Jvm.Cond.methodLinkNest "RunningCount$Book" (21 : Nat) ({ cls := "RunningCount$AdjustmentList", name := "sumUpTo", desc := "(III)I" } : Jvm.MethodName) "RunningCount") ∈ NW := nwm 686 (by decide +kernel) rfl
theorem gw_688 : (Jvm.Cond.instanceMethod ({ cls := "RunningCount$AdjustmentList", name := "sumUpTo", desc := "(III)I" } : Jvm.MethodName)) ∈ GW := gwm 688 (by decide +kernel) rfl
theorem gw_689 : (Jvm.Cond.code ({ cls := "RunningCount$AdjustmentList", name := "sumUpTo", desc := "(III)I" } : Jvm.MethodName) prog_3_method_5_code (6 : Nat) (Option.some Jvm.ClassFile.FieldType.int)) ∈ GW := gwm 689 (by decide +kernel) rfl
theorem gw_690 : (Jvm.Cond.methodLink "RunningCount$AdjustmentList" (28 : Nat) ({ cls := "RunningCount$AdjustmentList", name := "isAt", desc := "(III)Z" } : Jvm.MethodName)) ∈ GW := gwm 690 (by decide +kernel) rfl
theorem gw_692 : (Jvm.Cond.instanceMethod ({ cls := "RunningCount$AdjustmentList", name := "isAt", desc := "(III)Z" } : Jvm.MethodName)) ∈ GW := gwm 692 (by decide +kernel) rfl
theorem gw_693 : (Jvm.Cond.code ({ cls := "RunningCount$AdjustmentList", name := "isAt", desc := "(III)Z" } : Jvm.MethodName) prog_3_method_4_code (4 : Nat) (Option.some Jvm.ClassFile.FieldType.boolean)) ∈ GW := gwm 693 (by decide +kernel) rfl
theorem nw_694 : (Jvm.Cond.methodLinkNest "RunningCount$Book" (49 : Nat) ({ cls := "RunningCount", name := "legOf", desc := "(II)I" } : Jvm.MethodName) "RunningCount") ∈ NW := nwm 694 (by decide +kernel) rfl
theorem gw_695 : (Jvm.Cond.methodLink "RunningCount$Book" (52 : Nat) ({ cls := "RunningCount$Book", name := "readLeg", desc := "(LRunningCount$Goods;IIII)V" } : Jvm.MethodName)) ∈ GW := gwm 695 (by decide +kernel) rfl
theorem gw_697 : (Jvm.Cond.instanceMethod ({ cls := "RunningCount$Book", name := "readLeg", desc := "(LRunningCount$Goods;IIII)V" } : Jvm.MethodName)) ∈ GW := gwm 697 (by decide +kernel) rfl
theorem gw_698 : (Jvm.Cond.code ({ cls := "RunningCount$Book", name := "readLeg", desc := "(LRunningCount$Goods;IIII)V" } : Jvm.MethodName) prog_4_method_3_code (6 : Nat) (Option.none : Option Jvm.ClassFile.FieldType)) ∈ GW := gwm 698 (by decide +kernel) rfl
theorem nw_699 : (Jvm.Cond.methodLinkNest "RunningCount$Book" (59 : Nat) ({ cls := "RunningCount$Goods", name := "isOver", desc := "(II)Z" } : Jvm.MethodName) "RunningCount") ∈ NW := nwm 699 (by decide +kernel) rfl
theorem gw_701 : (Jvm.Cond.instanceMethod ({ cls := "RunningCount$Goods", name := "isOver", desc := "(II)Z" } : Jvm.MethodName)) ∈ GW := gwm 701 (by decide +kernel) rfl
theorem gw_702 : (Jvm.Cond.code ({ cls := "RunningCount$Goods", name := "isOver", desc := "(II)Z" } : Jvm.MethodName) prog_6_method_18_code (3 : Nat) (Option.some Jvm.ClassFile.FieldType.boolean)) ∈ GW := gwm 702 (by decide +kernel) rfl
theorem nw_703 : (Jvm.Cond.methodLinkNest "RunningCount$Book" (63 : Nat) ({ cls := "RunningCount$Goods", name := "isToCome", desc := "(II)Z" } : Jvm.MethodName) "RunningCount") ∈ NW := nwm 703 (by decide +kernel) rfl
theorem gw_705 : (Jvm.Cond.instanceMethod ({ cls := "RunningCount$Goods", name := "isToCome", desc := "(II)Z" } : Jvm.MethodName)) ∈ GW := gwm 705 (by decide +kernel) rfl
theorem gw_706 : (Jvm.Cond.code ({ cls := "RunningCount$Goods", name := "isToCome", desc := "(II)Z" } : Jvm.MethodName) prog_6_method_19_code (3 : Nat) (Option.some Jvm.ClassFile.FieldType.boolean)) ∈ GW := gwm 706 (by decide +kernel) rfl
theorem gw_707 : (Jvm.Cond.methodLink "RunningCount$Book" (66 : Nat) ({ cls := "RunningCount$Book", name := "addDoubt", desc := "(I)V" } : Jvm.MethodName)) ∈ GW := gwm 707 (by decide +kernel) rfl
theorem gw_709 : (Jvm.Cond.instanceMethod ({ cls := "RunningCount$Book", name := "addDoubt", desc := "(I)V" } : Jvm.MethodName)) ∈ GW := gwm 709 (by decide +kernel) rfl
theorem gw_710 : (Jvm.Cond.code ({ cls := "RunningCount$Book", name := "addDoubt", desc := "(I)V" } : Jvm.MethodName) prog_4_method_4_code (2 : Nat) (Option.none : Option Jvm.ClassFile.FieldType)) ∈ GW := gwm 710 (by decide +kernel) rfl
theorem gw_711 : (Jvm.Cond.methodLink "RunningCountLaw" (64 : Nat) ({ cls := "RunningCount", name := "transit", desc := "(III)I" } : Jvm.MethodName)) ∈ GW := gwm 711 (by decide +kernel) rfl
theorem gw_712 : (Jvm.Cond.instanceMethod ({ cls := "RunningCount", name := "transit", desc := "(III)I" } : Jvm.MethodName)) ∈ GW := gwm 712 (by decide +kernel) rfl
theorem gw_713 : (Jvm.Cond.selects "RunningCount" ({ cls := "RunningCount", name := "transit", desc := "(III)I" } : Jvm.MethodName) ({ cls := "RunningCount", name := "transit", desc := "(III)I" } : Jvm.MethodName)) ∈ GW := gwm 713 (by decide +kernel) rfl
theorem gw_714 : (Jvm.Cond.code ({ cls := "RunningCount", name := "transit", desc := "(III)I" } : Jvm.MethodName) prog_1_method_10_code (6 : Nat) (Option.some Jvm.ClassFile.FieldType.int)) ∈ GW := gwm 714 (by decide +kernel) rfl
theorem gw_715 : (Jvm.Cond.methodLink "RunningCount" (169 : Nat) ({ cls := "RunningCount", name := "isInTransit", desc := "(IIZ)Z" } : Jvm.MethodName)) ∈ GW := gwm 715 (by decide +kernel) rfl
theorem gw_717 : (Jvm.Cond.instanceMethod ({ cls := "RunningCount", name := "isInTransit", desc := "(IIZ)Z" } : Jvm.MethodName)) ∈ GW := gwm 717 (by decide +kernel) rfl
theorem gw_718 : (Jvm.Cond.code ({ cls := "RunningCount", name := "isInTransit", desc := "(IIZ)Z" } : Jvm.MethodName) prog_1_method_31_code (6 : Nat) (Option.some Jvm.ClassFile.FieldType.boolean)) ∈ GW := gwm 718 (by decide +kernel) rfl
theorem gw_719 : (Jvm.Cond.methodLink "RunningCount" (133 : Nat) ({ cls := "RunningCount", name := "legOf", desc := "(II)I" } : Jvm.MethodName)) ∈ GW := gwm 719 (by decide +kernel) rfl
theorem nw_720 : (Jvm.Cond.methodLinkNest "RunningCount" (247 : Nat) ({ cls := "RunningCount$Goods", name := "isThere", desc := "(I)Z" } : Jvm.MethodName) "RunningCount") ∈ NW := nwm 720 (by decide +kernel) rfl
theorem gw_722 : (Jvm.Cond.instanceMethod ({ cls := "RunningCount$Goods", name := "isThere", desc := "(I)Z" } : Jvm.MethodName)) ∈ GW := gwm 722 (by decide +kernel) rfl
theorem gw_723 : (Jvm.Cond.code ({ cls := "RunningCount$Goods", name := "isThere", desc := "(I)Z" } : Jvm.MethodName) prog_6_method_17_code (2 : Nat) (Option.some Jvm.ClassFile.FieldType.boolean)) ∈ GW := gwm 723 (by decide +kernel) rfl
theorem nw_724 : (Jvm.Cond.methodLinkNest "RunningCount" (327 : Nat) ({ cls := "RunningCount$Goods", name := "isOver", desc := "(II)Z" } : Jvm.MethodName) "RunningCount") ∈ NW := nwm 724 (by decide +kernel) rfl
theorem nw_725 : (Jvm.Cond.methodLinkNest "RunningCount" (330 : Nat) ({ cls := "RunningCount$Goods", name := "isToCome", desc := "(II)Z" } : Jvm.MethodName) "RunningCount") ∈ NW := nwm 725 (by decide +kernel) rfl
theorem gw_726 : (Jvm.Cond.methodLink "RunningCountLaw" (69 : Nat) ({ cls := "RunningCount", name := "below", desc := "(II)I" } : Jvm.MethodName)) ∈ GW := gwm 726 (by decide +kernel) rfl
theorem gw_727 : (Jvm.Cond.instanceMethod ({ cls := "RunningCount", name := "below", desc := "(II)I" } : Jvm.MethodName)) ∈ GW := gwm 727 (by decide +kernel) rfl
theorem gw_728 : (Jvm.Cond.selects "RunningCount" ({ cls := "RunningCount", name := "below", desc := "(II)I" } : Jvm.MethodName) ({ cls := "RunningCount", name := "below", desc := "(II)I" } : Jvm.MethodName)) ∈ GW := gwm 728 (by decide +kernel) rfl
theorem gw_729 : (Jvm.Cond.code ({ cls := "RunningCount", name := "below", desc := "(II)I" } : Jvm.MethodName) prog_1_method_11_code (6 : Nat) (Option.some Jvm.ClassFile.FieldType.int)) ∈ GW := gwm 729 (by decide +kernel) rfl
theorem gw_730 : (Jvm.Cond.methodLink "RunningCount" (173 : Nat) ({ cls := "RunningCount", name := "isBelow", desc := "(III)Z" } : Jvm.MethodName)) ∈ GW := gwm 730 (by decide +kernel) rfl
theorem gw_732 : (Jvm.Cond.instanceMethod ({ cls := "RunningCount", name := "isBelow", desc := "(III)Z" } : Jvm.MethodName)) ∈ GW := gwm 732 (by decide +kernel) rfl
theorem gw_733 : (Jvm.Cond.code ({ cls := "RunningCount", name := "isBelow", desc := "(III)Z" } : Jvm.MethodName) prog_1_method_32_code (4 : Nat) (Option.some Jvm.ClassFile.FieldType.boolean)) ∈ GW := gwm 733 (by decide +kernel) rfl
theorem nw_734 : (Jvm.Cond.methodLinkNest "RunningCount" (177 : Nat) ({ cls := "RunningCount$AdjustmentList", name := "isAt", desc := "(III)Z" } : Jvm.MethodName) "RunningCount") ∈ NW := nwm 734 (by decide +kernel) rfl
theorem gw_735 : (Jvm.Cond.methodLink "RunningCountLaw" (76 : Nat) ({ cls := "RunningCount", name := "difference", desc := "(I)I" } : Jvm.MethodName)) ∈ GW := gwm 735 (by decide +kernel) rfl
theorem gw_736 : (Jvm.Cond.instanceMethod ({ cls := "RunningCount", name := "difference", desc := "(I)I" } : Jvm.MethodName)) ∈ GW := gwm 736 (by decide +kernel) rfl
theorem gw_737 : (Jvm.Cond.selects "RunningCount" ({ cls := "RunningCount", name := "difference", desc := "(I)I" } : Jvm.MethodName) ({ cls := "RunningCount", name := "difference", desc := "(I)I" } : Jvm.MethodName)) ∈ GW := gwm 737 (by decide +kernel) rfl
theorem gw_738 : (Jvm.Cond.code ({ cls := "RunningCount", name := "difference", desc := "(I)I" } : Jvm.MethodName) prog_1_method_13_code (2 : Nat) (Option.some Jvm.ClassFile.FieldType.int)) ∈ GW := gwm 738 (by decide +kernel) rfl
theorem nw_739 : (Jvm.Cond.methodLinkNest "RunningCount" (183 : Nat) ({ cls := "RunningCount$CountList", name := "has", desc := "(I)Z" } : Jvm.MethodName) "RunningCount") ∈ NW := nwm 739 (by decide +kernel) rfl
theorem gw_741 : (Jvm.Cond.instanceMethod ({ cls := "RunningCount$CountList", name := "has", desc := "(I)Z" } : Jvm.MethodName)) ∈ GW := gwm 741 (by decide +kernel) rfl
theorem gw_742 : (Jvm.Cond.code ({ cls := "RunningCount$CountList", name := "has", desc := "(I)Z" } : Jvm.MethodName) prog_5_method_2_code (2 : Nat) (Option.some Jvm.ClassFile.FieldType.boolean)) ∈ GW := gwm 742 (by decide +kernel) rfl
theorem gw_743 : (Jvm.Cond.methodLink "RunningCount" (211 : Nat) ({ cls := "RunningCount", name := "differenceOf", desc := "(I)I" } : Jvm.MethodName)) ∈ GW := gwm 743 (by decide +kernel) rfl
theorem gw_745 : (Jvm.Cond.instanceMethod ({ cls := "RunningCount", name := "differenceOf", desc := "(I)I" } : Jvm.MethodName)) ∈ GW := gwm 745 (by decide +kernel) rfl
theorem gw_746 : (Jvm.Cond.code ({ cls := "RunningCount", name := "differenceOf", desc := "(I)I" } : Jvm.MethodName) prog_1_method_34_code (3 : Nat) (Option.some Jvm.ClassFile.FieldType.int)) ∈ GW := gwm 746 (by decide +kernel) rfl
theorem gw_747 : (Jvm.Cond.methodLink "RunningCount" (218 : Nat) ({ cls := "RunningCount", name := "turnTo", desc := "(I)V" } : Jvm.MethodName)) ∈ GW := gwm 747 (by decide +kernel) rfl
theorem gw_749 : (Jvm.Cond.instanceMethod ({ cls := "RunningCount", name := "turnTo", desc := "(I)V" } : Jvm.MethodName)) ∈ GW := gwm 749 (by decide +kernel) rfl
theorem gw_750 : (Jvm.Cond.code ({ cls := "RunningCount", name := "turnTo", desc := "(I)V" } : Jvm.MethodName) prog_1_method_33_code (2 : Nat) (Option.none : Option Jvm.ClassFile.FieldType)) ∈ GW := gwm 750 (by decide +kernel) rfl
theorem gw_751 : (Jvm.Cond.methodLink "RunningCountLaw" (80 : Nat) ({ cls := "RunningCount", name := "share", desc := "(I)I" } : Jvm.MethodName)) ∈ GW := gwm 751 (by decide +kernel) rfl
theorem gw_752 : (Jvm.Cond.instanceMethod ({ cls := "RunningCount", name := "share", desc := "(I)I" } : Jvm.MethodName)) ∈ GW := gwm 752 (by decide +kernel) rfl
theorem gw_753 : (Jvm.Cond.selects "RunningCount" ({ cls := "RunningCount", name := "share", desc := "(I)I" } : Jvm.MethodName) ({ cls := "RunningCount", name := "share", desc := "(I)I" } : Jvm.MethodName)) ∈ GW := gwm 753 (by decide +kernel) rfl
theorem gw_754 : (Jvm.Cond.code ({ cls := "RunningCount", name := "share", desc := "(I)I" } : Jvm.MethodName) prog_1_method_14_code (3 : Nat) (Option.some Jvm.ClassFile.FieldType.int)) ∈ GW := gwm 754 (by decide +kernel) rfl
theorem gw_755 : (Jvm.Cond.constantFloat "RunningCount" (214 : Nat) (1148846080 : UInt32)) ∈ GW := gwm 755 (by decide +kernel) rfl
theorem gw_756 : (Jvm.Cond.methodLink "RunningCountLaw" (84 : Nat) ({ cls := "RunningCount", name := "chosen", desc := "(II)I" } : Jvm.MethodName)) ∈ GW := gwm 756 (by decide +kernel) rfl
theorem gw_757 : (Jvm.Cond.instanceMethod ({ cls := "RunningCount", name := "chosen", desc := "(II)I" } : Jvm.MethodName)) ∈ GW := gwm 757 (by decide +kernel) rfl
theorem gw_758 : (Jvm.Cond.selects "RunningCount" ({ cls := "RunningCount", name := "chosen", desc := "(II)I" } : Jvm.MethodName) ({ cls := "RunningCount", name := "chosen", desc := "(II)I" } : Jvm.MethodName)) ∈ GW := gwm 758 (by decide +kernel) rfl
theorem gw_759 : (Jvm.Cond.code ({ cls := "RunningCount", name := "chosen", desc := "(II)I" } : Jvm.MethodName) prog_1_method_15_code (3 : Nat) (Option.some Jvm.ClassFile.FieldType.int)) ∈ GW := gwm 759 (by decide +kernel) rfl
theorem gw_760 : (Jvm.Cond.methodLink "RunningCount" (215 : Nat) ({ cls := "RunningCount", name := "chosenOf", desc := "(II)I" } : Jvm.MethodName)) ∈ GW := gwm 760 (by decide +kernel) rfl
theorem gw_762 : (Jvm.Cond.instanceMethod ({ cls := "RunningCount", name := "chosenOf", desc := "(II)I" } : Jvm.MethodName)) ∈ GW := gwm 762 (by decide +kernel) rfl
theorem gw_763 : (Jvm.Cond.code ({ cls := "RunningCount", name := "chosenOf", desc := "(II)I" } : Jvm.MethodName) prog_1_method_36_code (10 : Nat) (Option.some Jvm.ClassFile.FieldType.int)) ∈ GW := gwm 763 (by decide +kernel) rfl
theorem nw_764 : (Jvm.Cond.methodLinkNest "RunningCount" (338 : Nat) ({ cls := "RunningCount$CountList", name := "openFirst", desc := "(II)I" } : Jvm.MethodName) "RunningCount") ∈ NW := nwm 764 (by decide +kernel) rfl
theorem gw_766 : (Jvm.Cond.instanceMethod ({ cls := "RunningCount$CountList", name := "openFirst", desc := "(II)I" } : Jvm.MethodName)) ∈ GW := gwm 766 (by decide +kernel) rfl
theorem gw_767 : (Jvm.Cond.code ({ cls := "RunningCount$CountList", name := "openFirst", desc := "(II)I" } : Jvm.MethodName) prog_5_method_8_code (5 : Nat) (Option.some Jvm.ClassFile.FieldType.int)) ∈ GW := gwm 767 (by decide +kernel) rfl
theorem gw_768 : (Jvm.Cond.methodLink "RunningCount$CountList" (39 : Nat) ({ cls := "RunningCount$CountList", name := "isOpenAt", desc := "(III)Z" } : Jvm.MethodName)) ∈ GW := gwm 768 (by decide +kernel) rfl
theorem gw_770 : (Jvm.Cond.instanceMethod ({ cls := "RunningCount$CountList", name := "isOpenAt", desc := "(III)Z" } : Jvm.MethodName)) ∈ GW := gwm 770 (by decide +kernel) rfl
theorem gw_771 : (Jvm.Cond.code ({ cls := "RunningCount$CountList", name := "isOpenAt", desc := "(III)Z" } : Jvm.MethodName) prog_5_method_4_code (4 : Nat) (Option.some Jvm.ClassFile.FieldType.boolean)) ∈ GW := gwm 771 (by decide +kernel) rfl
theorem gw_772 : (Jvm.Cond.methodLink "RunningCount$CountList" (35 : Nat) ({ cls := "RunningCount$CountList", name := "isAt", desc := "(III)Z" } : Jvm.MethodName)) ∈ GW := gwm 772 (by decide +kernel) rfl
theorem gw_774 : (Jvm.Cond.instanceMethod ({ cls := "RunningCount$CountList", name := "isAt", desc := "(III)Z" } : Jvm.MethodName)) ∈ GW := gwm 774 (by decide +kernel) rfl
theorem gw_775 : (Jvm.Cond.code ({ cls := "RunningCount$CountList", name := "isAt", desc := "(III)Z" } : Jvm.MethodName) prog_5_method_3_code (4 : Nat) (Option.some Jvm.ClassFile.FieldType.boolean)) ∈ GW := gwm 775 (by decide +kernel) rfl
theorem gw_776 : (Jvm.Cond.methodLink "RunningCount" (341 : Nat) ({ cls := "java/lang/Math", name := "abs", desc := "(I)I" } : Jvm.MethodName)) ∈ GW := gwm 776 (by decide +kernel) rfl
theorem gw_777 : (Jvm.Cond.static ({ cls := "java/lang/Math", name := "abs", desc := "(I)I" } : Jvm.MethodName)) ∈ GW := gwm 777 (by decide +kernel) rfl
theorem gw_778 : (Jvm.Cond.code ({ cls := "java/lang/Math", name := "abs", desc := "(I)I" } : Jvm.MethodName) prog_16_method_59_code (1 : Nat) (Option.some Jvm.ClassFile.FieldType.int)) ∈ GW := gwm 778 (by decide +kernel) rfl
theorem gw_779 : (Jvm.Cond.methodLink "RunningCount" (205 : Nat) ({ cls := "RunningCount", name := "allowedFor", desc := "(I)I" } : Jvm.MethodName)) ∈ GW := gwm 779 (by decide +kernel) rfl
theorem gw_781 : (Jvm.Cond.instanceMethod ({ cls := "RunningCount", name := "allowedFor", desc := "(I)I" } : Jvm.MethodName)) ∈ GW := gwm 781 (by decide +kernel) rfl
theorem gw_782 : (Jvm.Cond.code ({ cls := "RunningCount", name := "allowedFor", desc := "(I)I" } : Jvm.MethodName) prog_1_method_35_code (4 : Nat) (Option.some Jvm.ClassFile.FieldType.int)) ∈ GW := gwm 782 (by decide +kernel) rfl
theorem gw_783 : (Jvm.Cond.methodLink "RunningCount" (333 : Nat) ({ cls := "java/lang/Math", name := "max", desc := "(II)I" } : Jvm.MethodName)) ∈ GW := gwm 783 (by decide +kernel) rfl
theorem nw_784 : (Jvm.Cond.methodLinkNest "RunningCount" (267 : Nat) ({ cls := "RunningCount$CountList", name := "openAhead", desc := "(III)I" } : Jvm.MethodName) "RunningCount") ∈ NW := nwm 784 (by decide +kernel) rfl
theorem gw_786 : (Jvm.Cond.instanceMethod ({ cls := "RunningCount$CountList", name := "openAhead", desc := "(III)I" } : Jvm.MethodName)) ∈ GW := gwm 786 (by decide +kernel) rfl
theorem gw_787 : (Jvm.Cond.code ({ cls := "RunningCount$CountList", name := "openAhead", desc := "(III)I" } : Jvm.MethodName) prog_5_method_9_code (6 : Nat) (Option.some Jvm.ClassFile.FieldType.int)) ∈ GW := gwm 787 (by decide +kernel) rfl
theorem gw_788 : (Jvm.Cond.methodLink "RunningCount" (344 : Nat) ({ cls := "RunningCount", name := "middleOf", desc := "(III)I" } : Jvm.MethodName)) ∈ GW := gwm 788 (by decide +kernel) rfl
theorem gw_789 : (Jvm.Cond.static ({ cls := "RunningCount", name := "middleOf", desc := "(III)I" } : Jvm.MethodName)) ∈ GW := gwm 789 (by decide +kernel) rfl
theorem gw_790 : (Jvm.Cond.code ({ cls := "RunningCount", name := "middleOf", desc := "(III)I" } : Jvm.MethodName) prog_1_method_37_code (3 : Nat) (Option.some Jvm.ClassFile.FieldType.int)) ∈ GW := gwm 790 (by decide +kernel) rfl
theorem gw_791 : (Jvm.Cond.methodLink "RunningCount" (347 : Nat) ({ cls := "java/lang/Math", name := "min", desc := "(II)I" } : Jvm.MethodName)) ∈ GW := gwm 791 (by decide +kernel) rfl
theorem gw_792 : (Jvm.Cond.methodLink "RunningCountLaw" (88 : Nat) ({ cls := "RunningCount", name := "due", desc := "()I" } : Jvm.MethodName)) ∈ GW := gwm 792 (by decide +kernel) rfl
theorem gw_793 : (Jvm.Cond.instanceMethod ({ cls := "RunningCount", name := "due", desc := "()I" } : Jvm.MethodName)) ∈ GW := gwm 793 (by decide +kernel) rfl
theorem gw_794 : (Jvm.Cond.selects "RunningCount" ({ cls := "RunningCount", name := "due", desc := "()I" } : Jvm.MethodName) ({ cls := "RunningCount", name := "due", desc := "()I" } : Jvm.MethodName)) ∈ GW := gwm 794 (by decide +kernel) rfl
theorem gw_795 : (Jvm.Cond.code ({ cls := "RunningCount", name := "due", desc := "()I" } : Jvm.MethodName) prog_1_method_16_code (4 : Nat) (Option.some Jvm.ClassFile.FieldType.int)) ∈ GW := gwm 795 (by decide +kernel) rfl
theorem gw_796 : (Jvm.Cond.methodLink "RunningCountLaw" (92 : Nat) ({ cls := "RunningCount", name := "explained", desc := "(II)I" } : Jvm.MethodName)) ∈ GW := gwm 796 (by decide +kernel) rfl
theorem gw_797 : (Jvm.Cond.instanceMethod ({ cls := "RunningCount", name := "explained", desc := "(II)I" } : Jvm.MethodName)) ∈ GW := gwm 797 (by decide +kernel) rfl
theorem gw_798 : (Jvm.Cond.selects "RunningCount" ({ cls := "RunningCount", name := "explained", desc := "(II)I" } : Jvm.MethodName) ({ cls := "RunningCount", name := "explained", desc := "(II)I" } : Jvm.MethodName)) ∈ GW := gwm 798 (by decide +kernel) rfl
theorem gw_799 : (Jvm.Cond.code ({ cls := "RunningCount", name := "explained", desc := "(II)I" } : Jvm.MethodName) prog_1_method_17_code (5 : Nat) (Option.some Jvm.ClassFile.FieldType.int)) ∈ GW := gwm 799 (by decide +kernel) rfl
theorem nw_800 : (Jvm.Cond.methodLinkNest "RunningCount" (221 : Nat) ({ cls := "RunningCount$Book", name := "sureWith", desc := "(I)I" } : Jvm.MethodName) "RunningCount") ∈ NW := nwm 800 (by decide +kernel) rfl
theorem gw_802 : (Jvm.Cond.instanceMethod ({ cls := "RunningCount$Book", name := "sureWith", desc := "(I)I" } : Jvm.MethodName)) ∈ GW := gwm 802 (by decide +kernel) rfl
theorem gw_803 : (Jvm.Cond.code ({ cls := "RunningCount$Book", name := "sureWith", desc := "(I)I" } : Jvm.MethodName) prog_4_method_5_code (4 : Nat) (Option.some Jvm.ClassFile.FieldType.int)) ∈ GW := gwm 803 (by decide +kernel) rfl
theorem gw_804 : (Jvm.Cond.methodLink "RunningCountLaw" (96 : Nat) ({ cls := "RunningCount", name := "adjusted", desc := "(II)I" } : Jvm.MethodName)) ∈ GW := gwm 804 (by decide +kernel) rfl
theorem gw_805 : (Jvm.Cond.instanceMethod ({ cls := "RunningCount", name := "adjusted", desc := "(II)I" } : Jvm.MethodName)) ∈ GW := gwm 805 (by decide +kernel) rfl
theorem gw_806 : (Jvm.Cond.selects "RunningCount" ({ cls := "RunningCount", name := "adjusted", desc := "(II)I" } : Jvm.MethodName) ({ cls := "RunningCount", name := "adjusted", desc := "(II)I" } : Jvm.MethodName)) ∈ GW := gwm 806 (by decide +kernel) rfl
theorem gw_807 : (Jvm.Cond.code ({ cls := "RunningCount", name := "adjusted", desc := "(II)I" } : Jvm.MethodName) prog_1_method_18_code (3 : Nat) (Option.some Jvm.ClassFile.FieldType.int)) ∈ GW := gwm 807 (by decide +kernel) rfl
theorem gw_808 : (Jvm.Cond.methodLink "RunningCountLaw" (100 : Nat) ({ cls := "RunningCount", name := "moves", desc := "(II)I" } : Jvm.MethodName)) ∈ GW := gwm 808 (by decide +kernel) rfl
theorem gw_809 : (Jvm.Cond.instanceMethod ({ cls := "RunningCount", name := "moves", desc := "(II)I" } : Jvm.MethodName)) ∈ GW := gwm 809 (by decide +kernel) rfl
theorem gw_810 : (Jvm.Cond.selects "RunningCount" ({ cls := "RunningCount", name := "moves", desc := "(II)I" } : Jvm.MethodName) ({ cls := "RunningCount", name := "moves", desc := "(II)I" } : Jvm.MethodName)) ∈ GW := gwm 810 (by decide +kernel) rfl
theorem gw_811 : (Jvm.Cond.code ({ cls := "RunningCount", name := "moves", desc := "(II)I" } : Jvm.MethodName) prog_1_method_19_code (4 : Nat) (Option.some Jvm.ClassFile.FieldType.int)) ∈ GW := gwm 811 (by decide +kernel) rfl
theorem nw_812 : (Jvm.Cond.methodLinkNest "RunningCount" (229 : Nat) ({ cls := "RunningCount$Goods", name := "addMove", desc := "(II)I" } : Jvm.MethodName) "RunningCount") ∈ NW := nwm 812 (by decide +kernel) rfl
theorem nw_813 : (Jvm.Cond.methodLinkNest "RunningCount" (234 : Nat) ({ cls := "RunningCount$Journal", name := "begin", desc := "(II)LRunningCount$Act;" } : Jvm.MethodName) "RunningCount") ∈ NW := nwm 813 (by decide +kernel) rfl
theorem gw_815 : (Jvm.Cond.instanceMethod ({ cls := "RunningCount$Journal", name := "begin", desc := "(II)LRunningCount$Act;" } : Jvm.MethodName)) ∈ GW := gwm 815 (by decide +kernel) rfl
theorem gw_816 : (Jvm.Cond.code ({ cls := "RunningCount$Journal", name := "begin", desc := "(II)LRunningCount$Act;" } : Jvm.MethodName) prog_7_method_2_code (4 : Nat) (Option.some (Jvm.ClassFile.FieldType.object "RunningCount$Act"))) ∈ GW := gwm 816 (by decide +kernel) rfl
theorem gw_817 : (Jvm.Cond.methodLink "RunningCount$Journal" (31 : Nat) ({ cls := "java/lang/Math", name := "min", desc := "(II)I" } : Jvm.MethodName)) ∈ GW := gwm 817 (by decide +kernel) rfl
theorem gw_818 : (Jvm.Cond.methodLink "RunningCountLaw" (104 : Nat) ({ cls := "RunningCount", name := "leg", desc := "(IIIII)Z" } : Jvm.MethodName)) ∈ GW := gwm 818 (by decide +kernel) rfl
theorem gw_819 : (Jvm.Cond.instanceMethod ({ cls := "RunningCount", name := "leg", desc := "(IIIII)Z" } : Jvm.MethodName)) ∈ GW := gwm 819 (by decide +kernel) rfl
theorem gw_820 : (Jvm.Cond.selects "RunningCount" ({ cls := "RunningCount", name := "leg", desc := "(IIIII)Z" } : Jvm.MethodName) ({ cls := "RunningCount", name := "leg", desc := "(IIIII)Z" } : Jvm.MethodName)) ∈ GW := gwm 820 (by decide +kernel) rfl
theorem gw_821 : (Jvm.Cond.code ({ cls := "RunningCount", name := "leg", desc := "(IIIII)Z" } : Jvm.MethodName) prog_1_method_20_code (6 : Nat) (Option.some Jvm.ClassFile.FieldType.boolean)) ∈ GW := gwm 821 (by decide +kernel) rfl
theorem nw_822 : (Jvm.Cond.methodLinkNest "RunningCount" (114 : Nat) ({ cls := "RunningCount$Goods", name := "hasMove", desc := "(I)Z" } : Jvm.MethodName) "RunningCount") ∈ NW := nwm 822 (by decide +kernel) rfl
theorem gw_824 : (Jvm.Cond.instanceMethod ({ cls := "RunningCount$Goods", name := "hasMove", desc := "(I)Z" } : Jvm.MethodName)) ∈ GW := gwm 824 (by decide +kernel) rfl
theorem gw_825 : (Jvm.Cond.code ({ cls := "RunningCount$Goods", name := "hasMove", desc := "(I)Z" } : Jvm.MethodName) prog_6_method_6_code (2 : Nat) (Option.some Jvm.ClassFile.FieldType.boolean)) ∈ GW := gwm 825 (by decide +kernel) rfl
theorem gw_826 : (Jvm.Cond.methodLink "RunningCount" (238 : Nat) ({ cls := "RunningCount", name := "isLeg", desc := "(I)Z" } : Jvm.MethodName)) ∈ GW := gwm 826 (by decide +kernel) rfl
theorem gw_827 : (Jvm.Cond.static ({ cls := "RunningCount", name := "isLeg", desc := "(I)Z" } : Jvm.MethodName)) ∈ GW := gwm 827 (by decide +kernel) rfl
theorem gw_828 : (Jvm.Cond.code ({ cls := "RunningCount", name := "isLeg", desc := "(I)Z" } : Jvm.MethodName) prog_1_method_29_code (1 : Nat) (Option.some Jvm.ClassFile.FieldType.boolean)) ∈ GW := gwm 828 (by decide +kernel) rfl
theorem nw_829 : (Jvm.Cond.methodLinkNest "RunningCount" (241 : Nat) ({ cls := "RunningCount$Goods", name := "hasShelf", desc := "(I)Z" } : Jvm.MethodName) "RunningCount") ∈ NW := nwm 829 (by decide +kernel) rfl
theorem gw_830 : (Jvm.Cond.methodLink "RunningCount" (244 : Nat) ({ cls := "RunningCount", name := "isSpan", desc := "(II)Z" } : Jvm.MethodName)) ∈ GW := gwm 830 (by decide +kernel) rfl
theorem gw_831 : (Jvm.Cond.static ({ cls := "RunningCount", name := "isSpan", desc := "(II)Z" } : Jvm.MethodName)) ∈ GW := gwm 831 (by decide +kernel) rfl
theorem gw_832 : (Jvm.Cond.code ({ cls := "RunningCount", name := "isSpan", desc := "(II)Z" } : Jvm.MethodName) prog_1_method_28_code (2 : Nat) (Option.some Jvm.ClassFile.FieldType.boolean)) ∈ GW := gwm 832 (by decide +kernel) rfl
theorem nw_833 : (Jvm.Cond.methodLinkNest "RunningCount" (250 : Nat) ({ cls := "RunningCount$Goods", name := "setLeg", desc := "(IIII)V" } : Jvm.MethodName) "RunningCount") ∈ NW := nwm 833 (by decide +kernel) rfl
theorem gw_834 : (Jvm.Cond.methodLink "RunningCountLaw" (109 : Nat) ({ cls := "RunningCount", name := "narrow", desc := "(IIII)I" } : Jvm.MethodName)) ∈ GW := gwm 834 (by decide +kernel) rfl
theorem gw_835 : (Jvm.Cond.instanceMethod ({ cls := "RunningCount", name := "narrow", desc := "(IIII)I" } : Jvm.MethodName)) ∈ GW := gwm 835 (by decide +kernel) rfl
theorem gw_836 : (Jvm.Cond.selects "RunningCount" ({ cls := "RunningCount", name := "narrow", desc := "(IIII)I" } : Jvm.MethodName) ({ cls := "RunningCount", name := "narrow", desc := "(IIII)I" } : Jvm.MethodName)) ∈ GW := gwm 836 (by decide +kernel) rfl
theorem gw_837 : (Jvm.Cond.code ({ cls := "RunningCount", name := "narrow", desc := "(IIII)I" } : Jvm.MethodName) prog_1_method_21_code (9 : Nat) (Option.some Jvm.ClassFile.FieldType.int)) ∈ GW := gwm 837 (by decide +kernel) rfl
theorem nw_838 : (Jvm.Cond.methodLinkNest "RunningCount" (260 : Nat) ({ cls := "RunningCount$Goods", name := "setSpan", desc := "(III)V" } : Jvm.MethodName) "RunningCount") ∈ NW := nwm 838 (by decide +kernel) rfl
theorem gw_840 : (Jvm.Cond.instanceMethod ({ cls := "RunningCount$Goods", name := "setSpan", desc := "(III)V" } : Jvm.MethodName)) ∈ GW := gwm 840 (by decide +kernel) rfl
theorem gw_841 : (Jvm.Cond.code ({ cls := "RunningCount$Goods", name := "setSpan", desc := "(III)V" } : Jvm.MethodName) prog_6_method_16_code (4 : Nat) (Option.none : Option Jvm.ClassFile.FieldType)) ∈ GW := gwm 841 (by decide +kernel) rfl
theorem gw_842 : (Jvm.Cond.methodLink "RunningCountLaw" (113 : Nat) ({ cls := "RunningCount", name := "counts", desc := "(IIIII)I" } : Jvm.MethodName)) ∈ GW := gwm 842 (by decide +kernel) rfl
theorem gw_843 : (Jvm.Cond.instanceMethod ({ cls := "RunningCount", name := "counts", desc := "(IIIII)I" } : Jvm.MethodName)) ∈ GW := gwm 843 (by decide +kernel) rfl
theorem gw_844 : (Jvm.Cond.selects "RunningCount" ({ cls := "RunningCount", name := "counts", desc := "(IIIII)I" } : Jvm.MethodName) ({ cls := "RunningCount", name := "counts", desc := "(IIIII)I" } : Jvm.MethodName)) ∈ GW := gwm 844 (by decide +kernel) rfl
theorem gw_845 : (Jvm.Cond.code ({ cls := "RunningCount", name := "counts", desc := "(IIIII)I" } : Jvm.MethodName) prog_1_method_22_code (8 : Nat) (Option.some Jvm.ClassFile.FieldType.int)) ∈ GW := gwm 845 (by decide +kernel) rfl
theorem nw_846 : (Jvm.Cond.methodLinkNest "RunningCount" (264 : Nat) ({ cls := "RunningCount$CountList", name := "isCountedAt", desc := "(III)Z" } : Jvm.MethodName) "RunningCount") ∈ NW := nwm 846 (by decide +kernel) rfl
theorem gw_848 : (Jvm.Cond.instanceMethod ({ cls := "RunningCount$CountList", name := "isCountedAt", desc := "(III)Z" } : Jvm.MethodName)) ∈ GW := gwm 848 (by decide +kernel) rfl
theorem gw_849 : (Jvm.Cond.code ({ cls := "RunningCount$CountList", name := "isCountedAt", desc := "(III)Z" } : Jvm.MethodName) prog_5_method_6_code (5 : Nat) (Option.some Jvm.ClassFile.FieldType.boolean)) ∈ GW := gwm 849 (by decide +kernel) rfl
theorem nw_850 : (Jvm.Cond.methodLinkNest "RunningCount" (271 : Nat) ({ cls := "RunningCount$CountList", name := "isPostedBehind", desc := "(III)Z" } : Jvm.MethodName) "RunningCount") ∈ NW := nwm 850 (by decide +kernel) rfl
theorem gw_852 : (Jvm.Cond.instanceMethod ({ cls := "RunningCount$CountList", name := "isPostedBehind", desc := "(III)Z" } : Jvm.MethodName)) ∈ GW := gwm 852 (by decide +kernel) rfl
theorem gw_853 : (Jvm.Cond.code ({ cls := "RunningCount$CountList", name := "isPostedBehind", desc := "(III)Z" } : Jvm.MethodName) prog_5_method_7_code (5 : Nat) (Option.some Jvm.ClassFile.FieldType.boolean)) ∈ GW := gwm 853 (by decide +kernel) rfl
theorem nw_854 : (Jvm.Cond.methodLinkNest "RunningCount" (274 : Nat) ({ cls := "RunningCount$CountList", name := "insert", desc := "(IIIIII)V" } : Jvm.MethodName) "RunningCount") ∈ NW := nwm 854 (by decide +kernel) rfl
theorem gw_856 : (Jvm.Cond.instanceMethod ({ cls := "RunningCount$CountList", name := "insert", desc := "(IIIIII)V" } : Jvm.MethodName)) ∈ GW := gwm 856 (by decide +kernel) rfl
theorem gw_857 : (Jvm.Cond.code ({ cls := "RunningCount$CountList", name := "insert", desc := "(IIIIII)V" } : Jvm.MethodName) prog_5_method_12_code (8 : Nat) (Option.none : Option Jvm.ClassFile.FieldType)) ∈ GW := gwm 857 (by decide +kernel) rfl
theorem gw_858 : (Jvm.Cond.methodLink "RunningCount$CountList" (42 : Nat) ({ cls := "RunningCount$CountList", name := "copy", desc := "(II)V" } : Jvm.MethodName)) ∈ GW := gwm 858 (by decide +kernel) rfl
theorem gw_860 : (Jvm.Cond.instanceMethod ({ cls := "RunningCount$CountList", name := "copy", desc := "(II)V" } : Jvm.MethodName)) ∈ GW := gwm 860 (by decide +kernel) rfl
theorem gw_861 : (Jvm.Cond.code ({ cls := "RunningCount$CountList", name := "copy", desc := "(II)V" } : Jvm.MethodName) prog_5_method_14_code (3 : Nat) (Option.none : Option Jvm.ClassFile.FieldType)) ∈ GW := gwm 861 (by decide +kernel) rfl
theorem gw_862 : (Jvm.Cond.methodLink "RunningCountLaw" (117 : Nat) ({ cls := "RunningCount", name := "post", desc := "(II)I" } : Jvm.MethodName)) ∈ GW := gwm 862 (by decide +kernel) rfl
theorem gw_863 : (Jvm.Cond.instanceMethod ({ cls := "RunningCount", name := "post", desc := "(II)I" } : Jvm.MethodName)) ∈ GW := gwm 863 (by decide +kernel) rfl
theorem gw_864 : (Jvm.Cond.selects "RunningCount" ({ cls := "RunningCount", name := "post", desc := "(II)I" } : Jvm.MethodName) ({ cls := "RunningCount", name := "post", desc := "(II)I" } : Jvm.MethodName)) ∈ GW := gwm 864 (by decide +kernel) rfl
theorem gw_865 : (Jvm.Cond.code ({ cls := "RunningCount", name := "post", desc := "(II)I" } : Jvm.MethodName) prog_1_method_23_code (7 : Nat) (Option.some Jvm.ClassFile.FieldType.int)) ∈ GW := gwm 865 (by decide +kernel) rfl
theorem nw_866 : (Jvm.Cond.methodLinkNest "RunningCount" (278 : Nat) ({ cls := "RunningCount$AdjustmentList", name := "append", desc := "(IIII)V" } : Jvm.MethodName) "RunningCount") ∈ NW := nwm 866 (by decide +kernel) rfl
theorem gw_868 : (Jvm.Cond.instanceMethod ({ cls := "RunningCount$AdjustmentList", name := "append", desc := "(IIII)V" } : Jvm.MethodName)) ∈ GW := gwm 868 (by decide +kernel) rfl
theorem gw_869 : (Jvm.Cond.code ({ cls := "RunningCount$AdjustmentList", name := "append", desc := "(IIII)V" } : Jvm.MethodName) prog_3_method_2_code (5 : Nat) (Option.none : Option Jvm.ClassFile.FieldType)) ∈ GW := gwm 869 (by decide +kernel) rfl
theorem nw_870 : (Jvm.Cond.methodLinkNest "RunningCount" (280 : Nat) ({ cls := "RunningCount$CountList", name := "postUpTo", desc := "(III)J" } : Jvm.MethodName) "RunningCount") ∈ NW := nwm 870 (by decide +kernel) rfl
theorem gw_872 : (Jvm.Cond.instanceMethod ({ cls := "RunningCount$CountList", name := "postUpTo", desc := "(III)J" } : Jvm.MethodName)) ∈ GW := gwm 872 (by decide +kernel) rfl
theorem gw_873 : (Jvm.Cond.code ({ cls := "RunningCount$CountList", name := "postUpTo", desc := "(III)J" } : Jvm.MethodName) prog_5_method_10_code (7 : Nat) (Option.some Jvm.ClassFile.FieldType.long)) ∈ GW := gwm 873 (by decide +kernel) rfl
theorem gw_874 : (Jvm.Cond.methodLink "RunningCountLaw" (121 : Nat) ({ cls := "RunningCount", name := "drop", desc := "(I)Z" } : Jvm.MethodName)) ∈ GW := gwm 874 (by decide +kernel) rfl
theorem gw_875 : (Jvm.Cond.instanceMethod ({ cls := "RunningCount", name := "drop", desc := "(I)Z" } : Jvm.MethodName)) ∈ GW := gwm 875 (by decide +kernel) rfl
theorem gw_876 : (Jvm.Cond.selects "RunningCount" ({ cls := "RunningCount", name := "drop", desc := "(I)Z" } : Jvm.MethodName) ({ cls := "RunningCount", name := "drop", desc := "(I)Z" } : Jvm.MethodName)) ∈ GW := gwm 876 (by decide +kernel) rfl
theorem gw_877 : (Jvm.Cond.code ({ cls := "RunningCount", name := "drop", desc := "(I)Z" } : Jvm.MethodName) prog_1_method_24_code (3 : Nat) (Option.some Jvm.ClassFile.FieldType.boolean)) ∈ GW := gwm 877 (by decide +kernel) rfl
theorem nw_878 : (Jvm.Cond.methodLinkNest "RunningCount" (297 : Nat) ({ cls := "RunningCount$CountList", name := "remove", desc := "(I)V" } : Jvm.MethodName) "RunningCount") ∈ NW := nwm 878 (by decide +kernel) rfl
theorem gw_880 : (Jvm.Cond.instanceMethod ({ cls := "RunningCount$CountList", name := "remove", desc := "(I)V" } : Jvm.MethodName)) ∈ GW := gwm 880 (by decide +kernel) rfl
theorem gw_881 : (Jvm.Cond.code ({ cls := "RunningCount$CountList", name := "remove", desc := "(I)V" } : Jvm.MethodName) prog_5_method_13_code (3 : Nat) (Option.none : Option Jvm.ClassFile.FieldType)) ∈ GW := gwm 881 (by decide +kernel) rfl
theorem gw_882 : (Jvm.Cond.methodLink "RunningCount$CountList" (46 : Nat) ({ cls := "RunningCount$CountList", name := "has", desc := "(I)Z" } : Jvm.MethodName)) ∈ GW := gwm 882 (by decide +kernel) rfl
theorem gw_883 : (Jvm.Cond.methodLink "RunningCountLaw" (125 : Nat) ({ cls := "RunningCount", name := "undo", desc := "()I" } : Jvm.MethodName)) ∈ GW := gwm 883 (by decide +kernel) rfl
theorem gw_884 : (Jvm.Cond.instanceMethod ({ cls := "RunningCount", name := "undo", desc := "()I" } : Jvm.MethodName)) ∈ GW := gwm 884 (by decide +kernel) rfl
theorem gw_885 : (Jvm.Cond.selects "RunningCount" ({ cls := "RunningCount", name := "undo", desc := "()I" } : Jvm.MethodName) ({ cls := "RunningCount", name := "undo", desc := "()I" } : Jvm.MethodName)) ∈ GW := gwm 885 (by decide +kernel) rfl
theorem gw_886 : (Jvm.Cond.code ({ cls := "RunningCount", name := "undo", desc := "()I" } : Jvm.MethodName) prog_1_method_25_code (1 : Nat) (Option.some Jvm.ClassFile.FieldType.int)) ∈ GW := gwm 886 (by decide +kernel) rfl
theorem nw_887 : (Jvm.Cond.methodLinkNest "RunningCount" (300 : Nat) ({ cls := "RunningCount$Journal", name := "takeLatest", desc := "()LRunningCount$Act;" } : Jvm.MethodName) "RunningCount") ∈ NW := nwm 887 (by decide +kernel) rfl
theorem gw_889 : (Jvm.Cond.instanceMethod ({ cls := "RunningCount$Journal", name := "takeLatest", desc := "()LRunningCount$Act;" } : Jvm.MethodName)) ∈ GW := gwm 889 (by decide +kernel) rfl
theorem gw_890 : (Jvm.Cond.code ({ cls := "RunningCount$Journal", name := "takeLatest", desc := "()LRunningCount$Act;" } : Jvm.MethodName) prog_7_method_3_code (1 : Nat) (Option.some (Jvm.ClassFile.FieldType.object "RunningCount$Act"))) ∈ GW := gwm 890 (by decide +kernel) rfl
theorem gw_891 : (Jvm.Cond.methodLink "RunningCount$Journal" (37 : Nat) ({ cls := "java/lang/Math", name := "max", desc := "(II)I" } : Jvm.MethodName)) ∈ GW := gwm 891 (by decide +kernel) rfl
theorem gw_892 : (Jvm.Cond.methodLink "RunningCount" (304 : Nat) ({ cls := "RunningCount", name := "takeBack", desc := "(LRunningCount$Act;)V" } : Jvm.MethodName)) ∈ GW := gwm 892 (by decide +kernel) rfl
theorem gw_894 : (Jvm.Cond.instanceMethod ({ cls := "RunningCount", name := "takeBack", desc := "(LRunningCount$Act;)V" } : Jvm.MethodName)) ∈ GW := gwm 894 (by decide +kernel) rfl
theorem gw_895 : (Jvm.Cond.code ({ cls := "RunningCount", name := "takeBack", desc := "(LRunningCount$Act;)V" } : Jvm.MethodName) prog_1_method_26_code (2 : Nat) (Option.none : Option Jvm.ClassFile.FieldType)) ∈ GW := gwm 895 (by decide +kernel) rfl
theorem nw_896 : (Jvm.Cond.methodLinkNest "RunningCount" (311 : Nat) ({ cls := "RunningCount$Goods", name := "removeLastMove", desc := "()V" } : Jvm.MethodName) "RunningCount") ∈ NW := nwm 896 (by decide +kernel) rfl
theorem gw_898 : (Jvm.Cond.instanceMethod ({ cls := "RunningCount$Goods", name := "removeLastMove", desc := "()V" } : Jvm.MethodName)) ∈ GW := gwm 898 (by decide +kernel) rfl
theorem gw_899 : (Jvm.Cond.code ({ cls := "RunningCount$Goods", name := "removeLastMove", desc := "()V" } : Jvm.MethodName) prog_6_method_13_code (1 : Nat) (Option.none : Option Jvm.ClassFile.FieldType)) ∈ GW := gwm 899 (by decide +kernel) rfl
theorem nw_900 : (Jvm.Cond.methodLinkNest "RunningCount" (317 : Nat) ({ cls := "RunningCount$Goods", name := "removeLeg", desc := "(I)V" } : Jvm.MethodName) "RunningCount") ∈ NW := nwm 900 (by decide +kernel) rfl
theorem nw_901 : (Jvm.Cond.methodLinkNest "RunningCount" (320 : Nat) ({ cls := "RunningCount$AdjustmentList", name := "removeLast", desc := "()V" } : Jvm.MethodName) "RunningCount") ∈ NW := nwm 901 (by decide +kernel) rfl
theorem gw_903 : (Jvm.Cond.instanceMethod ({ cls := "RunningCount$AdjustmentList", name := "removeLast", desc := "()V" } : Jvm.MethodName)) ∈ GW := gwm 903 (by decide +kernel) rfl
theorem gw_904 : (Jvm.Cond.code ({ cls := "RunningCount$AdjustmentList", name := "removeLast", desc := "()V" } : Jvm.MethodName) prog_3_method_3_code (1 : Nat) (Option.none : Option Jvm.ClassFile.FieldType)) ∈ GW := gwm 904 (by decide +kernel) rfl
theorem nw_905 : (Jvm.Cond.methodLinkNest "RunningCount" (323 : Nat) ({ cls := "RunningCount$CountList", name := "reopen", desc := "(J)V" } : Jvm.MethodName) "RunningCount") ∈ NW := nwm 905 (by decide +kernel) rfl
theorem gw_907 : (Jvm.Cond.instanceMethod ({ cls := "RunningCount$CountList", name := "reopen", desc := "(J)V" } : Jvm.MethodName)) ∈ GW := gwm 907 (by decide +kernel) rfl
theorem gw_908 : (Jvm.Cond.code ({ cls := "RunningCount$CountList", name := "reopen", desc := "(J)V" } : Jvm.MethodName) prog_5_method_11_code (4 : Nat) (Option.none : Option Jvm.ClassFile.FieldType)) ∈ GW := gwm 908 (by decide +kernel) rfl
theorem gw_909 : (Jvm.Cond.methodLink "RunningCountLaw" (50 : Nat) ({ cls := "RunningCountLaw", name := "move", desc := "(LRunningCount;II[J)I" } : Jvm.MethodName)) ∈ GW := gwm 909 (by decide +kernel) rfl
theorem gw_910 : (Jvm.Cond.static ({ cls := "RunningCountLaw", name := "move", desc := "(LRunningCount;II[J)I" } : Jvm.MethodName)) ∈ GW := gwm 910 (by decide +kernel) rfl
theorem gw_911 : (Jvm.Cond.codeWith ({ cls := "RunningCountLaw", name := "move", desc := "(LRunningCount;II[J)I" } : Jvm.MethodName) method_3_code (5 : Nat) (Option.some Jvm.ClassFile.FieldType.int) [((0 : Nat), (10 : Nat), (13 : Nat), (13 : Nat))]) ∈ GW := gwm 911 (by decide +kernel) rfl
theorem gw_912 : (Jvm.Cond.classLink "RunningCountLaw" (13 : Nat) "java/util/NoSuchElementException") ∈ GW := gwm 912 (by decide +kernel) rfl
theorem gw_913 : (Jvm.Cond.methodLink "RunningCountLaw" (7 : Nat) ({ cls := "RunningCount", name := "move", desc := "(II)I" } : Jvm.MethodName)) ∈ GW := gwm 913 (by decide +kernel) rfl
theorem gw_914 : (Jvm.Cond.instanceMethod ({ cls := "RunningCount", name := "move", desc := "(II)I" } : Jvm.MethodName)) ∈ GW := gwm 914 (by decide +kernel) rfl
theorem gw_915 : (Jvm.Cond.selects "RunningCount" ({ cls := "RunningCount", name := "move", desc := "(II)I" } : Jvm.MethodName) ({ cls := "RunningCount", name := "move", desc := "(II)I" } : Jvm.MethodName)) ∈ GW := gwm 915 (by decide +kernel) rfl
theorem gw_916 : (Jvm.Cond.code ({ cls := "RunningCount", name := "move", desc := "(II)I" } : Jvm.MethodName) prog_1_method_8_code (3 : Nat) (Option.some Jvm.ClassFile.FieldType.int)) ∈ GW := gwm 916 (by decide +kernel) rfl
theorem gw_917 : (Jvm.Cond.classLink "RunningCount" (117 : Nat) "java/util/NoSuchElementException") ∈ GW := gwm 917 (by decide +kernel) rfl
theorem gw_918 : (Jvm.Cond.instantiable "java/util/NoSuchElementException" (6 : Nat)) ∈ GW := gwm 918 (by decide +kernel) rfl
theorem gw_926 : (Jvm.Cond.selects "java/util/NoSuchElementException" ({ cls := "java/lang/Throwable", name := "fillInStackTrace", desc := "(I)Ljava/lang/Throwable;" } : Jvm.MethodName) ({ cls := "java/lang/Throwable", name := "fillInStackTrace", desc := "(I)Ljava/lang/Throwable;" } : Jvm.MethodName)) ∈ GW := gwm 926 (by decide +kernel) rfl
theorem gw_927 : (Jvm.Cond.selects "java/util/NoSuchElementException" ({ cls := "java/lang/Throwable", name := "fillInStackTrace", desc := "()Ljava/lang/Throwable;" } : Jvm.MethodName) ({ cls := "java/lang/Throwable", name := "fillInStackTrace", desc := "()Ljava/lang/Throwable;" } : Jvm.MethodName)) ∈ GW := gwm 927 (by decide +kernel) rfl
theorem gw_928 : (Jvm.Cond.lays "java/util/NoSuchElementException" "java/lang/Throwable" "cause" "Ljava/lang/Throwable;") ∈ GW := gwm 928 (by decide +kernel) rfl
theorem gw_929 : (Jvm.Cond.lays "java/lang/Throwable" "java/lang/Throwable" "cause" "Ljava/lang/Throwable;") ∈ GW := gwm 929 (by decide +kernel) rfl
theorem gw_930 : (Jvm.Cond.lays "java/util/NoSuchElementException" "java/lang/Throwable" "stackTrace" "[Ljava/lang/StackTraceElement;") ∈ GW := gwm 930 (by decide +kernel) rfl
theorem gw_931 : (Jvm.Cond.lays "java/lang/Throwable" "java/lang/Throwable" "stackTrace" "[Ljava/lang/StackTraceElement;") ∈ GW := gwm 931 (by decide +kernel) rfl
theorem gw_932 : (Jvm.Cond.lays "java/util/NoSuchElementException" "java/lang/Throwable" "suppressedExceptions" "Ljava/util/List;") ∈ GW := gwm 932 (by decide +kernel) rfl
theorem gw_933 : (Jvm.Cond.lays "java/lang/Throwable" "java/lang/Throwable" "suppressedExceptions" "Ljava/util/List;") ∈ GW := gwm 933 (by decide +kernel) rfl
theorem gw_934 : (Jvm.Cond.lays "java/util/NoSuchElementException" "java/lang/Throwable" "detailMessage" "Ljava/lang/String;") ∈ GW := gwm 934 (by decide +kernel) rfl
theorem gw_935 : (Jvm.Cond.lays "java/lang/Throwable" "java/lang/Throwable" "detailMessage" "Ljava/lang/String;") ∈ GW := gwm 935 (by decide +kernel) rfl
theorem gw_936 : (Jvm.Cond.lays "java/util/NoSuchElementException" "java/lang/Throwable" "backtrace" "Ljava/lang/Object;") ∈ GW := gwm 936 (by decide +kernel) rfl
theorem gw_937 : (Jvm.Cond.lays "java/lang/Throwable" "java/lang/Throwable" "backtrace" "Ljava/lang/Object;") ∈ GW := gwm 937 (by decide +kernel) rfl
theorem gw_938 : (Jvm.Cond.fieldLink "java/lang/Throwable" (198 : Nat) "java/lang/Throwable" "backtrace" "Ljava/lang/Object;") ∈ GW := gwm 938 (by decide +kernel) rfl
theorem gw_940 : (Jvm.Cond.instanceMethod ({ cls := "java/lang/Throwable", name := "<init>", desc := "()V" } : Jvm.MethodName)) ∈ GW := gwm 940 (by decide +kernel) rfl
theorem gw_941 : (Jvm.Cond.code ({ cls := "java/lang/Throwable", name := "<init>", desc := "()V" } : Jvm.MethodName) prog_21_method_1_code (1 : Nat) (Option.none : Option Jvm.ClassFile.FieldType)) ∈ GW := gwm 941 (by decide +kernel) rfl
theorem gw_942 : (Jvm.Cond.methodLink "java/lang/Throwable" (1 : Nat) ({ cls := "java/lang/Object", name := "<init>", desc := "()V" } : Jvm.MethodName)) ∈ GW := gwm 942 (by decide +kernel) rfl
theorem gw_943 : (Jvm.Cond.fieldLink "java/lang/Throwable" (13 : Nat) "java/lang/Throwable" "UNASSIGNED_STACK" "[Ljava/lang/StackTraceElement;") ∈ GW := gwm 943 (by decide +kernel) rfl
theorem gw_945 : (Jvm.Cond.fieldLink "java/lang/Throwable" (20 : Nat) "java/lang/Throwable" "SUPPRESSED_SENTINEL" "Ljava/util/List;") ∈ GW := gwm 945 (by decide +kernel) rfl
theorem gw_947 : (Jvm.Cond.methodLink "java/lang/Throwable" (27 : Nat) ({ cls := "java/lang/Throwable", name := "fillInStackTrace", desc := "()Ljava/lang/Throwable;" } : Jvm.MethodName)) ∈ GW := gwm 947 (by decide +kernel) rfl
theorem gw_948 : (Jvm.Cond.instanceMethod ({ cls := "java/lang/Throwable", name := "fillInStackTrace", desc := "()Ljava/lang/Throwable;" } : Jvm.MethodName)) ∈ GW := gwm 948 (by decide +kernel) rfl
theorem gw_951 : (Jvm.Cond.methodLink "java/lang/Throwable" (202 : Nat) ({ cls := "java/lang/Throwable", name := "fillInStackTrace", desc := "(I)Ljava/lang/Throwable;" } : Jvm.MethodName)) ∈ GW := gwm 951 (by decide +kernel) rfl
theorem gw_953 : (Jvm.Cond.instanceMethod ({ cls := "java/lang/Throwable", name := "fillInStackTrace", desc := "(I)Ljava/lang/Throwable;" } : Jvm.MethodName)) ∈ GW := gwm 953 (by decide +kernel) rfl
theorem gw_954 : (Jvm.Cond.instantiable "java/lang/Throwable" (6 : Nat)) ∈ GW := gwm 954 (by decide +kernel) rfl
theorem gw_957 : (Jvm.Cond.methodLink "RunningCount" (121 : Nat) ({ cls := "java/util/NoSuchElementException", name := "<init>", desc := "(Ljava/lang/String;)V" } : Jvm.MethodName)) ∈ GW := gwm 957 (by decide +kernel) rfl
theorem gw_958 : (Jvm.Cond.instanceMethod ({ cls := "java/util/NoSuchElementException", name := "<init>", desc := "(Ljava/lang/String;)V" } : Jvm.MethodName)) ∈ GW := gwm 958 (by decide +kernel) rfl
theorem gw_959 : (Jvm.Cond.code ({ cls := "java/util/NoSuchElementException", name := "<init>", desc := "(Ljava/lang/String;)V" } : Jvm.MethodName) prog_24_method_4_code (2 : Nat) (Option.none : Option Jvm.ClassFile.FieldType)) ∈ GW := gwm 959 (by decide +kernel) rfl
theorem gw_960 : (Jvm.Cond.methodLink "java/util/NoSuchElementException" (13 : Nat) ({ cls := "java/lang/RuntimeException", name := "<init>", desc := "(Ljava/lang/String;)V" } : Jvm.MethodName)) ∈ GW := gwm 960 (by decide +kernel) rfl
theorem gw_961 : (Jvm.Cond.instanceMethod ({ cls := "java/lang/RuntimeException", name := "<init>", desc := "(Ljava/lang/String;)V" } : Jvm.MethodName)) ∈ GW := gwm 961 (by decide +kernel) rfl
theorem gw_962 : (Jvm.Cond.code ({ cls := "java/lang/RuntimeException", name := "<init>", desc := "(Ljava/lang/String;)V" } : Jvm.MethodName) prog_17_method_2_code (2 : Nat) (Option.none : Option Jvm.ClassFile.FieldType)) ∈ GW := gwm 962 (by decide +kernel) rfl
theorem gw_963 : (Jvm.Cond.methodLink "java/lang/RuntimeException" (7 : Nat) ({ cls := "java/lang/Exception", name := "<init>", desc := "(Ljava/lang/String;)V" } : Jvm.MethodName)) ∈ GW := gwm 963 (by decide +kernel) rfl
theorem gw_964 : (Jvm.Cond.instanceMethod ({ cls := "java/lang/Exception", name := "<init>", desc := "(Ljava/lang/String;)V" } : Jvm.MethodName)) ∈ GW := gwm 964 (by decide +kernel) rfl
theorem gw_965 : (Jvm.Cond.code ({ cls := "java/lang/Exception", name := "<init>", desc := "(Ljava/lang/String;)V" } : Jvm.MethodName) prog_15_method_2_code (2 : Nat) (Option.none : Option Jvm.ClassFile.FieldType)) ∈ GW := gwm 965 (by decide +kernel) rfl
theorem gw_966 : (Jvm.Cond.methodLink "java/lang/Exception" (7 : Nat) ({ cls := "java/lang/Throwable", name := "<init>", desc := "(Ljava/lang/String;)V" } : Jvm.MethodName)) ∈ GW := gwm 966 (by decide +kernel) rfl
theorem gw_967 : (Jvm.Cond.instanceMethod ({ cls := "java/lang/Throwable", name := "<init>", desc := "(Ljava/lang/String;)V" } : Jvm.MethodName)) ∈ GW := gwm 967 (by decide +kernel) rfl
theorem gw_968 : (Jvm.Cond.code ({ cls := "java/lang/Throwable", name := "<init>", desc := "(Ljava/lang/String;)V" } : Jvm.MethodName) prog_21_method_2_code (2 : Nat) (Option.none : Option Jvm.ClassFile.FieldType)) ∈ GW := gwm 968 (by decide +kernel) rfl
theorem gw_970 : (Jvm.Cond.fieldLink "java/lang/Throwable" (31 : Nat) "java/lang/Throwable" "detailMessage" "Ljava/lang/String;") ∈ GW := gwm 970 (by decide +kernel) rfl
theorem gw_971 : (Jvm.Cond.fieldLink "java/lang/Throwable" (7 : Nat) "java/lang/Throwable" "cause" "Ljava/lang/Throwable;") ∈ GW := gwm 971 (by decide +kernel) rfl
theorem gw_972 : (Jvm.Cond.fieldLink "java/lang/Throwable" (17 : Nat) "java/lang/Throwable" "stackTrace" "[Ljava/lang/StackTraceElement;") ∈ GW := gwm 972 (by decide +kernel) rfl
theorem gw_973 : (Jvm.Cond.fieldLink "java/lang/Throwable" (24 : Nat) "java/lang/Throwable" "suppressedExceptions" "Ljava/util/List;") ∈ GW := gwm 973 (by decide +kernel) rfl
theorem gw_978 : (Jvm.Cond.lays "java/util/NoSuchElementException" "java/lang/Throwable" "depth" "I") ∈ GW := gwm 978 (by decide +kernel) rfl
theorem gw_983 : (Jvm.Cond.methodLink "RunningCountLaw" (73 : Nat) ({ cls := "RunningCountLaw", name := "count", desc := "(LRunningCount;II[J)I" } : Jvm.MethodName)) ∈ GW := gwm 983 (by decide +kernel) rfl
theorem gw_984 : (Jvm.Cond.static ({ cls := "RunningCountLaw", name := "count", desc := "(LRunningCount;II[J)I" } : Jvm.MethodName)) ∈ GW := gwm 984 (by decide +kernel) rfl
theorem gw_985 : (Jvm.Cond.codeWith ({ cls := "RunningCountLaw", name := "count", desc := "(LRunningCount;II[J)I" } : Jvm.MethodName) method_4_code (5 : Nat) (Option.some Jvm.ClassFile.FieldType.int) [((0 : Nat), (10 : Nat), (13 : Nat), (13 : Nat))]) ∈ GW := gwm 985 (by decide +kernel) rfl
theorem gw_986 : (Jvm.Cond.methodLink "RunningCountLaw" (15 : Nat) ({ cls := "RunningCount", name := "count", desc := "(II)I" } : Jvm.MethodName)) ∈ GW := gwm 986 (by decide +kernel) rfl
theorem gw_987 : (Jvm.Cond.instanceMethod ({ cls := "RunningCount", name := "count", desc := "(II)I" } : Jvm.MethodName)) ∈ GW := gwm 987 (by decide +kernel) rfl
theorem gw_988 : (Jvm.Cond.selects "RunningCount" ({ cls := "RunningCount", name := "count", desc := "(II)I" } : Jvm.MethodName) ({ cls := "RunningCount", name := "count", desc := "(II)I" } : Jvm.MethodName)) ∈ GW := gwm 988 (by decide +kernel) rfl
theorem gw_989 : (Jvm.Cond.code ({ cls := "RunningCount", name := "count", desc := "(II)I" } : Jvm.MethodName) prog_1_method_12_code (3 : Nat) (Option.some Jvm.ClassFile.FieldType.int)) ∈ GW := gwm 989 (by decide +kernel) rfl
theorem gw_992 : (Jvm.Cond.methodLink "RunningCountLaw" (56 : Nat) ({ cls := "RunningCountModel", name := "thrown", desc := "()I" } : Jvm.MethodName)) ∈ GW := gwm 992 (by decide +kernel) rfl
theorem gw_993 : (Jvm.Cond.instanceMethod ({ cls := "RunningCountModel", name := "thrown", desc := "()I" } : Jvm.MethodName)) ∈ GW := gwm 993 (by decide +kernel) rfl
theorem gw_994 : (Jvm.Cond.selects "RunningCountModel" ({ cls := "RunningCountModel", name := "thrown", desc := "()I" } : Jvm.MethodName) ({ cls := "RunningCountModel", name := "thrown", desc := "()I" } : Jvm.MethodName)) ∈ GW := gwm 994 (by decide +kernel) rfl
theorem gw_995 : (Jvm.Cond.code ({ cls := "RunningCountModel", name := "thrown", desc := "()I" } : Jvm.MethodName) prog_11_method_1_code (1 : Nat) (Option.some Jvm.ClassFile.FieldType.int)) ∈ GW := gwm 995 (by decide +kernel) rfl
theorem gw_996 : (Jvm.Cond.methodLink "RunningCountLaw" (26 : Nat) ({ cls := "RunningCountModel", name := "feed", desc := "(IIIII)I" } : Jvm.MethodName)) ∈ GW := gwm 996 (by decide +kernel) rfl
theorem gw_997 : (Jvm.Cond.instanceMethod ({ cls := "RunningCountModel", name := "feed", desc := "(IIIII)I" } : Jvm.MethodName)) ∈ GW := gwm 997 (by decide +kernel) rfl
theorem gw_998 : (Jvm.Cond.selects "RunningCountModel" ({ cls := "RunningCountModel", name := "feed", desc := "(IIIII)I" } : Jvm.MethodName) ({ cls := "RunningCountModel", name := "feed", desc := "(IIIII)I" } : Jvm.MethodName)) ∈ GW := gwm 998 (by decide +kernel) rfl
theorem gw_999 : (Jvm.Cond.code ({ cls := "RunningCountModel", name := "feed", desc := "(IIIII)I" } : Jvm.MethodName) prog_11_method_5_code (6 : Nat) (Option.some Jvm.ClassFile.FieldType.int)) ∈ GW := gwm 999 (by decide +kernel) rfl
theorem gw_1000 : (Jvm.Cond.methodLink "RunningCountModel" (14 : Nat) ({ cls := "RunningCountModel", name := "lays", desc := "(I)V" } : Jvm.MethodName)) ∈ GW := gwm 1000 (by decide +kernel) rfl
theorem gw_1002 : (Jvm.Cond.instanceMethod ({ cls := "RunningCountModel", name := "lays", desc := "(I)V" } : Jvm.MethodName)) ∈ GW := gwm 1002 (by decide +kernel) rfl
theorem gw_1003 : (Jvm.Cond.instantiable "RunningCountModel" (21 : Nat)) ∈ GW := gwm 1003 (by decide +kernel) rfl
theorem gw_1004 : (Jvm.Cond.code ({ cls := "RunningCountModel", name := "lays", desc := "(I)V" } : Jvm.MethodName) prog_11_method_4_code (3 : Nat) (Option.none : Option Jvm.ClassFile.FieldType)) ∈ GW := gwm 1004 (by decide +kernel) rfl
theorem gw_1005 : (Jvm.Cond.methodLink "RunningCountLaw" (31 : Nat) ({ cls := "RunningCountModel", name := "end", desc := "(I)Z" } : Jvm.MethodName)) ∈ GW := gwm 1005 (by decide +kernel) rfl
theorem gw_1006 : (Jvm.Cond.instanceMethod ({ cls := "RunningCountModel", name := "end", desc := "(I)Z" } : Jvm.MethodName)) ∈ GW := gwm 1006 (by decide +kernel) rfl
theorem gw_1007 : (Jvm.Cond.selects "RunningCountModel" ({ cls := "RunningCountModel", name := "end", desc := "(I)Z" } : Jvm.MethodName) ({ cls := "RunningCountModel", name := "end", desc := "(I)Z" } : Jvm.MethodName)) ∈ GW := gwm 1007 (by decide +kernel) rfl
theorem gw_1008 : (Jvm.Cond.code ({ cls := "RunningCountModel", name := "end", desc := "(I)Z" } : Jvm.MethodName) prog_11_method_6_code (2 : Nat) (Option.some Jvm.ClassFile.FieldType.boolean)) ∈ GW := gwm 1008 (by decide +kernel) rfl
theorem gw_1009 : (Jvm.Cond.classLink "RunningCountLaw" (19 : Nat) "RunningCountModel") ∈ GW := gwm 1009 (by decide +kernel) rfl
theorem gw_1010 : (Jvm.Cond.methodLink "RunningCountLaw" (21 : Nat) ({ cls := "RunningCountModel", name := "<init>", desc := "()V" } : Jvm.MethodName)) ∈ GW := gwm 1010 (by decide +kernel) rfl
theorem gw_1011 : (Jvm.Cond.instanceMethod ({ cls := "RunningCountModel", name := "<init>", desc := "()V" } : Jvm.MethodName)) ∈ GW := gwm 1011 (by decide +kernel) rfl
theorem gw_1012 : (Jvm.Cond.code ({ cls := "RunningCountModel", name := "<init>", desc := "()V" } : Jvm.MethodName) prog_11_method_16_code (1 : Nat) (Option.none : Option Jvm.ClassFile.FieldType)) ∈ GW := gwm 1012 (by decide +kernel) rfl
theorem gw_1013 : (Jvm.Cond.methodLink "RunningCountModel" (68 : Nat) ({ cls := "java/lang/Object", name := "<init>", desc := "()V" } : Jvm.MethodName)) ∈ GW := gwm 1013 (by decide +kernel) rfl
theorem gw_1014 : (Jvm.Cond.fieldLink "RunningCountModel" (1 : Nat) "RunningCountModel" "thrown" "I") ∈ GW := gwm 1014 (by decide +kernel) rfl
theorem gw_1015 : (Jvm.Cond.fieldLink "RunningCountModel" (7 : Nat) "RunningCountModel" "tape" "[I") ∈ GW := gwm 1015 (by decide +kernel) rfl
theorem gw_1016 : (Jvm.Cond.fieldLink "RunningCountModel" (11 : Nat) "RunningCountModel" "taped" "I") ∈ GW := gwm 1016 (by decide +kernel) rfl
theorem gw_1017 : (Jvm.Cond.fieldLink "RunningCountModel" (18 : Nat) "RunningCountModel" "size" "I") ∈ GW := gwm 1017 (by decide +kernel) rfl
theorem gw_1018 : (Jvm.Cond.fieldLink "RunningCountModel" (21 : Nat) "RunningCountModel" "to" "I") ∈ GW := gwm 1018 (by decide +kernel) rfl
theorem gw_1019 : (Jvm.Cond.fieldLink "RunningCountModel" (24 : Nat) "RunningCountModel" "from" "I") ∈ GW := gwm 1019 (by decide +kernel) rfl
theorem gw_1020 : (Jvm.Cond.fieldLink "RunningCountModel" (27 : Nat) "RunningCountModel" "sort" "I") ∈ GW := gwm 1020 (by decide +kernel) rfl
theorem gw_1021 : (Jvm.Cond.fieldLink "RunningCountModel" (41 : Nat) "RunningCountModel" "number" "I") ∈ GW := gwm 1021 (by decide +kernel) rfl
theorem gw_1022 : (Jvm.Cond.fieldLink "RunningCountModel" (62 : Nat) "RunningCountModel" "fault" "I") ∈ GW := gwm 1022 (by decide +kernel) rfl
theorem gw_1023 : (Jvm.Cond.fieldLink "RunningCountModel" (65 : Nat) "RunningCountModel" "place" "I") ∈ GW := gwm 1023 (by decide +kernel) rfl
theorem gw_1024 : (Jvm.Cond.fieldLink "RunningCountModel" (37 : Nat) "RunningCountModel" "word" "J") ∈ GW := gwm 1024 (by decide +kernel) rfl
theorem gw_1025 : (Jvm.Cond.fieldLink "RunningCountModel" (74 : Nat) "RunningCountModel" "now" "[I") ∈ GW := gwm 1025 (by decide +kernel) rfl
theorem gw_1026 : (Jvm.Cond.fieldLink "RunningCountModel" (77 : Nat) "RunningCountModel" "read" "[I") ∈ GW := gwm 1026 (by decide +kernel) rfl
theorem gw_1027 : (Jvm.Cond.fieldLink "RunningCountModel" (80 : Nat) "RunningCountModel" "snaps" "[I") ∈ GW := gwm 1027 (by decide +kernel) rfl
theorem gw_1028 : (Jvm.Cond.fieldLink "RunningCountModel" (153 : Nat) "RunningCountModel" "snapMany" "I") ∈ GW := gwm 1028 (by decide +kernel) rfl
theorem gw_1029 : (Jvm.Cond.fieldLink "RunningCountModel" (99 : Nat) "RunningCountModel" "got" "I") ∈ GW := gwm 1029 (by decide +kernel) rfl
theorem gw_1030 : (Jvm.Cond.fieldLink "RunningCountModel" (121 : Nat) "RunningCountModel" "stocked" "I") ∈ GW := gwm 1030 (by decide +kernel) rfl
theorem gw_1031 : (Jvm.Cond.fieldLink "RunningCountModel" (141 : Nat) "RunningCountModel" "lines" "I") ∈ GW := gwm 1031 (by decide +kernel) rfl
theorem gw_1032 : (Jvm.Cond.fieldLink "RunningCountModel" (83 : Nat) "RunningCountModel" "open" "[I") ∈ GW := gwm 1032 (by decide +kernel) rfl
theorem gw_1033 : (Jvm.Cond.fieldLink "RunningCountModel" (229 : Nat) "RunningCountModel" "openThere" "I") ∈ GW := gwm 1033 (by decide +kernel) rfl
theorem gw_1034 : (Jvm.Cond.fieldLink "RunningCountModel" (86 : Nat) "RunningCountModel" "changes" "[I") ∈ GW := gwm 1034 (by decide +kernel) rfl
theorem gw_1035 : (Jvm.Cond.lays "RunningCountModel" "RunningCountModel" "thrown" "I") ∈ GW := gwm 1035 (by decide +kernel) rfl
theorem gw_1037 : (Jvm.Cond.laysFinal "RunningCountModel" "RunningCountModel" "tape" "[I") ∈ GW := gwm 1037 (by decide +kernel) rfl
theorem gw_1039 : (Jvm.Cond.lays "RunningCountModel" "RunningCountModel" "taped" "I") ∈ GW := gwm 1039 (by decide +kernel) rfl
theorem gw_1041 : (Jvm.Cond.lays "RunningCountModel" "RunningCountModel" "size" "I") ∈ GW := gwm 1041 (by decide +kernel) rfl
theorem gw_1043 : (Jvm.Cond.lays "RunningCountModel" "RunningCountModel" "to" "I") ∈ GW := gwm 1043 (by decide +kernel) rfl
theorem gw_1045 : (Jvm.Cond.lays "RunningCountModel" "RunningCountModel" "from" "I") ∈ GW := gwm 1045 (by decide +kernel) rfl
theorem gw_1047 : (Jvm.Cond.lays "RunningCountModel" "RunningCountModel" "sort" "I") ∈ GW := gwm 1047 (by decide +kernel) rfl
theorem gw_1049 : (Jvm.Cond.lays "RunningCountModel" "RunningCountModel" "number" "I") ∈ GW := gwm 1049 (by decide +kernel) rfl
theorem gw_1051 : (Jvm.Cond.lays "RunningCountModel" "RunningCountModel" "fault" "I") ∈ GW := gwm 1051 (by decide +kernel) rfl
theorem gw_1053 : (Jvm.Cond.lays "RunningCountModel" "RunningCountModel" "place" "I") ∈ GW := gwm 1053 (by decide +kernel) rfl
theorem gw_1055 : (Jvm.Cond.lays "RunningCountModel" "RunningCountModel" "word" "J") ∈ GW := gwm 1055 (by decide +kernel) rfl
theorem gw_1057 : (Jvm.Cond.laysFinal "RunningCountModel" "RunningCountModel" "now" "[I") ∈ GW := gwm 1057 (by decide +kernel) rfl
theorem gw_1059 : (Jvm.Cond.laysFinal "RunningCountModel" "RunningCountModel" "read" "[I") ∈ GW := gwm 1059 (by decide +kernel) rfl
theorem gw_1061 : (Jvm.Cond.laysFinal "RunningCountModel" "RunningCountModel" "snaps" "[I") ∈ GW := gwm 1061 (by decide +kernel) rfl
theorem gw_1063 : (Jvm.Cond.lays "RunningCountModel" "RunningCountModel" "snapMany" "I") ∈ GW := gwm 1063 (by decide +kernel) rfl
theorem gw_1065 : (Jvm.Cond.lays "RunningCountModel" "RunningCountModel" "got" "I") ∈ GW := gwm 1065 (by decide +kernel) rfl
theorem gw_1067 : (Jvm.Cond.lays "RunningCountModel" "RunningCountModel" "stocked" "I") ∈ GW := gwm 1067 (by decide +kernel) rfl
theorem gw_1069 : (Jvm.Cond.lays "RunningCountModel" "RunningCountModel" "lines" "I") ∈ GW := gwm 1069 (by decide +kernel) rfl
theorem gw_1071 : (Jvm.Cond.laysFinal "RunningCountModel" "RunningCountModel" "open" "[I") ∈ GW := gwm 1071 (by decide +kernel) rfl
theorem gw_1073 : (Jvm.Cond.lays "RunningCountModel" "RunningCountModel" "openThere" "I") ∈ GW := gwm 1073 (by decide +kernel) rfl
theorem gw_1075 : (Jvm.Cond.laysFinal "RunningCountModel" "RunningCountModel" "changes" "[I") ∈ GW := gwm 1075 (by decide +kernel) rfl
theorem gw_1078 : (Jvm.Cond.methodLink "RunningCountLaw" (36 : Nat) ({ cls := "RunningCountModel", name := "text", desc := "()I" } : Jvm.MethodName)) ∈ GW := gwm 1078 (by decide +kernel) rfl
theorem gw_1079 : (Jvm.Cond.instanceMethod ({ cls := "RunningCountModel", name := "text", desc := "()I" } : Jvm.MethodName)) ∈ GW := gwm 1079 (by decide +kernel) rfl
theorem gw_1080 : (Jvm.Cond.selects "RunningCountModel" ({ cls := "RunningCountModel", name := "text", desc := "()I" } : Jvm.MethodName) ({ cls := "RunningCountModel", name := "text", desc := "()I" } : Jvm.MethodName)) ∈ GW := gwm 1080 (by decide +kernel) rfl
theorem gw_1081 : (Jvm.Cond.code ({ cls := "RunningCountModel", name := "text", desc := "()I" } : Jvm.MethodName) prog_11_method_28_code (2 : Nat) (Option.some Jvm.ClassFile.FieldType.int)) ∈ GW := gwm 1081 (by decide +kernel) rfl
theorem gw_1082 : (Jvm.Cond.methodLink "RunningCountModel" (96 : Nat) ({ cls := "RunningCountModel", name := "go", desc := "()V" } : Jvm.MethodName)) ∈ GW := gwm 1082 (by decide +kernel) rfl
theorem gw_1084 : (Jvm.Cond.instanceMethod ({ cls := "RunningCountModel", name := "go", desc := "()V" } : Jvm.MethodName)) ∈ GW := gwm 1084 (by decide +kernel) rfl
theorem gw_1085 : (Jvm.Cond.code ({ cls := "RunningCountModel", name := "go", desc := "()V" } : Jvm.MethodName) prog_11_method_10_code (5 : Nat) (Option.none : Option Jvm.ClassFile.FieldType)) ∈ GW := gwm 1085 (by decide +kernel) rfl
theorem gw_1086 : (Jvm.Cond.methodLink "RunningCountModel" (30 : Nat) ({ cls := "RunningCountModel", name := "isLetter", desc := "(I)Z" } : Jvm.MethodName)) ∈ GW := gwm 1086 (by decide +kernel) rfl
theorem gw_1087 : (Jvm.Cond.static ({ cls := "RunningCountModel", name := "isLetter", desc := "(I)Z" } : Jvm.MethodName)) ∈ GW := gwm 1087 (by decide +kernel) rfl
theorem gw_1088 : (Jvm.Cond.code ({ cls := "RunningCountModel", name := "isLetter", desc := "(I)Z" } : Jvm.MethodName) prog_11_method_9_code (1 : Nat) (Option.some Jvm.ClassFile.FieldType.boolean)) ∈ GW := gwm 1088 (by decide +kernel) rfl
theorem gw_1089 : (Jvm.Cond.methodLink "RunningCountModel" (34 : Nat) ({ cls := "RunningCountModel", name := "isDigit", desc := "(I)Z" } : Jvm.MethodName)) ∈ GW := gwm 1089 (by decide +kernel) rfl
theorem gw_1090 : (Jvm.Cond.static ({ cls := "RunningCountModel", name := "isDigit", desc := "(I)Z" } : Jvm.MethodName)) ∈ GW := gwm 1090 (by decide +kernel) rfl
theorem gw_1091 : (Jvm.Cond.code ({ cls := "RunningCountModel", name := "isDigit", desc := "(I)Z" } : Jvm.MethodName) prog_11_method_8_code (1 : Nat) (Option.some Jvm.ClassFile.FieldType.boolean)) ∈ GW := gwm 1091 (by decide +kernel) rfl
theorem gw_1092 : (Jvm.Cond.methodLink "RunningCountModel" (44 : Nat) ({ cls := "RunningCountModel", name := "tapeAt", desc := "(I)I" } : Jvm.MethodName)) ∈ GW := gwm 1092 (by decide +kernel) rfl
theorem gw_1094 : (Jvm.Cond.instanceMethod ({ cls := "RunningCountModel", name := "tapeAt", desc := "(I)I" } : Jvm.MethodName)) ∈ GW := gwm 1094 (by decide +kernel) rfl
theorem gw_1095 : (Jvm.Cond.code ({ cls := "RunningCountModel", name := "tapeAt", desc := "(I)I" } : Jvm.MethodName) prog_11_method_7_code (2 : Nat) (Option.some Jvm.ClassFile.FieldType.int)) ∈ GW := gwm 1095 (by decide +kernel) rfl
theorem gw_1096 : (Jvm.Cond.constantLong "RunningCountModel" (48 : Nat) (27 : Int64)) ∈ GW := gwm 1096 (by decide +kernel) rfl
theorem gw_1097 : (Jvm.Cond.constantLong "RunningCountModel" (50 : Nat) (96 : Int64)) ∈ GW := gwm 1097 (by decide +kernel) rfl
theorem gw_1098 : (Jvm.Cond.methodLink "RunningCountModel" (150 : Nat) ({ cls := "RunningCountModel", name := "readWhole", desc := "()Z" } : Jvm.MethodName)) ∈ GW := gwm 1098 (by decide +kernel) rfl
theorem gw_1100 : (Jvm.Cond.instanceMethod ({ cls := "RunningCountModel", name := "readWhole", desc := "()Z" } : Jvm.MethodName)) ∈ GW := gwm 1100 (by decide +kernel) rfl
theorem gw_1101 : (Jvm.Cond.code ({ cls := "RunningCountModel", name := "readWhole", desc := "()Z" } : Jvm.MethodName) prog_11_method_27_code (1 : Nat) (Option.some Jvm.ClassFile.FieldType.boolean)) ∈ GW := gwm 1101 (by decide +kernel) rfl
theorem gw_1102 : (Jvm.Cond.methodLink "RunningCountModel" (144 : Nat) ({ cls := "RunningCountModel", name := "readShelves", desc := "()Z" } : Jvm.MethodName)) ∈ GW := gwm 1102 (by decide +kernel) rfl
theorem gw_1104 : (Jvm.Cond.instanceMethod ({ cls := "RunningCountModel", name := "readShelves", desc := "()Z" } : Jvm.MethodName)) ∈ GW := gwm 1104 (by decide +kernel) rfl
theorem gw_1105 : (Jvm.Cond.code ({ cls := "RunningCountModel", name := "readShelves", desc := "()Z" } : Jvm.MethodName) prog_11_method_20_code (1 : Nat) (Option.some Jvm.ClassFile.FieldType.boolean)) ∈ GW := gwm 1105 (by decide +kernel) rfl
theorem gw_1106 : (Jvm.Cond.methodLink "RunningCountModel" (102 : Nat) ({ cls := "RunningCountModel", name := "seven", desc := "(IIIIIII)J" } : Jvm.MethodName)) ∈ GW := gwm 1106 (by decide +kernel) rfl
theorem gw_1107 : (Jvm.Cond.static ({ cls := "RunningCountModel", name := "seven", desc := "(IIIIIII)J" } : Jvm.MethodName)) ∈ GW := gwm 1107 (by decide +kernel) rfl
theorem gw_1108 : (Jvm.Cond.code ({ cls := "RunningCountModel", name := "seven", desc := "(IIIIIII)J" } : Jvm.MethodName) prog_11_method_13_code (7 : Nat) (Option.some Jvm.ClassFile.FieldType.long)) ∈ GW := gwm 1108 (by decide +kernel) rfl
theorem gw_1109 : (Jvm.Cond.constantLong "RunningCountModel" (52 : Nat) (729 : Int64)) ∈ GW := gwm 1109 (by decide +kernel) rfl
theorem gw_1110 : (Jvm.Cond.methodLink "RunningCountModel" (58 : Nat) ({ cls := "RunningCountModel", name := "four", desc := "(IIII)J" } : Jvm.MethodName)) ∈ GW := gwm 1110 (by decide +kernel) rfl
theorem gw_1111 : (Jvm.Cond.static ({ cls := "RunningCountModel", name := "four", desc := "(IIII)J" } : Jvm.MethodName)) ∈ GW := gwm 1111 (by decide +kernel) rfl
theorem gw_1112 : (Jvm.Cond.code ({ cls := "RunningCountModel", name := "four", desc := "(IIII)J" } : Jvm.MethodName) prog_11_method_12_code (4 : Nat) (Option.some Jvm.ClassFile.FieldType.long)) ∈ GW := gwm 1112 (by decide +kernel) rfl
theorem gw_1113 : (Jvm.Cond.methodLink "RunningCountModel" (54 : Nat) ({ cls := "RunningCountModel", name := "two", desc := "(II)J" } : Jvm.MethodName)) ∈ GW := gwm 1113 (by decide +kernel) rfl
theorem gw_1114 : (Jvm.Cond.static ({ cls := "RunningCountModel", name := "two", desc := "(II)J" } : Jvm.MethodName)) ∈ GW := gwm 1114 (by decide +kernel) rfl
theorem gw_1115 : (Jvm.Cond.code ({ cls := "RunningCountModel", name := "two", desc := "(II)J" } : Jvm.MethodName) prog_11_method_11_code (2 : Nat) (Option.some Jvm.ClassFile.FieldType.long)) ∈ GW := gwm 1115 (by decide +kernel) rfl
theorem gw_1116 : (Jvm.Cond.methodLink "RunningCountModel" (106 : Nat) ({ cls := "RunningCountModel", name := "isWord", desc := "(J)Z" } : Jvm.MethodName)) ∈ GW := gwm 1116 (by decide +kernel) rfl
theorem gw_1118 : (Jvm.Cond.instanceMethod ({ cls := "RunningCountModel", name := "isWord", desc := "(J)Z" } : Jvm.MethodName)) ∈ GW := gwm 1118 (by decide +kernel) rfl
theorem gw_1119 : (Jvm.Cond.code ({ cls := "RunningCountModel", name := "isWord", desc := "(J)Z" } : Jvm.MethodName) prog_11_method_14_code (3 : Nat) (Option.some Jvm.ClassFile.FieldType.boolean)) ∈ GW := gwm 1119 (by decide +kernel) rfl
theorem gw_1120 : (Jvm.Cond.methodLink "RunningCountModel" (89 : Nat) ({ cls := "RunningCountModel", name := "bad", desc := "(I)Z" } : Jvm.MethodName)) ∈ GW := gwm 1120 (by decide +kernel) rfl
theorem gw_1122 : (Jvm.Cond.instanceMethod ({ cls := "RunningCountModel", name := "bad", desc := "(I)Z" } : Jvm.MethodName)) ∈ GW := gwm 1122 (by decide +kernel) rfl
theorem gw_1123 : (Jvm.Cond.code ({ cls := "RunningCountModel", name := "bad", desc := "(I)Z" } : Jvm.MethodName) prog_11_method_15_code (2 : Nat) (Option.some Jvm.ClassFile.FieldType.boolean)) ∈ GW := gwm 1123 (by decide +kernel) rfl
theorem gw_1124 : (Jvm.Cond.methodLink "RunningCountModel" (110 : Nat) ({ cls := "RunningCountModel", name := "told", desc := "(III)Z" } : Jvm.MethodName)) ∈ GW := gwm 1124 (by decide +kernel) rfl
theorem gw_1126 : (Jvm.Cond.instanceMethod ({ cls := "RunningCountModel", name := "told", desc := "(III)Z" } : Jvm.MethodName)) ∈ GW := gwm 1126 (by decide +kernel) rfl
theorem gw_1127 : (Jvm.Cond.code ({ cls := "RunningCountModel", name := "told", desc := "(III)Z" } : Jvm.MethodName) prog_11_method_17_code (4 : Nat) (Option.some Jvm.ClassFile.FieldType.boolean)) ∈ GW := gwm 1127 (by decide +kernel) rfl
theorem gw_1128 : (Jvm.Cond.methodLink "RunningCountModel" (92 : Nat) ({ cls := "RunningCountModel", name := "isIn", desc := "(III)Z" } : Jvm.MethodName)) ∈ GW := gwm 1128 (by decide +kernel) rfl
theorem gw_1129 : (Jvm.Cond.static ({ cls := "RunningCountModel", name := "isIn", desc := "(III)Z" } : Jvm.MethodName)) ∈ GW := gwm 1129 (by decide +kernel) rfl
theorem gw_1130 : (Jvm.Cond.code ({ cls := "RunningCountModel", name := "isIn", desc := "(III)Z" } : Jvm.MethodName) prog_11_method_3_code (3 : Nat) (Option.some Jvm.ClassFile.FieldType.boolean)) ∈ GW := gwm 1130 (by decide +kernel) rfl
theorem gw_1131 : (Jvm.Cond.methodLink "RunningCountModel" (113 : Nat) ({ cls := "RunningCountModel", name := "readEnd", desc := "()Z" } : Jvm.MethodName)) ∈ GW := gwm 1131 (by decide +kernel) rfl
theorem gw_1133 : (Jvm.Cond.instanceMethod ({ cls := "RunningCountModel", name := "readEnd", desc := "()Z" } : Jvm.MethodName)) ∈ GW := gwm 1133 (by decide +kernel) rfl
theorem gw_1134 : (Jvm.Cond.code ({ cls := "RunningCountModel", name := "readEnd", desc := "()Z" } : Jvm.MethodName) prog_11_method_19_code (1 : Nat) (Option.some Jvm.ClassFile.FieldType.boolean)) ∈ GW := gwm 1134 (by decide +kernel) rfl
theorem gw_1135 : (Jvm.Cond.methodLink "RunningCountModel" (147 : Nat) ({ cls := "RunningCountModel", name := "readAll", desc := "(I)Z" } : Jvm.MethodName)) ∈ GW := gwm 1135 (by decide +kernel) rfl
theorem gw_1137 : (Jvm.Cond.instanceMethod ({ cls := "RunningCountModel", name := "readAll", desc := "(I)Z" } : Jvm.MethodName)) ∈ GW := gwm 1137 (by decide +kernel) rfl
theorem gw_1138 : (Jvm.Cond.code ({ cls := "RunningCountModel", name := "readAll", desc := "(I)Z" } : Jvm.MethodName) prog_11_method_26_code (2 : Nat) (Option.some Jvm.ClassFile.FieldType.boolean)) ∈ GW := gwm 1138 (by decide +kernel) rfl
theorem gw_1139 : (Jvm.Cond.methodLink "RunningCountModel" (129 : Nat) ({ cls := "RunningCountModel", name := "isSort", desc := "(I)Z" } : Jvm.MethodName)) ∈ GW := gwm 1139 (by decide +kernel) rfl
theorem gw_1141 : (Jvm.Cond.instanceMethod ({ cls := "RunningCountModel", name := "isSort", desc := "(I)Z" } : Jvm.MethodName)) ∈ GW := gwm 1141 (by decide +kernel) rfl
theorem gw_1142 : (Jvm.Cond.code ({ cls := "RunningCountModel", name := "isSort", desc := "(I)Z" } : Jvm.MethodName) prog_11_method_25_code (2 : Nat) (Option.some Jvm.ClassFile.FieldType.boolean)) ∈ GW := gwm 1142 (by decide +kernel) rfl
theorem gw_1143 : (Jvm.Cond.constantLong "RunningCountModel" (127 : Nat) (11 : Int64)) ∈ GW := gwm 1143 (by decide +kernel) rfl
theorem gw_1144 : (Jvm.Cond.methodLink "RunningCountModel" (132 : Nat) ({ cls := "RunningCountModel", name := "readItem", desc := "()Z" } : Jvm.MethodName)) ∈ GW := gwm 1144 (by decide +kernel) rfl
theorem gw_1146 : (Jvm.Cond.instanceMethod ({ cls := "RunningCountModel", name := "readItem", desc := "()Z" } : Jvm.MethodName)) ∈ GW := gwm 1146 (by decide +kernel) rfl
theorem gw_1147 : (Jvm.Cond.code ({ cls := "RunningCountModel", name := "readItem", desc := "()Z" } : Jvm.MethodName) prog_11_method_21_code (2 : Nat) (Option.some Jvm.ClassFile.FieldType.boolean)) ∈ GW := gwm 1147 (by decide +kernel) rfl
theorem gw_1148 : (Jvm.Cond.methodLink "RunningCountModel" (135 : Nat) ({ cls := "RunningCountModel", name := "readStock", desc := "()Z" } : Jvm.MethodName)) ∈ GW := gwm 1148 (by decide +kernel) rfl
theorem gw_1150 : (Jvm.Cond.instanceMethod ({ cls := "RunningCountModel", name := "readStock", desc := "()Z" } : Jvm.MethodName)) ∈ GW := gwm 1150 (by decide +kernel) rfl
theorem gw_1151 : (Jvm.Cond.code ({ cls := "RunningCountModel", name := "readStock", desc := "()Z" } : Jvm.MethodName) prog_11_method_22_code (3 : Nat) (Option.some Jvm.ClassFile.FieldType.boolean)) ∈ GW := gwm 1151 (by decide +kernel) rfl
theorem gw_1152 : (Jvm.Cond.methodLink "RunningCountModel" (117 : Nat) ({ cls := "RunningCountModel", name := "takes", desc := "(II)Z" } : Jvm.MethodName)) ∈ GW := gwm 1152 (by decide +kernel) rfl
theorem gw_1154 : (Jvm.Cond.instanceMethod ({ cls := "RunningCountModel", name := "takes", desc := "(II)Z" } : Jvm.MethodName)) ∈ GW := gwm 1154 (by decide +kernel) rfl
theorem gw_1155 : (Jvm.Cond.code ({ cls := "RunningCountModel", name := "takes", desc := "(II)Z" } : Jvm.MethodName) prog_11_method_18_code (3 : Nat) (Option.some Jvm.ClassFile.FieldType.boolean)) ∈ GW := gwm 1155 (by decide +kernel) rfl
theorem gw_1156 : (Jvm.Cond.methodLink "RunningCountModel" (138 : Nat) ({ cls := "RunningCountModel", name := "readMove", desc := "()Z" } : Jvm.MethodName)) ∈ GW := gwm 1156 (by decide +kernel) rfl
theorem gw_1158 : (Jvm.Cond.instanceMethod ({ cls := "RunningCountModel", name := "readMove", desc := "()Z" } : Jvm.MethodName)) ∈ GW := gwm 1158 (by decide +kernel) rfl
theorem gw_1159 : (Jvm.Cond.code ({ cls := "RunningCountModel", name := "readMove", desc := "()Z" } : Jvm.MethodName) prog_11_method_24_code (2 : Nat) (Option.some Jvm.ClassFile.FieldType.boolean)) ∈ GW := gwm 1159 (by decide +kernel) rfl
theorem gw_1160 : (Jvm.Cond.methodLink "RunningCountModel" (124 : Nat) ({ cls := "RunningCountModel", name := "readLeg", desc := "(I)Z" } : Jvm.MethodName)) ∈ GW := gwm 1160 (by decide +kernel) rfl
theorem gw_1162 : (Jvm.Cond.instanceMethod ({ cls := "RunningCountModel", name := "readLeg", desc := "(I)Z" } : Jvm.MethodName)) ∈ GW := gwm 1162 (by decide +kernel) rfl
theorem gw_1163 : (Jvm.Cond.code ({ cls := "RunningCountModel", name := "readLeg", desc := "(I)Z" } : Jvm.MethodName) prog_11_method_23_code (2 : Nat) (Option.some Jvm.ClassFile.FieldType.boolean)) ∈ GW := gwm 1163 (by decide +kernel) rfl
theorem gw_1164 : (Jvm.Cond.methodLink "RunningCountLaw" (40 : Nat) ({ cls := "RunningCountModel", name := "fault", desc := "()I" } : Jvm.MethodName)) ∈ GW := gwm 1164 (by decide +kernel) rfl
theorem gw_1165 : (Jvm.Cond.instanceMethod ({ cls := "RunningCountModel", name := "fault", desc := "()I" } : Jvm.MethodName)) ∈ GW := gwm 1165 (by decide +kernel) rfl
theorem gw_1166 : (Jvm.Cond.selects "RunningCountModel" ({ cls := "RunningCountModel", name := "fault", desc := "()I" } : Jvm.MethodName) ({ cls := "RunningCountModel", name := "fault", desc := "()I" } : Jvm.MethodName)) ∈ GW := gwm 1166 (by decide +kernel) rfl
theorem gw_1167 : (Jvm.Cond.code ({ cls := "RunningCountModel", name := "fault", desc := "()I" } : Jvm.MethodName) prog_11_method_29_code (1 : Nat) (Option.some Jvm.ClassFile.FieldType.int)) ∈ GW := gwm 1167 (by decide +kernel) rfl
theorem gw_1168 : (Jvm.Cond.methodLink "RunningCountLaw" (45 : Nat) ({ cls := "RunningCountModel", name := "now", desc := "(I)I" } : Jvm.MethodName)) ∈ GW := gwm 1168 (by decide +kernel) rfl
theorem gw_1169 : (Jvm.Cond.instanceMethod ({ cls := "RunningCountModel", name := "now", desc := "(I)I" } : Jvm.MethodName)) ∈ GW := gwm 1169 (by decide +kernel) rfl
theorem gw_1170 : (Jvm.Cond.selects "RunningCountModel" ({ cls := "RunningCountModel", name := "now", desc := "(I)I" } : Jvm.MethodName) ({ cls := "RunningCountModel", name := "now", desc := "(I)I" } : Jvm.MethodName)) ∈ GW := gwm 1170 (by decide +kernel) rfl
theorem gw_1171 : (Jvm.Cond.code ({ cls := "RunningCountModel", name := "now", desc := "(I)I" } : Jvm.MethodName) prog_11_method_46_code (2 : Nat) (Option.some Jvm.ClassFile.FieldType.int)) ∈ GW := gwm 1171 (by decide +kernel) rfl
theorem gw_1172 : (Jvm.Cond.methodLink "RunningCountModel" (187 : Nat) ({ cls := "RunningCountModel", name := "openMany", desc := "()I" } : Jvm.MethodName)) ∈ GW := gwm 1172 (by decide +kernel) rfl
theorem gw_1174 : (Jvm.Cond.instanceMethod ({ cls := "RunningCountModel", name := "openMany", desc := "()I" } : Jvm.MethodName)) ∈ GW := gwm 1174 (by decide +kernel) rfl
theorem gw_1175 : (Jvm.Cond.code ({ cls := "RunningCountModel", name := "openMany", desc := "()I" } : Jvm.MethodName) prog_11_method_57_code (3 : Nat) (Option.some Jvm.ClassFile.FieldType.int)) ∈ GW := gwm 1175 (by decide +kernel) rfl
theorem gw_1176 : (Jvm.Cond.methodLink "RunningCountModel" (213 : Nat) ({ cls := "RunningCountModel", name := "counted", desc := "(II)I" } : Jvm.MethodName)) ∈ GW := gwm 1176 (by decide +kernel) rfl
theorem gw_1178 : (Jvm.Cond.instanceMethod ({ cls := "RunningCountModel", name := "counted", desc := "(II)I" } : Jvm.MethodName)) ∈ GW := gwm 1178 (by decide +kernel) rfl
theorem gw_1179 : (Jvm.Cond.code ({ cls := "RunningCountModel", name := "counted", desc := "(II)I" } : Jvm.MethodName) prog_11_method_52_code (3 : Nat) (Option.some Jvm.ClassFile.FieldType.int)) ∈ GW := gwm 1179 (by decide +kernel) rfl
theorem gw_1180 : (Jvm.Cond.methodLink "RunningCountLaw" (49 : Nat) ({ cls := "RunningCountModel", name := "item", desc := "(II)I" } : Jvm.MethodName)) ∈ GW := gwm 1180 (by decide +kernel) rfl
theorem gw_1181 : (Jvm.Cond.instanceMethod ({ cls := "RunningCountModel", name := "item", desc := "(II)I" } : Jvm.MethodName)) ∈ GW := gwm 1181 (by decide +kernel) rfl
theorem gw_1182 : (Jvm.Cond.selects "RunningCountModel" ({ cls := "RunningCountModel", name := "item", desc := "(II)I" } : Jvm.MethodName) ({ cls := "RunningCountModel", name := "item", desc := "(II)I" } : Jvm.MethodName)) ∈ GW := gwm 1182 (by decide +kernel) rfl
theorem gw_1183 : (Jvm.Cond.code ({ cls := "RunningCountModel", name := "item", desc := "(II)I" } : Jvm.MethodName) prog_11_method_47_code (3 : Nat) (Option.some Jvm.ClassFile.FieldType.int)) ∈ GW := gwm 1183 (by decide +kernel) rfl
theorem gw_1184 : (Jvm.Cond.methodLink "RunningCountModel" (191 : Nat) ({ cls := "RunningCountModel", name := "isItem", desc := "(I)Z" } : Jvm.MethodName)) ∈ GW := gwm 1184 (by decide +kernel) rfl
theorem gw_1186 : (Jvm.Cond.instanceMethod ({ cls := "RunningCountModel", name := "isItem", desc := "(I)Z" } : Jvm.MethodName)) ∈ GW := gwm 1186 (by decide +kernel) rfl
theorem gw_1187 : (Jvm.Cond.code ({ cls := "RunningCountModel", name := "isItem", desc := "(I)Z" } : Jvm.MethodName) prog_11_method_31_code (2 : Nat) (Option.some Jvm.ClassFile.FieldType.boolean)) ∈ GW := gwm 1187 (by decide +kernel) rfl
theorem gw_1188 : (Jvm.Cond.methodLink "RunningCountLaw" (55 : Nat) ({ cls := "RunningCountModel", name := "move", desc := "(II)I" } : Jvm.MethodName)) ∈ GW := gwm 1188 (by decide +kernel) rfl
theorem gw_1189 : (Jvm.Cond.instanceMethod ({ cls := "RunningCountModel", name := "move", desc := "(II)I" } : Jvm.MethodName)) ∈ GW := gwm 1189 (by decide +kernel) rfl
theorem gw_1190 : (Jvm.Cond.selects "RunningCountModel" ({ cls := "RunningCountModel", name := "move", desc := "(II)I" } : Jvm.MethodName) ({ cls := "RunningCountModel", name := "move", desc := "(II)I" } : Jvm.MethodName)) ∈ GW := gwm 1190 (by decide +kernel) rfl
theorem gw_1191 : (Jvm.Cond.code ({ cls := "RunningCountModel", name := "move", desc := "(II)I" } : Jvm.MethodName) prog_11_method_48_code (5 : Nat) (Option.some Jvm.ClassFile.FieldType.int)) ∈ GW := gwm 1191 (by decide +kernel) rfl
theorem gw_1192 : (Jvm.Cond.methodLink "RunningCountModel" (194 : Nat) ({ cls := "RunningCountModel", name := "isMove", desc := "(I)Z" } : Jvm.MethodName)) ∈ GW := gwm 1192 (by decide +kernel) rfl
theorem gw_1194 : (Jvm.Cond.instanceMethod ({ cls := "RunningCountModel", name := "isMove", desc := "(I)Z" } : Jvm.MethodName)) ∈ GW := gwm 1194 (by decide +kernel) rfl
theorem gw_1195 : (Jvm.Cond.code ({ cls := "RunningCountModel", name := "isMove", desc := "(I)Z" } : Jvm.MethodName) prog_11_method_32_code (2 : Nat) (Option.some Jvm.ClassFile.FieldType.boolean)) ∈ GW := gwm 1195 (by decide +kernel) rfl
theorem gw_1196 : (Jvm.Cond.methodLink "RunningCountModel" (197 : Nat) ({ cls := "RunningCountModel", name := "refuse", desc := "()I" } : Jvm.MethodName)) ∈ GW := gwm 1196 (by decide +kernel) rfl
theorem gw_1198 : (Jvm.Cond.instanceMethod ({ cls := "RunningCountModel", name := "refuse", desc := "()I" } : Jvm.MethodName)) ∈ GW := gwm 1198 (by decide +kernel) rfl
theorem gw_1199 : (Jvm.Cond.code ({ cls := "RunningCountModel", name := "refuse", desc := "()I" } : Jvm.MethodName) prog_11_method_2_code (1 : Nat) (Option.some Jvm.ClassFile.FieldType.int)) ∈ GW := gwm 1199 (by decide +kernel) rfl
theorem gw_1200 : (Jvm.Cond.methodLink "RunningCountModel" (163 : Nat) ({ cls := "RunningCountModel", name := "moved", desc := "(II)I" } : Jvm.MethodName)) ∈ GW := gwm 1200 (by decide +kernel) rfl
theorem gw_1202 : (Jvm.Cond.instanceMethod ({ cls := "RunningCountModel", name := "moved", desc := "(II)I" } : Jvm.MethodName)) ∈ GW := gwm 1202 (by decide +kernel) rfl
theorem gw_1203 : (Jvm.Cond.code ({ cls := "RunningCountModel", name := "moved", desc := "(II)I" } : Jvm.MethodName) prog_11_method_35_code (3 : Nat) (Option.some Jvm.ClassFile.FieldType.int)) ∈ GW := gwm 1203 (by decide +kernel) rfl
theorem gw_1204 : (Jvm.Cond.methodLink "RunningCountModel" (160 : Nat) ({ cls := "RunningCountModel", name := "isThere", desc := "(II)Z" } : Jvm.MethodName)) ∈ GW := gwm 1204 (by decide +kernel) rfl
theorem gw_1206 : (Jvm.Cond.instanceMethod ({ cls := "RunningCountModel", name := "isThere", desc := "(II)Z" } : Jvm.MethodName)) ∈ GW := gwm 1206 (by decide +kernel) rfl
theorem gw_1207 : (Jvm.Cond.code ({ cls := "RunningCountModel", name := "isThere", desc := "(II)Z" } : Jvm.MethodName) prog_11_method_37_code (3 : Nat) (Option.some Jvm.ClassFile.FieldType.boolean)) ∈ GW := gwm 1207 (by decide +kernel) rfl
theorem gw_1208 : (Jvm.Cond.methodLink "RunningCountModel" (156 : Nat) ({ cls := "RunningCountModel", name := "leg", desc := "(III)I" } : Jvm.MethodName)) ∈ GW := gwm 1208 (by decide +kernel) rfl
theorem gw_1210 : (Jvm.Cond.instanceMethod ({ cls := "RunningCountModel", name := "leg", desc := "(III)I" } : Jvm.MethodName)) ∈ GW := gwm 1210 (by decide +kernel) rfl
theorem gw_1211 : (Jvm.Cond.code ({ cls := "RunningCountModel", name := "leg", desc := "(III)I" } : Jvm.MethodName) prog_11_method_36_code (4 : Nat) (Option.some Jvm.ClassFile.FieldType.int)) ∈ GW := gwm 1211 (by decide +kernel) rfl
theorem gw_1212 : (Jvm.Cond.methodLink "RunningCountLaw" (63 : Nat) ({ cls := "RunningCountModel", name := "book", desc := "(IIII)I" } : Jvm.MethodName)) ∈ GW := gwm 1212 (by decide +kernel) rfl
theorem gw_1213 : (Jvm.Cond.instanceMethod ({ cls := "RunningCountModel", name := "book", desc := "(IIII)I" } : Jvm.MethodName)) ∈ GW := gwm 1213 (by decide +kernel) rfl
theorem gw_1214 : (Jvm.Cond.selects "RunningCountModel" ({ cls := "RunningCountModel", name := "book", desc := "(IIII)I" } : Jvm.MethodName) ({ cls := "RunningCountModel", name := "book", desc := "(IIII)I" } : Jvm.MethodName)) ∈ GW := gwm 1214 (by decide +kernel) rfl
theorem gw_1215 : (Jvm.Cond.code ({ cls := "RunningCountModel", name := "book", desc := "(IIII)I" } : Jvm.MethodName) prog_11_method_49_code (5 : Nat) (Option.some Jvm.ClassFile.FieldType.int)) ∈ GW := gwm 1215 (by decide +kernel) rfl
theorem gw_1216 : (Jvm.Cond.methodLink "RunningCountModel" (200 : Nat) ({ cls := "RunningCountModel", name := "isShelf", desc := "(I)Z" } : Jvm.MethodName)) ∈ GW := gwm 1216 (by decide +kernel) rfl
theorem gw_1218 : (Jvm.Cond.instanceMethod ({ cls := "RunningCountModel", name := "isShelf", desc := "(I)Z" } : Jvm.MethodName)) ∈ GW := gwm 1218 (by decide +kernel) rfl
theorem gw_1219 : (Jvm.Cond.code ({ cls := "RunningCountModel", name := "isShelf", desc := "(I)Z" } : Jvm.MethodName) prog_11_method_30_code (2 : Nat) (Option.some Jvm.ClassFile.FieldType.boolean)) ∈ GW := gwm 1219 (by decide +kernel) rfl
theorem gw_1220 : (Jvm.Cond.methodLink "RunningCountModel" (203 : Nat) ({ cls := "RunningCountModel", name := "isInstant", desc := "(I)Z" } : Jvm.MethodName)) ∈ GW := gwm 1220 (by decide +kernel) rfl
theorem gw_1221 : (Jvm.Cond.static ({ cls := "RunningCountModel", name := "isInstant", desc := "(I)Z" } : Jvm.MethodName)) ∈ GW := gwm 1221 (by decide +kernel) rfl
theorem gw_1222 : (Jvm.Cond.code ({ cls := "RunningCountModel", name := "isInstant", desc := "(I)Z" } : Jvm.MethodName) prog_11_method_34_code (1 : Nat) (Option.some Jvm.ClassFile.FieldType.boolean)) ∈ GW := gwm 1222 (by decide +kernel) rfl
theorem gw_1223 : (Jvm.Cond.constant "RunningCountModel" (206 : Nat) (-100000000 : Int32)) ∈ GW := gwm 1223 (by decide +kernel) rfl
theorem gw_1224 : (Jvm.Cond.methodLink "RunningCountModel" (180 : Nat) ({ cls := "RunningCountModel", name := "sure", desc := "(III)I" } : Jvm.MethodName)) ∈ GW := gwm 1224 (by decide +kernel) rfl
theorem gw_1226 : (Jvm.Cond.instanceMethod ({ cls := "RunningCountModel", name := "sure", desc := "(III)I" } : Jvm.MethodName)) ∈ GW := gwm 1226 (by decide +kernel) rfl
theorem gw_1227 : (Jvm.Cond.code ({ cls := "RunningCountModel", name := "sure", desc := "(III)I" } : Jvm.MethodName) prog_11_method_42_code (7 : Nat) (Option.some Jvm.ClassFile.FieldType.int)) ∈ GW := gwm 1227 (by decide +kernel) rfl
theorem gw_1228 : (Jvm.Cond.methodLink "RunningCountModel" (173 : Nat) ({ cls := "RunningCountModel", name := "isAt", desc := "(IIII)Z" } : Jvm.MethodName)) ∈ GW := gwm 1228 (by decide +kernel) rfl
theorem gw_1230 : (Jvm.Cond.instanceMethod ({ cls := "RunningCountModel", name := "isAt", desc := "(IIII)Z" } : Jvm.MethodName)) ∈ GW := gwm 1230 (by decide +kernel) rfl
theorem gw_1231 : (Jvm.Cond.code ({ cls := "RunningCountModel", name := "isAt", desc := "(IIII)Z" } : Jvm.MethodName) prog_11_method_38_code (5 : Nat) (Option.some Jvm.ClassFile.FieldType.boolean)) ∈ GW := gwm 1231 (by decide +kernel) rfl
theorem gw_1232 : (Jvm.Cond.methodLink "RunningCountModel" (167 : Nat) ({ cls := "RunningCountModel", name := "isOver", desc := "(III)Z" } : Jvm.MethodName)) ∈ GW := gwm 1232 (by decide +kernel) rfl
theorem gw_1234 : (Jvm.Cond.instanceMethod ({ cls := "RunningCountModel", name := "isOver", desc := "(III)Z" } : Jvm.MethodName)) ∈ GW := gwm 1234 (by decide +kernel) rfl
theorem gw_1235 : (Jvm.Cond.code ({ cls := "RunningCountModel", name := "isOver", desc := "(III)Z" } : Jvm.MethodName) prog_11_method_39_code (4 : Nat) (Option.some Jvm.ClassFile.FieldType.boolean)) ∈ GW := gwm 1235 (by decide +kernel) rfl
theorem gw_1236 : (Jvm.Cond.methodLink "RunningCountModel" (207 : Nat) ({ cls := "RunningCountModel", name := "least", desc := "(III)I" } : Jvm.MethodName)) ∈ GW := gwm 1236 (by decide +kernel) rfl
theorem gw_1238 : (Jvm.Cond.instanceMethod ({ cls := "RunningCountModel", name := "least", desc := "(III)I" } : Jvm.MethodName)) ∈ GW := gwm 1238 (by decide +kernel) rfl
theorem gw_1239 : (Jvm.Cond.code ({ cls := "RunningCountModel", name := "least", desc := "(III)I" } : Jvm.MethodName) prog_11_method_44_code (4 : Nat) (Option.some Jvm.ClassFile.FieldType.int)) ∈ GW := gwm 1239 (by decide +kernel) rfl
theorem gw_1240 : (Jvm.Cond.methodLink "RunningCountModel" (183 : Nat) ({ cls := "RunningCountModel", name := "doubtful", desc := "(IIII)I" } : Jvm.MethodName)) ∈ GW := gwm 1240 (by decide +kernel) rfl
theorem gw_1242 : (Jvm.Cond.instanceMethod ({ cls := "RunningCountModel", name := "doubtful", desc := "(IIII)I" } : Jvm.MethodName)) ∈ GW := gwm 1242 (by decide +kernel) rfl
theorem gw_1243 : (Jvm.Cond.code ({ cls := "RunningCountModel", name := "doubtful", desc := "(IIII)I" } : Jvm.MethodName) prog_11_method_43_code (7 : Nat) (Option.some Jvm.ClassFile.FieldType.int)) ∈ GW := gwm 1243 (by decide +kernel) rfl
theorem gw_1244 : (Jvm.Cond.methodLink "RunningCountModel" (177 : Nat) ({ cls := "RunningCountModel", name := "isDoubtful", desc := "(III)Z" } : Jvm.MethodName)) ∈ GW := gwm 1244 (by decide +kernel) rfl
theorem gw_1246 : (Jvm.Cond.instanceMethod ({ cls := "RunningCountModel", name := "isDoubtful", desc := "(III)Z" } : Jvm.MethodName)) ∈ GW := gwm 1246 (by decide +kernel) rfl
theorem gw_1247 : (Jvm.Cond.code ({ cls := "RunningCountModel", name := "isDoubtful", desc := "(III)Z" } : Jvm.MethodName) prog_11_method_41_code (4 : Nat) (Option.some Jvm.ClassFile.FieldType.boolean)) ∈ GW := gwm 1247 (by decide +kernel) rfl
theorem gw_1248 : (Jvm.Cond.methodLink "RunningCountModel" (170 : Nat) ({ cls := "RunningCountModel", name := "isToCome", desc := "(III)Z" } : Jvm.MethodName)) ∈ GW := gwm 1248 (by decide +kernel) rfl
theorem gw_1250 : (Jvm.Cond.instanceMethod ({ cls := "RunningCountModel", name := "isToCome", desc := "(III)Z" } : Jvm.MethodName)) ∈ GW := gwm 1250 (by decide +kernel) rfl
theorem gw_1251 : (Jvm.Cond.code ({ cls := "RunningCountModel", name := "isToCome", desc := "(III)Z" } : Jvm.MethodName) prog_11_method_40_code (4 : Nat) (Option.some Jvm.ClassFile.FieldType.boolean)) ∈ GW := gwm 1251 (by decide +kernel) rfl
theorem gw_1252 : (Jvm.Cond.methodLink "RunningCountModel" (210 : Nat) ({ cls := "RunningCountModel", name := "most", desc := "(III)I" } : Jvm.MethodName)) ∈ GW := gwm 1252 (by decide +kernel) rfl
theorem gw_1254 : (Jvm.Cond.instanceMethod ({ cls := "RunningCountModel", name := "most", desc := "(III)I" } : Jvm.MethodName)) ∈ GW := gwm 1254 (by decide +kernel) rfl
theorem gw_1255 : (Jvm.Cond.code ({ cls := "RunningCountModel", name := "most", desc := "(III)I" } : Jvm.MethodName) prog_11_method_45_code (4 : Nat) (Option.some Jvm.ClassFile.FieldType.int)) ∈ GW := gwm 1255 (by decide +kernel) rfl
theorem gw_1256 : (Jvm.Cond.methodLink "RunningCountLaw" (68 : Nat) ({ cls := "RunningCountModel", name := "transit", desc := "(III)I" } : Jvm.MethodName)) ∈ GW := gwm 1256 (by decide +kernel) rfl
theorem gw_1257 : (Jvm.Cond.instanceMethod ({ cls := "RunningCountModel", name := "transit", desc := "(III)I" } : Jvm.MethodName)) ∈ GW := gwm 1257 (by decide +kernel) rfl
theorem gw_1258 : (Jvm.Cond.selects "RunningCountModel" ({ cls := "RunningCountModel", name := "transit", desc := "(III)I" } : Jvm.MethodName) ({ cls := "RunningCountModel", name := "transit", desc := "(III)I" } : Jvm.MethodName)) ∈ GW := gwm 1258 (by decide +kernel) rfl
theorem gw_1259 : (Jvm.Cond.code ({ cls := "RunningCountModel", name := "transit", desc := "(III)I" } : Jvm.MethodName) prog_11_method_50_code (6 : Nat) (Option.some Jvm.ClassFile.FieldType.int)) ∈ GW := gwm 1259 (by decide +kernel) rfl
theorem gw_1260 : (Jvm.Cond.methodLink "RunningCountLaw" (72 : Nat) ({ cls := "RunningCountModel", name := "below", desc := "(II)I" } : Jvm.MethodName)) ∈ GW := gwm 1260 (by decide +kernel) rfl
theorem gw_1261 : (Jvm.Cond.instanceMethod ({ cls := "RunningCountModel", name := "below", desc := "(II)I" } : Jvm.MethodName)) ∈ GW := gwm 1261 (by decide +kernel) rfl
theorem gw_1262 : (Jvm.Cond.selects "RunningCountModel" ({ cls := "RunningCountModel", name := "below", desc := "(II)I" } : Jvm.MethodName) ({ cls := "RunningCountModel", name := "below", desc := "(II)I" } : Jvm.MethodName)) ∈ GW := gwm 1262 (by decide +kernel) rfl
theorem gw_1263 : (Jvm.Cond.code ({ cls := "RunningCountModel", name := "below", desc := "(II)I" } : Jvm.MethodName) prog_11_method_51_code (4 : Nat) (Option.some Jvm.ClassFile.FieldType.int)) ∈ GW := gwm 1263 (by decide +kernel) rfl
theorem gw_1264 : (Jvm.Cond.methodLink "RunningCountLaw" (75 : Nat) ({ cls := "RunningCountModel", name := "count", desc := "(II)I" } : Jvm.MethodName)) ∈ GW := gwm 1264 (by decide +kernel) rfl
theorem gw_1265 : (Jvm.Cond.instanceMethod ({ cls := "RunningCountModel", name := "count", desc := "(II)I" } : Jvm.MethodName)) ∈ GW := gwm 1265 (by decide +kernel) rfl
theorem gw_1266 : (Jvm.Cond.selects "RunningCountModel" ({ cls := "RunningCountModel", name := "count", desc := "(II)I" } : Jvm.MethodName) ({ cls := "RunningCountModel", name := "count", desc := "(II)I" } : Jvm.MethodName)) ∈ GW := gwm 1266 (by decide +kernel) rfl
theorem gw_1267 : (Jvm.Cond.code ({ cls := "RunningCountModel", name := "count", desc := "(II)I" } : Jvm.MethodName) prog_11_method_58_code (3 : Nat) (Option.some Jvm.ClassFile.FieldType.int)) ∈ GW := gwm 1267 (by decide +kernel) rfl
theorem gw_1268 : (Jvm.Cond.methodLink "RunningCountModel" (219 : Nat) ({ cls := "RunningCountModel", name := "isCount", desc := "(I)Z" } : Jvm.MethodName)) ∈ GW := gwm 1268 (by decide +kernel) rfl
theorem gw_1270 : (Jvm.Cond.instanceMethod ({ cls := "RunningCountModel", name := "isCount", desc := "(I)Z" } : Jvm.MethodName)) ∈ GW := gwm 1270 (by decide +kernel) rfl
theorem gw_1271 : (Jvm.Cond.code ({ cls := "RunningCountModel", name := "isCount", desc := "(I)Z" } : Jvm.MethodName) prog_11_method_33_code (2 : Nat) (Option.some Jvm.ClassFile.FieldType.boolean)) ∈ GW := gwm 1271 (by decide +kernel) rfl
theorem gw_1272 : (Jvm.Cond.methodLink "RunningCountModel" (222 : Nat) ({ cls := "RunningCountModel", name := "allowed", desc := "(I)I" } : Jvm.MethodName)) ∈ GW := gwm 1272 (by decide +kernel) rfl
theorem gw_1274 : (Jvm.Cond.instanceMethod ({ cls := "RunningCountModel", name := "allowed", desc := "(I)I" } : Jvm.MethodName)) ∈ GW := gwm 1274 (by decide +kernel) rfl
theorem gw_1275 : (Jvm.Cond.code ({ cls := "RunningCountModel", name := "allowed", desc := "(I)I" } : Jvm.MethodName) prog_11_method_55_code (5 : Nat) (Option.some Jvm.ClassFile.FieldType.int)) ∈ GW := gwm 1275 (by decide +kernel) rfl
theorem gw_1276 : (Jvm.Cond.methodLink "RunningCountModel" (216 : Nat) ({ cls := "RunningCountModel", name := "sureOf", desc := "(I)I" } : Jvm.MethodName)) ∈ GW := gwm 1276 (by decide +kernel) rfl
theorem gw_1278 : (Jvm.Cond.instanceMethod ({ cls := "RunningCountModel", name := "sureOf", desc := "(I)I" } : Jvm.MethodName)) ∈ GW := gwm 1278 (by decide +kernel) rfl
theorem gw_1279 : (Jvm.Cond.code ({ cls := "RunningCountModel", name := "sureOf", desc := "(I)I" } : Jvm.MethodName) prog_11_method_53_code (2 : Nat) (Option.some Jvm.ClassFile.FieldType.int)) ∈ GW := gwm 1279 (by decide +kernel) rfl
theorem gw_1280 : (Jvm.Cond.methodLink "RunningCountLaw" (79 : Nat) ({ cls := "RunningCountModel", name := "difference", desc := "(I)I" } : Jvm.MethodName)) ∈ GW := gwm 1280 (by decide +kernel) rfl
theorem gw_1281 : (Jvm.Cond.instanceMethod ({ cls := "RunningCountModel", name := "difference", desc := "(I)I" } : Jvm.MethodName)) ∈ GW := gwm 1281 (by decide +kernel) rfl
theorem gw_1282 : (Jvm.Cond.selects "RunningCountModel" ({ cls := "RunningCountModel", name := "difference", desc := "(I)I" } : Jvm.MethodName) ({ cls := "RunningCountModel", name := "difference", desc := "(I)I" } : Jvm.MethodName)) ∈ GW := gwm 1282 (by decide +kernel) rfl
theorem gw_1283 : (Jvm.Cond.code ({ cls := "RunningCountModel", name := "difference", desc := "(I)I" } : Jvm.MethodName) prog_11_method_59_code (2 : Nat) (Option.some Jvm.ClassFile.FieldType.int)) ∈ GW := gwm 1283 (by decide +kernel) rfl
theorem gw_1284 : (Jvm.Cond.methodLink "RunningCountModel" (225 : Nat) ({ cls := "RunningCountModel", name := "differenceOf", desc := "(I)I" } : Jvm.MethodName)) ∈ GW := gwm 1284 (by decide +kernel) rfl
theorem gw_1286 : (Jvm.Cond.instanceMethod ({ cls := "RunningCountModel", name := "differenceOf", desc := "(I)I" } : Jvm.MethodName)) ∈ GW := gwm 1286 (by decide +kernel) rfl
theorem gw_1287 : (Jvm.Cond.code ({ cls := "RunningCountModel", name := "differenceOf", desc := "(I)I" } : Jvm.MethodName) prog_11_method_54_code (5 : Nat) (Option.some Jvm.ClassFile.FieldType.int)) ∈ GW := gwm 1287 (by decide +kernel) rfl
theorem gw_1288 : (Jvm.Cond.methodLink "RunningCountLaw" (83 : Nat) ({ cls := "RunningCountModel", name := "share", desc := "(I)I" } : Jvm.MethodName)) ∈ GW := gwm 1288 (by decide +kernel) rfl
theorem gw_1289 : (Jvm.Cond.instanceMethod ({ cls := "RunningCountModel", name := "share", desc := "(I)I" } : Jvm.MethodName)) ∈ GW := gwm 1289 (by decide +kernel) rfl
theorem gw_1290 : (Jvm.Cond.selects "RunningCountModel" ({ cls := "RunningCountModel", name := "share", desc := "(I)I" } : Jvm.MethodName) ({ cls := "RunningCountModel", name := "share", desc := "(I)I" } : Jvm.MethodName)) ∈ GW := gwm 1290 (by decide +kernel) rfl
theorem gw_1291 : (Jvm.Cond.code ({ cls := "RunningCountModel", name := "share", desc := "(I)I" } : Jvm.MethodName) prog_11_method_60_code (3 : Nat) (Option.some Jvm.ClassFile.FieldType.int)) ∈ GW := gwm 1291 (by decide +kernel) rfl
theorem gw_1292 : (Jvm.Cond.constantFloat "RunningCountModel" (228 : Nat) (1148846080 : UInt32)) ∈ GW := gwm 1292 (by decide +kernel) rfl
theorem gw_1293 : (Jvm.Cond.methodLink "RunningCountLaw" (87 : Nat) ({ cls := "RunningCountModel", name := "chosen", desc := "(II)I" } : Jvm.MethodName)) ∈ GW := gwm 1293 (by decide +kernel) rfl
theorem gw_1294 : (Jvm.Cond.instanceMethod ({ cls := "RunningCountModel", name := "chosen", desc := "(II)I" } : Jvm.MethodName)) ∈ GW := gwm 1294 (by decide +kernel) rfl
theorem gw_1295 : (Jvm.Cond.selects "RunningCountModel" ({ cls := "RunningCountModel", name := "chosen", desc := "(II)I" } : Jvm.MethodName) ({ cls := "RunningCountModel", name := "chosen", desc := "(II)I" } : Jvm.MethodName)) ∈ GW := gwm 1295 (by decide +kernel) rfl
theorem gw_1296 : (Jvm.Cond.code ({ cls := "RunningCountModel", name := "chosen", desc := "(II)I" } : Jvm.MethodName) prog_11_method_64_code (3 : Nat) (Option.some Jvm.ClassFile.FieldType.int)) ∈ GW := gwm 1296 (by decide +kernel) rfl
theorem gw_1297 : (Jvm.Cond.methodLink "RunningCountModel" (242 : Nat) ({ cls := "RunningCountModel", name := "choose", desc := "(II)I" } : Jvm.MethodName)) ∈ GW := gwm 1297 (by decide +kernel) rfl
theorem gw_1299 : (Jvm.Cond.instanceMethod ({ cls := "RunningCountModel", name := "choose", desc := "(II)I" } : Jvm.MethodName)) ∈ GW := gwm 1299 (by decide +kernel) rfl
theorem gw_1300 : (Jvm.Cond.code ({ cls := "RunningCountModel", name := "choose", desc := "(II)I" } : Jvm.MethodName) prog_11_method_63_code (6 : Nat) (Option.some Jvm.ClassFile.FieldType.int)) ∈ GW := gwm 1300 (by decide +kernel) rfl
theorem gw_1301 : (Jvm.Cond.methodLink "RunningCountModel" (235 : Nat) ({ cls := "RunningCountModel", name := "laysOpen", desc := "(II)V" } : Jvm.MethodName)) ∈ GW := gwm 1301 (by decide +kernel) rfl
theorem gw_1303 : (Jvm.Cond.instanceMethod ({ cls := "RunningCountModel", name := "laysOpen", desc := "(II)V" } : Jvm.MethodName)) ∈ GW := gwm 1303 (by decide +kernel) rfl
theorem gw_1304 : (Jvm.Cond.code ({ cls := "RunningCountModel", name := "laysOpen", desc := "(II)V" } : Jvm.MethodName) prog_11_method_61_code (5 : Nat) (Option.none : Option Jvm.ClassFile.FieldType)) ∈ GW := gwm 1304 (by decide +kernel) rfl
theorem gw_1305 : (Jvm.Cond.methodLink "RunningCountModel" (232 : Nat) ({ cls := "RunningCountModel", name := "isOpenAt", desc := "(III)Z" } : Jvm.MethodName)) ∈ GW := gwm 1305 (by decide +kernel) rfl
theorem gw_1307 : (Jvm.Cond.instanceMethod ({ cls := "RunningCountModel", name := "isOpenAt", desc := "(III)Z" } : Jvm.MethodName)) ∈ GW := gwm 1307 (by decide +kernel) rfl
theorem gw_1308 : (Jvm.Cond.code ({ cls := "RunningCountModel", name := "isOpenAt", desc := "(III)Z" } : Jvm.MethodName) prog_11_method_56_code (4 : Nat) (Option.some Jvm.ClassFile.FieldType.boolean)) ∈ GW := gwm 1308 (by decide +kernel) rfl
theorem gw_1309 : (Jvm.Cond.methodLink "RunningCountModel" (239 : Nat) ({ cls := "RunningCountModel", name := "far", desc := "(II)I" } : Jvm.MethodName)) ∈ GW := gwm 1309 (by decide +kernel) rfl
theorem gw_1310 : (Jvm.Cond.static ({ cls := "RunningCountModel", name := "far", desc := "(II)I" } : Jvm.MethodName)) ∈ GW := gwm 1310 (by decide +kernel) rfl
theorem gw_1311 : (Jvm.Cond.code ({ cls := "RunningCountModel", name := "far", desc := "(II)I" } : Jvm.MethodName) prog_11_method_62_code (2 : Nat) (Option.some Jvm.ClassFile.FieldType.int)) ∈ GW := gwm 1311 (by decide +kernel) rfl
theorem gw_1312 : (Jvm.Cond.methodLink "RunningCountLaw" (91 : Nat) ({ cls := "RunningCountModel", name := "due", desc := "()I" } : Jvm.MethodName)) ∈ GW := gwm 1312 (by decide +kernel) rfl
theorem gw_1313 : (Jvm.Cond.instanceMethod ({ cls := "RunningCountModel", name := "due", desc := "()I" } : Jvm.MethodName)) ∈ GW := gwm 1313 (by decide +kernel) rfl
theorem gw_1314 : (Jvm.Cond.selects "RunningCountModel" ({ cls := "RunningCountModel", name := "due", desc := "()I" } : Jvm.MethodName) ({ cls := "RunningCountModel", name := "due", desc := "()I" } : Jvm.MethodName)) ∈ GW := gwm 1314 (by decide +kernel) rfl
theorem gw_1315 : (Jvm.Cond.code ({ cls := "RunningCountModel", name := "due", desc := "()I" } : Jvm.MethodName) prog_11_method_65_code (3 : Nat) (Option.some Jvm.ClassFile.FieldType.int)) ∈ GW := gwm 1315 (by decide +kernel) rfl
theorem gw_1316 : (Jvm.Cond.methodLink "RunningCountLaw" (95 : Nat) ({ cls := "RunningCountModel", name := "explained", desc := "(II)I" } : Jvm.MethodName)) ∈ GW := gwm 1316 (by decide +kernel) rfl
theorem gw_1317 : (Jvm.Cond.instanceMethod ({ cls := "RunningCountModel", name := "explained", desc := "(II)I" } : Jvm.MethodName)) ∈ GW := gwm 1317 (by decide +kernel) rfl
theorem gw_1318 : (Jvm.Cond.selects "RunningCountModel" ({ cls := "RunningCountModel", name := "explained", desc := "(II)I" } : Jvm.MethodName) ({ cls := "RunningCountModel", name := "explained", desc := "(II)I" } : Jvm.MethodName)) ∈ GW := gwm 1318 (by decide +kernel) rfl
theorem gw_1319 : (Jvm.Cond.code ({ cls := "RunningCountModel", name := "explained", desc := "(II)I" } : Jvm.MethodName) prog_11_method_66_code (9 : Nat) (Option.some Jvm.ClassFile.FieldType.int)) ∈ GW := gwm 1319 (by decide +kernel) rfl
theorem gw_1320 : (Jvm.Cond.methodLink "RunningCountLaw" (99 : Nat) ({ cls := "RunningCountModel", name := "adjusted", desc := "(II)I" } : Jvm.MethodName)) ∈ GW := gwm 1320 (by decide +kernel) rfl
theorem gw_1321 : (Jvm.Cond.instanceMethod ({ cls := "RunningCountModel", name := "adjusted", desc := "(II)I" } : Jvm.MethodName)) ∈ GW := gwm 1321 (by decide +kernel) rfl
theorem gw_1322 : (Jvm.Cond.selects "RunningCountModel" ({ cls := "RunningCountModel", name := "adjusted", desc := "(II)I" } : Jvm.MethodName) ({ cls := "RunningCountModel", name := "adjusted", desc := "(II)I" } : Jvm.MethodName)) ∈ GW := gwm 1322 (by decide +kernel) rfl
theorem gw_1323 : (Jvm.Cond.code ({ cls := "RunningCountModel", name := "adjusted", desc := "(II)I" } : Jvm.MethodName) prog_11_method_67_code (3 : Nat) (Option.some Jvm.ClassFile.FieldType.int)) ∈ GW := gwm 1323 (by decide +kernel) rfl
theorem gw_1324 : (Jvm.Cond.methodLink "RunningCountLaw" (103 : Nat) ({ cls := "RunningCountModel", name := "moves", desc := "(II)I" } : Jvm.MethodName)) ∈ GW := gwm 1324 (by decide +kernel) rfl
theorem gw_1325 : (Jvm.Cond.instanceMethod ({ cls := "RunningCountModel", name := "moves", desc := "(II)I" } : Jvm.MethodName)) ∈ GW := gwm 1325 (by decide +kernel) rfl
theorem gw_1326 : (Jvm.Cond.selects "RunningCountModel" ({ cls := "RunningCountModel", name := "moves", desc := "(II)I" } : Jvm.MethodName) ({ cls := "RunningCountModel", name := "moves", desc := "(II)I" } : Jvm.MethodName)) ∈ GW := gwm 1326 (by decide +kernel) rfl
theorem gw_1327 : (Jvm.Cond.code ({ cls := "RunningCountModel", name := "moves", desc := "(II)I" } : Jvm.MethodName) prog_11_method_69_code (5 : Nat) (Option.some Jvm.ClassFile.FieldType.int)) ∈ GW := gwm 1327 (by decide +kernel) rfl
theorem gw_1328 : (Jvm.Cond.methodLink "RunningCountModel" (245 : Nat) ({ cls := "RunningCountModel", name := "snap", desc := "()V" } : Jvm.MethodName)) ∈ GW := gwm 1328 (by decide +kernel) rfl
theorem gw_1330 : (Jvm.Cond.instanceMethod ({ cls := "RunningCountModel", name := "snap", desc := "()V" } : Jvm.MethodName)) ∈ GW := gwm 1330 (by decide +kernel) rfl
theorem gw_1331 : (Jvm.Cond.code ({ cls := "RunningCountModel", name := "snap", desc := "()V" } : Jvm.MethodName) prog_11_method_68_code (2 : Nat) (Option.none : Option Jvm.ClassFile.FieldType)) ∈ GW := gwm 1331 (by decide +kernel) rfl
theorem gw_1332 : (Jvm.Cond.methodLink "RunningCountLaw" (108 : Nat) ({ cls := "RunningCountModel", name := "leg", desc := "(IIIII)Z" } : Jvm.MethodName)) ∈ GW := gwm 1332 (by decide +kernel) rfl
theorem gw_1333 : (Jvm.Cond.instanceMethod ({ cls := "RunningCountModel", name := "leg", desc := "(IIIII)Z" } : Jvm.MethodName)) ∈ GW := gwm 1333 (by decide +kernel) rfl
theorem gw_1334 : (Jvm.Cond.selects "RunningCountModel" ({ cls := "RunningCountModel", name := "leg", desc := "(IIIII)Z" } : Jvm.MethodName) ({ cls := "RunningCountModel", name := "leg", desc := "(IIIII)Z" } : Jvm.MethodName)) ∈ GW := gwm 1334 (by decide +kernel) rfl
theorem gw_1335 : (Jvm.Cond.code ({ cls := "RunningCountModel", name := "leg", desc := "(IIIII)Z" } : Jvm.MethodName) prog_11_method_71_code (7 : Nat) (Option.some Jvm.ClassFile.FieldType.boolean)) ∈ GW := gwm 1335 (by decide +kernel) rfl
theorem gw_1336 : (Jvm.Cond.methodLink "RunningCountModel" (248 : Nat) ({ cls := "RunningCountModel", name := "isSpan", desc := "(II)Z" } : Jvm.MethodName)) ∈ GW := gwm 1336 (by decide +kernel) rfl
theorem gw_1337 : (Jvm.Cond.static ({ cls := "RunningCountModel", name := "isSpan", desc := "(II)Z" } : Jvm.MethodName)) ∈ GW := gwm 1337 (by decide +kernel) rfl
theorem gw_1338 : (Jvm.Cond.code ({ cls := "RunningCountModel", name := "isSpan", desc := "(II)Z" } : Jvm.MethodName) prog_11_method_70_code (2 : Nat) (Option.some Jvm.ClassFile.FieldType.boolean)) ∈ GW := gwm 1338 (by decide +kernel) rfl
theorem gw_1339 : (Jvm.Cond.methodLink "RunningCountLaw" (112 : Nat) ({ cls := "RunningCountModel", name := "narrow", desc := "(IIII)I" } : Jvm.MethodName)) ∈ GW := gwm 1339 (by decide +kernel) rfl
theorem gw_1340 : (Jvm.Cond.instanceMethod ({ cls := "RunningCountModel", name := "narrow", desc := "(IIII)I" } : Jvm.MethodName)) ∈ GW := gwm 1340 (by decide +kernel) rfl
theorem gw_1341 : (Jvm.Cond.selects "RunningCountModel" ({ cls := "RunningCountModel", name := "narrow", desc := "(IIII)I" } : Jvm.MethodName) ({ cls := "RunningCountModel", name := "narrow", desc := "(IIII)I" } : Jvm.MethodName)) ∈ GW := gwm 1341 (by decide +kernel) rfl
theorem gw_1342 : (Jvm.Cond.code ({ cls := "RunningCountModel", name := "narrow", desc := "(IIII)I" } : Jvm.MethodName) prog_11_method_72_code (7 : Nat) (Option.some Jvm.ClassFile.FieldType.int)) ∈ GW := gwm 1342 (by decide +kernel) rfl
theorem gw_1343 : (Jvm.Cond.methodLink "RunningCountLaw" (116 : Nat) ({ cls := "RunningCountModel", name := "counts", desc := "(IIIII)I" } : Jvm.MethodName)) ∈ GW := gwm 1343 (by decide +kernel) rfl
theorem gw_1344 : (Jvm.Cond.instanceMethod ({ cls := "RunningCountModel", name := "counts", desc := "(IIIII)I" } : Jvm.MethodName)) ∈ GW := gwm 1344 (by decide +kernel) rfl
theorem gw_1345 : (Jvm.Cond.selects "RunningCountModel" ({ cls := "RunningCountModel", name := "counts", desc := "(IIIII)I" } : Jvm.MethodName) ({ cls := "RunningCountModel", name := "counts", desc := "(IIIII)I" } : Jvm.MethodName)) ∈ GW := gwm 1345 (by decide +kernel) rfl
theorem gw_1346 : (Jvm.Cond.code ({ cls := "RunningCountModel", name := "counts", desc := "(IIIII)I" } : Jvm.MethodName) prog_11_method_74_code (8 : Nat) (Option.some Jvm.ClassFile.FieldType.int)) ∈ GW := gwm 1346 (by decide +kernel) rfl
theorem gw_1347 : (Jvm.Cond.methodLink "RunningCountModel" (251 : Nat) ({ cls := "RunningCountModel", name := "whyNot", desc := "(IIII)I" } : Jvm.MethodName)) ∈ GW := gwm 1347 (by decide +kernel) rfl
theorem gw_1349 : (Jvm.Cond.instanceMethod ({ cls := "RunningCountModel", name := "whyNot", desc := "(IIII)I" } : Jvm.MethodName)) ∈ GW := gwm 1349 (by decide +kernel) rfl
theorem gw_1350 : (Jvm.Cond.code ({ cls := "RunningCountModel", name := "whyNot", desc := "(IIII)I" } : Jvm.MethodName) prog_11_method_73_code (8 : Nat) (Option.some Jvm.ClassFile.FieldType.int)) ∈ GW := gwm 1350 (by decide +kernel) rfl
theorem gw_1351 : (Jvm.Cond.methodLink "RunningCountLaw" (120 : Nat) ({ cls := "RunningCountModel", name := "post", desc := "(II)I" } : Jvm.MethodName)) ∈ GW := gwm 1351 (by decide +kernel) rfl
theorem gw_1352 : (Jvm.Cond.instanceMethod ({ cls := "RunningCountModel", name := "post", desc := "(II)I" } : Jvm.MethodName)) ∈ GW := gwm 1352 (by decide +kernel) rfl
theorem gw_1353 : (Jvm.Cond.selects "RunningCountModel" ({ cls := "RunningCountModel", name := "post", desc := "(II)I" } : Jvm.MethodName) ({ cls := "RunningCountModel", name := "post", desc := "(II)I" } : Jvm.MethodName)) ∈ GW := gwm 1353 (by decide +kernel) rfl
theorem gw_1354 : (Jvm.Cond.code ({ cls := "RunningCountModel", name := "post", desc := "(II)I" } : Jvm.MethodName) prog_11_method_75_code (7 : Nat) (Option.some Jvm.ClassFile.FieldType.int)) ∈ GW := gwm 1354 (by decide +kernel) rfl
theorem gw_1355 : (Jvm.Cond.methodLink "RunningCountLaw" (124 : Nat) ({ cls := "RunningCountModel", name := "drop", desc := "(I)Z" } : Jvm.MethodName)) ∈ GW := gwm 1355 (by decide +kernel) rfl
theorem gw_1356 : (Jvm.Cond.instanceMethod ({ cls := "RunningCountModel", name := "drop", desc := "(I)Z" } : Jvm.MethodName)) ∈ GW := gwm 1356 (by decide +kernel) rfl
theorem gw_1357 : (Jvm.Cond.selects "RunningCountModel" ({ cls := "RunningCountModel", name := "drop", desc := "(I)Z" } : Jvm.MethodName) ({ cls := "RunningCountModel", name := "drop", desc := "(I)Z" } : Jvm.MethodName)) ∈ GW := gwm 1357 (by decide +kernel) rfl
theorem gw_1358 : (Jvm.Cond.code ({ cls := "RunningCountModel", name := "drop", desc := "(I)Z" } : Jvm.MethodName) prog_11_method_76_code (3 : Nat) (Option.some Jvm.ClassFile.FieldType.boolean)) ∈ GW := gwm 1358 (by decide +kernel) rfl
theorem gw_1359 : (Jvm.Cond.methodLink "RunningCountLaw" (128 : Nat) ({ cls := "RunningCountModel", name := "undo", desc := "()I" } : Jvm.MethodName)) ∈ GW := gwm 1359 (by decide +kernel) rfl
theorem gw_1360 : (Jvm.Cond.instanceMethod ({ cls := "RunningCountModel", name := "undo", desc := "()I" } : Jvm.MethodName)) ∈ GW := gwm 1360 (by decide +kernel) rfl
theorem gw_1361 : (Jvm.Cond.selects "RunningCountModel" ({ cls := "RunningCountModel", name := "undo", desc := "()I" } : Jvm.MethodName) ({ cls := "RunningCountModel", name := "undo", desc := "()I" } : Jvm.MethodName)) ∈ GW := gwm 1361 (by decide +kernel) rfl
theorem gw_1362 : (Jvm.Cond.code ({ cls := "RunningCountModel", name := "undo", desc := "()I" } : Jvm.MethodName) prog_11_method_77_code (2 : Nat) (Option.some Jvm.ClassFile.FieldType.int)) ∈ GW := gwm 1362 (by decide +kernel) rfl
theorem gw_1363 : (Jvm.Cond.arrayClass Jvm.ClassFile.FieldType.long) ∈ GW := gwm 1363 (by decide +kernel) rfl
theorem gw_1378 : (Jvm.Cond.fieldLink "java/lang/String" (9 : Nat) "java/lang/String" "value" "[B") ∈ GW := gwm 1378 (by decide +kernel) rfl
theorem gw_1379 : (Jvm.Cond.fieldLink "java/lang/String" (15 : Nat) "java/lang/String" "coder" "B") ∈ GW := gwm 1379 (by decide +kernel) rfl
