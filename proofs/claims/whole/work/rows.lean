section
-- ===== PART A: goes FIRST, ahead of the names: the tables' words, and 'selects' of the private methods out of them =====
/-- a private method of a class that the tables say can be made, by its rows of tables_1 -/
def lw_okq (q : MethodName × Nat) : Prop := (q.1.cls ≠ "java/lang/invoke/MethodHandle" ∧ q.1.cls ≠ "java/lang/invoke/VarHandle") ∧ Cond.instantiable q.1.cls q.2 ∈ tables_1 ∧ Cond.privateMethod q.1 ∈ tables_1 ∧ Cond.instanceMethod q.1 ∈ tables_1
theorem lw_p0 : lw_okq (⟨"RunningCount$Tape", "hasRoom", "()Z"⟩, 5) := ⟨⟨by decide +kernel, by decide +kernel⟩, List.mem_of_getElem? (i := 35) (by decide +kernel), List.mem_of_getElem? (i := 322) (by decide +kernel), List.mem_of_getElem? (i := 323) (by decide +kernel)⟩
theorem lw_p1 : lw_okq (⟨"RunningCount$Tape", "append", "(I)V"⟩, 5) := ⟨⟨by decide +kernel, by decide +kernel⟩, List.mem_of_getElem? (i := 35) (by decide +kernel), List.mem_of_getElem? (i := 326) (by decide +kernel), List.mem_of_getElem? (i := 327) (by decide +kernel)⟩
theorem lw_p2 : lw_okq (⟨"RunningCount$TextReader", "readText", "(LRunningCount$Goods;)Z"⟩, 8) := ⟨⟨by decide +kernel, by decide +kernel⟩, List.mem_of_getElem? (i := 29) (by decide +kernel), List.mem_of_getElem? (i := 338) (by decide +kernel), List.mem_of_getElem? (i := 339) (by decide +kernel)⟩
theorem lw_p3 : lw_okq (⟨"RunningCount$Tape", "scan", "()V"⟩, 5) := ⟨⟨by decide +kernel, by decide +kernel⟩, List.mem_of_getElem? (i := 35) (by decide +kernel), List.mem_of_getElem? (i := 342) (by decide +kernel), List.mem_of_getElem? (i := 343) (by decide +kernel)⟩
theorem lw_p4 : lw_okq (⟨"RunningCount$Tape", "behindRun", "(I)I"⟩, 5) := ⟨⟨by decide +kernel, by decide +kernel⟩, List.mem_of_getElem? (i := 35) (by decide +kernel), List.mem_of_getElem? (i := 352) (by decide +kernel), List.mem_of_getElem? (i := 353) (by decide +kernel)⟩
theorem lw_p5 : lw_okq (⟨"RunningCount$Tape", "kindOf", "(II)I"⟩, 5) := ⟨⟨by decide +kernel, by decide +kernel⟩, List.mem_of_getElem? (i := 35) (by decide +kernel), List.mem_of_getElem? (i := 365) (by decide +kernel), List.mem_of_getElem? (i := 366) (by decide +kernel)⟩
theorem lw_p6 : lw_okq (⟨"RunningCount$Tape", "kindOfWord", "(II)I"⟩, 5) := ⟨⟨by decide +kernel, by decide +kernel⟩, List.mem_of_getElem? (i := 35) (by decide +kernel), List.mem_of_getElem? (i := 369) (by decide +kernel), List.mem_of_getElem? (i := 370) (by decide +kernel)⟩
theorem lw_p7 : lw_okq (⟨"RunningCount$Tape", "isWord", "(IILjava/lang/String;)Z"⟩, 5) := ⟨⟨by decide +kernel, by decide +kernel⟩, List.mem_of_getElem? (i := 35) (by decide +kernel), List.mem_of_getElem? (i := 374) (by decide +kernel), List.mem_of_getElem? (i := 375) (by decide +kernel)⟩
theorem lw_p8 : lw_okq (⟨"RunningCount$Tape", "addToken", "(II)V"⟩, 5) := ⟨⟨by decide +kernel, by decide +kernel⟩, List.mem_of_getElem? (i := 35) (by decide +kernel), List.mem_of_getElem? (i := 431) (by decide +kernel), List.mem_of_getElem? (i := 432) (by decide +kernel)⟩
theorem lw_p9 : lw_okq (⟨"RunningCount$Goods", "clear", "()V"⟩, 11) := ⟨⟨by decide +kernel, by decide +kernel⟩, List.mem_of_getElem? (i := 93) (by decide +kernel), List.mem_of_getElem? (i := 435) (by decide +kernel), List.mem_of_getElem? (i := 436) (by decide +kernel)⟩
theorem lw_p10 : lw_okq (⟨"RunningCount$TextReader", "advance", "()V"⟩, 8) := ⟨⟨by decide +kernel, by decide +kernel⟩, List.mem_of_getElem? (i := 29) (by decide +kernel), List.mem_of_getElem? (i := 439) (by decide +kernel), List.mem_of_getElem? (i := 440) (by decide +kernel)⟩
theorem lw_p11 : lw_okq (⟨"RunningCount$TextReader", "readShelves", "(LRunningCount$Goods;)Z"⟩, 8) := ⟨⟨by decide +kernel, by decide +kernel⟩, List.mem_of_getElem? (i := 29) (by decide +kernel), List.mem_of_getElem? (i := 443) (by decide +kernel), List.mem_of_getElem? (i := 444) (by decide +kernel)⟩
theorem lw_p12 : lw_okq (⟨"RunningCount$TextReader", "take", "(I)Z"⟩, 8) := ⟨⟨by decide +kernel, by decide +kernel⟩, List.mem_of_getElem? (i := 29) (by decide +kernel), List.mem_of_getElem? (i := 447) (by decide +kernel), List.mem_of_getElem? (i := 448) (by decide +kernel)⟩
theorem lw_p13 : lw_okq (⟨"RunningCount$TextReader", "fail", "(I)Z"⟩, 8) := ⟨⟨by decide +kernel, by decide +kernel⟩, List.mem_of_getElem? (i := 29) (by decide +kernel), List.mem_of_getElem? (i := 451) (by decide +kernel), List.mem_of_getElem? (i := 452) (by decide +kernel)⟩
theorem lw_p14 : lw_okq (⟨"RunningCount$TextReader", "takeNumber", "(II)Z"⟩, 8) := ⟨⟨by decide +kernel, by decide +kernel⟩, List.mem_of_getElem? (i := 29) (by decide +kernel), List.mem_of_getElem? (i := 455) (by decide +kernel), List.mem_of_getElem? (i := 456) (by decide +kernel)⟩
theorem lw_p15 : lw_okq (⟨"RunningCount$TextReader", "takeLineEnd", "()Z"⟩, 8) := ⟨⟨by decide +kernel, by decide +kernel⟩, List.mem_of_getElem? (i := 29) (by decide +kernel), List.mem_of_getElem? (i := 459) (by decide +kernel), List.mem_of_getElem? (i := 460) (by decide +kernel)⟩
def lw_privs_1 : List (MethodName × Nat) := [(⟨"RunningCount$Tape", "hasRoom", "()Z"⟩, 5), (⟨"RunningCount$Tape", "append", "(I)V"⟩, 5), (⟨"RunningCount$TextReader", "readText", "(LRunningCount$Goods;)Z"⟩, 8), (⟨"RunningCount$Tape", "scan", "()V"⟩, 5), (⟨"RunningCount$Tape", "behindRun", "(I)I"⟩, 5), (⟨"RunningCount$Tape", "kindOf", "(II)I"⟩, 5), (⟨"RunningCount$Tape", "kindOfWord", "(II)I"⟩, 5), (⟨"RunningCount$Tape", "isWord", "(IILjava/lang/String;)Z"⟩, 5), (⟨"RunningCount$Tape", "addToken", "(II)V"⟩, 5), (⟨"RunningCount$Goods", "clear", "()V"⟩, 11), (⟨"RunningCount$TextReader", "advance", "()V"⟩, 8), (⟨"RunningCount$TextReader", "readShelves", "(LRunningCount$Goods;)Z"⟩, 8), (⟨"RunningCount$TextReader", "take", "(I)Z"⟩, 8), (⟨"RunningCount$TextReader", "fail", "(I)Z"⟩, 8), (⟨"RunningCount$TextReader", "takeNumber", "(II)Z"⟩, 8), (⟨"RunningCount$TextReader", "takeLineEnd", "()Z"⟩, 8)]
theorem lw_r1 : ∀ q ∈ lw_privs_1, lw_okq q := List.forall_mem_cons.mpr ⟨lw_p0, List.forall_mem_cons.mpr ⟨lw_p1, List.forall_mem_cons.mpr ⟨lw_p2, List.forall_mem_cons.mpr ⟨lw_p3, List.forall_mem_cons.mpr ⟨lw_p4, List.forall_mem_cons.mpr ⟨lw_p5, List.forall_mem_cons.mpr ⟨lw_p6, List.forall_mem_cons.mpr ⟨lw_p7, List.forall_mem_cons.mpr ⟨lw_p8, List.forall_mem_cons.mpr ⟨lw_p9, List.forall_mem_cons.mpr ⟨lw_p10, List.forall_mem_cons.mpr ⟨lw_p11, List.forall_mem_cons.mpr ⟨lw_p12, List.forall_mem_cons.mpr ⟨lw_p13, List.forall_mem_cons.mpr ⟨lw_p14, List.forall_mem_cons.mpr ⟨lw_p15, fun _ h => absurd h List.not_mem_nil⟩⟩⟩⟩⟩⟩⟩⟩⟩⟩⟩⟩⟩⟩⟩⟩
theorem lw_p16 : lw_okq (⟨"RunningCount$TextReader", "readItems", "(LRunningCount$Goods;)Z"⟩, 8) := ⟨⟨by decide +kernel, by decide +kernel⟩, List.mem_of_getElem? (i := 29) (by decide +kernel), List.mem_of_getElem? (i := 463) (by decide +kernel), List.mem_of_getElem? (i := 464) (by decide +kernel)⟩
theorem lw_p17 : lw_okq (⟨"RunningCount$TextReader", "readItem", "(LRunningCount$Goods;)Z"⟩, 8) := ⟨⟨by decide +kernel, by decide +kernel⟩, List.mem_of_getElem? (i := 29) (by decide +kernel), List.mem_of_getElem? (i := 467) (by decide +kernel), List.mem_of_getElem? (i := 468) (by decide +kernel)⟩
theorem lw_p18 : lw_okq (⟨"RunningCount$Goods", "addItem", "(II)V"⟩, 11) := ⟨⟨by decide +kernel, by decide +kernel⟩, List.mem_of_getElem? (i := 93) (by decide +kernel), List.mem_of_getElem? (i := 471) (by decide +kernel), List.mem_of_getElem? (i := 472) (by decide +kernel)⟩
theorem lw_p19 : lw_okq (⟨"RunningCount$TextReader", "readStocks", "(LRunningCount$Goods;)Z"⟩, 8) := ⟨⟨by decide +kernel, by decide +kernel⟩, List.mem_of_getElem? (i := 29) (by decide +kernel), List.mem_of_getElem? (i := 475) (by decide +kernel), List.mem_of_getElem? (i := 476) (by decide +kernel)⟩
theorem lw_p20 : lw_okq (⟨"RunningCount$TextReader", "readStock", "(LRunningCount$Goods;)Z"⟩, 8) := ⟨⟨by decide +kernel, by decide +kernel⟩, List.mem_of_getElem? (i := 29) (by decide +kernel), List.mem_of_getElem? (i := 479) (by decide +kernel), List.mem_of_getElem? (i := 480) (by decide +kernel)⟩
theorem lw_p21 : lw_okq (⟨"RunningCount$Goods", "isStockTold", "(II)Z"⟩, 11) := ⟨⟨by decide +kernel, by decide +kernel⟩, List.mem_of_getElem? (i := 93) (by decide +kernel), List.mem_of_getElem? (i := 483) (by decide +kernel), List.mem_of_getElem? (i := 484) (by decide +kernel)⟩
theorem lw_p22 : lw_okq (⟨"RunningCount$Goods", "hasCouple", "(II)Z"⟩, 11) := ⟨⟨by decide +kernel, by decide +kernel⟩, List.mem_of_getElem? (i := 93) (by decide +kernel), List.mem_of_getElem? (i := 487) (by decide +kernel), List.mem_of_getElem? (i := 488) (by decide +kernel)⟩
theorem lw_p23 : lw_okq (⟨"RunningCount$Goods", "hasShelf", "(I)Z"⟩, 11) := ⟨⟨by decide +kernel, by decide +kernel⟩, List.mem_of_getElem? (i := 93) (by decide +kernel), List.mem_of_getElem? (i := 491) (by decide +kernel), List.mem_of_getElem? (i := 492) (by decide +kernel)⟩
theorem lw_p24 : lw_okq (⟨"RunningCount$Goods", "hasItem", "(I)Z"⟩, 11) := ⟨⟨by decide +kernel, by decide +kernel⟩, List.mem_of_getElem? (i := 93) (by decide +kernel), List.mem_of_getElem? (i := 495) (by decide +kernel), List.mem_of_getElem? (i := 496) (by decide +kernel)⟩
theorem lw_p25 : lw_okq (⟨"RunningCount$Goods", "tellStock", "(III)V"⟩, 11) := ⟨⟨by decide +kernel, by decide +kernel⟩, List.mem_of_getElem? (i := 93) (by decide +kernel), List.mem_of_getElem? (i := 502) (by decide +kernel), List.mem_of_getElem? (i := 503) (by decide +kernel)⟩
theorem lw_p26 : lw_okq (⟨"RunningCount$TextReader", "readMoves", "(LRunningCount$Goods;)Z"⟩, 8) := ⟨⟨by decide +kernel, by decide +kernel⟩, List.mem_of_getElem? (i := 29) (by decide +kernel), List.mem_of_getElem? (i := 506) (by decide +kernel), List.mem_of_getElem? (i := 507) (by decide +kernel)⟩
theorem lw_p27 : lw_okq (⟨"RunningCount$TextReader", "readMove", "(LRunningCount$Goods;)Z"⟩, 8) := ⟨⟨by decide +kernel, by decide +kernel⟩, List.mem_of_getElem? (i := 29) (by decide +kernel), List.mem_of_getElem? (i := 510) (by decide +kernel), List.mem_of_getElem? (i := 511) (by decide +kernel)⟩
theorem lw_p28 : lw_okq (⟨"RunningCount$Goods", "addMove", "(II)I"⟩, 11) := ⟨⟨by decide +kernel, by decide +kernel⟩, List.mem_of_getElem? (i := 93) (by decide +kernel), List.mem_of_getElem? (i := 514) (by decide +kernel), List.mem_of_getElem? (i := 515) (by decide +kernel)⟩
theorem lw_p29 : lw_okq (⟨"RunningCount$Goods", "removeLeg", "(I)V"⟩, 11) := ⟨⟨by decide +kernel, by decide +kernel⟩, List.mem_of_getElem? (i := 93) (by decide +kernel), List.mem_of_getElem? (i := 521) (by decide +kernel), List.mem_of_getElem? (i := 522) (by decide +kernel)⟩
theorem lw_p30 : lw_okq (⟨"RunningCount$Goods", "setLeg", "(IIII)V"⟩, 11) := ⟨⟨by decide +kernel, by decide +kernel⟩, List.mem_of_getElem? (i := 93) (by decide +kernel), List.mem_of_getElem? (i := 525) (by decide +kernel), List.mem_of_getElem? (i := 526) (by decide +kernel)⟩
theorem lw_p31 : lw_okq (⟨"RunningCount$TextReader", "readLeg", "(LRunningCount$Goods;II)Z"⟩, 8) := ⟨⟨by decide +kernel, by decide +kernel⟩, List.mem_of_getElem? (i := 29) (by decide +kernel), List.mem_of_getElem? (i := 530) (by decide +kernel), List.mem_of_getElem? (i := 531) (by decide +kernel)⟩
def lw_privs_2 : List (MethodName × Nat) := [(⟨"RunningCount$TextReader", "readItems", "(LRunningCount$Goods;)Z"⟩, 8), (⟨"RunningCount$TextReader", "readItem", "(LRunningCount$Goods;)Z"⟩, 8), (⟨"RunningCount$Goods", "addItem", "(II)V"⟩, 11), (⟨"RunningCount$TextReader", "readStocks", "(LRunningCount$Goods;)Z"⟩, 8), (⟨"RunningCount$TextReader", "readStock", "(LRunningCount$Goods;)Z"⟩, 8), (⟨"RunningCount$Goods", "isStockTold", "(II)Z"⟩, 11), (⟨"RunningCount$Goods", "hasCouple", "(II)Z"⟩, 11), (⟨"RunningCount$Goods", "hasShelf", "(I)Z"⟩, 11), (⟨"RunningCount$Goods", "hasItem", "(I)Z"⟩, 11), (⟨"RunningCount$Goods", "tellStock", "(III)V"⟩, 11), (⟨"RunningCount$TextReader", "readMoves", "(LRunningCount$Goods;)Z"⟩, 8), (⟨"RunningCount$TextReader", "readMove", "(LRunningCount$Goods;)Z"⟩, 8), (⟨"RunningCount$Goods", "addMove", "(II)I"⟩, 11), (⟨"RunningCount$Goods", "removeLeg", "(I)V"⟩, 11), (⟨"RunningCount$Goods", "setLeg", "(IIII)V"⟩, 11), (⟨"RunningCount$TextReader", "readLeg", "(LRunningCount$Goods;II)Z"⟩, 8)]
theorem lw_r2 : ∀ q ∈ lw_privs_2, lw_okq q := List.forall_mem_cons.mpr ⟨lw_p16, List.forall_mem_cons.mpr ⟨lw_p17, List.forall_mem_cons.mpr ⟨lw_p18, List.forall_mem_cons.mpr ⟨lw_p19, List.forall_mem_cons.mpr ⟨lw_p20, List.forall_mem_cons.mpr ⟨lw_p21, List.forall_mem_cons.mpr ⟨lw_p22, List.forall_mem_cons.mpr ⟨lw_p23, List.forall_mem_cons.mpr ⟨lw_p24, List.forall_mem_cons.mpr ⟨lw_p25, List.forall_mem_cons.mpr ⟨lw_p26, List.forall_mem_cons.mpr ⟨lw_p27, List.forall_mem_cons.mpr ⟨lw_p28, List.forall_mem_cons.mpr ⟨lw_p29, List.forall_mem_cons.mpr ⟨lw_p30, List.forall_mem_cons.mpr ⟨lw_p31, fun _ h => absurd h List.not_mem_nil⟩⟩⟩⟩⟩⟩⟩⟩⟩⟩⟩⟩⟩⟩⟩⟩
theorem lw_p32 : lw_okq (⟨"RunningCount$TextReader", "readEnd", "()Z"⟩, 8) := ⟨⟨by decide +kernel, by decide +kernel⟩, List.mem_of_getElem? (i := 29) (by decide +kernel), List.mem_of_getElem? (i := 535) (by decide +kernel), List.mem_of_getElem? (i := 536) (by decide +kernel)⟩
theorem lw_p33 : lw_okq (⟨"RunningCount$CountList", "openCounts", "()I"⟩, 7) := ⟨⟨by decide +kernel, by decide +kernel⟩, List.mem_of_getElem? (i := 150) (by decide +kernel), List.mem_of_getElem? (i := 547) (by decide +kernel), List.mem_of_getElem? (i := 548) (by decide +kernel)⟩
theorem lw_p34 : lw_okq (⟨"RunningCount$Book", "readAt", "(LRunningCount$Goods;LRunningCount$AdjustmentList;III)V"⟩, 5) := ⟨⟨by decide +kernel, by decide +kernel⟩, List.mem_of_getElem? (i := 270) (by decide +kernel), List.mem_of_getElem? (i := 565) (by decide +kernel), List.mem_of_getElem? (i := 566) (by decide +kernel)⟩
theorem lw_p35 : lw_okq (⟨"RunningCount$Goods", "stockOf", "(II)I"⟩, 11) := ⟨⟨by decide +kernel, by decide +kernel⟩, List.mem_of_getElem? (i := 93) (by decide +kernel), List.mem_of_getElem? (i := 569) (by decide +kernel), List.mem_of_getElem? (i := 570) (by decide +kernel)⟩
theorem lw_p36 : lw_okq (⟨"RunningCount$AdjustmentList", "sumUpTo", "(III)I"⟩, 5) := ⟨⟨by decide +kernel, by decide +kernel⟩, List.mem_of_getElem? (i := 186) (by decide +kernel), List.mem_of_getElem? (i := 574) (by decide +kernel), List.mem_of_getElem? (i := 575) (by decide +kernel)⟩
theorem lw_p37 : lw_okq (⟨"RunningCount$AdjustmentList", "isAt", "(III)Z"⟩, 5) := ⟨⟨by decide +kernel, by decide +kernel⟩, List.mem_of_getElem? (i := 186) (by decide +kernel), List.mem_of_getElem? (i := 578) (by decide +kernel), List.mem_of_getElem? (i := 579) (by decide +kernel)⟩
theorem lw_p38 : lw_okq (⟨"RunningCount$Book", "readLeg", "(LRunningCount$Goods;IIII)V"⟩, 5) := ⟨⟨by decide +kernel, by decide +kernel⟩, List.mem_of_getElem? (i := 270) (by decide +kernel), List.mem_of_getElem? (i := 583) (by decide +kernel), List.mem_of_getElem? (i := 584) (by decide +kernel)⟩
theorem lw_p39 : lw_okq (⟨"RunningCount$Goods", "isOver", "(II)Z"⟩, 11) := ⟨⟨by decide +kernel, by decide +kernel⟩, List.mem_of_getElem? (i := 93) (by decide +kernel), List.mem_of_getElem? (i := 587) (by decide +kernel), List.mem_of_getElem? (i := 588) (by decide +kernel)⟩
theorem lw_p40 : lw_okq (⟨"RunningCount$Goods", "isToCome", "(II)Z"⟩, 11) := ⟨⟨by decide +kernel, by decide +kernel⟩, List.mem_of_getElem? (i := 93) (by decide +kernel), List.mem_of_getElem? (i := 591) (by decide +kernel), List.mem_of_getElem? (i := 592) (by decide +kernel)⟩
theorem lw_p41 : lw_okq (⟨"RunningCount$Book", "addDoubt", "(I)V"⟩, 5) := ⟨⟨by decide +kernel, by decide +kernel⟩, List.mem_of_getElem? (i := 270) (by decide +kernel), List.mem_of_getElem? (i := 595) (by decide +kernel), List.mem_of_getElem? (i := 596) (by decide +kernel)⟩
theorem lw_p42 : lw_okq (⟨"RunningCount", "isInTransit", "(IIZ)Z"⟩, 7) := ⟨⟨by decide +kernel, by decide +kernel⟩, List.mem_of_getElem? (i := 21) (by decide +kernel), List.mem_of_getElem? (i := 603) (by decide +kernel), List.mem_of_getElem? (i := 604) (by decide +kernel)⟩
theorem lw_p43 : lw_okq (⟨"RunningCount$Goods", "isThere", "(I)Z"⟩, 11) := ⟨⟨by decide +kernel, by decide +kernel⟩, List.mem_of_getElem? (i := 93) (by decide +kernel), List.mem_of_getElem? (i := 608) (by decide +kernel), List.mem_of_getElem? (i := 609) (by decide +kernel)⟩
theorem lw_p44 : lw_okq (⟨"RunningCount", "isBelow", "(III)Z"⟩, 7) := ⟨⟨by decide +kernel, by decide +kernel⟩, List.mem_of_getElem? (i := 21) (by decide +kernel), List.mem_of_getElem? (i := 618) (by decide +kernel), List.mem_of_getElem? (i := 619) (by decide +kernel)⟩
theorem lw_p45 : lw_okq (⟨"RunningCount$CountList", "has", "(I)Z"⟩, 7) := ⟨⟨by decide +kernel, by decide +kernel⟩, List.mem_of_getElem? (i := 150) (by decide +kernel), List.mem_of_getElem? (i := 627) (by decide +kernel), List.mem_of_getElem? (i := 628) (by decide +kernel)⟩
theorem lw_p46 : lw_okq (⟨"RunningCount", "differenceOf", "(I)I"⟩, 7) := ⟨⟨by decide +kernel, by decide +kernel⟩, List.mem_of_getElem? (i := 21) (by decide +kernel), List.mem_of_getElem? (i := 631) (by decide +kernel), List.mem_of_getElem? (i := 632) (by decide +kernel)⟩
theorem lw_p47 : lw_okq (⟨"RunningCount", "turnTo", "(I)V"⟩, 7) := ⟨⟨by decide +kernel, by decide +kernel⟩, List.mem_of_getElem? (i := 21) (by decide +kernel), List.mem_of_getElem? (i := 635) (by decide +kernel), List.mem_of_getElem? (i := 636) (by decide +kernel)⟩
def lw_privs_3 : List (MethodName × Nat) := [(⟨"RunningCount$TextReader", "readEnd", "()Z"⟩, 8), (⟨"RunningCount$CountList", "openCounts", "()I"⟩, 7), (⟨"RunningCount$Book", "readAt", "(LRunningCount$Goods;LRunningCount$AdjustmentList;III)V"⟩, 5), (⟨"RunningCount$Goods", "stockOf", "(II)I"⟩, 11), (⟨"RunningCount$AdjustmentList", "sumUpTo", "(III)I"⟩, 5), (⟨"RunningCount$AdjustmentList", "isAt", "(III)Z"⟩, 5), (⟨"RunningCount$Book", "readLeg", "(LRunningCount$Goods;IIII)V"⟩, 5), (⟨"RunningCount$Goods", "isOver", "(II)Z"⟩, 11), (⟨"RunningCount$Goods", "isToCome", "(II)Z"⟩, 11), (⟨"RunningCount$Book", "addDoubt", "(I)V"⟩, 5), (⟨"RunningCount", "isInTransit", "(IIZ)Z"⟩, 7), (⟨"RunningCount$Goods", "isThere", "(I)Z"⟩, 11), (⟨"RunningCount", "isBelow", "(III)Z"⟩, 7), (⟨"RunningCount$CountList", "has", "(I)Z"⟩, 7), (⟨"RunningCount", "differenceOf", "(I)I"⟩, 7), (⟨"RunningCount", "turnTo", "(I)V"⟩, 7)]
theorem lw_r3 : ∀ q ∈ lw_privs_3, lw_okq q := List.forall_mem_cons.mpr ⟨lw_p32, List.forall_mem_cons.mpr ⟨lw_p33, List.forall_mem_cons.mpr ⟨lw_p34, List.forall_mem_cons.mpr ⟨lw_p35, List.forall_mem_cons.mpr ⟨lw_p36, List.forall_mem_cons.mpr ⟨lw_p37, List.forall_mem_cons.mpr ⟨lw_p38, List.forall_mem_cons.mpr ⟨lw_p39, List.forall_mem_cons.mpr ⟨lw_p40, List.forall_mem_cons.mpr ⟨lw_p41, List.forall_mem_cons.mpr ⟨lw_p42, List.forall_mem_cons.mpr ⟨lw_p43, List.forall_mem_cons.mpr ⟨lw_p44, List.forall_mem_cons.mpr ⟨lw_p45, List.forall_mem_cons.mpr ⟨lw_p46, List.forall_mem_cons.mpr ⟨lw_p47, fun _ h => absurd h List.not_mem_nil⟩⟩⟩⟩⟩⟩⟩⟩⟩⟩⟩⟩⟩⟩⟩⟩
theorem lw_p48 : lw_okq (⟨"RunningCount", "chosenOf", "(II)I"⟩, 7) := ⟨⟨by decide +kernel, by decide +kernel⟩, List.mem_of_getElem? (i := 21) (by decide +kernel), List.mem_of_getElem? (i := 648) (by decide +kernel), List.mem_of_getElem? (i := 649) (by decide +kernel)⟩
theorem lw_p49 : lw_okq (⟨"RunningCount$CountList", "openFirst", "(II)I"⟩, 7) := ⟨⟨by decide +kernel, by decide +kernel⟩, List.mem_of_getElem? (i := 150) (by decide +kernel), List.mem_of_getElem? (i := 652) (by decide +kernel), List.mem_of_getElem? (i := 653) (by decide +kernel)⟩
theorem lw_p50 : lw_okq (⟨"RunningCount$CountList", "isOpenAt", "(III)Z"⟩, 7) := ⟨⟨by decide +kernel, by decide +kernel⟩, List.mem_of_getElem? (i := 150) (by decide +kernel), List.mem_of_getElem? (i := 656) (by decide +kernel), List.mem_of_getElem? (i := 657) (by decide +kernel)⟩
theorem lw_p51 : lw_okq (⟨"RunningCount$CountList", "isAt", "(III)Z"⟩, 7) := ⟨⟨by decide +kernel, by decide +kernel⟩, List.mem_of_getElem? (i := 150) (by decide +kernel), List.mem_of_getElem? (i := 660) (by decide +kernel), List.mem_of_getElem? (i := 661) (by decide +kernel)⟩
theorem lw_p52 : lw_okq (⟨"RunningCount", "allowedFor", "(I)I"⟩, 7) := ⟨⟨by decide +kernel, by decide +kernel⟩, List.mem_of_getElem? (i := 21) (by decide +kernel), List.mem_of_getElem? (i := 667) (by decide +kernel), List.mem_of_getElem? (i := 668) (by decide +kernel)⟩
theorem lw_p53 : lw_okq (⟨"RunningCount$CountList", "openAhead", "(III)I"⟩, 7) := ⟨⟨by decide +kernel, by decide +kernel⟩, List.mem_of_getElem? (i := 150) (by decide +kernel), List.mem_of_getElem? (i := 672) (by decide +kernel), List.mem_of_getElem? (i := 673) (by decide +kernel)⟩
theorem lw_p54 : lw_okq (⟨"RunningCount$Book", "sureWith", "(I)I"⟩, 5) := ⟨⟨by decide +kernel, by decide +kernel⟩, List.mem_of_getElem? (i := 270) (by decide +kernel), List.mem_of_getElem? (i := 688) (by decide +kernel), List.mem_of_getElem? (i := 689) (by decide +kernel)⟩
theorem lw_p55 : lw_okq (⟨"RunningCount$Journal", "begin", "(II)LRunningCount$Act;"⟩, 3) := ⟨⟨by decide +kernel, by decide +kernel⟩, List.mem_of_getElem? (i := 213) (by decide +kernel), List.mem_of_getElem? (i := 701) (by decide +kernel), List.mem_of_getElem? (i := 702) (by decide +kernel)⟩
theorem lw_p56 : lw_okq (⟨"RunningCount$Goods", "hasMove", "(I)Z"⟩, 11) := ⟨⟨by decide +kernel, by decide +kernel⟩, List.mem_of_getElem? (i := 93) (by decide +kernel), List.mem_of_getElem? (i := 710) (by decide +kernel), List.mem_of_getElem? (i := 711) (by decide +kernel)⟩
theorem lw_p57 : lw_okq (⟨"RunningCount$Goods", "setSpan", "(III)V"⟩, 11) := ⟨⟨by decide +kernel, by decide +kernel⟩, List.mem_of_getElem? (i := 93) (by decide +kernel), List.mem_of_getElem? (i := 726) (by decide +kernel), List.mem_of_getElem? (i := 727) (by decide +kernel)⟩
theorem lw_p58 : lw_okq (⟨"RunningCount$CountList", "isCountedAt", "(III)Z"⟩, 7) := ⟨⟨by decide +kernel, by decide +kernel⟩, List.mem_of_getElem? (i := 150) (by decide +kernel), List.mem_of_getElem? (i := 734) (by decide +kernel), List.mem_of_getElem? (i := 735) (by decide +kernel)⟩
theorem lw_p59 : lw_okq (⟨"RunningCount$CountList", "isPostedBehind", "(III)Z"⟩, 7) := ⟨⟨by decide +kernel, by decide +kernel⟩, List.mem_of_getElem? (i := 150) (by decide +kernel), List.mem_of_getElem? (i := 738) (by decide +kernel), List.mem_of_getElem? (i := 739) (by decide +kernel)⟩
theorem lw_p60 : lw_okq (⟨"RunningCount$CountList", "insert", "(IIIIII)V"⟩, 7) := ⟨⟨by decide +kernel, by decide +kernel⟩, List.mem_of_getElem? (i := 150) (by decide +kernel), List.mem_of_getElem? (i := 742) (by decide +kernel), List.mem_of_getElem? (i := 743) (by decide +kernel)⟩
theorem lw_p61 : lw_okq (⟨"RunningCount$CountList", "copy", "(II)V"⟩, 7) := ⟨⟨by decide +kernel, by decide +kernel⟩, List.mem_of_getElem? (i := 150) (by decide +kernel), List.mem_of_getElem? (i := 746) (by decide +kernel), List.mem_of_getElem? (i := 747) (by decide +kernel)⟩
theorem lw_p62 : lw_okq (⟨"RunningCount$AdjustmentList", "append", "(IIII)V"⟩, 5) := ⟨⟨by decide +kernel, by decide +kernel⟩, List.mem_of_getElem? (i := 186) (by decide +kernel), List.mem_of_getElem? (i := 754) (by decide +kernel), List.mem_of_getElem? (i := 755) (by decide +kernel)⟩
theorem lw_p63 : lw_okq (⟨"RunningCount$CountList", "postUpTo", "(III)J"⟩, 7) := ⟨⟨by decide +kernel, by decide +kernel⟩, List.mem_of_getElem? (i := 150) (by decide +kernel), List.mem_of_getElem? (i := 758) (by decide +kernel), List.mem_of_getElem? (i := 759) (by decide +kernel)⟩
def lw_privs_4 : List (MethodName × Nat) := [(⟨"RunningCount", "chosenOf", "(II)I"⟩, 7), (⟨"RunningCount$CountList", "openFirst", "(II)I"⟩, 7), (⟨"RunningCount$CountList", "isOpenAt", "(III)Z"⟩, 7), (⟨"RunningCount$CountList", "isAt", "(III)Z"⟩, 7), (⟨"RunningCount", "allowedFor", "(I)I"⟩, 7), (⟨"RunningCount$CountList", "openAhead", "(III)I"⟩, 7), (⟨"RunningCount$Book", "sureWith", "(I)I"⟩, 5), (⟨"RunningCount$Journal", "begin", "(II)LRunningCount$Act;"⟩, 3), (⟨"RunningCount$Goods", "hasMove", "(I)Z"⟩, 11), (⟨"RunningCount$Goods", "setSpan", "(III)V"⟩, 11), (⟨"RunningCount$CountList", "isCountedAt", "(III)Z"⟩, 7), (⟨"RunningCount$CountList", "isPostedBehind", "(III)Z"⟩, 7), (⟨"RunningCount$CountList", "insert", "(IIIIII)V"⟩, 7), (⟨"RunningCount$CountList", "copy", "(II)V"⟩, 7), (⟨"RunningCount$AdjustmentList", "append", "(IIII)V"⟩, 5), (⟨"RunningCount$CountList", "postUpTo", "(III)J"⟩, 7)]
theorem lw_r4 : ∀ q ∈ lw_privs_4, lw_okq q := List.forall_mem_cons.mpr ⟨lw_p48, List.forall_mem_cons.mpr ⟨lw_p49, List.forall_mem_cons.mpr ⟨lw_p50, List.forall_mem_cons.mpr ⟨lw_p51, List.forall_mem_cons.mpr ⟨lw_p52, List.forall_mem_cons.mpr ⟨lw_p53, List.forall_mem_cons.mpr ⟨lw_p54, List.forall_mem_cons.mpr ⟨lw_p55, List.forall_mem_cons.mpr ⟨lw_p56, List.forall_mem_cons.mpr ⟨lw_p57, List.forall_mem_cons.mpr ⟨lw_p58, List.forall_mem_cons.mpr ⟨lw_p59, List.forall_mem_cons.mpr ⟨lw_p60, List.forall_mem_cons.mpr ⟨lw_p61, List.forall_mem_cons.mpr ⟨lw_p62, List.forall_mem_cons.mpr ⟨lw_p63, fun _ h => absurd h List.not_mem_nil⟩⟩⟩⟩⟩⟩⟩⟩⟩⟩⟩⟩⟩⟩⟩⟩
theorem lw_p64 : lw_okq (⟨"RunningCount$CountList", "remove", "(I)V"⟩, 7) := ⟨⟨by decide +kernel, by decide +kernel⟩, List.mem_of_getElem? (i := 150) (by decide +kernel), List.mem_of_getElem? (i := 766) (by decide +kernel), List.mem_of_getElem? (i := 767) (by decide +kernel)⟩
theorem lw_p65 : lw_okq (⟨"RunningCount$Journal", "takeLatest", "()LRunningCount$Act;"⟩, 3) := ⟨⟨by decide +kernel, by decide +kernel⟩, List.mem_of_getElem? (i := 213) (by decide +kernel), List.mem_of_getElem? (i := 775) (by decide +kernel), List.mem_of_getElem? (i := 776) (by decide +kernel)⟩
theorem lw_p66 : lw_okq (⟨"RunningCount", "takeBack", "(LRunningCount$Act;)V"⟩, 7) := ⟨⟨by decide +kernel, by decide +kernel⟩, List.mem_of_getElem? (i := 21) (by decide +kernel), List.mem_of_getElem? (i := 780) (by decide +kernel), List.mem_of_getElem? (i := 781) (by decide +kernel)⟩
theorem lw_p67 : lw_okq (⟨"RunningCount$Goods", "removeLastMove", "()V"⟩, 11) := ⟨⟨by decide +kernel, by decide +kernel⟩, List.mem_of_getElem? (i := 93) (by decide +kernel), List.mem_of_getElem? (i := 784) (by decide +kernel), List.mem_of_getElem? (i := 785) (by decide +kernel)⟩
theorem lw_p68 : lw_okq (⟨"RunningCount$AdjustmentList", "removeLast", "()V"⟩, 5) := ⟨⟨by decide +kernel, by decide +kernel⟩, List.mem_of_getElem? (i := 186) (by decide +kernel), List.mem_of_getElem? (i := 789) (by decide +kernel), List.mem_of_getElem? (i := 790) (by decide +kernel)⟩
theorem lw_p69 : lw_okq (⟨"RunningCount$CountList", "reopen", "(J)V"⟩, 7) := ⟨⟨by decide +kernel, by decide +kernel⟩, List.mem_of_getElem? (i := 150) (by decide +kernel), List.mem_of_getElem? (i := 793) (by decide +kernel), List.mem_of_getElem? (i := 794) (by decide +kernel)⟩
theorem lw_p70 : lw_okq (⟨"java/lang/Throwable", "fillInStackTrace", "(I)Ljava/lang/Throwable;"⟩, 6) := ⟨⟨by decide +kernel, by decide +kernel⟩, List.mem_of_getElem? (i := 841) (by decide +kernel), List.mem_of_getElem? (i := 839) (by decide +kernel), List.mem_of_getElem? (i := 840) (by decide +kernel)⟩
theorem lw_p71 : lw_okq (⟨"RunningCountModel", "lays", "(I)V"⟩, 21) := ⟨⟨by decide +kernel, by decide +kernel⟩, List.mem_of_getElem? (i := 890) (by decide +kernel), List.mem_of_getElem? (i := 888) (by decide +kernel), List.mem_of_getElem? (i := 889) (by decide +kernel)⟩
theorem lw_p72 : lw_okq (⟨"RunningCountModel", "go", "()V"⟩, 21) := ⟨⟨by decide +kernel, by decide +kernel⟩, List.mem_of_getElem? (i := 890) (by decide +kernel), List.mem_of_getElem? (i := 970) (by decide +kernel), List.mem_of_getElem? (i := 971) (by decide +kernel)⟩
theorem lw_p73 : lw_okq (⟨"RunningCountModel", "tapeAt", "(I)I"⟩, 21) := ⟨⟨by decide +kernel, by decide +kernel⟩, List.mem_of_getElem? (i := 890) (by decide +kernel), List.mem_of_getElem? (i := 980) (by decide +kernel), List.mem_of_getElem? (i := 981) (by decide +kernel)⟩
theorem lw_p74 : lw_okq (⟨"RunningCountModel", "readWhole", "()Z"⟩, 21) := ⟨⟨by decide +kernel, by decide +kernel⟩, List.mem_of_getElem? (i := 890) (by decide +kernel), List.mem_of_getElem? (i := 986) (by decide +kernel), List.mem_of_getElem? (i := 987) (by decide +kernel)⟩
theorem lw_p75 : lw_okq (⟨"RunningCountModel", "readShelves", "()Z"⟩, 21) := ⟨⟨by decide +kernel, by decide +kernel⟩, List.mem_of_getElem? (i := 890) (by decide +kernel), List.mem_of_getElem? (i := 990) (by decide +kernel), List.mem_of_getElem? (i := 991) (by decide +kernel)⟩
theorem lw_p76 : lw_okq (⟨"RunningCountModel", "isWord", "(J)Z"⟩, 21) := ⟨⟨by decide +kernel, by decide +kernel⟩, List.mem_of_getElem? (i := 890) (by decide +kernel), List.mem_of_getElem? (i := 1004) (by decide +kernel), List.mem_of_getElem? (i := 1005) (by decide +kernel)⟩
theorem lw_p77 : lw_okq (⟨"RunningCountModel", "bad", "(I)Z"⟩, 21) := ⟨⟨by decide +kernel, by decide +kernel⟩, List.mem_of_getElem? (i := 890) (by decide +kernel), List.mem_of_getElem? (i := 1008) (by decide +kernel), List.mem_of_getElem? (i := 1009) (by decide +kernel)⟩
theorem lw_p78 : lw_okq (⟨"RunningCountModel", "told", "(III)Z"⟩, 21) := ⟨⟨by decide +kernel, by decide +kernel⟩, List.mem_of_getElem? (i := 890) (by decide +kernel), List.mem_of_getElem? (i := 1012) (by decide +kernel), List.mem_of_getElem? (i := 1013) (by decide +kernel)⟩
theorem lw_p79 : lw_okq (⟨"RunningCountModel", "readEnd", "()Z"⟩, 21) := ⟨⟨by decide +kernel, by decide +kernel⟩, List.mem_of_getElem? (i := 890) (by decide +kernel), List.mem_of_getElem? (i := 1019) (by decide +kernel), List.mem_of_getElem? (i := 1020) (by decide +kernel)⟩
def lw_privs_5 : List (MethodName × Nat) := [(⟨"RunningCount$CountList", "remove", "(I)V"⟩, 7), (⟨"RunningCount$Journal", "takeLatest", "()LRunningCount$Act;"⟩, 3), (⟨"RunningCount", "takeBack", "(LRunningCount$Act;)V"⟩, 7), (⟨"RunningCount$Goods", "removeLastMove", "()V"⟩, 11), (⟨"RunningCount$AdjustmentList", "removeLast", "()V"⟩, 5), (⟨"RunningCount$CountList", "reopen", "(J)V"⟩, 7), (⟨"java/lang/Throwable", "fillInStackTrace", "(I)Ljava/lang/Throwable;"⟩, 6), (⟨"RunningCountModel", "lays", "(I)V"⟩, 21), (⟨"RunningCountModel", "go", "()V"⟩, 21), (⟨"RunningCountModel", "tapeAt", "(I)I"⟩, 21), (⟨"RunningCountModel", "readWhole", "()Z"⟩, 21), (⟨"RunningCountModel", "readShelves", "()Z"⟩, 21), (⟨"RunningCountModel", "isWord", "(J)Z"⟩, 21), (⟨"RunningCountModel", "bad", "(I)Z"⟩, 21), (⟨"RunningCountModel", "told", "(III)Z"⟩, 21), (⟨"RunningCountModel", "readEnd", "()Z"⟩, 21)]
theorem lw_r5 : ∀ q ∈ lw_privs_5, lw_okq q := List.forall_mem_cons.mpr ⟨lw_p64, List.forall_mem_cons.mpr ⟨lw_p65, List.forall_mem_cons.mpr ⟨lw_p66, List.forall_mem_cons.mpr ⟨lw_p67, List.forall_mem_cons.mpr ⟨lw_p68, List.forall_mem_cons.mpr ⟨lw_p69, List.forall_mem_cons.mpr ⟨lw_p70, List.forall_mem_cons.mpr ⟨lw_p71, List.forall_mem_cons.mpr ⟨lw_p72, List.forall_mem_cons.mpr ⟨lw_p73, List.forall_mem_cons.mpr ⟨lw_p74, List.forall_mem_cons.mpr ⟨lw_p75, List.forall_mem_cons.mpr ⟨lw_p76, List.forall_mem_cons.mpr ⟨lw_p77, List.forall_mem_cons.mpr ⟨lw_p78, List.forall_mem_cons.mpr ⟨lw_p79, fun _ h => absurd h List.not_mem_nil⟩⟩⟩⟩⟩⟩⟩⟩⟩⟩⟩⟩⟩⟩⟩⟩
theorem lw_p80 : lw_okq (⟨"RunningCountModel", "readAll", "(I)Z"⟩, 21) := ⟨⟨by decide +kernel, by decide +kernel⟩, List.mem_of_getElem? (i := 890) (by decide +kernel), List.mem_of_getElem? (i := 1023) (by decide +kernel), List.mem_of_getElem? (i := 1024) (by decide +kernel)⟩
theorem lw_p81 : lw_okq (⟨"RunningCountModel", "isSort", "(I)Z"⟩, 21) := ⟨⟨by decide +kernel, by decide +kernel⟩, List.mem_of_getElem? (i := 890) (by decide +kernel), List.mem_of_getElem? (i := 1027) (by decide +kernel), List.mem_of_getElem? (i := 1028) (by decide +kernel)⟩
theorem lw_p82 : lw_okq (⟨"RunningCountModel", "readItem", "()Z"⟩, 21) := ⟨⟨by decide +kernel, by decide +kernel⟩, List.mem_of_getElem? (i := 890) (by decide +kernel), List.mem_of_getElem? (i := 1032) (by decide +kernel), List.mem_of_getElem? (i := 1033) (by decide +kernel)⟩
theorem lw_p83 : lw_okq (⟨"RunningCountModel", "readStock", "()Z"⟩, 21) := ⟨⟨by decide +kernel, by decide +kernel⟩, List.mem_of_getElem? (i := 890) (by decide +kernel), List.mem_of_getElem? (i := 1036) (by decide +kernel), List.mem_of_getElem? (i := 1037) (by decide +kernel)⟩
theorem lw_p84 : lw_okq (⟨"RunningCountModel", "takes", "(II)Z"⟩, 21) := ⟨⟨by decide +kernel, by decide +kernel⟩, List.mem_of_getElem? (i := 890) (by decide +kernel), List.mem_of_getElem? (i := 1040) (by decide +kernel), List.mem_of_getElem? (i := 1041) (by decide +kernel)⟩
theorem lw_p85 : lw_okq (⟨"RunningCountModel", "readMove", "()Z"⟩, 21) := ⟨⟨by decide +kernel, by decide +kernel⟩, List.mem_of_getElem? (i := 890) (by decide +kernel), List.mem_of_getElem? (i := 1044) (by decide +kernel), List.mem_of_getElem? (i := 1045) (by decide +kernel)⟩
theorem lw_p86 : lw_okq (⟨"RunningCountModel", "readLeg", "(I)Z"⟩, 21) := ⟨⟨by decide +kernel, by decide +kernel⟩, List.mem_of_getElem? (i := 890) (by decide +kernel), List.mem_of_getElem? (i := 1048) (by decide +kernel), List.mem_of_getElem? (i := 1049) (by decide +kernel)⟩
theorem lw_p87 : lw_okq (⟨"RunningCountModel", "openMany", "()I"⟩, 21) := ⟨⟨by decide +kernel, by decide +kernel⟩, List.mem_of_getElem? (i := 890) (by decide +kernel), List.mem_of_getElem? (i := 1060) (by decide +kernel), List.mem_of_getElem? (i := 1061) (by decide +kernel)⟩
theorem lw_p88 : lw_okq (⟨"RunningCountModel", "counted", "(II)I"⟩, 21) := ⟨⟨by decide +kernel, by decide +kernel⟩, List.mem_of_getElem? (i := 890) (by decide +kernel), List.mem_of_getElem? (i := 1064) (by decide +kernel), List.mem_of_getElem? (i := 1065) (by decide +kernel)⟩
theorem lw_p89 : lw_okq (⟨"RunningCountModel", "isItem", "(I)Z"⟩, 21) := ⟨⟨by decide +kernel, by decide +kernel⟩, List.mem_of_getElem? (i := 890) (by decide +kernel), List.mem_of_getElem? (i := 1072) (by decide +kernel), List.mem_of_getElem? (i := 1073) (by decide +kernel)⟩
theorem lw_p90 : lw_okq (⟨"RunningCountModel", "isMove", "(I)Z"⟩, 21) := ⟨⟨by decide +kernel, by decide +kernel⟩, List.mem_of_getElem? (i := 890) (by decide +kernel), List.mem_of_getElem? (i := 1080) (by decide +kernel), List.mem_of_getElem? (i := 1081) (by decide +kernel)⟩
theorem lw_p91 : lw_okq (⟨"RunningCountModel", "refuse", "()I"⟩, 21) := ⟨⟨by decide +kernel, by decide +kernel⟩, List.mem_of_getElem? (i := 890) (by decide +kernel), List.mem_of_getElem? (i := 1084) (by decide +kernel), List.mem_of_getElem? (i := 1085) (by decide +kernel)⟩
theorem lw_p92 : lw_okq (⟨"RunningCountModel", "moved", "(II)I"⟩, 21) := ⟨⟨by decide +kernel, by decide +kernel⟩, List.mem_of_getElem? (i := 890) (by decide +kernel), List.mem_of_getElem? (i := 1088) (by decide +kernel), List.mem_of_getElem? (i := 1089) (by decide +kernel)⟩
theorem lw_p93 : lw_okq (⟨"RunningCountModel", "isThere", "(II)Z"⟩, 21) := ⟨⟨by decide +kernel, by decide +kernel⟩, List.mem_of_getElem? (i := 890) (by decide +kernel), List.mem_of_getElem? (i := 1092) (by decide +kernel), List.mem_of_getElem? (i := 1093) (by decide +kernel)⟩
theorem lw_p94 : lw_okq (⟨"RunningCountModel", "leg", "(III)I"⟩, 21) := ⟨⟨by decide +kernel, by decide +kernel⟩, List.mem_of_getElem? (i := 890) (by decide +kernel), List.mem_of_getElem? (i := 1096) (by decide +kernel), List.mem_of_getElem? (i := 1097) (by decide +kernel)⟩
theorem lw_p95 : lw_okq (⟨"RunningCountModel", "isShelf", "(I)Z"⟩, 21) := ⟨⟨by decide +kernel, by decide +kernel⟩, List.mem_of_getElem? (i := 890) (by decide +kernel), List.mem_of_getElem? (i := 1104) (by decide +kernel), List.mem_of_getElem? (i := 1105) (by decide +kernel)⟩
def lw_privs_6 : List (MethodName × Nat) := [(⟨"RunningCountModel", "readAll", "(I)Z"⟩, 21), (⟨"RunningCountModel", "isSort", "(I)Z"⟩, 21), (⟨"RunningCountModel", "readItem", "()Z"⟩, 21), (⟨"RunningCountModel", "readStock", "()Z"⟩, 21), (⟨"RunningCountModel", "takes", "(II)Z"⟩, 21), (⟨"RunningCountModel", "readMove", "()Z"⟩, 21), (⟨"RunningCountModel", "readLeg", "(I)Z"⟩, 21), (⟨"RunningCountModel", "openMany", "()I"⟩, 21), (⟨"RunningCountModel", "counted", "(II)I"⟩, 21), (⟨"RunningCountModel", "isItem", "(I)Z"⟩, 21), (⟨"RunningCountModel", "isMove", "(I)Z"⟩, 21), (⟨"RunningCountModel", "refuse", "()I"⟩, 21), (⟨"RunningCountModel", "moved", "(II)I"⟩, 21), (⟨"RunningCountModel", "isThere", "(II)Z"⟩, 21), (⟨"RunningCountModel", "leg", "(III)I"⟩, 21), (⟨"RunningCountModel", "isShelf", "(I)Z"⟩, 21)]
theorem lw_r6 : ∀ q ∈ lw_privs_6, lw_okq q := List.forall_mem_cons.mpr ⟨lw_p80, List.forall_mem_cons.mpr ⟨lw_p81, List.forall_mem_cons.mpr ⟨lw_p82, List.forall_mem_cons.mpr ⟨lw_p83, List.forall_mem_cons.mpr ⟨lw_p84, List.forall_mem_cons.mpr ⟨lw_p85, List.forall_mem_cons.mpr ⟨lw_p86, List.forall_mem_cons.mpr ⟨lw_p87, List.forall_mem_cons.mpr ⟨lw_p88, List.forall_mem_cons.mpr ⟨lw_p89, List.forall_mem_cons.mpr ⟨lw_p90, List.forall_mem_cons.mpr ⟨lw_p91, List.forall_mem_cons.mpr ⟨lw_p92, List.forall_mem_cons.mpr ⟨lw_p93, List.forall_mem_cons.mpr ⟨lw_p94, List.forall_mem_cons.mpr ⟨lw_p95, fun _ h => absurd h List.not_mem_nil⟩⟩⟩⟩⟩⟩⟩⟩⟩⟩⟩⟩⟩⟩⟩⟩
theorem lw_p96 : lw_okq (⟨"RunningCountModel", "sure", "(III)I"⟩, 21) := ⟨⟨by decide +kernel, by decide +kernel⟩, List.mem_of_getElem? (i := 890) (by decide +kernel), List.mem_of_getElem? (i := 1112) (by decide +kernel), List.mem_of_getElem? (i := 1113) (by decide +kernel)⟩
theorem lw_p97 : lw_okq (⟨"RunningCountModel", "isAt", "(IIII)Z"⟩, 21) := ⟨⟨by decide +kernel, by decide +kernel⟩, List.mem_of_getElem? (i := 890) (by decide +kernel), List.mem_of_getElem? (i := 1116) (by decide +kernel), List.mem_of_getElem? (i := 1117) (by decide +kernel)⟩
theorem lw_p98 : lw_okq (⟨"RunningCountModel", "isOver", "(III)Z"⟩, 21) := ⟨⟨by decide +kernel, by decide +kernel⟩, List.mem_of_getElem? (i := 890) (by decide +kernel), List.mem_of_getElem? (i := 1120) (by decide +kernel), List.mem_of_getElem? (i := 1121) (by decide +kernel)⟩
theorem lw_p99 : lw_okq (⟨"RunningCountModel", "least", "(III)I"⟩, 21) := ⟨⟨by decide +kernel, by decide +kernel⟩, List.mem_of_getElem? (i := 890) (by decide +kernel), List.mem_of_getElem? (i := 1124) (by decide +kernel), List.mem_of_getElem? (i := 1125) (by decide +kernel)⟩
theorem lw_p100 : lw_okq (⟨"RunningCountModel", "doubtful", "(IIII)I"⟩, 21) := ⟨⟨by decide +kernel, by decide +kernel⟩, List.mem_of_getElem? (i := 890) (by decide +kernel), List.mem_of_getElem? (i := 1128) (by decide +kernel), List.mem_of_getElem? (i := 1129) (by decide +kernel)⟩
theorem lw_p101 : lw_okq (⟨"RunningCountModel", "isDoubtful", "(III)Z"⟩, 21) := ⟨⟨by decide +kernel, by decide +kernel⟩, List.mem_of_getElem? (i := 890) (by decide +kernel), List.mem_of_getElem? (i := 1132) (by decide +kernel), List.mem_of_getElem? (i := 1133) (by decide +kernel)⟩
theorem lw_p102 : lw_okq (⟨"RunningCountModel", "isToCome", "(III)Z"⟩, 21) := ⟨⟨by decide +kernel, by decide +kernel⟩, List.mem_of_getElem? (i := 890) (by decide +kernel), List.mem_of_getElem? (i := 1136) (by decide +kernel), List.mem_of_getElem? (i := 1137) (by decide +kernel)⟩
theorem lw_p103 : lw_okq (⟨"RunningCountModel", "most", "(III)I"⟩, 21) := ⟨⟨by decide +kernel, by decide +kernel⟩, List.mem_of_getElem? (i := 890) (by decide +kernel), List.mem_of_getElem? (i := 1140) (by decide +kernel), List.mem_of_getElem? (i := 1141) (by decide +kernel)⟩
theorem lw_p104 : lw_okq (⟨"RunningCountModel", "isCount", "(I)Z"⟩, 21) := ⟨⟨by decide +kernel, by decide +kernel⟩, List.mem_of_getElem? (i := 890) (by decide +kernel), List.mem_of_getElem? (i := 1156) (by decide +kernel), List.mem_of_getElem? (i := 1157) (by decide +kernel)⟩
theorem lw_p105 : lw_okq (⟨"RunningCountModel", "allowed", "(I)I"⟩, 21) := ⟨⟨by decide +kernel, by decide +kernel⟩, List.mem_of_getElem? (i := 890) (by decide +kernel), List.mem_of_getElem? (i := 1160) (by decide +kernel), List.mem_of_getElem? (i := 1161) (by decide +kernel)⟩
theorem lw_p106 : lw_okq (⟨"RunningCountModel", "sureOf", "(I)I"⟩, 21) := ⟨⟨by decide +kernel, by decide +kernel⟩, List.mem_of_getElem? (i := 890) (by decide +kernel), List.mem_of_getElem? (i := 1164) (by decide +kernel), List.mem_of_getElem? (i := 1165) (by decide +kernel)⟩
theorem lw_p107 : lw_okq (⟨"RunningCountModel", "differenceOf", "(I)I"⟩, 21) := ⟨⟨by decide +kernel, by decide +kernel⟩, List.mem_of_getElem? (i := 890) (by decide +kernel), List.mem_of_getElem? (i := 1172) (by decide +kernel), List.mem_of_getElem? (i := 1173) (by decide +kernel)⟩
theorem lw_p108 : lw_okq (⟨"RunningCountModel", "choose", "(II)I"⟩, 21) := ⟨⟨by decide +kernel, by decide +kernel⟩, List.mem_of_getElem? (i := 890) (by decide +kernel), List.mem_of_getElem? (i := 1185) (by decide +kernel), List.mem_of_getElem? (i := 1186) (by decide +kernel)⟩
theorem lw_p109 : lw_okq (⟨"RunningCountModel", "laysOpen", "(II)V"⟩, 21) := ⟨⟨by decide +kernel, by decide +kernel⟩, List.mem_of_getElem? (i := 890) (by decide +kernel), List.mem_of_getElem? (i := 1189) (by decide +kernel), List.mem_of_getElem? (i := 1190) (by decide +kernel)⟩
theorem lw_p110 : lw_okq (⟨"RunningCountModel", "isOpenAt", "(III)Z"⟩, 21) := ⟨⟨by decide +kernel, by decide +kernel⟩, List.mem_of_getElem? (i := 890) (by decide +kernel), List.mem_of_getElem? (i := 1193) (by decide +kernel), List.mem_of_getElem? (i := 1194) (by decide +kernel)⟩
theorem lw_p111 : lw_okq (⟨"RunningCountModel", "snap", "()V"⟩, 21) := ⟨⟨by decide +kernel, by decide +kernel⟩, List.mem_of_getElem? (i := 890) (by decide +kernel), List.mem_of_getElem? (i := 1216) (by decide +kernel), List.mem_of_getElem? (i := 1217) (by decide +kernel)⟩
def lw_privs_7 : List (MethodName × Nat) := [(⟨"RunningCountModel", "sure", "(III)I"⟩, 21), (⟨"RunningCountModel", "isAt", "(IIII)Z"⟩, 21), (⟨"RunningCountModel", "isOver", "(III)Z"⟩, 21), (⟨"RunningCountModel", "least", "(III)I"⟩, 21), (⟨"RunningCountModel", "doubtful", "(IIII)I"⟩, 21), (⟨"RunningCountModel", "isDoubtful", "(III)Z"⟩, 21), (⟨"RunningCountModel", "isToCome", "(III)Z"⟩, 21), (⟨"RunningCountModel", "most", "(III)I"⟩, 21), (⟨"RunningCountModel", "isCount", "(I)Z"⟩, 21), (⟨"RunningCountModel", "allowed", "(I)I"⟩, 21), (⟨"RunningCountModel", "sureOf", "(I)I"⟩, 21), (⟨"RunningCountModel", "differenceOf", "(I)I"⟩, 21), (⟨"RunningCountModel", "choose", "(II)I"⟩, 21), (⟨"RunningCountModel", "laysOpen", "(II)V"⟩, 21), (⟨"RunningCountModel", "isOpenAt", "(III)Z"⟩, 21), (⟨"RunningCountModel", "snap", "()V"⟩, 21)]
theorem lw_r7 : ∀ q ∈ lw_privs_7, lw_okq q := List.forall_mem_cons.mpr ⟨lw_p96, List.forall_mem_cons.mpr ⟨lw_p97, List.forall_mem_cons.mpr ⟨lw_p98, List.forall_mem_cons.mpr ⟨lw_p99, List.forall_mem_cons.mpr ⟨lw_p100, List.forall_mem_cons.mpr ⟨lw_p101, List.forall_mem_cons.mpr ⟨lw_p102, List.forall_mem_cons.mpr ⟨lw_p103, List.forall_mem_cons.mpr ⟨lw_p104, List.forall_mem_cons.mpr ⟨lw_p105, List.forall_mem_cons.mpr ⟨lw_p106, List.forall_mem_cons.mpr ⟨lw_p107, List.forall_mem_cons.mpr ⟨lw_p108, List.forall_mem_cons.mpr ⟨lw_p109, List.forall_mem_cons.mpr ⟨lw_p110, List.forall_mem_cons.mpr ⟨lw_p111, fun _ h => absurd h List.not_mem_nil⟩⟩⟩⟩⟩⟩⟩⟩⟩⟩⟩⟩⟩⟩⟩⟩
theorem lw_p112 : lw_okq (⟨"RunningCountModel", "whyNot", "(IIII)I"⟩, 21) := ⟨⟨by decide +kernel, by decide +kernel⟩, List.mem_of_getElem? (i := 890) (by decide +kernel), List.mem_of_getElem? (i := 1235) (by decide +kernel), List.mem_of_getElem? (i := 1236) (by decide +kernel)⟩
def lw_privs_8 : List (MethodName × Nat) := [(⟨"RunningCountModel", "whyNot", "(IIII)I"⟩, 21)]
theorem lw_r8 : ∀ q ∈ lw_privs_8, lw_okq q := List.forall_mem_cons.mpr ⟨lw_p112, fun _ h => absurd h List.not_mem_nil⟩
def lw_privs : List (MethodName × Nat) := lw_privs_1 ++ (lw_privs_2 ++ (lw_privs_3 ++ (lw_privs_4 ++ (lw_privs_5 ++ (lw_privs_6 ++ (lw_privs_7 ++ (lw_privs_8)))))))
def lw_tbl : List Cond := k2_sels lw_privs ++ tables_1
theorem lw_privs_ok : ∀ q ∈ lw_privs, lw_okq q := by
  show ∀ q ∈ lw_privs_1 ++ (lw_privs_2 ++ (lw_privs_3 ++ (lw_privs_4 ++ (lw_privs_5 ++ (lw_privs_6 ++ (lw_privs_7 ++ (lw_privs_8))))))), lw_okq q
  exact List.forall_mem_append.mpr ⟨lw_r1, List.forall_mem_append.mpr ⟨lw_r2, List.forall_mem_append.mpr ⟨lw_r3, List.forall_mem_append.mpr ⟨lw_r4, List.forall_mem_append.mpr ⟨lw_r5, List.forall_mem_append.mpr ⟨lw_r6, List.forall_mem_append.mpr ⟨lw_r7, lw_r8⟩⟩⟩⟩⟩⟩⟩
/-- the streams that the claim lets the run draw from -/
abbrev lw_cs : List Choice := [Jvm.Choice.named "NaN.bits"]
theorem lw_bits : nanBits ∈ lw_cs := by first | decide | exact List.mem_cons_self | simp [lw_cs, nanBits]
end
section
def RX0 : String := "RunningCount$Act"
def TX0 : u_T := fun k => match k with
  | 0 => ("RunningCount$Act", "kind", "I", false)
  | 1 => ("RunningCount$Act", "number", "I", false)
  | 2 => ("RunningCount$Act", "early", "I", false)
  | 3 => ("RunningCount$Act", "late", "I", false)
  | 4 => ("RunningCount$Act", "shelf", "I", false)
  | 5 => ("RunningCount$Act", "item", "I", false)
  | 6 => ("RunningCount$Act", "instant", "I", false)
  | 7 => ("RunningCount$Act", "sum", "I", false)
  | 8 => ("RunningCount$Act", "who", "I", false)
  | _ => ("RunningCount$Act", "posted", "J", false)
def tyX0 : Nat → FieldType := fun k => match k with
  | 0 => .int
  | 1 => .int
  | 2 => .int
  | 3 => .int
  | 4 => .int
  | 5 => .int
  | 6 => .int
  | 7 => .int
  | 8 => .int
  | _ => .long
abbrev wsX00 : List Cond := u_ws RX0 TX0 10
theorem nmX0 : ∀ a, a < 10 → ∀ b, b < 10 → a ≠ b → (TX0 a).2.1 ≠ (TX0 b).2.1 := by decide +kernel
theorem tyX0_ok : ∀ k, k < 10 → parseFieldDescriptor (TX0 k).2.2.1 = some (tyX0 k) := by decide +kernel
abbrev cX0_init : ByteArray := prog_2_method_1_code
def yX0_init : MethodName := ⟨RX0, "<init>", "()V"⟩
def RX1 : String := "RunningCount$AdjustmentList"
def TX1 : u_T := fun k => match k with
  | 0 => ("RunningCount$AdjustmentList", "size", "I", false)
  | 1 => ("RunningCount$AdjustmentList", "shelf", "[I", true)
  | 2 => ("RunningCount$AdjustmentList", "item", "[I", true)
  | 3 => ("RunningCount$AdjustmentList", "instant", "[I", true)
  | _ => ("RunningCount$AdjustmentList", "much", "[I", true)
def tyX1 : Nat → FieldType := fun k => match k with
  | 0 => .int
  | 1 => .array .int
  | 2 => .array .int
  | 3 => .array .int
  | _ => .array .int
abbrev wsX10 : List Cond := u_ws RX1 TX1 5
theorem nmX1 : ∀ a, a < 5 → ∀ b, b < 5 → a ≠ b → (TX1 a).2.1 ≠ (TX1 b).2.1 := by decide +kernel
theorem tyX1_ok : ∀ k, k < 5 → parseFieldDescriptor (TX1 k).2.2.1 = some (tyX1 k) := by decide +kernel
abbrev cX1_init : ByteArray := prog_3_method_1_code
def yX1_init : MethodName := ⟨RX1, "<init>", "()V"⟩
abbrev cX1_append : ByteArray := prog_3_method_2_code
def yX1_append : MethodName := ⟨RX1, "append", "(IIII)V"⟩
abbrev cX1_removeLast : ByteArray := prog_3_method_3_code
def yX1_removeLast : MethodName := ⟨RX1, "removeLast", "()V"⟩
abbrev cX1_isAt : ByteArray := prog_3_method_4_code
def yX1_isAt : MethodName := ⟨RX1, "isAt", "(III)Z"⟩
abbrev cX1_sumUpTo : ByteArray := prog_3_method_5_code
def yX1_sumUpTo : MethodName := ⟨RX1, "sumUpTo", "(III)I"⟩
def RX2 : String := "RunningCount$Book"
def TX2 : u_T := fun k => match k with
  | 0 => ("RunningCount$Book", "sure", "I", false)
  | 1 => ("RunningCount$Book", "least", "I", false)
  | 2 => ("RunningCount$Book", "most", "I", false)
  | 3 => ("RunningCount$Book", "doubtful", "I", false)
  | _ => ("RunningCount$Book", "doubts", "[I", true)
def tyX2 : Nat → FieldType := fun k => match k with
  | 0 => .int
  | 1 => .int
  | 2 => .int
  | 3 => .int
  | _ => .array .int
abbrev wsX20 : List Cond := u_ws RX2 TX2 5
theorem nmX2 : ∀ a, a < 5 → ∀ b, b < 5 → a ≠ b → (TX2 a).2.1 ≠ (TX2 b).2.1 := by decide +kernel
theorem tyX2_ok : ∀ k, k < 5 → parseFieldDescriptor (TX2 k).2.2.1 = some (tyX2 k) := by decide +kernel
abbrev cX2_init : ByteArray := prog_4_method_1_code
def yX2_init : MethodName := ⟨RX2, "<init>", "()V"⟩
abbrev cX2_readAt : ByteArray := prog_4_method_2_code
def yX2_readAt : MethodName := ⟨RX2, "readAt", "(LRunningCount$Goods;LRunningCount$AdjustmentList;III)V"⟩
abbrev cX2_readLeg : ByteArray := prog_4_method_3_code
def yX2_readLeg : MethodName := ⟨RX2, "readLeg", "(LRunningCount$Goods;IIII)V"⟩
abbrev cX2_addDoubt : ByteArray := prog_4_method_4_code
def yX2_addDoubt : MethodName := ⟨RX2, "addDoubt", "(I)V"⟩
abbrev cX2_sureWith : ByteArray := prog_4_method_5_code
def yX2_sureWith : MethodName := ⟨RX2, "sureWith", "(I)I"⟩
def RX3 : String := "RunningCount$CountList"
def TX3 : u_T := fun k => match k with
  | 0 => ("RunningCount$CountList", "size", "I", false)
  | 1 => ("RunningCount$CountList", "shelf", "[I", true)
  | 2 => ("RunningCount$CountList", "item", "[I", true)
  | 3 => ("RunningCount$CountList", "instant", "[I", true)
  | 4 => ("RunningCount$CountList", "sum", "[I", true)
  | 5 => ("RunningCount$CountList", "who", "[I", true)
  | _ => ("RunningCount$CountList", "posted", "[Z", true)
def tyX3 : Nat → FieldType := fun k => match k with
  | 0 => .int
  | 1 => .array .int
  | 2 => .array .int
  | 3 => .array .int
  | 4 => .array .int
  | 5 => .array .int
  | _ => .array .boolean
abbrev wsX30 : List Cond := u_ws RX3 TX3 7
theorem nmX3 : ∀ a, a < 7 → ∀ b, b < 7 → a ≠ b → (TX3 a).2.1 ≠ (TX3 b).2.1 := by decide +kernel
theorem tyX3_ok : ∀ k, k < 7 → parseFieldDescriptor (TX3 k).2.2.1 = some (tyX3 k) := by decide +kernel
abbrev cX3_init : ByteArray := prog_5_method_1_code
def yX3_init : MethodName := ⟨RX3, "<init>", "()V"⟩
abbrev cX3_has : ByteArray := prog_5_method_2_code
def yX3_has : MethodName := ⟨RX3, "has", "(I)Z"⟩
abbrev cX3_isAt : ByteArray := prog_5_method_3_code
def yX3_isAt : MethodName := ⟨RX3, "isAt", "(III)Z"⟩
abbrev cX3_isOpenAt : ByteArray := prog_5_method_4_code
def yX3_isOpenAt : MethodName := ⟨RX3, "isOpenAt", "(III)Z"⟩
abbrev cX3_openCounts : ByteArray := prog_5_method_5_code
def yX3_openCounts : MethodName := ⟨RX3, "openCounts", "()I"⟩
abbrev cX3_isCountedAt : ByteArray := prog_5_method_6_code
def yX3_isCountedAt : MethodName := ⟨RX3, "isCountedAt", "(III)Z"⟩
abbrev cX3_isPostedBehind : ByteArray := prog_5_method_7_code
def yX3_isPostedBehind : MethodName := ⟨RX3, "isPostedBehind", "(III)Z"⟩
abbrev cX3_openFirst : ByteArray := prog_5_method_8_code
def yX3_openFirst : MethodName := ⟨RX3, "openFirst", "(II)I"⟩
abbrev cX3_openAhead : ByteArray := prog_5_method_9_code
def yX3_openAhead : MethodName := ⟨RX3, "openAhead", "(III)I"⟩
abbrev cX3_postUpTo : ByteArray := prog_5_method_10_code
def yX3_postUpTo : MethodName := ⟨RX3, "postUpTo", "(III)J"⟩
abbrev cX3_reopen : ByteArray := prog_5_method_11_code
def yX3_reopen : MethodName := ⟨RX3, "reopen", "(J)V"⟩
abbrev cX3_insert : ByteArray := prog_5_method_12_code
def yX3_insert : MethodName := ⟨RX3, "insert", "(IIIIII)V"⟩
abbrev cX3_remove : ByteArray := prog_5_method_13_code
def yX3_remove : MethodName := ⟨RX3, "remove", "(I)V"⟩
abbrev cX3_copy : ByteArray := prog_5_method_14_code
def yX3_copy : MethodName := ⟨RX3, "copy", "(II)V"⟩
def RX4 : String := "RunningCount$Goods"
def TX4 : u_T := fun k => match k with
  | 0 => ("RunningCount$Goods", "shelves", "I", false)
  | 1 => ("RunningCount$Goods", "items", "I", false)
  | 2 => ("RunningCount$Goods", "moves", "I", false)
  | 3 => ("RunningCount$Goods", "units", "[I", true)
  | 4 => ("RunningCount$Goods", "shares", "[I", true)
  | 5 => ("RunningCount$Goods", "stock", "[I", true)
  | 6 => ("RunningCount$Goods", "moveItem", "[I", true)
  | 7 => ("RunningCount$Goods", "moveSum", "[I", true)
  | 8 => ("RunningCount$Goods", "legShelf", "[I", true)
  | 9 => ("RunningCount$Goods", "legEarly", "[I", true)
  | _ => ("RunningCount$Goods", "legLate", "[I", true)
def tyX4 : Nat → FieldType := fun k => match k with
  | 0 => .int
  | 1 => .int
  | 2 => .int
  | 3 => .array .int
  | 4 => .array .int
  | 5 => .array .int
  | 6 => .array .int
  | 7 => .array .int
  | 8 => .array .int
  | 9 => .array .int
  | _ => .array .int
abbrev wsX40 : List Cond := u_ws RX4 TX4 11
theorem nmX4 : ∀ a, a < 11 → ∀ b, b < 11 → a ≠ b → (TX4 a).2.1 ≠ (TX4 b).2.1 := by decide +kernel
theorem tyX4_ok : ∀ k, k < 11 → parseFieldDescriptor (TX4 k).2.2.1 = some (tyX4 k) := by decide +kernel
abbrev cX4_init : ByteArray := prog_6_method_1_code
def yX4_init : MethodName := ⟨RX4, "<init>", "()V"⟩
abbrev cX4_clear : ByteArray := prog_6_method_2_code
def yX4_clear : MethodName := ⟨RX4, "clear", "()V"⟩
abbrev cX4_hasShelf : ByteArray := prog_6_method_3_code
def yX4_hasShelf : MethodName := ⟨RX4, "hasShelf", "(I)Z"⟩
abbrev cX4_hasItem : ByteArray := prog_6_method_4_code
def yX4_hasItem : MethodName := ⟨RX4, "hasItem", "(I)Z"⟩
abbrev cX4_hasCouple : ByteArray := prog_6_method_5_code
def yX4_hasCouple : MethodName := ⟨RX4, "hasCouple", "(II)Z"⟩
abbrev cX4_hasMove : ByteArray := prog_6_method_6_code
def yX4_hasMove : MethodName := ⟨RX4, "hasMove", "(I)Z"⟩
abbrev cX4_placeOf : ByteArray := prog_6_method_7_code
def yX4_placeOf : MethodName := ⟨RX4, "placeOf", "(II)I"⟩
abbrev cX4_isStockTold : ByteArray := prog_6_method_8_code
def yX4_isStockTold : MethodName := ⟨RX4, "isStockTold", "(II)Z"⟩
abbrev cX4_tellStock : ByteArray := prog_6_method_9_code
def yX4_tellStock : MethodName := ⟨RX4, "tellStock", "(III)V"⟩
abbrev cX4_stockOf : ByteArray := prog_6_method_10_code
def yX4_stockOf : MethodName := ⟨RX4, "stockOf", "(II)I"⟩
abbrev cX4_addItem : ByteArray := prog_6_method_11_code
def yX4_addItem : MethodName := ⟨RX4, "addItem", "(II)V"⟩
abbrev cX4_addMove : ByteArray := prog_6_method_12_code
def yX4_addMove : MethodName := ⟨RX4, "addMove", "(II)I"⟩
abbrev cX4_removeLastMove : ByteArray := prog_6_method_13_code
def yX4_removeLastMove : MethodName := ⟨RX4, "removeLastMove", "()V"⟩
abbrev cX4_setLeg : ByteArray := prog_6_method_14_code
def yX4_setLeg : MethodName := ⟨RX4, "setLeg", "(IIII)V"⟩
abbrev cX4_removeLeg : ByteArray := prog_6_method_15_code
def yX4_removeLeg : MethodName := ⟨RX4, "removeLeg", "(I)V"⟩
abbrev cX4_setSpan : ByteArray := prog_6_method_16_code
def yX4_setSpan : MethodName := ⟨RX4, "setSpan", "(III)V"⟩
abbrev cX4_isThere : ByteArray := prog_6_method_17_code
def yX4_isThere : MethodName := ⟨RX4, "isThere", "(I)Z"⟩
abbrev cX4_isOver : ByteArray := prog_6_method_18_code
def yX4_isOver : MethodName := ⟨RX4, "isOver", "(II)Z"⟩
abbrev cX4_isToCome : ByteArray := prog_6_method_19_code
def yX4_isToCome : MethodName := ⟨RX4, "isToCome", "(II)Z"⟩
def RX5 : String := "RunningCount$Journal"
def TX5 : u_T := fun k => match k with
  | 0 => ("RunningCount$Journal", "size", "I", false)
  | 1 => ("RunningCount$Journal", "next", "I", false)
  | _ => ("RunningCount$Journal", "acts", "[LRunningCount$Act;", true)
def tyX5 : Nat → FieldType := fun k => match k with
  | 0 => .int
  | 1 => .int
  | _ => .array (.object "RunningCount$Act")
abbrev wsX50 : List Cond := u_ws RX5 TX5 3
theorem nmX5 : ∀ a, a < 3 → ∀ b, b < 3 → a ≠ b → (TX5 a).2.1 ≠ (TX5 b).2.1 := by decide +kernel
theorem tyX5_ok : ∀ k, k < 3 → parseFieldDescriptor (TX5 k).2.2.1 = some (tyX5 k) := by decide +kernel
abbrev cX5_init : ByteArray := prog_7_method_1_code
def yX5_init : MethodName := ⟨RX5, "<init>", "()V"⟩
abbrev cX5_begin : ByteArray := prog_7_method_2_code
def yX5_begin : MethodName := ⟨RX5, "begin", "(II)LRunningCount$Act;"⟩
abbrev cX5_takeLatest : ByteArray := prog_7_method_3_code
def yX5_takeLatest : MethodName := ⟨RX5, "takeLatest", "()LRunningCount$Act;"⟩
def RX6 : String := "RunningCount$Tape"
def TX6 : u_T := fun k => match k with
  | 0 => ("RunningCount$Tape", "length", "I", false)
  | 1 => ("RunningCount$Tape", "bytes", "[B", true)
  | 2 => ("RunningCount$Tape", "tokens", "I", false)
  | 3 => ("RunningCount$Tape", "kinds", "[I", true)
  | _ => ("RunningCount$Tape", "starts", "[I", true)
def tyX6 : Nat → FieldType := fun k => match k with
  | 0 => .int
  | 1 => .array .byte
  | 2 => .int
  | 3 => .array .int
  | _ => .array .int
abbrev wsX60 : List Cond := u_ws RX6 TX6 5
theorem nmX6 : ∀ a, a < 5 → ∀ b, b < 5 → a ≠ b → (TX6 a).2.1 ≠ (TX6 b).2.1 := by decide +kernel
theorem tyX6_ok : ∀ k, k < 5 → parseFieldDescriptor (TX6 k).2.2.1 = some (tyX6 k) := by decide +kernel
abbrev cX6_init : ByteArray := prog_8_method_1_code
def yX6_init : MethodName := ⟨RX6, "<init>", "()V"⟩
abbrev cX6_hasRoom : ByteArray := prog_8_method_2_code
def yX6_hasRoom : MethodName := ⟨RX6, "hasRoom", "()Z"⟩
abbrev cX6_append : ByteArray := prog_8_method_3_code
def yX6_append : MethodName := ⟨RX6, "append", "(I)V"⟩
abbrev cX6_scan : ByteArray := prog_8_method_4_code
def yX6_scan : MethodName := ⟨RX6, "scan", "()V"⟩
abbrev cX6_addToken : ByteArray := prog_8_method_5_code
def yX6_addToken : MethodName := ⟨RX6, "addToken", "(II)V"⟩
abbrev cX6_behindRun : ByteArray := prog_8_method_6_code
def yX6_behindRun : MethodName := ⟨RX6, "behindRun", "(I)I"⟩
abbrev cX6_kindOf : ByteArray := prog_8_method_7_code
def yX6_kindOf : MethodName := ⟨RX6, "kindOf", "(II)I"⟩
abbrev cX6_kindOfWord : ByteArray := prog_8_method_8_code
def yX6_kindOfWord : MethodName := ⟨RX6, "kindOfWord", "(II)I"⟩
abbrev cX6_isWord : ByteArray := prog_8_method_9_code
def yX6_isWord : MethodName := ⟨RX6, "isWord", "(IILjava/lang/String;)Z"⟩
abbrev cX6_isBlank : ByteArray := prog_8_method_10_code
def yX6_isBlank : MethodName := ⟨RX6, "isBlank", "(I)Z"⟩
abbrev cX6_isLetter : ByteArray := prog_8_method_11_code
def yX6_isLetter : MethodName := ⟨RX6, "isLetter", "(I)Z"⟩
abbrev cX6_isDigit : ByteArray := prog_8_method_12_code
def yX6_isDigit : MethodName := ⟨RX6, "isDigit", "(I)Z"⟩
def RX7 : String := "RunningCount$TextReader"
def TX7 : u_T := fun k => match k with
  | 0 => ("RunningCount$TextReader", "tape", "LRunningCount$Tape;", true)
  | 1 => ("RunningCount$TextReader", "next", "I", false)
  | 2 => ("RunningCount$TextReader", "token", "I", false)
  | 3 => ("RunningCount$TextReader", "start", "I", false)
  | 4 => ("RunningCount$TextReader", "value", "I", false)
  | 5 => ("RunningCount$TextReader", "lines", "I", false)
  | 6 => ("RunningCount$TextReader", "faultKind", "I", false)
  | _ => ("RunningCount$TextReader", "faultPlace", "I", false)
def tyX7 : Nat → FieldType := fun k => match k with
  | 0 => .object "RunningCount$Tape"
  | 1 => .int
  | 2 => .int
  | 3 => .int
  | 4 => .int
  | 5 => .int
  | 6 => .int
  | _ => .int
abbrev wsX70 : List Cond := u_ws RX7 TX7 8
theorem nmX7 : ∀ a, a < 8 → ∀ b, b < 8 → a ≠ b → (TX7 a).2.1 ≠ (TX7 b).2.1 := by decide +kernel
theorem tyX7_ok : ∀ k, k < 8 → parseFieldDescriptor (TX7 k).2.2.1 = some (tyX7 k) := by decide +kernel
abbrev cX7_init : ByteArray := prog_9_method_1_code
def yX7_init : MethodName := ⟨RX7, "<init>", "()V"⟩
abbrev cX7_readText : ByteArray := prog_9_method_2_code
def yX7_readText : MethodName := ⟨RX7, "readText", "(LRunningCount$Goods;)Z"⟩
abbrev cX7_readShelves : ByteArray := prog_9_method_3_code
def yX7_readShelves : MethodName := ⟨RX7, "readShelves", "(LRunningCount$Goods;)Z"⟩
abbrev cX7_readItems : ByteArray := prog_9_method_4_code
def yX7_readItems : MethodName := ⟨RX7, "readItems", "(LRunningCount$Goods;)Z"⟩
abbrev cX7_readItem : ByteArray := prog_9_method_5_code
def yX7_readItem : MethodName := ⟨RX7, "readItem", "(LRunningCount$Goods;)Z"⟩
abbrev cX7_readStocks : ByteArray := prog_9_method_6_code
def yX7_readStocks : MethodName := ⟨RX7, "readStocks", "(LRunningCount$Goods;)Z"⟩
abbrev cX7_readStock : ByteArray := prog_9_method_7_code
def yX7_readStock : MethodName := ⟨RX7, "readStock", "(LRunningCount$Goods;)Z"⟩
abbrev cX7_readMoves : ByteArray := prog_9_method_8_code
def yX7_readMoves : MethodName := ⟨RX7, "readMoves", "(LRunningCount$Goods;)Z"⟩
abbrev cX7_readMove : ByteArray := prog_9_method_9_code
def yX7_readMove : MethodName := ⟨RX7, "readMove", "(LRunningCount$Goods;)Z"⟩
abbrev cX7_readLeg : ByteArray := prog_9_method_10_code
def yX7_readLeg : MethodName := ⟨RX7, "readLeg", "(LRunningCount$Goods;II)Z"⟩
abbrev cX7_readEnd : ByteArray := prog_9_method_11_code
def yX7_readEnd : MethodName := ⟨RX7, "readEnd", "()Z"⟩
abbrev cX7_takeLineEnd : ByteArray := prog_9_method_12_code
def yX7_takeLineEnd : MethodName := ⟨RX7, "takeLineEnd", "()Z"⟩
abbrev cX7_take : ByteArray := prog_9_method_13_code
def yX7_take : MethodName := ⟨RX7, "take", "(I)Z"⟩
abbrev cX7_takeNumber : ByteArray := prog_9_method_14_code
def yX7_takeNumber : MethodName := ⟨RX7, "takeNumber", "(II)Z"⟩
abbrev cX7_advance : ByteArray := prog_9_method_15_code
def yX7_advance : MethodName := ⟨RX7, "advance", "()V"⟩
abbrev cX7_fail : ByteArray := prog_9_method_16_code
def yX7_fail : MethodName := ⟨RX7, "fail", "(I)Z"⟩
def RX8 : String := "RunningCount"
def TX8 : u_T := fun k => match k with
  | 0 => ("RunningCount", "reader", "LRunningCount$TextReader;", true)
  | 1 => ("RunningCount", "goods", "LRunningCount$Goods;", false)
  | 2 => ("RunningCount", "spare", "LRunningCount$Goods;", false)
  | 3 => ("RunningCount", "tally", "LRunningCount$CountList;", true)
  | 4 => ("RunningCount", "ledger", "LRunningCount$AdjustmentList;", true)
  | 5 => ("RunningCount", "journal", "LRunningCount$Journal;", true)
  | _ => ("RunningCount", "page", "LRunningCount$Book;", true)
def tyX8 : Nat → FieldType := fun k => match k with
  | 0 => .object "RunningCount$TextReader"
  | 1 => .object "RunningCount$Goods"
  | 2 => .object "RunningCount$Goods"
  | 3 => .object "RunningCount$CountList"
  | 4 => .object "RunningCount$AdjustmentList"
  | 5 => .object "RunningCount$Journal"
  | _ => .object "RunningCount$Book"
abbrev wsX80 : List Cond := u_ws RX8 TX8 7
theorem nmX8 : ∀ a, a < 7 → ∀ b, b < 7 → a ≠ b → (TX8 a).2.1 ≠ (TX8 b).2.1 := by decide +kernel
theorem tyX8_ok : ∀ k, k < 7 → parseFieldDescriptor (TX8 k).2.2.1 = some (tyX8 k) := by decide +kernel
abbrev cX8_init : ByteArray := prog_1_method_1_code
def yX8_init : MethodName := ⟨RX8, "<init>", "()V"⟩
abbrev cX8_feed : ByteArray := prog_1_method_2_code
def yX8_feed : MethodName := ⟨RX8, "feed", "(IIIII)I"⟩
abbrev cX8_end : ByteArray := prog_1_method_3_code
def yX8_end : MethodName := ⟨RX8, "end", "(I)Z"⟩
abbrev cX8_text : ByteArray := prog_1_method_4_code
def yX8_text : MethodName := ⟨RX8, "text", "()I"⟩
abbrev cX8_fault : ByteArray := prog_1_method_5_code
def yX8_fault : MethodName := ⟨RX8, "fault", "()I"⟩
abbrev cX8_now : ByteArray := prog_1_method_6_code
def yX8_now : MethodName := ⟨RX8, "now", "(I)I"⟩
abbrev cX8_item : ByteArray := prog_1_method_7_code
def yX8_item : MethodName := ⟨RX8, "item", "(II)I"⟩
abbrev cX8_move : ByteArray := prog_1_method_8_code
def yX8_move : MethodName := ⟨RX8, "move", "(II)I"⟩
abbrev cX8_book : ByteArray := prog_1_method_9_code
def yX8_book : MethodName := ⟨RX8, "book", "(IIII)I"⟩
abbrev cX8_transit : ByteArray := prog_1_method_10_code
def yX8_transit : MethodName := ⟨RX8, "transit", "(III)I"⟩
abbrev cX8_below : ByteArray := prog_1_method_11_code
def yX8_below : MethodName := ⟨RX8, "below", "(II)I"⟩
abbrev cX8_count : ByteArray := prog_1_method_12_code
def yX8_count : MethodName := ⟨RX8, "count", "(II)I"⟩
abbrev cX8_difference : ByteArray := prog_1_method_13_code
def yX8_difference : MethodName := ⟨RX8, "difference", "(I)I"⟩
abbrev cX8_share : ByteArray := prog_1_method_14_code
def yX8_share : MethodName := ⟨RX8, "share", "(I)I"⟩
abbrev cX8_chosen : ByteArray := prog_1_method_15_code
def yX8_chosen : MethodName := ⟨RX8, "chosen", "(II)I"⟩
abbrev cX8_due : ByteArray := prog_1_method_16_code
def yX8_due : MethodName := ⟨RX8, "due", "()I"⟩
abbrev cX8_explained : ByteArray := prog_1_method_17_code
def yX8_explained : MethodName := ⟨RX8, "explained", "(II)I"⟩
abbrev cX8_adjusted : ByteArray := prog_1_method_18_code
def yX8_adjusted : MethodName := ⟨RX8, "adjusted", "(II)I"⟩
abbrev cX8_moves : ByteArray := prog_1_method_19_code
def yX8_moves : MethodName := ⟨RX8, "moves", "(II)I"⟩
abbrev cX8_leg : ByteArray := prog_1_method_20_code
def yX8_leg : MethodName := ⟨RX8, "leg", "(IIIII)Z"⟩
abbrev cX8_narrow : ByteArray := prog_1_method_21_code
def yX8_narrow : MethodName := ⟨RX8, "narrow", "(IIII)I"⟩
abbrev cX8_counts : ByteArray := prog_1_method_22_code
def yX8_counts : MethodName := ⟨RX8, "counts", "(IIIII)I"⟩
abbrev cX8_post : ByteArray := prog_1_method_23_code
def yX8_post : MethodName := ⟨RX8, "post", "(II)I"⟩
abbrev cX8_drop : ByteArray := prog_1_method_24_code
def yX8_drop : MethodName := ⟨RX8, "drop", "(I)Z"⟩
abbrev cX8_undo : ByteArray := prog_1_method_25_code
def yX8_undo : MethodName := ⟨RX8, "undo", "()I"⟩
abbrev cX8_takeBack : ByteArray := prog_1_method_26_code
def yX8_takeBack : MethodName := ⟨RX8, "takeBack", "(LRunningCount$Act;)V"⟩
abbrev cX8_isInstant : ByteArray := prog_1_method_27_code
def yX8_isInstant : MethodName := ⟨RX8, "isInstant", "(I)Z"⟩
abbrev cX8_isSpan : ByteArray := prog_1_method_28_code
def yX8_isSpan : MethodName := ⟨RX8, "isSpan", "(II)Z"⟩
abbrev cX8_isLeg : ByteArray := prog_1_method_29_code
def yX8_isLeg : MethodName := ⟨RX8, "isLeg", "(I)Z"⟩
abbrev cX8_legOf : ByteArray := prog_1_method_30_code
def yX8_legOf : MethodName := ⟨RX8, "legOf", "(II)I"⟩
abbrev cX8_isInTransit : ByteArray := prog_1_method_31_code
def yX8_isInTransit : MethodName := ⟨RX8, "isInTransit", "(IIZ)Z"⟩
abbrev cX8_isBelow : ByteArray := prog_1_method_32_code
def yX8_isBelow : MethodName := ⟨RX8, "isBelow", "(III)Z"⟩
abbrev cX8_turnTo : ByteArray := prog_1_method_33_code
def yX8_turnTo : MethodName := ⟨RX8, "turnTo", "(I)V"⟩
abbrev cX8_differenceOf : ByteArray := prog_1_method_34_code
def yX8_differenceOf : MethodName := ⟨RX8, "differenceOf", "(I)I"⟩
abbrev cX8_allowedFor : ByteArray := prog_1_method_35_code
def yX8_allowedFor : MethodName := ⟨RX8, "allowedFor", "(I)I"⟩
abbrev cX8_chosenOf : ByteArray := prog_1_method_36_code
def yX8_chosenOf : MethodName := ⟨RX8, "chosenOf", "(II)I"⟩
abbrev cX8_middleOf : ByteArray := prog_1_method_37_code
def yX8_middleOf : MethodName := ⟨RX8, "middleOf", "(III)I"⟩
def RX9 : String := "RunningCountModel"
def TX9 : u_T := fun k => match k with
  | 0 => ("RunningCountModel", "thrown", "I", false)
  | 1 => ("RunningCountModel", "tape", "[I", true)
  | 2 => ("RunningCountModel", "taped", "I", false)
  | 3 => ("RunningCountModel", "size", "I", false)
  | 4 => ("RunningCountModel", "to", "I", false)
  | 5 => ("RunningCountModel", "from", "I", false)
  | 6 => ("RunningCountModel", "sort", "I", false)
  | 7 => ("RunningCountModel", "number", "I", false)
  | 8 => ("RunningCountModel", "fault", "I", false)
  | 9 => ("RunningCountModel", "place", "I", false)
  | 10 => ("RunningCountModel", "word", "J", false)
  | 11 => ("RunningCountModel", "now", "[I", true)
  | 12 => ("RunningCountModel", "read", "[I", true)
  | 13 => ("RunningCountModel", "snaps", "[I", true)
  | 14 => ("RunningCountModel", "snapMany", "I", false)
  | 15 => ("RunningCountModel", "got", "I", false)
  | 16 => ("RunningCountModel", "stocked", "I", false)
  | 17 => ("RunningCountModel", "lines", "I", false)
  | 18 => ("RunningCountModel", "open", "[I", true)
  | 19 => ("RunningCountModel", "openThere", "I", false)
  | _ => ("RunningCountModel", "changes", "[I", true)
def tyX9 : Nat → FieldType := fun k => match k with
  | 0 => .int
  | 1 => .array .int
  | 2 => .int
  | 3 => .int
  | 4 => .int
  | 5 => .int
  | 6 => .int
  | 7 => .int
  | 8 => .int
  | 9 => .int
  | 10 => .long
  | 11 => .array .int
  | 12 => .array .int
  | 13 => .array .int
  | 14 => .int
  | 15 => .int
  | 16 => .int
  | 17 => .int
  | 18 => .array .int
  | 19 => .int
  | _ => .array .int
abbrev wsX90 : List Cond := u_ws RX9 TX9 21
theorem nmX9 : ∀ a, a < 21 → ∀ b, b < 21 → a ≠ b → (TX9 a).2.1 ≠ (TX9 b).2.1 := by decide +kernel
theorem tyX9_ok : ∀ k, k < 21 → parseFieldDescriptor (TX9 k).2.2.1 = some (tyX9 k) := by decide +kernel
abbrev cX9_thrown : ByteArray := prog_11_method_1_code
def yX9_thrown : MethodName := ⟨RX9, "thrown", "()I"⟩
abbrev cX9_refuse : ByteArray := prog_11_method_2_code
def yX9_refuse : MethodName := ⟨RX9, "refuse", "()I"⟩
abbrev cX9_isIn : ByteArray := prog_11_method_3_code
def yX9_isIn : MethodName := ⟨RX9, "isIn", "(III)Z"⟩
abbrev cX9_lays : ByteArray := prog_11_method_4_code
def yX9_lays : MethodName := ⟨RX9, "lays", "(I)V"⟩
abbrev cX9_feed : ByteArray := prog_11_method_5_code
def yX9_feed : MethodName := ⟨RX9, "feed", "(IIIII)I"⟩
abbrev cX9_end : ByteArray := prog_11_method_6_code
def yX9_end : MethodName := ⟨RX9, "end", "(I)Z"⟩
abbrev cX9_tapeAt : ByteArray := prog_11_method_7_code
def yX9_tapeAt : MethodName := ⟨RX9, "tapeAt", "(I)I"⟩
abbrev cX9_isDigit : ByteArray := prog_11_method_8_code
def yX9_isDigit : MethodName := ⟨RX9, "isDigit", "(I)Z"⟩
abbrev cX9_isLetter : ByteArray := prog_11_method_9_code
def yX9_isLetter : MethodName := ⟨RX9, "isLetter", "(I)Z"⟩
abbrev cX9_go : ByteArray := prog_11_method_10_code
def yX9_go : MethodName := ⟨RX9, "go", "()V"⟩
abbrev cX9_two : ByteArray := prog_11_method_11_code
def yX9_two : MethodName := ⟨RX9, "two", "(II)J"⟩
abbrev cX9_four : ByteArray := prog_11_method_12_code
def yX9_four : MethodName := ⟨RX9, "four", "(IIII)J"⟩
abbrev cX9_seven : ByteArray := prog_11_method_13_code
def yX9_seven : MethodName := ⟨RX9, "seven", "(IIIIIII)J"⟩
abbrev cX9_isWord : ByteArray := prog_11_method_14_code
def yX9_isWord : MethodName := ⟨RX9, "isWord", "(J)Z"⟩
abbrev cX9_bad : ByteArray := prog_11_method_15_code
def yX9_bad : MethodName := ⟨RX9, "bad", "(I)Z"⟩
abbrev cX9_init : ByteArray := prog_11_method_16_code
def yX9_init : MethodName := ⟨RX9, "<init>", "()V"⟩
abbrev cX9_told : ByteArray := prog_11_method_17_code
def yX9_told : MethodName := ⟨RX9, "told", "(III)Z"⟩
abbrev cX9_takes : ByteArray := prog_11_method_18_code
def yX9_takes : MethodName := ⟨RX9, "takes", "(II)Z"⟩
abbrev cX9_readEnd : ByteArray := prog_11_method_19_code
def yX9_readEnd : MethodName := ⟨RX9, "readEnd", "()Z"⟩
abbrev cX9_readShelves : ByteArray := prog_11_method_20_code
def yX9_readShelves : MethodName := ⟨RX9, "readShelves", "()Z"⟩
abbrev cX9_readItem : ByteArray := prog_11_method_21_code
def yX9_readItem : MethodName := ⟨RX9, "readItem", "()Z"⟩
abbrev cX9_readStock : ByteArray := prog_11_method_22_code
def yX9_readStock : MethodName := ⟨RX9, "readStock", "()Z"⟩
abbrev cX9_readLeg : ByteArray := prog_11_method_23_code
def yX9_readLeg : MethodName := ⟨RX9, "readLeg", "(I)Z"⟩
abbrev cX9_readMove : ByteArray := prog_11_method_24_code
def yX9_readMove : MethodName := ⟨RX9, "readMove", "()Z"⟩
abbrev cX9_isSort : ByteArray := prog_11_method_25_code
def yX9_isSort : MethodName := ⟨RX9, "isSort", "(I)Z"⟩
abbrev cX9_readAll : ByteArray := prog_11_method_26_code
def yX9_readAll : MethodName := ⟨RX9, "readAll", "(I)Z"⟩
abbrev cX9_readWhole : ByteArray := prog_11_method_27_code
def yX9_readWhole : MethodName := ⟨RX9, "readWhole", "()Z"⟩
abbrev cX9_text : ByteArray := prog_11_method_28_code
def yX9_text : MethodName := ⟨RX9, "text", "()I"⟩
abbrev cX9_fault : ByteArray := prog_11_method_29_code
def yX9_fault : MethodName := ⟨RX9, "fault", "()I"⟩
abbrev cX9_isShelf : ByteArray := prog_11_method_30_code
def yX9_isShelf : MethodName := ⟨RX9, "isShelf", "(I)Z"⟩
abbrev cX9_isItem : ByteArray := prog_11_method_31_code
def yX9_isItem : MethodName := ⟨RX9, "isItem", "(I)Z"⟩
abbrev cX9_isMove : ByteArray := prog_11_method_32_code
def yX9_isMove : MethodName := ⟨RX9, "isMove", "(I)Z"⟩
abbrev cX9_isCount : ByteArray := prog_11_method_33_code
def yX9_isCount : MethodName := ⟨RX9, "isCount", "(I)Z"⟩
abbrev cX9_isInstant : ByteArray := prog_11_method_34_code
def yX9_isInstant : MethodName := ⟨RX9, "isInstant", "(I)Z"⟩
abbrev cX9_moved : ByteArray := prog_11_method_35_code
def yX9_moved : MethodName := ⟨RX9, "moved", "(II)I"⟩
abbrev cX9_leg : ByteArray := prog_11_method_36_code
def yX9_leg : MethodName := ⟨RX9, "leg", "(III)I"⟩
abbrev cX9_isThere : ByteArray := prog_11_method_37_code
def yX9_isThere : MethodName := ⟨RX9, "isThere", "(II)Z"⟩
abbrev cX9_isAt : ByteArray := prog_11_method_38_code
def yX9_isAt : MethodName := ⟨RX9, "isAt", "(IIII)Z"⟩
abbrev cX9_isOver : ByteArray := prog_11_method_39_code
def yX9_isOver : MethodName := ⟨RX9, "isOver", "(III)Z"⟩
abbrev cX9_isToCome : ByteArray := prog_11_method_40_code
def yX9_isToCome : MethodName := ⟨RX9, "isToCome", "(III)Z"⟩
abbrev cX9_isDoubtful : ByteArray := prog_11_method_41_code
def yX9_isDoubtful : MethodName := ⟨RX9, "isDoubtful", "(III)Z"⟩
abbrev cX9_sure : ByteArray := prog_11_method_42_code
def yX9_sure : MethodName := ⟨RX9, "sure", "(III)I"⟩
abbrev cX9_doubtful : ByteArray := prog_11_method_43_code
def yX9_doubtful : MethodName := ⟨RX9, "doubtful", "(IIII)I"⟩
abbrev cX9_least : ByteArray := prog_11_method_44_code
def yX9_least : MethodName := ⟨RX9, "least", "(III)I"⟩
abbrev cX9_most : ByteArray := prog_11_method_45_code
def yX9_most : MethodName := ⟨RX9, "most", "(III)I"⟩
abbrev cX9_now : ByteArray := prog_11_method_46_code
def yX9_now : MethodName := ⟨RX9, "now", "(I)I"⟩
abbrev cX9_item : ByteArray := prog_11_method_47_code
def yX9_item : MethodName := ⟨RX9, "item", "(II)I"⟩
abbrev cX9_move : ByteArray := prog_11_method_48_code
def yX9_move : MethodName := ⟨RX9, "move", "(II)I"⟩
abbrev cX9_book : ByteArray := prog_11_method_49_code
def yX9_book : MethodName := ⟨RX9, "book", "(IIII)I"⟩
abbrev cX9_transit : ByteArray := prog_11_method_50_code
def yX9_transit : MethodName := ⟨RX9, "transit", "(III)I"⟩
abbrev cX9_below : ByteArray := prog_11_method_51_code
def yX9_below : MethodName := ⟨RX9, "below", "(II)I"⟩
abbrev cX9_counted : ByteArray := prog_11_method_52_code
def yX9_counted : MethodName := ⟨RX9, "counted", "(II)I"⟩
abbrev cX9_sureOf : ByteArray := prog_11_method_53_code
def yX9_sureOf : MethodName := ⟨RX9, "sureOf", "(I)I"⟩
abbrev cX9_differenceOf : ByteArray := prog_11_method_54_code
def yX9_differenceOf : MethodName := ⟨RX9, "differenceOf", "(I)I"⟩
abbrev cX9_allowed : ByteArray := prog_11_method_55_code
def yX9_allowed : MethodName := ⟨RX9, "allowed", "(I)I"⟩
abbrev cX9_isOpenAt : ByteArray := prog_11_method_56_code
def yX9_isOpenAt : MethodName := ⟨RX9, "isOpenAt", "(III)Z"⟩
abbrev cX9_openMany : ByteArray := prog_11_method_57_code
def yX9_openMany : MethodName := ⟨RX9, "openMany", "()I"⟩
abbrev cX9_count : ByteArray := prog_11_method_58_code
def yX9_count : MethodName := ⟨RX9, "count", "(II)I"⟩
abbrev cX9_difference : ByteArray := prog_11_method_59_code
def yX9_difference : MethodName := ⟨RX9, "difference", "(I)I"⟩
abbrev cX9_share : ByteArray := prog_11_method_60_code
def yX9_share : MethodName := ⟨RX9, "share", "(I)I"⟩
abbrev cX9_laysOpen : ByteArray := prog_11_method_61_code
def yX9_laysOpen : MethodName := ⟨RX9, "laysOpen", "(II)V"⟩
abbrev cX9_far : ByteArray := prog_11_method_62_code
def yX9_far : MethodName := ⟨RX9, "far", "(II)I"⟩
abbrev cX9_choose : ByteArray := prog_11_method_63_code
def yX9_choose : MethodName := ⟨RX9, "choose", "(II)I"⟩
abbrev cX9_chosen : ByteArray := prog_11_method_64_code
def yX9_chosen : MethodName := ⟨RX9, "chosen", "(II)I"⟩
abbrev cX9_due : ByteArray := prog_11_method_65_code
def yX9_due : MethodName := ⟨RX9, "due", "()I"⟩
abbrev cX9_explained : ByteArray := prog_11_method_66_code
def yX9_explained : MethodName := ⟨RX9, "explained", "(II)I"⟩
abbrev cX9_adjusted : ByteArray := prog_11_method_67_code
def yX9_adjusted : MethodName := ⟨RX9, "adjusted", "(II)I"⟩
abbrev cX9_snap : ByteArray := prog_11_method_68_code
def yX9_snap : MethodName := ⟨RX9, "snap", "()V"⟩
abbrev cX9_moves : ByteArray := prog_11_method_69_code
def yX9_moves : MethodName := ⟨RX9, "moves", "(II)I"⟩
abbrev cX9_isSpan : ByteArray := prog_11_method_70_code
def yX9_isSpan : MethodName := ⟨RX9, "isSpan", "(II)Z"⟩
abbrev cX9_leg_ : ByteArray := prog_11_method_71_code
def yX9_leg_ : MethodName := ⟨RX9, "leg", "(IIIII)Z"⟩
abbrev cX9_narrow : ByteArray := prog_11_method_72_code
def yX9_narrow : MethodName := ⟨RX9, "narrow", "(IIII)I"⟩
abbrev cX9_whyNot : ByteArray := prog_11_method_73_code
def yX9_whyNot : MethodName := ⟨RX9, "whyNot", "(IIII)I"⟩
abbrev cX9_counts : ByteArray := prog_11_method_74_code
def yX9_counts : MethodName := ⟨RX9, "counts", "(IIIII)I"⟩
abbrev cX9_post : ByteArray := prog_11_method_75_code
def yX9_post : MethodName := ⟨RX9, "post", "(II)I"⟩
abbrev cX9_drop : ByteArray := prog_11_method_76_code
def yX9_drop : MethodName := ⟨RX9, "drop", "(I)Z"⟩
abbrev cX9_undo : ByteArray := prog_11_method_77_code
def yX9_undo : MethodName := ⟨RX9, "undo", "()I"⟩
def RJ9 : String := "java/lang/Math"
abbrev cJ9_abs_0f7a4 : ByteArray := prog_16_method_59_code
def yJ9_abs_0f7a4 : MethodName := ⟨RJ9, "abs", "(I)I"⟩
abbrev cJ9_max_7cf53 : ByteArray := prog_16_method_65_code
def yJ9_max_7cf53 : MethodName := ⟨RJ9, "max", "(II)I"⟩
abbrev cJ9_min_7cf53 : ByteArray := prog_16_method_69_code
def yJ9_min_7cf53 : MethodName := ⟨RJ9, "min", "(II)I"⟩
def RJ0 : String := "java/lang/String"
abbrev cJ0_length_8abf5 : ByteArray := prog_18_method_54_code
def yJ0_length_8abf5 : MethodName := ⟨RJ0, "length", "()I"⟩
abbrev cJ0_charAt_5068e : ByteArray := prog_18_method_56_code
def yJ0_charAt_5068e : MethodName := ⟨RJ0, "charAt", "(I)C"⟩
abbrev cJ0_coder_7d493 : ByteArray := prog_18_method_152_code
def yJ0_coder_7d493 : MethodName := ⟨RJ0, "coder", "()B"⟩
abbrev cJ0_isLatin1_aae02 : ByteArray := prog_18_method_154_code
def yJ0_isLatin1_aae02 : MethodName := ⟨RJ0, "isLatin1", "()Z"⟩
abbrev cJ0_checkIndex_df160 : ByteArray := prog_18_method_155_code
def yJ0_checkIndex_df160 : MethodName := ⟨RJ0, "checkIndex", "(II)V"⟩
def RJ1 : String := "java/lang/StringLatin1"
abbrev cJ1_charAt_3b067 : ByteArray := prog_19_method_2_code
def yJ1_charAt_3b067 : MethodName := ⟨RJ1, "charAt", "([BI)C"⟩
def RJ2 : String := "java/lang/StringUTF16"
abbrev cJ2_getChar_3b067 : ByteArray := prog_20_method_5_code
def yJ2_getChar_3b067 : MethodName := ⟨RJ2, "getChar", "([BI)C"⟩
abbrev cJ2_length_9d52b : ByteArray := prog_20_method_6_code
def yJ2_length_9d52b : MethodName := ⟨RJ2, "length", "([B)I"⟩
abbrev cJ2_charAt_3b067 : ByteArray := prog_20_method_83_code
def yJ2_charAt_3b067 : MethodName := ⟨RJ2, "charAt", "([BI)C"⟩
abbrev cJ2_checkIndex_2214a : ByteArray := prog_20_method_91_code
def yJ2_checkIndex_2214a : MethodName := ⟨RJ2, "checkIndex", "(I[B)V"⟩
def RJ3 : String := "jdk/internal/util/Preconditions"
abbrev cJ3_checkIndex_8e157 : ByteArray := prog_25_method_11_code
def yJ3_checkIndex_8e157 : MethodName := ⟨RJ3, "checkIndex", "(IILjava/util/function/BiFunction;)I"⟩
def RL : String := "RunningCountLaw"
abbrev cL_move : ByteArray := method_3_code
def yL_move : MethodName := ⟨RL, "move", "(LRunningCount;II[J)I"⟩
abbrev cL_count : ByteArray := method_4_code
def yL_count : MethodName := ⟨RL, "count", "(LRunningCount;II[J)I"⟩
abbrev cL_law : ByteArray := code
def yL_law : MethodName := ⟨RL, "law", "([I)Z"⟩
abbrev vwCl : List vw_C := [(RX0, TX0, 10), (RX1, TX1, 5), (RX2, TX2, 5), (RX3, TX3, 7), (RX4, TX4, 11), (RX5, TX5, 3), (RX6, TX6, 5), (RX7, TX7, 8), (RX8, TX8, 7), (RX9, TX9, 21)]
end
section
theorem dL_move_0 : decode cL_move 0 = .ok (.aload_n 3, 1) := by decide +kernel
theorem dL_move_1 : decode cL_move 1 = .ok (.iconst 0, 1) := by decide +kernel
theorem dL_move_2 : decode cL_move 2 = .ok (.aload_n 0, 1) := by decide +kernel
theorem dL_move_3 : decode cL_move 3 = .ok (.iload_n 1, 1) := by decide +kernel
theorem dL_move_4 : decode cL_move 4 = .ok (.iload_n 2, 1) := by decide +kernel
theorem dL_move_5 : decode cL_move 5 = .ok (.invokevirtual 7, 3) := by decide +kernel
theorem dL_move_8 : decode cL_move 8 = .ok (.i2l, 1) := by decide +kernel
theorem dL_move_9 : decode cL_move 9 = .ok (.lastore, 1) := by decide +kernel
theorem dL_move_10 : decode cL_move 10 = .ok (.goto 7, 3) := by decide +kernel
theorem dL_move_13 : decode cL_move 13 = .ok (.astore 4, 2) := by decide +kernel
theorem dL_move_15 : decode cL_move 15 = .ok (.iconst 1, 1) := by decide +kernel
theorem dL_move_16 : decode cL_move 16 = .ok (.ireturn, 1) := by decide +kernel
theorem dL_move_17 : decode cL_move 17 = .ok (.iconst 0, 1) := by decide +kernel
theorem dL_move_18 : decode cL_move 18 = .ok (.ireturn, 1) := by decide +kernel
theorem dL_count_0 : decode cL_count 0 = .ok (.aload_n 3, 1) := by decide +kernel
theorem dL_count_1 : decode cL_count 1 = .ok (.iconst 0, 1) := by decide +kernel
theorem dL_count_2 : decode cL_count 2 = .ok (.aload_n 0, 1) := by decide +kernel
theorem dL_count_3 : decode cL_count 3 = .ok (.iload_n 1, 1) := by decide +kernel
theorem dL_count_4 : decode cL_count 4 = .ok (.iload_n 2, 1) := by decide +kernel
theorem dL_count_5 : decode cL_count 5 = .ok (.invokevirtual 15, 3) := by decide +kernel
theorem dL_count_8 : decode cL_count 8 = .ok (.i2l, 1) := by decide +kernel
theorem dL_count_9 : decode cL_count 9 = .ok (.lastore, 1) := by decide +kernel
theorem dL_count_10 : decode cL_count 10 = .ok (.goto 7, 3) := by decide +kernel
theorem dL_count_13 : decode cL_count 13 = .ok (.astore 4, 2) := by decide +kernel
theorem dL_count_15 : decode cL_count 15 = .ok (.iconst 1, 1) := by decide +kernel
theorem dL_count_16 : decode cL_count 16 = .ok (.ireturn, 1) := by decide +kernel
theorem dL_count_17 : decode cL_count 17 = .ok (.iconst 0, 1) := by decide +kernel
theorem dL_count_18 : decode cL_count 18 = .ok (.ireturn, 1) := by decide +kernel
theorem dL_law_0 : decode cL_law 0 = .ok (.new 8, 3) := by decide +kernel
theorem dL_law_3 : decode cL_law 3 = .ok (.dup, 1) := by decide +kernel
theorem dL_law_4 : decode cL_law 4 = .ok (.invokespecial 18, 3) := by decide +kernel
theorem dL_law_7 : decode cL_law 7 = .ok (.astore_n 1, 1) := by decide +kernel
theorem dL_law_8 : decode cL_law 8 = .ok (.new 19, 3) := by decide +kernel
theorem dL_law_11 : decode cL_law 11 = .ok (.dup, 1) := by decide +kernel
theorem dL_law_12 : decode cL_law 12 = .ok (.invokespecial 21, 3) := by decide +kernel
theorem dL_law_15 : decode cL_law 15 = .ok (.astore_n 2, 1) := by decide +kernel
theorem dL_law_16 : decode cL_law 16 = .ok (.iconst 1, 1) := by decide +kernel
theorem dL_law_17 : decode cL_law 17 = .ok (.newarray .long, 2) := by decide +kernel
theorem dL_law_19 : decode cL_law 19 = .ok (.astore_n 3, 1) := by decide +kernel
theorem dL_law_20 : decode cL_law 20 = .ok (.iconst 0, 1) := by decide +kernel
theorem dL_law_21 : decode cL_law 21 = .ok (.istore 4, 2) := by decide +kernel
theorem dL_law_23 : decode cL_law 23 = .ok (.iload 4, 2) := by decide +kernel
theorem dL_law_25 : decode cL_law 25 = .ok (.aload_n 0, 1) := by decide +kernel
theorem dL_law_26 : decode cL_law 26 = .ok (.arraylength, 1) := by decide +kernel
theorem dL_law_27 : decode cL_law 27 = .ok (.bipush 6, 2) := by decide +kernel
theorem dL_law_29 : decode cL_law 29 = .ok (.isub, 1) := by decide +kernel
theorem dL_law_30 : decode cL_law 30 = .ok (.if_icmp .gt 1090, 3) := by decide +kernel
theorem dL_law_33 : decode cL_law 33 = .ok (.aload_n 0, 1) := by decide +kernel
theorem dL_law_34 : decode cL_law 34 = .ok (.iload 4, 2) := by decide +kernel
theorem dL_law_36 : decode cL_law 36 = .ok (.iaload, 1) := by decide +kernel
theorem dL_law_37 : decode cL_law 37 = .ok (.bipush 31, 2) := by decide +kernel
theorem dL_law_39 : decode cL_law 39 = .ok (.iand, 1) := by decide +kernel
theorem dL_law_40 : decode cL_law 40 = .ok (.tableswitch 1074 0 23 #[112, 185, 210, 223, 236, 261, 298, 366, 427, 476, 513, 581, 606, 631, 668, 681, 718, 755, 792, 865, 926, 999, 1036, 1061], 112) := by decide +kernel
theorem dL_law_152 : decode cL_law 152 = .ok (.aload_n 1, 1) := by decide +kernel
theorem dL_law_153 : decode cL_law 153 = .ok (.aload_n 0, 1) := by decide +kernel
theorem dL_law_154 : decode cL_law 154 = .ok (.iload 4, 2) := by decide +kernel
theorem dL_law_156 : decode cL_law 156 = .ok (.iconst 1, 1) := by decide +kernel
theorem dL_law_157 : decode cL_law 157 = .ok (.iadd, 1) := by decide +kernel
theorem dL_law_158 : decode cL_law 158 = .ok (.iaload, 1) := by decide +kernel
theorem dL_law_159 : decode cL_law 159 = .ok (.aload_n 0, 1) := by decide +kernel
theorem dL_law_160 : decode cL_law 160 = .ok (.iload 4, 2) := by decide +kernel
theorem dL_law_162 : decode cL_law 162 = .ok (.iconst 2, 1) := by decide +kernel
theorem dL_law_163 : decode cL_law 163 = .ok (.iadd, 1) := by decide +kernel
theorem dL_law_164 : decode cL_law 164 = .ok (.iaload, 1) := by decide +kernel
theorem dL_law_165 : decode cL_law 165 = .ok (.aload_n 0, 1) := by decide +kernel
theorem dL_law_166 : decode cL_law 166 = .ok (.iload 4, 2) := by decide +kernel
theorem dL_law_168 : decode cL_law 168 = .ok (.iconst 3, 1) := by decide +kernel
theorem dL_law_169 : decode cL_law 169 = .ok (.iadd, 1) := by decide +kernel
theorem dL_law_170 : decode cL_law 170 = .ok (.iaload, 1) := by decide +kernel
theorem dL_law_171 : decode cL_law 171 = .ok (.aload_n 0, 1) := by decide +kernel
theorem dL_law_172 : decode cL_law 172 = .ok (.iload 4, 2) := by decide +kernel
theorem dL_law_174 : decode cL_law 174 = .ok (.iconst 4, 1) := by decide +kernel
theorem dL_law_175 : decode cL_law 175 = .ok (.iadd, 1) := by decide +kernel
theorem dL_law_176 : decode cL_law 176 = .ok (.iaload, 1) := by decide +kernel
theorem dL_law_177 : decode cL_law 177 = .ok (.aload_n 0, 1) := by decide +kernel
theorem dL_law_178 : decode cL_law 178 = .ok (.iload 4, 2) := by decide +kernel
theorem dL_law_180 : decode cL_law 180 = .ok (.iconst 5, 1) := by decide +kernel
theorem dL_law_181 : decode cL_law 181 = .ok (.iadd, 1) := by decide +kernel
theorem dL_law_182 : decode cL_law 182 = .ok (.iaload, 1) := by decide +kernel
theorem dL_law_183 : decode cL_law 183 = .ok (.invokevirtual 22, 3) := by decide +kernel
theorem dL_law_186 : decode cL_law 186 = .ok (.aload_n 2, 1) := by decide +kernel
theorem dL_law_187 : decode cL_law 187 = .ok (.aload_n 0, 1) := by decide +kernel
theorem dL_law_188 : decode cL_law 188 = .ok (.iload 4, 2) := by decide +kernel
theorem dL_law_190 : decode cL_law 190 = .ok (.iconst 1, 1) := by decide +kernel
theorem dL_law_191 : decode cL_law 191 = .ok (.iadd, 1) := by decide +kernel
theorem dL_law_192 : decode cL_law 192 = .ok (.iaload, 1) := by decide +kernel
theorem dL_law_193 : decode cL_law 193 = .ok (.aload_n 0, 1) := by decide +kernel
theorem dL_law_194 : decode cL_law 194 = .ok (.iload 4, 2) := by decide +kernel
theorem dL_law_196 : decode cL_law 196 = .ok (.iconst 2, 1) := by decide +kernel
theorem dL_law_197 : decode cL_law 197 = .ok (.iadd, 1) := by decide +kernel
theorem dL_law_198 : decode cL_law 198 = .ok (.iaload, 1) := by decide +kernel
theorem dL_law_199 : decode cL_law 199 = .ok (.aload_n 0, 1) := by decide +kernel
theorem dL_law_200 : decode cL_law 200 = .ok (.iload 4, 2) := by decide +kernel
theorem dL_law_202 : decode cL_law 202 = .ok (.iconst 3, 1) := by decide +kernel
theorem dL_law_203 : decode cL_law 203 = .ok (.iadd, 1) := by decide +kernel
theorem dL_law_204 : decode cL_law 204 = .ok (.iaload, 1) := by decide +kernel
theorem dL_law_205 : decode cL_law 205 = .ok (.aload_n 0, 1) := by decide +kernel
theorem dL_law_206 : decode cL_law 206 = .ok (.iload 4, 2) := by decide +kernel
theorem dL_law_208 : decode cL_law 208 = .ok (.iconst 4, 1) := by decide +kernel
theorem dL_law_209 : decode cL_law 209 = .ok (.iadd, 1) := by decide +kernel
theorem dL_law_210 : decode cL_law 210 = .ok (.iaload, 1) := by decide +kernel
theorem dL_law_211 : decode cL_law 211 = .ok (.aload_n 0, 1) := by decide +kernel
theorem dL_law_212 : decode cL_law 212 = .ok (.iload 4, 2) := by decide +kernel
theorem dL_law_214 : decode cL_law 214 = .ok (.iconst 5, 1) := by decide +kernel
theorem dL_law_215 : decode cL_law 215 = .ok (.iadd, 1) := by decide +kernel
theorem dL_law_216 : decode cL_law 216 = .ok (.iaload, 1) := by decide +kernel
theorem dL_law_217 : decode cL_law 217 = .ok (.invokevirtual 26, 3) := by decide +kernel
theorem dL_law_220 : decode cL_law 220 = .ok (.if_icmp .eq 894, 3) := by decide +kernel
theorem dL_law_223 : decode cL_law 223 = .ok (.iconst 0, 1) := by decide +kernel
theorem dL_law_224 : decode cL_law 224 = .ok (.ireturn, 1) := by decide +kernel
theorem dL_law_225 : decode cL_law 225 = .ok (.aload_n 1, 1) := by decide +kernel
theorem dL_law_226 : decode cL_law 226 = .ok (.aload_n 0, 1) := by decide +kernel
theorem dL_law_227 : decode cL_law 227 = .ok (.iload 4, 2) := by decide +kernel
theorem dL_law_229 : decode cL_law 229 = .ok (.iconst 1, 1) := by decide +kernel
theorem dL_law_230 : decode cL_law 230 = .ok (.iadd, 1) := by decide +kernel
theorem dL_law_231 : decode cL_law 231 = .ok (.iaload, 1) := by decide +kernel
theorem dL_law_232 : decode cL_law 232 = .ok (.invokevirtual 27, 3) := by decide +kernel
theorem dL_law_235 : decode cL_law 235 = .ok (.aload_n 2, 1) := by decide +kernel
theorem dL_law_236 : decode cL_law 236 = .ok (.aload_n 0, 1) := by decide +kernel
theorem dL_law_237 : decode cL_law 237 = .ok (.iload 4, 2) := by decide +kernel
theorem dL_law_239 : decode cL_law 239 = .ok (.iconst 1, 1) := by decide +kernel
theorem dL_law_240 : decode cL_law 240 = .ok (.iadd, 1) := by decide +kernel
theorem dL_law_241 : decode cL_law 241 = .ok (.iaload, 1) := by decide +kernel
theorem dL_law_242 : decode cL_law 242 = .ok (.invokevirtual 31, 3) := by decide +kernel
theorem dL_law_245 : decode cL_law 245 = .ok (.if_icmp .eq 869, 3) := by decide +kernel
theorem dL_law_248 : decode cL_law 248 = .ok (.iconst 0, 1) := by decide +kernel
theorem dL_law_249 : decode cL_law 249 = .ok (.ireturn, 1) := by decide +kernel
theorem dL_law_250 : decode cL_law 250 = .ok (.aload_n 1, 1) := by decide +kernel
theorem dL_law_251 : decode cL_law 251 = .ok (.invokevirtual 32, 3) := by decide +kernel
theorem dL_law_254 : decode cL_law 254 = .ok (.aload_n 2, 1) := by decide +kernel
theorem dL_law_255 : decode cL_law 255 = .ok (.invokevirtual 36, 3) := by decide +kernel
theorem dL_law_258 : decode cL_law 258 = .ok (.if_icmp .eq 856, 3) := by decide +kernel
theorem dL_law_261 : decode cL_law 261 = .ok (.iconst 0, 1) := by decide +kernel
theorem dL_law_262 : decode cL_law 262 = .ok (.ireturn, 1) := by decide +kernel
theorem dL_law_263 : decode cL_law 263 = .ok (.aload_n 1, 1) := by decide +kernel
theorem dL_law_264 : decode cL_law 264 = .ok (.invokevirtual 37, 3) := by decide +kernel
theorem dL_law_267 : decode cL_law 267 = .ok (.aload_n 2, 1) := by decide +kernel
theorem dL_law_268 : decode cL_law 268 = .ok (.invokevirtual 40, 3) := by decide +kernel
theorem dL_law_271 : decode cL_law 271 = .ok (.if_icmp .eq 843, 3) := by decide +kernel
theorem dL_law_274 : decode cL_law 274 = .ok (.iconst 0, 1) := by decide +kernel
theorem dL_law_275 : decode cL_law 275 = .ok (.ireturn, 1) := by decide +kernel
theorem dL_law_276 : decode cL_law 276 = .ok (.aload_n 1, 1) := by decide +kernel
theorem dL_law_277 : decode cL_law 277 = .ok (.aload_n 0, 1) := by decide +kernel
theorem dL_law_278 : decode cL_law 278 = .ok (.iload 4, 2) := by decide +kernel
theorem dL_law_280 : decode cL_law 280 = .ok (.iconst 1, 1) := by decide +kernel
theorem dL_law_281 : decode cL_law 281 = .ok (.iadd, 1) := by decide +kernel
theorem dL_law_282 : decode cL_law 282 = .ok (.iaload, 1) := by decide +kernel
theorem dL_law_283 : decode cL_law 283 = .ok (.invokevirtual 41, 3) := by decide +kernel
theorem dL_law_286 : decode cL_law 286 = .ok (.aload_n 2, 1) := by decide +kernel
theorem dL_law_287 : decode cL_law 287 = .ok (.aload_n 0, 1) := by decide +kernel
theorem dL_law_288 : decode cL_law 288 = .ok (.iload 4, 2) := by decide +kernel
theorem dL_law_290 : decode cL_law 290 = .ok (.iconst 1, 1) := by decide +kernel
theorem dL_law_291 : decode cL_law 291 = .ok (.iadd, 1) := by decide +kernel
theorem dL_law_292 : decode cL_law 292 = .ok (.iaload, 1) := by decide +kernel
theorem dL_law_293 : decode cL_law 293 = .ok (.invokevirtual 45, 3) := by decide +kernel
theorem dL_law_296 : decode cL_law 296 = .ok (.if_icmp .eq 818, 3) := by decide +kernel
theorem dL_law_299 : decode cL_law 299 = .ok (.iconst 0, 1) := by decide +kernel
theorem dL_law_300 : decode cL_law 300 = .ok (.ireturn, 1) := by decide +kernel
theorem dL_law_301 : decode cL_law 301 = .ok (.aload_n 1, 1) := by decide +kernel
theorem dL_law_302 : decode cL_law 302 = .ok (.aload_n 0, 1) := by decide +kernel
theorem dL_law_303 : decode cL_law 303 = .ok (.iload 4, 2) := by decide +kernel
theorem dL_law_305 : decode cL_law 305 = .ok (.iconst 1, 1) := by decide +kernel
theorem dL_law_306 : decode cL_law 306 = .ok (.iadd, 1) := by decide +kernel
theorem dL_law_307 : decode cL_law 307 = .ok (.iaload, 1) := by decide +kernel
theorem dL_law_308 : decode cL_law 308 = .ok (.aload_n 0, 1) := by decide +kernel
theorem dL_law_309 : decode cL_law 309 = .ok (.iload 4, 2) := by decide +kernel
theorem dL_law_311 : decode cL_law 311 = .ok (.iconst 2, 1) := by decide +kernel
theorem dL_law_312 : decode cL_law 312 = .ok (.iadd, 1) := by decide +kernel
theorem dL_law_313 : decode cL_law 313 = .ok (.iaload, 1) := by decide +kernel
theorem dL_law_314 : decode cL_law 314 = .ok (.invokevirtual 46, 3) := by decide +kernel
theorem dL_law_317 : decode cL_law 317 = .ok (.aload_n 2, 1) := by decide +kernel
theorem dL_law_318 : decode cL_law 318 = .ok (.aload_n 0, 1) := by decide +kernel
theorem dL_law_319 : decode cL_law 319 = .ok (.iload 4, 2) := by decide +kernel
theorem dL_law_321 : decode cL_law 321 = .ok (.iconst 1, 1) := by decide +kernel
theorem dL_law_322 : decode cL_law 322 = .ok (.iadd, 1) := by decide +kernel
theorem dL_law_323 : decode cL_law 323 = .ok (.iaload, 1) := by decide +kernel
theorem dL_law_324 : decode cL_law 324 = .ok (.aload_n 0, 1) := by decide +kernel
theorem dL_law_325 : decode cL_law 325 = .ok (.iload 4, 2) := by decide +kernel
theorem dL_law_327 : decode cL_law 327 = .ok (.iconst 2, 1) := by decide +kernel
theorem dL_law_328 : decode cL_law 328 = .ok (.iadd, 1) := by decide +kernel
theorem dL_law_329 : decode cL_law 329 = .ok (.iaload, 1) := by decide +kernel
theorem dL_law_330 : decode cL_law 330 = .ok (.invokevirtual 49, 3) := by decide +kernel
theorem dL_law_333 : decode cL_law 333 = .ok (.if_icmp .eq 781, 3) := by decide +kernel
theorem dL_law_336 : decode cL_law 336 = .ok (.iconst 0, 1) := by decide +kernel
theorem dL_law_337 : decode cL_law 337 = .ok (.ireturn, 1) := by decide +kernel
theorem dL_law_338 : decode cL_law 338 = .ok (.aload_n 1, 1) := by decide +kernel
theorem dL_law_339 : decode cL_law 339 = .ok (.aload_n 0, 1) := by decide +kernel
theorem dL_law_340 : decode cL_law 340 = .ok (.iload 4, 2) := by decide +kernel
theorem dL_law_342 : decode cL_law 342 = .ok (.iconst 1, 1) := by decide +kernel
theorem dL_law_343 : decode cL_law 343 = .ok (.iadd, 1) := by decide +kernel
theorem dL_law_344 : decode cL_law 344 = .ok (.iaload, 1) := by decide +kernel
theorem dL_law_345 : decode cL_law 345 = .ok (.aload_n 0, 1) := by decide +kernel
theorem dL_law_346 : decode cL_law 346 = .ok (.iload 4, 2) := by decide +kernel
theorem dL_law_348 : decode cL_law 348 = .ok (.iconst 2, 1) := by decide +kernel
theorem dL_law_349 : decode cL_law 349 = .ok (.iadd, 1) := by decide +kernel
theorem dL_law_350 : decode cL_law 350 = .ok (.iaload, 1) := by decide +kernel
theorem dL_law_351 : decode cL_law 351 = .ok (.aload_n 3, 1) := by decide +kernel
theorem dL_law_352 : decode cL_law 352 = .ok (.invokestatic 50, 3) := by decide +kernel
theorem dL_law_355 : decode cL_law 355 = .ok (.istore 5, 2) := by decide +kernel
theorem dL_law_357 : decode cL_law 357 = .ok (.aload_n 2, 1) := by decide +kernel
theorem dL_law_358 : decode cL_law 358 = .ok (.aload_n 0, 1) := by decide +kernel
theorem dL_law_359 : decode cL_law 359 = .ok (.iload 4, 2) := by decide +kernel
theorem dL_law_361 : decode cL_law 361 = .ok (.iconst 1, 1) := by decide +kernel
theorem dL_law_362 : decode cL_law 362 = .ok (.iadd, 1) := by decide +kernel
theorem dL_law_363 : decode cL_law 363 = .ok (.iaload, 1) := by decide +kernel
theorem dL_law_364 : decode cL_law 364 = .ok (.aload_n 0, 1) := by decide +kernel
theorem dL_law_365 : decode cL_law 365 = .ok (.iload 4, 2) := by decide +kernel
theorem dL_law_367 : decode cL_law 367 = .ok (.iconst 2, 1) := by decide +kernel
theorem dL_law_368 : decode cL_law 368 = .ok (.iadd, 1) := by decide +kernel
theorem dL_law_369 : decode cL_law 369 = .ok (.iaload, 1) := by decide +kernel
theorem dL_law_370 : decode cL_law 370 = .ok (.invokevirtual 55, 3) := by decide +kernel
theorem dL_law_373 : decode cL_law 373 = .ok (.istore 6, 2) := by decide +kernel
theorem dL_law_375 : decode cL_law 375 = .ok (.aload_n 2, 1) := by decide +kernel
theorem dL_law_376 : decode cL_law 376 = .ok (.invokevirtual 56, 3) := by decide +kernel
theorem dL_law_379 : decode cL_law 379 = .ok (.iload 5, 2) := by decide +kernel
theorem dL_law_381 : decode cL_law 381 = .ok (.if_icmp .eq 5, 3) := by decide +kernel
theorem dL_law_384 : decode cL_law 384 = .ok (.iconst 0, 1) := by decide +kernel
theorem dL_law_385 : decode cL_law 385 = .ok (.ireturn, 1) := by decide +kernel
theorem dL_law_386 : decode cL_law 386 = .ok (.iload 5, 2) := by decide +kernel
theorem dL_law_388 : decode cL_law 388 = .ok (.ifCond .ne 15, 3) := by decide +kernel
theorem dL_law_391 : decode cL_law 391 = .ok (.aload_n 3, 1) := by decide +kernel
theorem dL_law_392 : decode cL_law 392 = .ok (.iconst 0, 1) := by decide +kernel
theorem dL_law_393 : decode cL_law 393 = .ok (.laload, 1) := by decide +kernel
theorem dL_law_394 : decode cL_law 394 = .ok (.iload 6, 2) := by decide +kernel
theorem dL_law_396 : decode cL_law 396 = .ok (.i2l, 1) := by decide +kernel
theorem dL_law_397 : decode cL_law 397 = .ok (.lcmp, 1) := by decide +kernel
theorem dL_law_398 : decode cL_law 398 = .ok (.ifCond .eq 5, 3) := by decide +kernel
theorem dL_law_401 : decode cL_law 401 = .ok (.iconst 0, 1) := by decide +kernel
theorem dL_law_402 : decode cL_law 402 = .ok (.ireturn, 1) := by decide +kernel
theorem dL_law_403 : decode cL_law 403 = .ok (.goto 711, 3) := by decide +kernel
theorem dL_law_406 : decode cL_law 406 = .ok (.aload_n 1, 1) := by decide +kernel
theorem dL_law_407 : decode cL_law 407 = .ok (.aload_n 0, 1) := by decide +kernel
theorem dL_law_408 : decode cL_law 408 = .ok (.iload 4, 2) := by decide +kernel
theorem dL_law_410 : decode cL_law 410 = .ok (.iconst 1, 1) := by decide +kernel
theorem dL_law_411 : decode cL_law 411 = .ok (.iadd, 1) := by decide +kernel
theorem dL_law_412 : decode cL_law 412 = .ok (.iaload, 1) := by decide +kernel
theorem dL_law_413 : decode cL_law 413 = .ok (.aload_n 0, 1) := by decide +kernel
theorem dL_law_414 : decode cL_law 414 = .ok (.iload 4, 2) := by decide +kernel
theorem dL_law_416 : decode cL_law 416 = .ok (.iconst 2, 1) := by decide +kernel
theorem dL_law_417 : decode cL_law 417 = .ok (.iadd, 1) := by decide +kernel
theorem dL_law_418 : decode cL_law 418 = .ok (.iaload, 1) := by decide +kernel
theorem dL_law_419 : decode cL_law 419 = .ok (.aload_n 0, 1) := by decide +kernel
theorem dL_law_420 : decode cL_law 420 = .ok (.iload 4, 2) := by decide +kernel
theorem dL_law_422 : decode cL_law 422 = .ok (.iconst 3, 1) := by decide +kernel
theorem dL_law_423 : decode cL_law 423 = .ok (.iadd, 1) := by decide +kernel
theorem dL_law_424 : decode cL_law 424 = .ok (.iaload, 1) := by decide +kernel
theorem dL_law_425 : decode cL_law 425 = .ok (.aload_n 0, 1) := by decide +kernel
theorem dL_law_426 : decode cL_law 426 = .ok (.iload 4, 2) := by decide +kernel
theorem dL_law_428 : decode cL_law 428 = .ok (.iconst 4, 1) := by decide +kernel
theorem dL_law_429 : decode cL_law 429 = .ok (.iadd, 1) := by decide +kernel
theorem dL_law_430 : decode cL_law 430 = .ok (.iaload, 1) := by decide +kernel
theorem dL_law_431 : decode cL_law 431 = .ok (.invokevirtual 59, 3) := by decide +kernel
theorem dL_law_434 : decode cL_law 434 = .ok (.aload_n 2, 1) := by decide +kernel
theorem dL_law_435 : decode cL_law 435 = .ok (.aload_n 0, 1) := by decide +kernel
theorem dL_law_436 : decode cL_law 436 = .ok (.iload 4, 2) := by decide +kernel
theorem dL_law_438 : decode cL_law 438 = .ok (.iconst 1, 1) := by decide +kernel
theorem dL_law_439 : decode cL_law 439 = .ok (.iadd, 1) := by decide +kernel
theorem dL_law_440 : decode cL_law 440 = .ok (.iaload, 1) := by decide +kernel
theorem dL_law_441 : decode cL_law 441 = .ok (.aload_n 0, 1) := by decide +kernel
theorem dL_law_442 : decode cL_law 442 = .ok (.iload 4, 2) := by decide +kernel
theorem dL_law_444 : decode cL_law 444 = .ok (.iconst 2, 1) := by decide +kernel
theorem dL_law_445 : decode cL_law 445 = .ok (.iadd, 1) := by decide +kernel
theorem dL_law_446 : decode cL_law 446 = .ok (.iaload, 1) := by decide +kernel
theorem dL_law_447 : decode cL_law 447 = .ok (.aload_n 0, 1) := by decide +kernel
theorem dL_law_448 : decode cL_law 448 = .ok (.iload 4, 2) := by decide +kernel
theorem dL_law_450 : decode cL_law 450 = .ok (.iconst 3, 1) := by decide +kernel
theorem dL_law_451 : decode cL_law 451 = .ok (.iadd, 1) := by decide +kernel
theorem dL_law_452 : decode cL_law 452 = .ok (.iaload, 1) := by decide +kernel
theorem dL_law_453 : decode cL_law 453 = .ok (.aload_n 0, 1) := by decide +kernel
theorem dL_law_454 : decode cL_law 454 = .ok (.iload 4, 2) := by decide +kernel
theorem dL_law_456 : decode cL_law 456 = .ok (.iconst 4, 1) := by decide +kernel
theorem dL_law_457 : decode cL_law 457 = .ok (.iadd, 1) := by decide +kernel
theorem dL_law_458 : decode cL_law 458 = .ok (.iaload, 1) := by decide +kernel
theorem dL_law_459 : decode cL_law 459 = .ok (.invokevirtual 63, 3) := by decide +kernel
theorem dL_law_462 : decode cL_law 462 = .ok (.if_icmp .eq 652, 3) := by decide +kernel
theorem dL_law_465 : decode cL_law 465 = .ok (.iconst 0, 1) := by decide +kernel
theorem dL_law_466 : decode cL_law 466 = .ok (.ireturn, 1) := by decide +kernel
theorem dL_law_467 : decode cL_law 467 = .ok (.aload_n 1, 1) := by decide +kernel
theorem dL_law_468 : decode cL_law 468 = .ok (.aload_n 0, 1) := by decide +kernel
theorem dL_law_469 : decode cL_law 469 = .ok (.iload 4, 2) := by decide +kernel
theorem dL_law_471 : decode cL_law 471 = .ok (.iconst 1, 1) := by decide +kernel
theorem dL_law_472 : decode cL_law 472 = .ok (.iadd, 1) := by decide +kernel
theorem dL_law_473 : decode cL_law 473 = .ok (.iaload, 1) := by decide +kernel
theorem dL_law_474 : decode cL_law 474 = .ok (.aload_n 0, 1) := by decide +kernel
theorem dL_law_475 : decode cL_law 475 = .ok (.iload 4, 2) := by decide +kernel
theorem dL_law_477 : decode cL_law 477 = .ok (.iconst 2, 1) := by decide +kernel
theorem dL_law_478 : decode cL_law 478 = .ok (.iadd, 1) := by decide +kernel
theorem dL_law_479 : decode cL_law 479 = .ok (.iaload, 1) := by decide +kernel
theorem dL_law_480 : decode cL_law 480 = .ok (.aload_n 0, 1) := by decide +kernel
theorem dL_law_481 : decode cL_law 481 = .ok (.iload 4, 2) := by decide +kernel
theorem dL_law_483 : decode cL_law 483 = .ok (.iconst 3, 1) := by decide +kernel
theorem dL_law_484 : decode cL_law 484 = .ok (.iadd, 1) := by decide +kernel
theorem dL_law_485 : decode cL_law 485 = .ok (.iaload, 1) := by decide +kernel
theorem dL_law_486 : decode cL_law 486 = .ok (.invokevirtual 64, 3) := by decide +kernel
theorem dL_law_489 : decode cL_law 489 = .ok (.aload_n 2, 1) := by decide +kernel
theorem dL_law_490 : decode cL_law 490 = .ok (.aload_n 0, 1) := by decide +kernel
theorem dL_law_491 : decode cL_law 491 = .ok (.iload 4, 2) := by decide +kernel
theorem dL_law_493 : decode cL_law 493 = .ok (.iconst 1, 1) := by decide +kernel
theorem dL_law_494 : decode cL_law 494 = .ok (.iadd, 1) := by decide +kernel
theorem dL_law_495 : decode cL_law 495 = .ok (.iaload, 1) := by decide +kernel
theorem dL_law_496 : decode cL_law 496 = .ok (.aload_n 0, 1) := by decide +kernel
theorem dL_law_497 : decode cL_law 497 = .ok (.iload 4, 2) := by decide +kernel
theorem dL_law_499 : decode cL_law 499 = .ok (.iconst 2, 1) := by decide +kernel
theorem dL_law_500 : decode cL_law 500 = .ok (.iadd, 1) := by decide +kernel
theorem dL_law_501 : decode cL_law 501 = .ok (.iaload, 1) := by decide +kernel
theorem dL_law_502 : decode cL_law 502 = .ok (.aload_n 0, 1) := by decide +kernel
theorem dL_law_503 : decode cL_law 503 = .ok (.iload 4, 2) := by decide +kernel
theorem dL_law_505 : decode cL_law 505 = .ok (.iconst 3, 1) := by decide +kernel
theorem dL_law_506 : decode cL_law 506 = .ok (.iadd, 1) := by decide +kernel
theorem dL_law_507 : decode cL_law 507 = .ok (.iaload, 1) := by decide +kernel
theorem dL_law_508 : decode cL_law 508 = .ok (.invokevirtual 68, 3) := by decide +kernel
theorem dL_law_511 : decode cL_law 511 = .ok (.if_icmp .eq 603, 3) := by decide +kernel
theorem dL_law_514 : decode cL_law 514 = .ok (.iconst 0, 1) := by decide +kernel
theorem dL_law_515 : decode cL_law 515 = .ok (.ireturn, 1) := by decide +kernel
theorem dL_law_516 : decode cL_law 516 = .ok (.aload_n 1, 1) := by decide +kernel
theorem dL_law_517 : decode cL_law 517 = .ok (.aload_n 0, 1) := by decide +kernel
theorem dL_law_518 : decode cL_law 518 = .ok (.iload 4, 2) := by decide +kernel
theorem dL_law_520 : decode cL_law 520 = .ok (.iconst 1, 1) := by decide +kernel
theorem dL_law_521 : decode cL_law 521 = .ok (.iadd, 1) := by decide +kernel
theorem dL_law_522 : decode cL_law 522 = .ok (.iaload, 1) := by decide +kernel
theorem dL_law_523 : decode cL_law 523 = .ok (.aload_n 0, 1) := by decide +kernel
theorem dL_law_524 : decode cL_law 524 = .ok (.iload 4, 2) := by decide +kernel
theorem dL_law_526 : decode cL_law 526 = .ok (.iconst 2, 1) := by decide +kernel
theorem dL_law_527 : decode cL_law 527 = .ok (.iadd, 1) := by decide +kernel
theorem dL_law_528 : decode cL_law 528 = .ok (.iaload, 1) := by decide +kernel
theorem dL_law_529 : decode cL_law 529 = .ok (.invokevirtual 69, 3) := by decide +kernel
theorem dL_law_532 : decode cL_law 532 = .ok (.aload_n 2, 1) := by decide +kernel
theorem dL_law_533 : decode cL_law 533 = .ok (.aload_n 0, 1) := by decide +kernel
theorem dL_law_534 : decode cL_law 534 = .ok (.iload 4, 2) := by decide +kernel
theorem dL_law_536 : decode cL_law 536 = .ok (.iconst 1, 1) := by decide +kernel
theorem dL_law_537 : decode cL_law 537 = .ok (.iadd, 1) := by decide +kernel
theorem dL_law_538 : decode cL_law 538 = .ok (.iaload, 1) := by decide +kernel
theorem dL_law_539 : decode cL_law 539 = .ok (.aload_n 0, 1) := by decide +kernel
theorem dL_law_540 : decode cL_law 540 = .ok (.iload 4, 2) := by decide +kernel
theorem dL_law_542 : decode cL_law 542 = .ok (.iconst 2, 1) := by decide +kernel
theorem dL_law_543 : decode cL_law 543 = .ok (.iadd, 1) := by decide +kernel
theorem dL_law_544 : decode cL_law 544 = .ok (.iaload, 1) := by decide +kernel
theorem dL_law_545 : decode cL_law 545 = .ok (.invokevirtual 72, 3) := by decide +kernel
theorem dL_law_548 : decode cL_law 548 = .ok (.if_icmp .eq 566, 3) := by decide +kernel
theorem dL_law_551 : decode cL_law 551 = .ok (.iconst 0, 1) := by decide +kernel
theorem dL_law_552 : decode cL_law 552 = .ok (.ireturn, 1) := by decide +kernel
theorem dL_law_553 : decode cL_law 553 = .ok (.aload_n 1, 1) := by decide +kernel
theorem dL_law_554 : decode cL_law 554 = .ok (.aload_n 0, 1) := by decide +kernel
theorem dL_law_555 : decode cL_law 555 = .ok (.iload 4, 2) := by decide +kernel
theorem dL_law_557 : decode cL_law 557 = .ok (.iconst 1, 1) := by decide +kernel
theorem dL_law_558 : decode cL_law 558 = .ok (.iadd, 1) := by decide +kernel
theorem dL_law_559 : decode cL_law 559 = .ok (.iaload, 1) := by decide +kernel
theorem dL_law_560 : decode cL_law 560 = .ok (.aload_n 0, 1) := by decide +kernel
theorem dL_law_561 : decode cL_law 561 = .ok (.iload 4, 2) := by decide +kernel
theorem dL_law_563 : decode cL_law 563 = .ok (.iconst 2, 1) := by decide +kernel
theorem dL_law_564 : decode cL_law 564 = .ok (.iadd, 1) := by decide +kernel
theorem dL_law_565 : decode cL_law 565 = .ok (.iaload, 1) := by decide +kernel
theorem dL_law_566 : decode cL_law 566 = .ok (.aload_n 3, 1) := by decide +kernel
theorem dL_law_567 : decode cL_law 567 = .ok (.invokestatic 73, 3) := by decide +kernel
theorem dL_law_570 : decode cL_law 570 = .ok (.istore 5, 2) := by decide +kernel
theorem dL_law_572 : decode cL_law 572 = .ok (.aload_n 2, 1) := by decide +kernel
theorem dL_law_573 : decode cL_law 573 = .ok (.aload_n 0, 1) := by decide +kernel
theorem dL_law_574 : decode cL_law 574 = .ok (.iload 4, 2) := by decide +kernel
theorem dL_law_576 : decode cL_law 576 = .ok (.iconst 1, 1) := by decide +kernel
theorem dL_law_577 : decode cL_law 577 = .ok (.iadd, 1) := by decide +kernel
theorem dL_law_578 : decode cL_law 578 = .ok (.iaload, 1) := by decide +kernel
theorem dL_law_579 : decode cL_law 579 = .ok (.aload_n 0, 1) := by decide +kernel
theorem dL_law_580 : decode cL_law 580 = .ok (.iload 4, 2) := by decide +kernel
theorem dL_law_582 : decode cL_law 582 = .ok (.iconst 2, 1) := by decide +kernel
theorem dL_law_583 : decode cL_law 583 = .ok (.iadd, 1) := by decide +kernel
theorem dL_law_584 : decode cL_law 584 = .ok (.iaload, 1) := by decide +kernel
theorem dL_law_585 : decode cL_law 585 = .ok (.invokevirtual 75, 3) := by decide +kernel
theorem dL_law_588 : decode cL_law 588 = .ok (.istore 6, 2) := by decide +kernel
theorem dL_law_590 : decode cL_law 590 = .ok (.aload_n 2, 1) := by decide +kernel
theorem dL_law_591 : decode cL_law 591 = .ok (.invokevirtual 56, 3) := by decide +kernel
theorem dL_law_594 : decode cL_law 594 = .ok (.iload 5, 2) := by decide +kernel
theorem dL_law_596 : decode cL_law 596 = .ok (.if_icmp .eq 5, 3) := by decide +kernel
theorem dL_law_599 : decode cL_law 599 = .ok (.iconst 0, 1) := by decide +kernel
theorem dL_law_600 : decode cL_law 600 = .ok (.ireturn, 1) := by decide +kernel
theorem dL_law_601 : decode cL_law 601 = .ok (.iload 5, 2) := by decide +kernel
theorem dL_law_603 : decode cL_law 603 = .ok (.ifCond .ne 15, 3) := by decide +kernel
theorem dL_law_606 : decode cL_law 606 = .ok (.aload_n 3, 1) := by decide +kernel
theorem dL_law_607 : decode cL_law 607 = .ok (.iconst 0, 1) := by decide +kernel
theorem dL_law_608 : decode cL_law 608 = .ok (.laload, 1) := by decide +kernel
theorem dL_law_609 : decode cL_law 609 = .ok (.iload 6, 2) := by decide +kernel
theorem dL_law_611 : decode cL_law 611 = .ok (.i2l, 1) := by decide +kernel
theorem dL_law_612 : decode cL_law 612 = .ok (.lcmp, 1) := by decide +kernel
theorem dL_law_613 : decode cL_law 613 = .ok (.ifCond .eq 5, 3) := by decide +kernel
theorem dL_law_616 : decode cL_law 616 = .ok (.iconst 0, 1) := by decide +kernel
theorem dL_law_617 : decode cL_law 617 = .ok (.ireturn, 1) := by decide +kernel
theorem dL_law_618 : decode cL_law 618 = .ok (.goto 496, 3) := by decide +kernel
theorem dL_law_621 : decode cL_law 621 = .ok (.aload_n 1, 1) := by decide +kernel
theorem dL_law_622 : decode cL_law 622 = .ok (.aload_n 0, 1) := by decide +kernel
theorem dL_law_623 : decode cL_law 623 = .ok (.iload 4, 2) := by decide +kernel
theorem dL_law_625 : decode cL_law 625 = .ok (.iconst 1, 1) := by decide +kernel
theorem dL_law_626 : decode cL_law 626 = .ok (.iadd, 1) := by decide +kernel
theorem dL_law_627 : decode cL_law 627 = .ok (.iaload, 1) := by decide +kernel
theorem dL_law_628 : decode cL_law 628 = .ok (.invokevirtual 76, 3) := by decide +kernel
theorem dL_law_631 : decode cL_law 631 = .ok (.aload_n 2, 1) := by decide +kernel
theorem dL_law_632 : decode cL_law 632 = .ok (.aload_n 0, 1) := by decide +kernel
theorem dL_law_633 : decode cL_law 633 = .ok (.iload 4, 2) := by decide +kernel
theorem dL_law_635 : decode cL_law 635 = .ok (.iconst 1, 1) := by decide +kernel
theorem dL_law_636 : decode cL_law 636 = .ok (.iadd, 1) := by decide +kernel
theorem dL_law_637 : decode cL_law 637 = .ok (.iaload, 1) := by decide +kernel
theorem dL_law_638 : decode cL_law 638 = .ok (.invokevirtual 79, 3) := by decide +kernel
theorem dL_law_641 : decode cL_law 641 = .ok (.if_icmp .eq 473, 3) := by decide +kernel
theorem dL_law_644 : decode cL_law 644 = .ok (.iconst 0, 1) := by decide +kernel
theorem dL_law_645 : decode cL_law 645 = .ok (.ireturn, 1) := by decide +kernel
theorem dL_law_646 : decode cL_law 646 = .ok (.aload_n 1, 1) := by decide +kernel
theorem dL_law_647 : decode cL_law 647 = .ok (.aload_n 0, 1) := by decide +kernel
theorem dL_law_648 : decode cL_law 648 = .ok (.iload 4, 2) := by decide +kernel
theorem dL_law_650 : decode cL_law 650 = .ok (.iconst 1, 1) := by decide +kernel
theorem dL_law_651 : decode cL_law 651 = .ok (.iadd, 1) := by decide +kernel
theorem dL_law_652 : decode cL_law 652 = .ok (.iaload, 1) := by decide +kernel
theorem dL_law_653 : decode cL_law 653 = .ok (.invokevirtual 80, 3) := by decide +kernel
theorem dL_law_656 : decode cL_law 656 = .ok (.aload_n 2, 1) := by decide +kernel
theorem dL_law_657 : decode cL_law 657 = .ok (.aload_n 0, 1) := by decide +kernel
theorem dL_law_658 : decode cL_law 658 = .ok (.iload 4, 2) := by decide +kernel
theorem dL_law_660 : decode cL_law 660 = .ok (.iconst 1, 1) := by decide +kernel
theorem dL_law_661 : decode cL_law 661 = .ok (.iadd, 1) := by decide +kernel
theorem dL_law_662 : decode cL_law 662 = .ok (.iaload, 1) := by decide +kernel
theorem dL_law_663 : decode cL_law 663 = .ok (.invokevirtual 83, 3) := by decide +kernel
theorem dL_law_666 : decode cL_law 666 = .ok (.if_icmp .eq 448, 3) := by decide +kernel
theorem dL_law_669 : decode cL_law 669 = .ok (.iconst 0, 1) := by decide +kernel
theorem dL_law_670 : decode cL_law 670 = .ok (.ireturn, 1) := by decide +kernel
theorem dL_law_671 : decode cL_law 671 = .ok (.aload_n 1, 1) := by decide +kernel
theorem dL_law_672 : decode cL_law 672 = .ok (.aload_n 0, 1) := by decide +kernel
theorem dL_law_673 : decode cL_law 673 = .ok (.iload 4, 2) := by decide +kernel
theorem dL_law_675 : decode cL_law 675 = .ok (.iconst 1, 1) := by decide +kernel
theorem dL_law_676 : decode cL_law 676 = .ok (.iadd, 1) := by decide +kernel
theorem dL_law_677 : decode cL_law 677 = .ok (.iaload, 1) := by decide +kernel
theorem dL_law_678 : decode cL_law 678 = .ok (.aload_n 0, 1) := by decide +kernel
theorem dL_law_679 : decode cL_law 679 = .ok (.iload 4, 2) := by decide +kernel
theorem dL_law_681 : decode cL_law 681 = .ok (.iconst 2, 1) := by decide +kernel
theorem dL_law_682 : decode cL_law 682 = .ok (.iadd, 1) := by decide +kernel
theorem dL_law_683 : decode cL_law 683 = .ok (.iaload, 1) := by decide +kernel
theorem dL_law_684 : decode cL_law 684 = .ok (.invokevirtual 84, 3) := by decide +kernel
theorem dL_law_687 : decode cL_law 687 = .ok (.aload_n 2, 1) := by decide +kernel
theorem dL_law_688 : decode cL_law 688 = .ok (.aload_n 0, 1) := by decide +kernel
theorem dL_law_689 : decode cL_law 689 = .ok (.iload 4, 2) := by decide +kernel
theorem dL_law_691 : decode cL_law 691 = .ok (.iconst 1, 1) := by decide +kernel
theorem dL_law_692 : decode cL_law 692 = .ok (.iadd, 1) := by decide +kernel
theorem dL_law_693 : decode cL_law 693 = .ok (.iaload, 1) := by decide +kernel
theorem dL_law_694 : decode cL_law 694 = .ok (.aload_n 0, 1) := by decide +kernel
theorem dL_law_695 : decode cL_law 695 = .ok (.iload 4, 2) := by decide +kernel
theorem dL_law_697 : decode cL_law 697 = .ok (.iconst 2, 1) := by decide +kernel
theorem dL_law_698 : decode cL_law 698 = .ok (.iadd, 1) := by decide +kernel
theorem dL_law_699 : decode cL_law 699 = .ok (.iaload, 1) := by decide +kernel
theorem dL_law_700 : decode cL_law 700 = .ok (.invokevirtual 87, 3) := by decide +kernel
theorem dL_law_703 : decode cL_law 703 = .ok (.if_icmp .eq 411, 3) := by decide +kernel
theorem dL_law_706 : decode cL_law 706 = .ok (.iconst 0, 1) := by decide +kernel
theorem dL_law_707 : decode cL_law 707 = .ok (.ireturn, 1) := by decide +kernel
theorem dL_law_708 : decode cL_law 708 = .ok (.aload_n 1, 1) := by decide +kernel
theorem dL_law_709 : decode cL_law 709 = .ok (.invokevirtual 88, 3) := by decide +kernel
theorem dL_law_712 : decode cL_law 712 = .ok (.aload_n 2, 1) := by decide +kernel
theorem dL_law_713 : decode cL_law 713 = .ok (.invokevirtual 91, 3) := by decide +kernel
theorem dL_law_716 : decode cL_law 716 = .ok (.if_icmp .eq 398, 3) := by decide +kernel
theorem dL_law_719 : decode cL_law 719 = .ok (.iconst 0, 1) := by decide +kernel
theorem dL_law_720 : decode cL_law 720 = .ok (.ireturn, 1) := by decide +kernel
theorem dL_law_721 : decode cL_law 721 = .ok (.aload_n 1, 1) := by decide +kernel
theorem dL_law_722 : decode cL_law 722 = .ok (.aload_n 0, 1) := by decide +kernel
theorem dL_law_723 : decode cL_law 723 = .ok (.iload 4, 2) := by decide +kernel
theorem dL_law_725 : decode cL_law 725 = .ok (.iconst 1, 1) := by decide +kernel
theorem dL_law_726 : decode cL_law 726 = .ok (.iadd, 1) := by decide +kernel
theorem dL_law_727 : decode cL_law 727 = .ok (.iaload, 1) := by decide +kernel
theorem dL_law_728 : decode cL_law 728 = .ok (.aload_n 0, 1) := by decide +kernel
theorem dL_law_729 : decode cL_law 729 = .ok (.iload 4, 2) := by decide +kernel
theorem dL_law_731 : decode cL_law 731 = .ok (.iconst 2, 1) := by decide +kernel
theorem dL_law_732 : decode cL_law 732 = .ok (.iadd, 1) := by decide +kernel
theorem dL_law_733 : decode cL_law 733 = .ok (.iaload, 1) := by decide +kernel
theorem dL_law_734 : decode cL_law 734 = .ok (.invokevirtual 92, 3) := by decide +kernel
theorem dL_law_737 : decode cL_law 737 = .ok (.aload_n 2, 1) := by decide +kernel
theorem dL_law_738 : decode cL_law 738 = .ok (.aload_n 0, 1) := by decide +kernel
theorem dL_law_739 : decode cL_law 739 = .ok (.iload 4, 2) := by decide +kernel
theorem dL_law_741 : decode cL_law 741 = .ok (.iconst 1, 1) := by decide +kernel
theorem dL_law_742 : decode cL_law 742 = .ok (.iadd, 1) := by decide +kernel
theorem dL_law_743 : decode cL_law 743 = .ok (.iaload, 1) := by decide +kernel
theorem dL_law_744 : decode cL_law 744 = .ok (.aload_n 0, 1) := by decide +kernel
theorem dL_law_745 : decode cL_law 745 = .ok (.iload 4, 2) := by decide +kernel
theorem dL_law_747 : decode cL_law 747 = .ok (.iconst 2, 1) := by decide +kernel
theorem dL_law_748 : decode cL_law 748 = .ok (.iadd, 1) := by decide +kernel
theorem dL_law_749 : decode cL_law 749 = .ok (.iaload, 1) := by decide +kernel
theorem dL_law_750 : decode cL_law 750 = .ok (.invokevirtual 95, 3) := by decide +kernel
theorem dL_law_753 : decode cL_law 753 = .ok (.if_icmp .eq 361, 3) := by decide +kernel
theorem dL_law_756 : decode cL_law 756 = .ok (.iconst 0, 1) := by decide +kernel
theorem dL_law_757 : decode cL_law 757 = .ok (.ireturn, 1) := by decide +kernel
theorem dL_law_758 : decode cL_law 758 = .ok (.aload_n 1, 1) := by decide +kernel
theorem dL_law_759 : decode cL_law 759 = .ok (.aload_n 0, 1) := by decide +kernel
theorem dL_law_760 : decode cL_law 760 = .ok (.iload 4, 2) := by decide +kernel
theorem dL_law_762 : decode cL_law 762 = .ok (.iconst 1, 1) := by decide +kernel
theorem dL_law_763 : decode cL_law 763 = .ok (.iadd, 1) := by decide +kernel
theorem dL_law_764 : decode cL_law 764 = .ok (.iaload, 1) := by decide +kernel
theorem dL_law_765 : decode cL_law 765 = .ok (.aload_n 0, 1) := by decide +kernel
theorem dL_law_766 : decode cL_law 766 = .ok (.iload 4, 2) := by decide +kernel
theorem dL_law_768 : decode cL_law 768 = .ok (.iconst 2, 1) := by decide +kernel
theorem dL_law_769 : decode cL_law 769 = .ok (.iadd, 1) := by decide +kernel
theorem dL_law_770 : decode cL_law 770 = .ok (.iaload, 1) := by decide +kernel
theorem dL_law_771 : decode cL_law 771 = .ok (.invokevirtual 96, 3) := by decide +kernel
theorem dL_law_774 : decode cL_law 774 = .ok (.aload_n 2, 1) := by decide +kernel
theorem dL_law_775 : decode cL_law 775 = .ok (.aload_n 0, 1) := by decide +kernel
theorem dL_law_776 : decode cL_law 776 = .ok (.iload 4, 2) := by decide +kernel
theorem dL_law_778 : decode cL_law 778 = .ok (.iconst 1, 1) := by decide +kernel
theorem dL_law_779 : decode cL_law 779 = .ok (.iadd, 1) := by decide +kernel
theorem dL_law_780 : decode cL_law 780 = .ok (.iaload, 1) := by decide +kernel
theorem dL_law_781 : decode cL_law 781 = .ok (.aload_n 0, 1) := by decide +kernel
theorem dL_law_782 : decode cL_law 782 = .ok (.iload 4, 2) := by decide +kernel
theorem dL_law_784 : decode cL_law 784 = .ok (.iconst 2, 1) := by decide +kernel
theorem dL_law_785 : decode cL_law 785 = .ok (.iadd, 1) := by decide +kernel
theorem dL_law_786 : decode cL_law 786 = .ok (.iaload, 1) := by decide +kernel
theorem dL_law_787 : decode cL_law 787 = .ok (.invokevirtual 99, 3) := by decide +kernel
theorem dL_law_790 : decode cL_law 790 = .ok (.if_icmp .eq 324, 3) := by decide +kernel
theorem dL_law_793 : decode cL_law 793 = .ok (.iconst 0, 1) := by decide +kernel
theorem dL_law_794 : decode cL_law 794 = .ok (.ireturn, 1) := by decide +kernel
theorem dL_law_795 : decode cL_law 795 = .ok (.aload_n 1, 1) := by decide +kernel
theorem dL_law_796 : decode cL_law 796 = .ok (.aload_n 0, 1) := by decide +kernel
theorem dL_law_797 : decode cL_law 797 = .ok (.iload 4, 2) := by decide +kernel
theorem dL_law_799 : decode cL_law 799 = .ok (.iconst 1, 1) := by decide +kernel
theorem dL_law_800 : decode cL_law 800 = .ok (.iadd, 1) := by decide +kernel
theorem dL_law_801 : decode cL_law 801 = .ok (.iaload, 1) := by decide +kernel
theorem dL_law_802 : decode cL_law 802 = .ok (.aload_n 0, 1) := by decide +kernel
theorem dL_law_803 : decode cL_law 803 = .ok (.iload 4, 2) := by decide +kernel
theorem dL_law_805 : decode cL_law 805 = .ok (.iconst 2, 1) := by decide +kernel
theorem dL_law_806 : decode cL_law 806 = .ok (.iadd, 1) := by decide +kernel
theorem dL_law_807 : decode cL_law 807 = .ok (.iaload, 1) := by decide +kernel
theorem dL_law_808 : decode cL_law 808 = .ok (.invokevirtual 100, 3) := by decide +kernel
theorem dL_law_811 : decode cL_law 811 = .ok (.aload_n 2, 1) := by decide +kernel
theorem dL_law_812 : decode cL_law 812 = .ok (.aload_n 0, 1) := by decide +kernel
theorem dL_law_813 : decode cL_law 813 = .ok (.iload 4, 2) := by decide +kernel
theorem dL_law_815 : decode cL_law 815 = .ok (.iconst 1, 1) := by decide +kernel
theorem dL_law_816 : decode cL_law 816 = .ok (.iadd, 1) := by decide +kernel
theorem dL_law_817 : decode cL_law 817 = .ok (.iaload, 1) := by decide +kernel
theorem dL_law_818 : decode cL_law 818 = .ok (.aload_n 0, 1) := by decide +kernel
theorem dL_law_819 : decode cL_law 819 = .ok (.iload 4, 2) := by decide +kernel
theorem dL_law_821 : decode cL_law 821 = .ok (.iconst 2, 1) := by decide +kernel
theorem dL_law_822 : decode cL_law 822 = .ok (.iadd, 1) := by decide +kernel
theorem dL_law_823 : decode cL_law 823 = .ok (.iaload, 1) := by decide +kernel
theorem dL_law_824 : decode cL_law 824 = .ok (.invokevirtual 103, 3) := by decide +kernel
theorem dL_law_827 : decode cL_law 827 = .ok (.if_icmp .eq 287, 3) := by decide +kernel
theorem dL_law_830 : decode cL_law 830 = .ok (.iconst 0, 1) := by decide +kernel
theorem dL_law_831 : decode cL_law 831 = .ok (.ireturn, 1) := by decide +kernel
theorem dL_law_832 : decode cL_law 832 = .ok (.aload_n 1, 1) := by decide +kernel
theorem dL_law_833 : decode cL_law 833 = .ok (.aload_n 0, 1) := by decide +kernel
theorem dL_law_834 : decode cL_law 834 = .ok (.iload 4, 2) := by decide +kernel
theorem dL_law_836 : decode cL_law 836 = .ok (.iconst 1, 1) := by decide +kernel
theorem dL_law_837 : decode cL_law 837 = .ok (.iadd, 1) := by decide +kernel
theorem dL_law_838 : decode cL_law 838 = .ok (.iaload, 1) := by decide +kernel
theorem dL_law_839 : decode cL_law 839 = .ok (.aload_n 0, 1) := by decide +kernel
theorem dL_law_840 : decode cL_law 840 = .ok (.iload 4, 2) := by decide +kernel
theorem dL_law_842 : decode cL_law 842 = .ok (.iconst 2, 1) := by decide +kernel
theorem dL_law_843 : decode cL_law 843 = .ok (.iadd, 1) := by decide +kernel
theorem dL_law_844 : decode cL_law 844 = .ok (.iaload, 1) := by decide +kernel
theorem dL_law_845 : decode cL_law 845 = .ok (.aload_n 0, 1) := by decide +kernel
theorem dL_law_846 : decode cL_law 846 = .ok (.iload 4, 2) := by decide +kernel
theorem dL_law_848 : decode cL_law 848 = .ok (.iconst 3, 1) := by decide +kernel
theorem dL_law_849 : decode cL_law 849 = .ok (.iadd, 1) := by decide +kernel
theorem dL_law_850 : decode cL_law 850 = .ok (.iaload, 1) := by decide +kernel
theorem dL_law_851 : decode cL_law 851 = .ok (.aload_n 0, 1) := by decide +kernel
theorem dL_law_852 : decode cL_law 852 = .ok (.iload 4, 2) := by decide +kernel
theorem dL_law_854 : decode cL_law 854 = .ok (.iconst 4, 1) := by decide +kernel
theorem dL_law_855 : decode cL_law 855 = .ok (.iadd, 1) := by decide +kernel
theorem dL_law_856 : decode cL_law 856 = .ok (.iaload, 1) := by decide +kernel
theorem dL_law_857 : decode cL_law 857 = .ok (.aload_n 0, 1) := by decide +kernel
theorem dL_law_858 : decode cL_law 858 = .ok (.iload 4, 2) := by decide +kernel
theorem dL_law_860 : decode cL_law 860 = .ok (.iconst 5, 1) := by decide +kernel
theorem dL_law_861 : decode cL_law 861 = .ok (.iadd, 1) := by decide +kernel
theorem dL_law_862 : decode cL_law 862 = .ok (.iaload, 1) := by decide +kernel
theorem dL_law_863 : decode cL_law 863 = .ok (.invokevirtual 104, 3) := by decide +kernel
theorem dL_law_866 : decode cL_law 866 = .ok (.aload_n 2, 1) := by decide +kernel
theorem dL_law_867 : decode cL_law 867 = .ok (.aload_n 0, 1) := by decide +kernel
theorem dL_law_868 : decode cL_law 868 = .ok (.iload 4, 2) := by decide +kernel
theorem dL_law_870 : decode cL_law 870 = .ok (.iconst 1, 1) := by decide +kernel
theorem dL_law_871 : decode cL_law 871 = .ok (.iadd, 1) := by decide +kernel
theorem dL_law_872 : decode cL_law 872 = .ok (.iaload, 1) := by decide +kernel
theorem dL_law_873 : decode cL_law 873 = .ok (.aload_n 0, 1) := by decide +kernel
theorem dL_law_874 : decode cL_law 874 = .ok (.iload 4, 2) := by decide +kernel
theorem dL_law_876 : decode cL_law 876 = .ok (.iconst 2, 1) := by decide +kernel
theorem dL_law_877 : decode cL_law 877 = .ok (.iadd, 1) := by decide +kernel
theorem dL_law_878 : decode cL_law 878 = .ok (.iaload, 1) := by decide +kernel
theorem dL_law_879 : decode cL_law 879 = .ok (.aload_n 0, 1) := by decide +kernel
theorem dL_law_880 : decode cL_law 880 = .ok (.iload 4, 2) := by decide +kernel
theorem dL_law_882 : decode cL_law 882 = .ok (.iconst 3, 1) := by decide +kernel
theorem dL_law_883 : decode cL_law 883 = .ok (.iadd, 1) := by decide +kernel
theorem dL_law_884 : decode cL_law 884 = .ok (.iaload, 1) := by decide +kernel
theorem dL_law_885 : decode cL_law 885 = .ok (.aload_n 0, 1) := by decide +kernel
theorem dL_law_886 : decode cL_law 886 = .ok (.iload 4, 2) := by decide +kernel
theorem dL_law_888 : decode cL_law 888 = .ok (.iconst 4, 1) := by decide +kernel
theorem dL_law_889 : decode cL_law 889 = .ok (.iadd, 1) := by decide +kernel
theorem dL_law_890 : decode cL_law 890 = .ok (.iaload, 1) := by decide +kernel
theorem dL_law_891 : decode cL_law 891 = .ok (.aload_n 0, 1) := by decide +kernel
theorem dL_law_892 : decode cL_law 892 = .ok (.iload 4, 2) := by decide +kernel
theorem dL_law_894 : decode cL_law 894 = .ok (.iconst 5, 1) := by decide +kernel
theorem dL_law_895 : decode cL_law 895 = .ok (.iadd, 1) := by decide +kernel
theorem dL_law_896 : decode cL_law 896 = .ok (.iaload, 1) := by decide +kernel
theorem dL_law_897 : decode cL_law 897 = .ok (.invokevirtual 108, 3) := by decide +kernel
theorem dL_law_900 : decode cL_law 900 = .ok (.if_icmp .eq 214, 3) := by decide +kernel
theorem dL_law_903 : decode cL_law 903 = .ok (.iconst 0, 1) := by decide +kernel
theorem dL_law_904 : decode cL_law 904 = .ok (.ireturn, 1) := by decide +kernel
theorem dL_law_905 : decode cL_law 905 = .ok (.aload_n 1, 1) := by decide +kernel
theorem dL_law_906 : decode cL_law 906 = .ok (.aload_n 0, 1) := by decide +kernel
theorem dL_law_907 : decode cL_law 907 = .ok (.iload 4, 2) := by decide +kernel
theorem dL_law_909 : decode cL_law 909 = .ok (.iconst 1, 1) := by decide +kernel
theorem dL_law_910 : decode cL_law 910 = .ok (.iadd, 1) := by decide +kernel
theorem dL_law_911 : decode cL_law 911 = .ok (.iaload, 1) := by decide +kernel
theorem dL_law_912 : decode cL_law 912 = .ok (.aload_n 0, 1) := by decide +kernel
theorem dL_law_913 : decode cL_law 913 = .ok (.iload 4, 2) := by decide +kernel
theorem dL_law_915 : decode cL_law 915 = .ok (.iconst 2, 1) := by decide +kernel
theorem dL_law_916 : decode cL_law 916 = .ok (.iadd, 1) := by decide +kernel
theorem dL_law_917 : decode cL_law 917 = .ok (.iaload, 1) := by decide +kernel
theorem dL_law_918 : decode cL_law 918 = .ok (.aload_n 0, 1) := by decide +kernel
theorem dL_law_919 : decode cL_law 919 = .ok (.iload 4, 2) := by decide +kernel
theorem dL_law_921 : decode cL_law 921 = .ok (.iconst 3, 1) := by decide +kernel
theorem dL_law_922 : decode cL_law 922 = .ok (.iadd, 1) := by decide +kernel
theorem dL_law_923 : decode cL_law 923 = .ok (.iaload, 1) := by decide +kernel
theorem dL_law_924 : decode cL_law 924 = .ok (.aload_n 0, 1) := by decide +kernel
theorem dL_law_925 : decode cL_law 925 = .ok (.iload 4, 2) := by decide +kernel
theorem dL_law_927 : decode cL_law 927 = .ok (.iconst 4, 1) := by decide +kernel
theorem dL_law_928 : decode cL_law 928 = .ok (.iadd, 1) := by decide +kernel
theorem dL_law_929 : decode cL_law 929 = .ok (.iaload, 1) := by decide +kernel
theorem dL_law_930 : decode cL_law 930 = .ok (.invokevirtual 109, 3) := by decide +kernel
theorem dL_law_933 : decode cL_law 933 = .ok (.aload_n 2, 1) := by decide +kernel
theorem dL_law_934 : decode cL_law 934 = .ok (.aload_n 0, 1) := by decide +kernel
theorem dL_law_935 : decode cL_law 935 = .ok (.iload 4, 2) := by decide +kernel
theorem dL_law_937 : decode cL_law 937 = .ok (.iconst 1, 1) := by decide +kernel
theorem dL_law_938 : decode cL_law 938 = .ok (.iadd, 1) := by decide +kernel
theorem dL_law_939 : decode cL_law 939 = .ok (.iaload, 1) := by decide +kernel
theorem dL_law_940 : decode cL_law 940 = .ok (.aload_n 0, 1) := by decide +kernel
theorem dL_law_941 : decode cL_law 941 = .ok (.iload 4, 2) := by decide +kernel
theorem dL_law_943 : decode cL_law 943 = .ok (.iconst 2, 1) := by decide +kernel
theorem dL_law_944 : decode cL_law 944 = .ok (.iadd, 1) := by decide +kernel
theorem dL_law_945 : decode cL_law 945 = .ok (.iaload, 1) := by decide +kernel
theorem dL_law_946 : decode cL_law 946 = .ok (.aload_n 0, 1) := by decide +kernel
theorem dL_law_947 : decode cL_law 947 = .ok (.iload 4, 2) := by decide +kernel
theorem dL_law_949 : decode cL_law 949 = .ok (.iconst 3, 1) := by decide +kernel
theorem dL_law_950 : decode cL_law 950 = .ok (.iadd, 1) := by decide +kernel
theorem dL_law_951 : decode cL_law 951 = .ok (.iaload, 1) := by decide +kernel
theorem dL_law_952 : decode cL_law 952 = .ok (.aload_n 0, 1) := by decide +kernel
theorem dL_law_953 : decode cL_law 953 = .ok (.iload 4, 2) := by decide +kernel
theorem dL_law_955 : decode cL_law 955 = .ok (.iconst 4, 1) := by decide +kernel
theorem dL_law_956 : decode cL_law 956 = .ok (.iadd, 1) := by decide +kernel
theorem dL_law_957 : decode cL_law 957 = .ok (.iaload, 1) := by decide +kernel
theorem dL_law_958 : decode cL_law 958 = .ok (.invokevirtual 112, 3) := by decide +kernel
theorem dL_law_961 : decode cL_law 961 = .ok (.if_icmp .eq 153, 3) := by decide +kernel
theorem dL_law_964 : decode cL_law 964 = .ok (.iconst 0, 1) := by decide +kernel
theorem dL_law_965 : decode cL_law 965 = .ok (.ireturn, 1) := by decide +kernel
theorem dL_law_966 : decode cL_law 966 = .ok (.aload_n 1, 1) := by decide +kernel
theorem dL_law_967 : decode cL_law 967 = .ok (.aload_n 0, 1) := by decide +kernel
theorem dL_law_968 : decode cL_law 968 = .ok (.iload 4, 2) := by decide +kernel
theorem dL_law_970 : decode cL_law 970 = .ok (.iconst 1, 1) := by decide +kernel
theorem dL_law_971 : decode cL_law 971 = .ok (.iadd, 1) := by decide +kernel
theorem dL_law_972 : decode cL_law 972 = .ok (.iaload, 1) := by decide +kernel
theorem dL_law_973 : decode cL_law 973 = .ok (.aload_n 0, 1) := by decide +kernel
theorem dL_law_974 : decode cL_law 974 = .ok (.iload 4, 2) := by decide +kernel
theorem dL_law_976 : decode cL_law 976 = .ok (.iconst 2, 1) := by decide +kernel
theorem dL_law_977 : decode cL_law 977 = .ok (.iadd, 1) := by decide +kernel
theorem dL_law_978 : decode cL_law 978 = .ok (.iaload, 1) := by decide +kernel
theorem dL_law_979 : decode cL_law 979 = .ok (.aload_n 0, 1) := by decide +kernel
theorem dL_law_980 : decode cL_law 980 = .ok (.iload 4, 2) := by decide +kernel
theorem dL_law_982 : decode cL_law 982 = .ok (.iconst 3, 1) := by decide +kernel
theorem dL_law_983 : decode cL_law 983 = .ok (.iadd, 1) := by decide +kernel
theorem dL_law_984 : decode cL_law 984 = .ok (.iaload, 1) := by decide +kernel
theorem dL_law_985 : decode cL_law 985 = .ok (.aload_n 0, 1) := by decide +kernel
theorem dL_law_986 : decode cL_law 986 = .ok (.iload 4, 2) := by decide +kernel
theorem dL_law_988 : decode cL_law 988 = .ok (.iconst 4, 1) := by decide +kernel
theorem dL_law_989 : decode cL_law 989 = .ok (.iadd, 1) := by decide +kernel
theorem dL_law_990 : decode cL_law 990 = .ok (.iaload, 1) := by decide +kernel
theorem dL_law_991 : decode cL_law 991 = .ok (.aload_n 0, 1) := by decide +kernel
theorem dL_law_992 : decode cL_law 992 = .ok (.iload 4, 2) := by decide +kernel
theorem dL_law_994 : decode cL_law 994 = .ok (.iconst 5, 1) := by decide +kernel
theorem dL_law_995 : decode cL_law 995 = .ok (.iadd, 1) := by decide +kernel
theorem dL_law_996 : decode cL_law 996 = .ok (.iaload, 1) := by decide +kernel
theorem dL_law_997 : decode cL_law 997 = .ok (.invokevirtual 113, 3) := by decide +kernel
theorem dL_law_1000 : decode cL_law 1000 = .ok (.aload_n 2, 1) := by decide +kernel
theorem dL_law_1001 : decode cL_law 1001 = .ok (.aload_n 0, 1) := by decide +kernel
theorem dL_law_1002 : decode cL_law 1002 = .ok (.iload 4, 2) := by decide +kernel
theorem dL_law_1004 : decode cL_law 1004 = .ok (.iconst 1, 1) := by decide +kernel
theorem dL_law_1005 : decode cL_law 1005 = .ok (.iadd, 1) := by decide +kernel
theorem dL_law_1006 : decode cL_law 1006 = .ok (.iaload, 1) := by decide +kernel
theorem dL_law_1007 : decode cL_law 1007 = .ok (.aload_n 0, 1) := by decide +kernel
theorem dL_law_1008 : decode cL_law 1008 = .ok (.iload 4, 2) := by decide +kernel
theorem dL_law_1010 : decode cL_law 1010 = .ok (.iconst 2, 1) := by decide +kernel
theorem dL_law_1011 : decode cL_law 1011 = .ok (.iadd, 1) := by decide +kernel
theorem dL_law_1012 : decode cL_law 1012 = .ok (.iaload, 1) := by decide +kernel
theorem dL_law_1013 : decode cL_law 1013 = .ok (.aload_n 0, 1) := by decide +kernel
theorem dL_law_1014 : decode cL_law 1014 = .ok (.iload 4, 2) := by decide +kernel
theorem dL_law_1016 : decode cL_law 1016 = .ok (.iconst 3, 1) := by decide +kernel
theorem dL_law_1017 : decode cL_law 1017 = .ok (.iadd, 1) := by decide +kernel
theorem dL_law_1018 : decode cL_law 1018 = .ok (.iaload, 1) := by decide +kernel
theorem dL_law_1019 : decode cL_law 1019 = .ok (.aload_n 0, 1) := by decide +kernel
theorem dL_law_1020 : decode cL_law 1020 = .ok (.iload 4, 2) := by decide +kernel
theorem dL_law_1022 : decode cL_law 1022 = .ok (.iconst 4, 1) := by decide +kernel
theorem dL_law_1023 : decode cL_law 1023 = .ok (.iadd, 1) := by decide +kernel
theorem dL_law_1024 : decode cL_law 1024 = .ok (.iaload, 1) := by decide +kernel
theorem dL_law_1025 : decode cL_law 1025 = .ok (.aload_n 0, 1) := by decide +kernel
theorem dL_law_1026 : decode cL_law 1026 = .ok (.iload 4, 2) := by decide +kernel
theorem dL_law_1028 : decode cL_law 1028 = .ok (.iconst 5, 1) := by decide +kernel
theorem dL_law_1029 : decode cL_law 1029 = .ok (.iadd, 1) := by decide +kernel
theorem dL_law_1030 : decode cL_law 1030 = .ok (.iaload, 1) := by decide +kernel
theorem dL_law_1031 : decode cL_law 1031 = .ok (.invokevirtual 116, 3) := by decide +kernel
theorem dL_law_1034 : decode cL_law 1034 = .ok (.if_icmp .eq 80, 3) := by decide +kernel
theorem dL_law_1037 : decode cL_law 1037 = .ok (.iconst 0, 1) := by decide +kernel
theorem dL_law_1038 : decode cL_law 1038 = .ok (.ireturn, 1) := by decide +kernel
theorem dL_law_1039 : decode cL_law 1039 = .ok (.aload_n 1, 1) := by decide +kernel
theorem dL_law_1040 : decode cL_law 1040 = .ok (.aload_n 0, 1) := by decide +kernel
theorem dL_law_1041 : decode cL_law 1041 = .ok (.iload 4, 2) := by decide +kernel
theorem dL_law_1043 : decode cL_law 1043 = .ok (.iconst 1, 1) := by decide +kernel
theorem dL_law_1044 : decode cL_law 1044 = .ok (.iadd, 1) := by decide +kernel
theorem dL_law_1045 : decode cL_law 1045 = .ok (.iaload, 1) := by decide +kernel
theorem dL_law_1046 : decode cL_law 1046 = .ok (.aload_n 0, 1) := by decide +kernel
theorem dL_law_1047 : decode cL_law 1047 = .ok (.iload 4, 2) := by decide +kernel
theorem dL_law_1049 : decode cL_law 1049 = .ok (.iconst 2, 1) := by decide +kernel
theorem dL_law_1050 : decode cL_law 1050 = .ok (.iadd, 1) := by decide +kernel
theorem dL_law_1051 : decode cL_law 1051 = .ok (.iaload, 1) := by decide +kernel
theorem dL_law_1052 : decode cL_law 1052 = .ok (.invokevirtual 117, 3) := by decide +kernel
theorem dL_law_1055 : decode cL_law 1055 = .ok (.aload_n 2, 1) := by decide +kernel
theorem dL_law_1056 : decode cL_law 1056 = .ok (.aload_n 0, 1) := by decide +kernel
theorem dL_law_1057 : decode cL_law 1057 = .ok (.iload 4, 2) := by decide +kernel
theorem dL_law_1059 : decode cL_law 1059 = .ok (.iconst 1, 1) := by decide +kernel
theorem dL_law_1060 : decode cL_law 1060 = .ok (.iadd, 1) := by decide +kernel
theorem dL_law_1061 : decode cL_law 1061 = .ok (.iaload, 1) := by decide +kernel
theorem dL_law_1062 : decode cL_law 1062 = .ok (.aload_n 0, 1) := by decide +kernel
theorem dL_law_1063 : decode cL_law 1063 = .ok (.iload 4, 2) := by decide +kernel
theorem dL_law_1065 : decode cL_law 1065 = .ok (.iconst 2, 1) := by decide +kernel
theorem dL_law_1066 : decode cL_law 1066 = .ok (.iadd, 1) := by decide +kernel
theorem dL_law_1067 : decode cL_law 1067 = .ok (.iaload, 1) := by decide +kernel
theorem dL_law_1068 : decode cL_law 1068 = .ok (.invokevirtual 120, 3) := by decide +kernel
theorem dL_law_1071 : decode cL_law 1071 = .ok (.if_icmp .eq 43, 3) := by decide +kernel
theorem dL_law_1074 : decode cL_law 1074 = .ok (.iconst 0, 1) := by decide +kernel
theorem dL_law_1075 : decode cL_law 1075 = .ok (.ireturn, 1) := by decide +kernel
theorem dL_law_1076 : decode cL_law 1076 = .ok (.aload_n 1, 1) := by decide +kernel
theorem dL_law_1077 : decode cL_law 1077 = .ok (.aload_n 0, 1) := by decide +kernel
theorem dL_law_1078 : decode cL_law 1078 = .ok (.iload 4, 2) := by decide +kernel
theorem dL_law_1080 : decode cL_law 1080 = .ok (.iconst 1, 1) := by decide +kernel
theorem dL_law_1081 : decode cL_law 1081 = .ok (.iadd, 1) := by decide +kernel
theorem dL_law_1082 : decode cL_law 1082 = .ok (.iaload, 1) := by decide +kernel
theorem dL_law_1083 : decode cL_law 1083 = .ok (.invokevirtual 121, 3) := by decide +kernel
theorem dL_law_1086 : decode cL_law 1086 = .ok (.aload_n 2, 1) := by decide +kernel
theorem dL_law_1087 : decode cL_law 1087 = .ok (.aload_n 0, 1) := by decide +kernel
theorem dL_law_1088 : decode cL_law 1088 = .ok (.iload 4, 2) := by decide +kernel
theorem dL_law_1090 : decode cL_law 1090 = .ok (.iconst 1, 1) := by decide +kernel
theorem dL_law_1091 : decode cL_law 1091 = .ok (.iadd, 1) := by decide +kernel
theorem dL_law_1092 : decode cL_law 1092 = .ok (.iaload, 1) := by decide +kernel
theorem dL_law_1093 : decode cL_law 1093 = .ok (.invokevirtual 124, 3) := by decide +kernel
theorem dL_law_1096 : decode cL_law 1096 = .ok (.if_icmp .eq 18, 3) := by decide +kernel
theorem dL_law_1099 : decode cL_law 1099 = .ok (.iconst 0, 1) := by decide +kernel
theorem dL_law_1100 : decode cL_law 1100 = .ok (.ireturn, 1) := by decide +kernel
theorem dL_law_1101 : decode cL_law 1101 = .ok (.aload_n 1, 1) := by decide +kernel
theorem dL_law_1102 : decode cL_law 1102 = .ok (.invokevirtual 125, 3) := by decide +kernel
theorem dL_law_1105 : decode cL_law 1105 = .ok (.aload_n 2, 1) := by decide +kernel
theorem dL_law_1106 : decode cL_law 1106 = .ok (.invokevirtual 128, 3) := by decide +kernel
theorem dL_law_1109 : decode cL_law 1109 = .ok (.if_icmp .eq 5, 3) := by decide +kernel
theorem dL_law_1112 : decode cL_law 1112 = .ok (.iconst 0, 1) := by decide +kernel
theorem dL_law_1113 : decode cL_law 1113 = .ok (.ireturn, 1) := by decide +kernel
theorem dL_law_1114 : decode cL_law 1114 = .ok (.iinc 4 6, 3) := by decide +kernel
theorem dL_law_1117 : decode cL_law 1117 = .ok (.goto (-1094), 3) := by decide +kernel
theorem dL_law_1120 : decode cL_law 1120 = .ok (.iconst 1, 1) := by decide +kernel
theorem dL_law_1121 : decode cL_law 1121 = .ok (.ireturn, 1) := by decide +kernel
end
section
theorem dX0_init_0 : decode cX0_init 0 = .ok (.aload_n 0, 1) := by decide +kernel
theorem dX0_init_1 : decode cX0_init 1 = .ok (.invokespecial 1, 3) := by decide +kernel
theorem dX0_init_4 : decode cX0_init 4 = .ok (.return_, 1) := by decide +kernel
end
section
theorem dX1_init_0 : decode cX1_init 0 = .ok (.aload_n 0, 1) := by decide +kernel
theorem dX1_init_1 : decode cX1_init 1 = .ok (.invokespecial 3, 3) := by decide +kernel
theorem dX1_init_4 : decode cX1_init 4 = .ok (.aload_n 0, 1) := by decide +kernel
theorem dX1_init_5 : decode cX1_init 5 = .ok (.iconst 0, 1) := by decide +kernel
theorem dX1_init_6 : decode cX1_init 6 = .ok (.putfield 9, 3) := by decide +kernel
theorem dX1_init_9 : decode cX1_init 9 = .ok (.aload_n 0, 1) := by decide +kernel
theorem dX1_init_10 : decode cX1_init 10 = .ok (.bipush 40, 2) := by decide +kernel
theorem dX1_init_12 : decode cX1_init 12 = .ok (.newarray .int, 2) := by decide +kernel
theorem dX1_init_14 : decode cX1_init 14 = .ok (.putfield 15, 3) := by decide +kernel
theorem dX1_init_17 : decode cX1_init 17 = .ok (.aload_n 0, 1) := by decide +kernel
theorem dX1_init_18 : decode cX1_init 18 = .ok (.bipush 40, 2) := by decide +kernel
theorem dX1_init_20 : decode cX1_init 20 = .ok (.newarray .int, 2) := by decide +kernel
theorem dX1_init_22 : decode cX1_init 22 = .ok (.putfield 19, 3) := by decide +kernel
theorem dX1_init_25 : decode cX1_init 25 = .ok (.aload_n 0, 1) := by decide +kernel
theorem dX1_init_26 : decode cX1_init 26 = .ok (.bipush 40, 2) := by decide +kernel
theorem dX1_init_28 : decode cX1_init 28 = .ok (.newarray .int, 2) := by decide +kernel
theorem dX1_init_30 : decode cX1_init 30 = .ok (.putfield 22, 3) := by decide +kernel
theorem dX1_init_33 : decode cX1_init 33 = .ok (.aload_n 0, 1) := by decide +kernel
theorem dX1_init_34 : decode cX1_init 34 = .ok (.bipush 40, 2) := by decide +kernel
theorem dX1_init_36 : decode cX1_init 36 = .ok (.newarray .int, 2) := by decide +kernel
theorem dX1_init_38 : decode cX1_init 38 = .ok (.putfield 25, 3) := by decide +kernel
theorem dX1_init_41 : decode cX1_init 41 = .ok (.return_, 1) := by decide +kernel
theorem dX1_append_0 : decode cX1_append 0 = .ok (.aload_n 0, 1) := by decide +kernel
theorem dX1_append_1 : decode cX1_append 1 = .ok (.getfield 9, 3) := by decide +kernel
theorem dX1_append_4 : decode cX1_append 4 = .ok (.bipush 40, 2) := by decide +kernel
theorem dX1_append_6 : decode cX1_append 6 = .ok (.if_icmp .ge 54, 3) := by decide +kernel
theorem dX1_append_9 : decode cX1_append 9 = .ok (.aload_n 0, 1) := by decide +kernel
theorem dX1_append_10 : decode cX1_append 10 = .ok (.getfield 15, 3) := by decide +kernel
theorem dX1_append_13 : decode cX1_append 13 = .ok (.aload_n 0, 1) := by decide +kernel
theorem dX1_append_14 : decode cX1_append 14 = .ok (.getfield 9, 3) := by decide +kernel
theorem dX1_append_17 : decode cX1_append 17 = .ok (.iload_n 1, 1) := by decide +kernel
theorem dX1_append_18 : decode cX1_append 18 = .ok (.iastore, 1) := by decide +kernel
theorem dX1_append_19 : decode cX1_append 19 = .ok (.aload_n 0, 1) := by decide +kernel
theorem dX1_append_20 : decode cX1_append 20 = .ok (.getfield 19, 3) := by decide +kernel
theorem dX1_append_23 : decode cX1_append 23 = .ok (.aload_n 0, 1) := by decide +kernel
theorem dX1_append_24 : decode cX1_append 24 = .ok (.getfield 9, 3) := by decide +kernel
theorem dX1_append_27 : decode cX1_append 27 = .ok (.iload_n 2, 1) := by decide +kernel
theorem dX1_append_28 : decode cX1_append 28 = .ok (.iastore, 1) := by decide +kernel
theorem dX1_append_29 : decode cX1_append 29 = .ok (.aload_n 0, 1) := by decide +kernel
theorem dX1_append_30 : decode cX1_append 30 = .ok (.getfield 22, 3) := by decide +kernel
theorem dX1_append_33 : decode cX1_append 33 = .ok (.aload_n 0, 1) := by decide +kernel
theorem dX1_append_34 : decode cX1_append 34 = .ok (.getfield 9, 3) := by decide +kernel
theorem dX1_append_37 : decode cX1_append 37 = .ok (.iload_n 3, 1) := by decide +kernel
theorem dX1_append_38 : decode cX1_append 38 = .ok (.iastore, 1) := by decide +kernel
theorem dX1_append_39 : decode cX1_append 39 = .ok (.aload_n 0, 1) := by decide +kernel
theorem dX1_append_40 : decode cX1_append 40 = .ok (.getfield 25, 3) := by decide +kernel
theorem dX1_append_43 : decode cX1_append 43 = .ok (.aload_n 0, 1) := by decide +kernel
theorem dX1_append_44 : decode cX1_append 44 = .ok (.getfield 9, 3) := by decide +kernel
theorem dX1_append_47 : decode cX1_append 47 = .ok (.iload 4, 2) := by decide +kernel
theorem dX1_append_49 : decode cX1_append 49 = .ok (.iastore, 1) := by decide +kernel
theorem dX1_append_50 : decode cX1_append 50 = .ok (.aload_n 0, 1) := by decide +kernel
theorem dX1_append_51 : decode cX1_append 51 = .ok (.dup, 1) := by decide +kernel
theorem dX1_append_52 : decode cX1_append 52 = .ok (.getfield 9, 3) := by decide +kernel
theorem dX1_append_55 : decode cX1_append 55 = .ok (.iconst 1, 1) := by decide +kernel
theorem dX1_append_56 : decode cX1_append 56 = .ok (.iadd, 1) := by decide +kernel
theorem dX1_append_57 : decode cX1_append 57 = .ok (.putfield 9, 3) := by decide +kernel
theorem dX1_append_60 : decode cX1_append 60 = .ok (.return_, 1) := by decide +kernel
theorem dX1_removeLast_0 : decode cX1_removeLast 0 = .ok (.aload_n 0, 1) := by decide +kernel
theorem dX1_removeLast_1 : decode cX1_removeLast 1 = .ok (.getfield 9, 3) := by decide +kernel
theorem dX1_removeLast_4 : decode cX1_removeLast 4 = .ok (.ifCond .le 13, 3) := by decide +kernel
theorem dX1_removeLast_7 : decode cX1_removeLast 7 = .ok (.aload_n 0, 1) := by decide +kernel
theorem dX1_removeLast_8 : decode cX1_removeLast 8 = .ok (.dup, 1) := by decide +kernel
theorem dX1_removeLast_9 : decode cX1_removeLast 9 = .ok (.getfield 9, 3) := by decide +kernel
theorem dX1_removeLast_12 : decode cX1_removeLast 12 = .ok (.iconst 1, 1) := by decide +kernel
theorem dX1_removeLast_13 : decode cX1_removeLast 13 = .ok (.isub, 1) := by decide +kernel
theorem dX1_removeLast_14 : decode cX1_removeLast 14 = .ok (.putfield 9, 3) := by decide +kernel
theorem dX1_removeLast_17 : decode cX1_removeLast 17 = .ok (.return_, 1) := by decide +kernel
theorem dX1_isAt_0 : decode cX1_isAt 0 = .ok (.aload_n 0, 1) := by decide +kernel
theorem dX1_isAt_1 : decode cX1_isAt 1 = .ok (.getfield 15, 3) := by decide +kernel
theorem dX1_isAt_4 : decode cX1_isAt 4 = .ok (.iload_n 1, 1) := by decide +kernel
theorem dX1_isAt_5 : decode cX1_isAt 5 = .ok (.iaload, 1) := by decide +kernel
theorem dX1_isAt_6 : decode cX1_isAt 6 = .ok (.iload_n 2, 1) := by decide +kernel
theorem dX1_isAt_7 : decode cX1_isAt 7 = .ok (.if_icmp .ne 17, 3) := by decide +kernel
theorem dX1_isAt_10 : decode cX1_isAt 10 = .ok (.aload_n 0, 1) := by decide +kernel
theorem dX1_isAt_11 : decode cX1_isAt 11 = .ok (.getfield 19, 3) := by decide +kernel
theorem dX1_isAt_14 : decode cX1_isAt 14 = .ok (.iload_n 1, 1) := by decide +kernel
theorem dX1_isAt_15 : decode cX1_isAt 15 = .ok (.iaload, 1) := by decide +kernel
theorem dX1_isAt_16 : decode cX1_isAt 16 = .ok (.iload_n 3, 1) := by decide +kernel
theorem dX1_isAt_17 : decode cX1_isAt 17 = .ok (.if_icmp .ne 7, 3) := by decide +kernel
theorem dX1_isAt_20 : decode cX1_isAt 20 = .ok (.iconst 1, 1) := by decide +kernel
theorem dX1_isAt_21 : decode cX1_isAt 21 = .ok (.goto 4, 3) := by decide +kernel
theorem dX1_isAt_24 : decode cX1_isAt 24 = .ok (.iconst 0, 1) := by decide +kernel
theorem dX1_isAt_25 : decode cX1_isAt 25 = .ok (.ireturn, 1) := by decide +kernel
theorem dX1_sumUpTo_0 : decode cX1_sumUpTo 0 = .ok (.iconst 0, 1) := by decide +kernel
theorem dX1_sumUpTo_1 : decode cX1_sumUpTo 1 = .ok (.istore 4, 2) := by decide +kernel
theorem dX1_sumUpTo_3 : decode cX1_sumUpTo 3 = .ok (.iconst 0, 1) := by decide +kernel
theorem dX1_sumUpTo_4 : decode cX1_sumUpTo 4 = .ok (.istore 5, 2) := by decide +kernel
theorem dX1_sumUpTo_6 : decode cX1_sumUpTo 6 = .ok (.iload 5, 2) := by decide +kernel
theorem dX1_sumUpTo_8 : decode cX1_sumUpTo 8 = .ok (.aload_n 0, 1) := by decide +kernel
theorem dX1_sumUpTo_9 : decode cX1_sumUpTo 9 = .ok (.getfield 9, 3) := by decide +kernel
theorem dX1_sumUpTo_12 : decode cX1_sumUpTo 12 = .ok (.if_icmp .ge 43, 3) := by decide +kernel
theorem dX1_sumUpTo_15 : decode cX1_sumUpTo 15 = .ok (.aload_n 0, 1) := by decide +kernel
theorem dX1_sumUpTo_16 : decode cX1_sumUpTo 16 = .ok (.iload 5, 2) := by decide +kernel
theorem dX1_sumUpTo_18 : decode cX1_sumUpTo 18 = .ok (.iload_n 1, 1) := by decide +kernel
theorem dX1_sumUpTo_19 : decode cX1_sumUpTo 19 = .ok (.iload_n 2, 1) := by decide +kernel
theorem dX1_sumUpTo_20 : decode cX1_sumUpTo 20 = .ok (.invokevirtual 28, 3) := by decide +kernel
theorem dX1_sumUpTo_23 : decode cX1_sumUpTo 23 = .ok (.ifCond .eq 26, 3) := by decide +kernel
theorem dX1_sumUpTo_26 : decode cX1_sumUpTo 26 = .ok (.aload_n 0, 1) := by decide +kernel
theorem dX1_sumUpTo_27 : decode cX1_sumUpTo 27 = .ok (.getfield 22, 3) := by decide +kernel
theorem dX1_sumUpTo_30 : decode cX1_sumUpTo 30 = .ok (.iload 5, 2) := by decide +kernel
theorem dX1_sumUpTo_32 : decode cX1_sumUpTo 32 = .ok (.iaload, 1) := by decide +kernel
theorem dX1_sumUpTo_33 : decode cX1_sumUpTo 33 = .ok (.iload_n 3, 1) := by decide +kernel
theorem dX1_sumUpTo_34 : decode cX1_sumUpTo 34 = .ok (.if_icmp .gt 15, 3) := by decide +kernel
theorem dX1_sumUpTo_37 : decode cX1_sumUpTo 37 = .ok (.iload 4, 2) := by decide +kernel
theorem dX1_sumUpTo_39 : decode cX1_sumUpTo 39 = .ok (.aload_n 0, 1) := by decide +kernel
theorem dX1_sumUpTo_40 : decode cX1_sumUpTo 40 = .ok (.getfield 25, 3) := by decide +kernel
theorem dX1_sumUpTo_43 : decode cX1_sumUpTo 43 = .ok (.iload 5, 2) := by decide +kernel
theorem dX1_sumUpTo_45 : decode cX1_sumUpTo 45 = .ok (.iaload, 1) := by decide +kernel
theorem dX1_sumUpTo_46 : decode cX1_sumUpTo 46 = .ok (.iadd, 1) := by decide +kernel
theorem dX1_sumUpTo_47 : decode cX1_sumUpTo 47 = .ok (.istore 4, 2) := by decide +kernel
theorem dX1_sumUpTo_49 : decode cX1_sumUpTo 49 = .ok (.iinc 5 1, 3) := by decide +kernel
theorem dX1_sumUpTo_52 : decode cX1_sumUpTo 52 = .ok (.goto (-46), 3) := by decide +kernel
theorem dX1_sumUpTo_55 : decode cX1_sumUpTo 55 = .ok (.iload 4, 2) := by decide +kernel
theorem dX1_sumUpTo_57 : decode cX1_sumUpTo 57 = .ok (.ireturn, 1) := by decide +kernel
end
section
theorem dX2_init_0 : decode cX2_init 0 = .ok (.aload_n 0, 1) := by decide +kernel
theorem dX2_init_1 : decode cX2_init 1 = .ok (.invokespecial 3, 3) := by decide +kernel
theorem dX2_init_4 : decode cX2_init 4 = .ok (.aload_n 0, 1) := by decide +kernel
theorem dX2_init_5 : decode cX2_init 5 = .ok (.bipush 10, 2) := by decide +kernel
theorem dX2_init_7 : decode cX2_init 7 = .ok (.newarray .int, 2) := by decide +kernel
theorem dX2_init_9 : decode cX2_init 9 = .ok (.putfield 9, 3) := by decide +kernel
theorem dX2_init_12 : decode cX2_init 12 = .ok (.return_, 1) := by decide +kernel
theorem dX2_readAt_0 : decode cX2_readAt 0 = .ok (.aload_n 0, 1) := by decide +kernel
theorem dX2_readAt_1 : decode cX2_readAt 1 = .ok (.aload_n 1, 1) := by decide +kernel
theorem dX2_readAt_2 : decode cX2_readAt 2 = .ok (.iload_n 3, 1) := by decide +kernel
theorem dX2_readAt_3 : decode cX2_readAt 3 = .ok (.iload 4, 2) := by decide +kernel
theorem dX2_readAt_5 : decode cX2_readAt 5 = .ok (.invokevirtual 15, 3) := by decide +kernel
theorem dX2_readAt_8 : decode cX2_readAt 8 = .ok (.aload_n 2, 1) := by decide +kernel
theorem dX2_readAt_9 : decode cX2_readAt 9 = .ok (.iload_n 3, 1) := by decide +kernel
theorem dX2_readAt_10 : decode cX2_readAt 10 = .ok (.iload 4, 2) := by decide +kernel
theorem dX2_readAt_12 : decode cX2_readAt 12 = .ok (.iload 5, 2) := by decide +kernel
theorem dX2_readAt_14 : decode cX2_readAt 14 = .ok (.invokevirtual 21, 3) := by decide +kernel
theorem dX2_readAt_17 : decode cX2_readAt 17 = .ok (.iadd, 1) := by decide +kernel
theorem dX2_readAt_18 : decode cX2_readAt 18 = .ok (.putfield 27, 3) := by decide +kernel
theorem dX2_readAt_21 : decode cX2_readAt 21 = .ok (.aload_n 0, 1) := by decide +kernel
theorem dX2_readAt_22 : decode cX2_readAt 22 = .ok (.iconst 0, 1) := by decide +kernel
theorem dX2_readAt_23 : decode cX2_readAt 23 = .ok (.putfield 31, 3) := by decide +kernel
theorem dX2_readAt_26 : decode cX2_readAt 26 = .ok (.aload_n 0, 1) := by decide +kernel
theorem dX2_readAt_27 : decode cX2_readAt 27 = .ok (.iconst 0, 1) := by decide +kernel
theorem dX2_readAt_28 : decode cX2_readAt 28 = .ok (.putfield 34, 3) := by decide +kernel
theorem dX2_readAt_31 : decode cX2_readAt 31 = .ok (.aload_n 0, 1) := by decide +kernel
theorem dX2_readAt_32 : decode cX2_readAt 32 = .ok (.iconst 0, 1) := by decide +kernel
theorem dX2_readAt_33 : decode cX2_readAt 33 = .ok (.putfield 37, 3) := by decide +kernel
theorem dX2_readAt_36 : decode cX2_readAt 36 = .ok (.iconst 0, 1) := by decide +kernel
theorem dX2_readAt_37 : decode cX2_readAt 37 = .ok (.istore 6, 2) := by decide +kernel
theorem dX2_readAt_39 : decode cX2_readAt 39 = .ok (.iload 6, 2) := by decide +kernel
theorem dX2_readAt_41 : decode cX2_readAt 41 = .ok (.aload_n 1, 1) := by decide +kernel
theorem dX2_readAt_42 : decode cX2_readAt 42 = .ok (.getfield 40, 3) := by decide +kernel
theorem dX2_readAt_45 : decode cX2_readAt 45 = .ok (.if_icmp .ge 63, 3) := by decide +kernel
theorem dX2_readAt_48 : decode cX2_readAt 48 = .ok (.aload_n 1, 1) := by decide +kernel
theorem dX2_readAt_49 : decode cX2_readAt 49 = .ok (.getfield 43, 3) := by decide +kernel
theorem dX2_readAt_52 : decode cX2_readAt 52 = .ok (.iload 6, 2) := by decide +kernel
theorem dX2_readAt_54 : decode cX2_readAt 54 = .ok (.iaload, 1) := by decide +kernel
theorem dX2_readAt_55 : decode cX2_readAt 55 = .ok (.iload 4, 2) := by decide +kernel
theorem dX2_readAt_57 : decode cX2_readAt 57 = .ok (.if_icmp .ne 45, 3) := by decide +kernel
theorem dX2_readAt_60 : decode cX2_readAt 60 = .ok (.aload_n 1, 1) := by decide +kernel
theorem dX2_readAt_61 : decode cX2_readAt 61 = .ok (.getfield 46, 3) := by decide +kernel
theorem dX2_readAt_64 : decode cX2_readAt 64 = .ok (.iload 6, 2) := by decide +kernel
theorem dX2_readAt_66 : decode cX2_readAt 66 = .ok (.iaload, 1) := by decide +kernel
theorem dX2_readAt_67 : decode cX2_readAt 67 = .ok (.istore 7, 2) := by decide +kernel
theorem dX2_readAt_69 : decode cX2_readAt 69 = .ok (.aload_n 0, 1) := by decide +kernel
theorem dX2_readAt_70 : decode cX2_readAt 70 = .ok (.aload_n 1, 1) := by decide +kernel
theorem dX2_readAt_71 : decode cX2_readAt 71 = .ok (.iload 6, 2) := by decide +kernel
theorem dX2_readAt_73 : decode cX2_readAt 73 = .ok (.iconst 0, 1) := by decide +kernel
theorem dX2_readAt_74 : decode cX2_readAt 74 = .ok (.invokestatic 49, 3) := by decide +kernel
theorem dX2_readAt_77 : decode cX2_readAt 77 = .ok (.iload_n 3, 1) := by decide +kernel
theorem dX2_readAt_78 : decode cX2_readAt 78 = .ok (.iload 5, 2) := by decide +kernel
theorem dX2_readAt_80 : decode cX2_readAt 80 = .ok (.iload 7, 2) := by decide +kernel
theorem dX2_readAt_82 : decode cX2_readAt 82 = .ok (.ineg, 1) := by decide +kernel
theorem dX2_readAt_83 : decode cX2_readAt 83 = .ok (.invokevirtual 52, 3) := by decide +kernel
theorem dX2_readAt_86 : decode cX2_readAt 86 = .ok (.aload_n 0, 1) := by decide +kernel
theorem dX2_readAt_87 : decode cX2_readAt 87 = .ok (.aload_n 1, 1) := by decide +kernel
theorem dX2_readAt_88 : decode cX2_readAt 88 = .ok (.iload 6, 2) := by decide +kernel
theorem dX2_readAt_90 : decode cX2_readAt 90 = .ok (.iconst 1, 1) := by decide +kernel
theorem dX2_readAt_91 : decode cX2_readAt 91 = .ok (.invokestatic 49, 3) := by decide +kernel
theorem dX2_readAt_94 : decode cX2_readAt 94 = .ok (.iload_n 3, 1) := by decide +kernel
theorem dX2_readAt_95 : decode cX2_readAt 95 = .ok (.iload 5, 2) := by decide +kernel
theorem dX2_readAt_97 : decode cX2_readAt 97 = .ok (.iload 7, 2) := by decide +kernel
theorem dX2_readAt_99 : decode cX2_readAt 99 = .ok (.invokevirtual 52, 3) := by decide +kernel
theorem dX2_readAt_102 : decode cX2_readAt 102 = .ok (.iinc 6 1, 3) := by decide +kernel
theorem dX2_readAt_105 : decode cX2_readAt 105 = .ok (.goto (-66), 3) := by decide +kernel
theorem dX2_readAt_108 : decode cX2_readAt 108 = .ok (.aload_n 0, 1) := by decide +kernel
theorem dX2_readAt_109 : decode cX2_readAt 109 = .ok (.dup, 1) := by decide +kernel
theorem dX2_readAt_110 : decode cX2_readAt 110 = .ok (.getfield 31, 3) := by decide +kernel
theorem dX2_readAt_113 : decode cX2_readAt 113 = .ok (.aload_n 0, 1) := by decide +kernel
theorem dX2_readAt_114 : decode cX2_readAt 114 = .ok (.getfield 27, 3) := by decide +kernel
theorem dX2_readAt_117 : decode cX2_readAt 117 = .ok (.iadd, 1) := by decide +kernel
theorem dX2_readAt_118 : decode cX2_readAt 118 = .ok (.putfield 31, 3) := by decide +kernel
theorem dX2_readAt_121 : decode cX2_readAt 121 = .ok (.aload_n 0, 1) := by decide +kernel
theorem dX2_readAt_122 : decode cX2_readAt 122 = .ok (.dup, 1) := by decide +kernel
theorem dX2_readAt_123 : decode cX2_readAt 123 = .ok (.getfield 34, 3) := by decide +kernel
theorem dX2_readAt_126 : decode cX2_readAt 126 = .ok (.aload_n 0, 1) := by decide +kernel
theorem dX2_readAt_127 : decode cX2_readAt 127 = .ok (.getfield 27, 3) := by decide +kernel
theorem dX2_readAt_130 : decode cX2_readAt 130 = .ok (.iadd, 1) := by decide +kernel
theorem dX2_readAt_131 : decode cX2_readAt 131 = .ok (.putfield 34, 3) := by decide +kernel
theorem dX2_readAt_134 : decode cX2_readAt 134 = .ok (.return_, 1) := by decide +kernel
theorem dX2_readLeg_0 : decode cX2_readLeg 0 = .ok (.aload_n 1, 1) := by decide +kernel
theorem dX2_readLeg_1 : decode cX2_readLeg 1 = .ok (.getfield 56, 3) := by decide +kernel
theorem dX2_readLeg_4 : decode cX2_readLeg 4 = .ok (.iload_n 2, 1) := by decide +kernel
theorem dX2_readLeg_5 : decode cX2_readLeg 5 = .ok (.iaload, 1) := by decide +kernel
theorem dX2_readLeg_6 : decode cX2_readLeg 6 = .ok (.iload_n 3, 1) := by decide +kernel
theorem dX2_readLeg_7 : decode cX2_readLeg 7 = .ok (.if_icmp .eq 4, 3) := by decide +kernel
theorem dX2_readLeg_10 : decode cX2_readLeg 10 = .ok (.return_, 1) := by decide +kernel
theorem dX2_readLeg_11 : decode cX2_readLeg 11 = .ok (.aload_n 1, 1) := by decide +kernel
theorem dX2_readLeg_12 : decode cX2_readLeg 12 = .ok (.iload_n 2, 1) := by decide +kernel
theorem dX2_readLeg_13 : decode cX2_readLeg 13 = .ok (.iload 4, 2) := by decide +kernel
theorem dX2_readLeg_15 : decode cX2_readLeg 15 = .ok (.invokevirtual 59, 3) := by decide +kernel
theorem dX2_readLeg_18 : decode cX2_readLeg 18 = .ok (.ifCond .eq 17, 3) := by decide +kernel
theorem dX2_readLeg_21 : decode cX2_readLeg 21 = .ok (.aload_n 0, 1) := by decide +kernel
theorem dX2_readLeg_22 : decode cX2_readLeg 22 = .ok (.dup, 1) := by decide +kernel
theorem dX2_readLeg_23 : decode cX2_readLeg 23 = .ok (.getfield 27, 3) := by decide +kernel
theorem dX2_readLeg_26 : decode cX2_readLeg 26 = .ok (.iload 5, 2) := by decide +kernel
theorem dX2_readLeg_28 : decode cX2_readLeg 28 = .ok (.iadd, 1) := by decide +kernel
theorem dX2_readLeg_29 : decode cX2_readLeg 29 = .ok (.putfield 27, 3) := by decide +kernel
theorem dX2_readLeg_32 : decode cX2_readLeg 32 = .ok (.goto 19, 3) := by decide +kernel
theorem dX2_readLeg_35 : decode cX2_readLeg 35 = .ok (.aload_n 1, 1) := by decide +kernel
theorem dX2_readLeg_36 : decode cX2_readLeg 36 = .ok (.iload_n 2, 1) := by decide +kernel
theorem dX2_readLeg_37 : decode cX2_readLeg 37 = .ok (.iload 4, 2) := by decide +kernel
theorem dX2_readLeg_39 : decode cX2_readLeg 39 = .ok (.invokevirtual 63, 3) := by decide +kernel
theorem dX2_readLeg_42 : decode cX2_readLeg 42 = .ok (.ifCond .ne 9, 3) := by decide +kernel
theorem dX2_readLeg_45 : decode cX2_readLeg 45 = .ok (.aload_n 0, 1) := by decide +kernel
theorem dX2_readLeg_46 : decode cX2_readLeg 46 = .ok (.iload 5, 2) := by decide +kernel
theorem dX2_readLeg_48 : decode cX2_readLeg 48 = .ok (.invokevirtual 66, 3) := by decide +kernel
theorem dX2_readLeg_51 : decode cX2_readLeg 51 = .ok (.return_, 1) := by decide +kernel
theorem dX2_addDoubt_0 : decode cX2_addDoubt 0 = .ok (.aload_n 0, 1) := by decide +kernel
theorem dX2_addDoubt_1 : decode cX2_addDoubt 1 = .ok (.getfield 37, 3) := by decide +kernel
theorem dX2_addDoubt_4 : decode cX2_addDoubt 4 = .ok (.bipush 10, 2) := by decide +kernel
theorem dX2_addDoubt_6 : decode cX2_addDoubt 6 = .ok (.if_icmp .ge 13, 3) := by decide +kernel
theorem dX2_addDoubt_9 : decode cX2_addDoubt 9 = .ok (.aload_n 0, 1) := by decide +kernel
theorem dX2_addDoubt_10 : decode cX2_addDoubt 10 = .ok (.getfield 9, 3) := by decide +kernel
theorem dX2_addDoubt_13 : decode cX2_addDoubt 13 = .ok (.aload_n 0, 1) := by decide +kernel
theorem dX2_addDoubt_14 : decode cX2_addDoubt 14 = .ok (.getfield 37, 3) := by decide +kernel
theorem dX2_addDoubt_17 : decode cX2_addDoubt 17 = .ok (.iload_n 1, 1) := by decide +kernel
theorem dX2_addDoubt_18 : decode cX2_addDoubt 18 = .ok (.iastore, 1) := by decide +kernel
theorem dX2_addDoubt_19 : decode cX2_addDoubt 19 = .ok (.aload_n 0, 1) := by decide +kernel
theorem dX2_addDoubt_20 : decode cX2_addDoubt 20 = .ok (.dup, 1) := by decide +kernel
theorem dX2_addDoubt_21 : decode cX2_addDoubt 21 = .ok (.getfield 37, 3) := by decide +kernel
theorem dX2_addDoubt_24 : decode cX2_addDoubt 24 = .ok (.iconst 1, 1) := by decide +kernel
theorem dX2_addDoubt_25 : decode cX2_addDoubt 25 = .ok (.iadd, 1) := by decide +kernel
theorem dX2_addDoubt_26 : decode cX2_addDoubt 26 = .ok (.putfield 37, 3) := by decide +kernel
theorem dX2_addDoubt_29 : decode cX2_addDoubt 29 = .ok (.iload_n 1, 1) := by decide +kernel
theorem dX2_addDoubt_30 : decode cX2_addDoubt 30 = .ok (.ifCond .ge 16, 3) := by decide +kernel
theorem dX2_addDoubt_33 : decode cX2_addDoubt 33 = .ok (.aload_n 0, 1) := by decide +kernel
theorem dX2_addDoubt_34 : decode cX2_addDoubt 34 = .ok (.dup, 1) := by decide +kernel
theorem dX2_addDoubt_35 : decode cX2_addDoubt 35 = .ok (.getfield 31, 3) := by decide +kernel
theorem dX2_addDoubt_38 : decode cX2_addDoubt 38 = .ok (.iload_n 1, 1) := by decide +kernel
theorem dX2_addDoubt_39 : decode cX2_addDoubt 39 = .ok (.iadd, 1) := by decide +kernel
theorem dX2_addDoubt_40 : decode cX2_addDoubt 40 = .ok (.putfield 31, 3) := by decide +kernel
theorem dX2_addDoubt_43 : decode cX2_addDoubt 43 = .ok (.goto 13, 3) := by decide +kernel
theorem dX2_addDoubt_46 : decode cX2_addDoubt 46 = .ok (.aload_n 0, 1) := by decide +kernel
theorem dX2_addDoubt_47 : decode cX2_addDoubt 47 = .ok (.dup, 1) := by decide +kernel
theorem dX2_addDoubt_48 : decode cX2_addDoubt 48 = .ok (.getfield 34, 3) := by decide +kernel
theorem dX2_addDoubt_51 : decode cX2_addDoubt 51 = .ok (.iload_n 1, 1) := by decide +kernel
theorem dX2_addDoubt_52 : decode cX2_addDoubt 52 = .ok (.iadd, 1) := by decide +kernel
theorem dX2_addDoubt_53 : decode cX2_addDoubt 53 = .ok (.putfield 34, 3) := by decide +kernel
theorem dX2_addDoubt_56 : decode cX2_addDoubt 56 = .ok (.return_, 1) := by decide +kernel
theorem dX2_sureWith_0 : decode cX2_sureWith 0 = .ok (.aload_n 0, 1) := by decide +kernel
theorem dX2_sureWith_1 : decode cX2_sureWith 1 = .ok (.getfield 27, 3) := by decide +kernel
theorem dX2_sureWith_4 : decode cX2_sureWith 4 = .ok (.istore_n 2, 1) := by decide +kernel
theorem dX2_sureWith_5 : decode cX2_sureWith 5 = .ok (.iconst 0, 1) := by decide +kernel
theorem dX2_sureWith_6 : decode cX2_sureWith 6 = .ok (.istore_n 3, 1) := by decide +kernel
theorem dX2_sureWith_7 : decode cX2_sureWith 7 = .ok (.iload_n 3, 1) := by decide +kernel
theorem dX2_sureWith_8 : decode cX2_sureWith 8 = .ok (.bipush 10, 2) := by decide +kernel
theorem dX2_sureWith_10 : decode cX2_sureWith 10 = .ok (.if_icmp .ge 27, 3) := by decide +kernel
theorem dX2_sureWith_13 : decode cX2_sureWith 13 = .ok (.iload_n 1, 1) := by decide +kernel
theorem dX2_sureWith_14 : decode cX2_sureWith 14 = .ok (.iload_n 3, 1) := by decide +kernel
theorem dX2_sureWith_15 : decode cX2_sureWith 15 = .ok (.ishr, 1) := by decide +kernel
theorem dX2_sureWith_16 : decode cX2_sureWith 16 = .ok (.iconst 1, 1) := by decide +kernel
theorem dX2_sureWith_17 : decode cX2_sureWith 17 = .ok (.iand, 1) := by decide +kernel
theorem dX2_sureWith_18 : decode cX2_sureWith 18 = .ok (.iconst 1, 1) := by decide +kernel
theorem dX2_sureWith_19 : decode cX2_sureWith 19 = .ok (.if_icmp .ne 12, 3) := by decide +kernel
theorem dX2_sureWith_22 : decode cX2_sureWith 22 = .ok (.iload_n 2, 1) := by decide +kernel
theorem dX2_sureWith_23 : decode cX2_sureWith 23 = .ok (.aload_n 0, 1) := by decide +kernel
theorem dX2_sureWith_24 : decode cX2_sureWith 24 = .ok (.getfield 9, 3) := by decide +kernel
theorem dX2_sureWith_27 : decode cX2_sureWith 27 = .ok (.iload_n 3, 1) := by decide +kernel
theorem dX2_sureWith_28 : decode cX2_sureWith 28 = .ok (.iaload, 1) := by decide +kernel
theorem dX2_sureWith_29 : decode cX2_sureWith 29 = .ok (.iadd, 1) := by decide +kernel
theorem dX2_sureWith_30 : decode cX2_sureWith 30 = .ok (.istore_n 2, 1) := by decide +kernel
theorem dX2_sureWith_31 : decode cX2_sureWith 31 = .ok (.iinc 3 1, 3) := by decide +kernel
theorem dX2_sureWith_34 : decode cX2_sureWith 34 = .ok (.goto (-27), 3) := by decide +kernel
theorem dX2_sureWith_37 : decode cX2_sureWith 37 = .ok (.iload_n 2, 1) := by decide +kernel
theorem dX2_sureWith_38 : decode cX2_sureWith 38 = .ok (.ireturn, 1) := by decide +kernel
end
section
theorem dX3_init_0 : decode cX3_init 0 = .ok (.aload_n 0, 1) := by decide +kernel
theorem dX3_init_1 : decode cX3_init 1 = .ok (.invokespecial 3, 3) := by decide +kernel
theorem dX3_init_4 : decode cX3_init 4 = .ok (.aload_n 0, 1) := by decide +kernel
theorem dX3_init_5 : decode cX3_init 5 = .ok (.iconst 0, 1) := by decide +kernel
theorem dX3_init_6 : decode cX3_init 6 = .ok (.putfield 9, 3) := by decide +kernel
theorem dX3_init_9 : decode cX3_init 9 = .ok (.aload_n 0, 1) := by decide +kernel
theorem dX3_init_10 : decode cX3_init 10 = .ok (.bipush 40, 2) := by decide +kernel
theorem dX3_init_12 : decode cX3_init 12 = .ok (.newarray .int, 2) := by decide +kernel
theorem dX3_init_14 : decode cX3_init 14 = .ok (.putfield 15, 3) := by decide +kernel
theorem dX3_init_17 : decode cX3_init 17 = .ok (.aload_n 0, 1) := by decide +kernel
theorem dX3_init_18 : decode cX3_init 18 = .ok (.bipush 40, 2) := by decide +kernel
theorem dX3_init_20 : decode cX3_init 20 = .ok (.newarray .int, 2) := by decide +kernel
theorem dX3_init_22 : decode cX3_init 22 = .ok (.putfield 19, 3) := by decide +kernel
theorem dX3_init_25 : decode cX3_init 25 = .ok (.aload_n 0, 1) := by decide +kernel
theorem dX3_init_26 : decode cX3_init 26 = .ok (.bipush 40, 2) := by decide +kernel
theorem dX3_init_28 : decode cX3_init 28 = .ok (.newarray .int, 2) := by decide +kernel
theorem dX3_init_30 : decode cX3_init 30 = .ok (.putfield 22, 3) := by decide +kernel
theorem dX3_init_33 : decode cX3_init 33 = .ok (.aload_n 0, 1) := by decide +kernel
theorem dX3_init_34 : decode cX3_init 34 = .ok (.bipush 40, 2) := by decide +kernel
theorem dX3_init_36 : decode cX3_init 36 = .ok (.newarray .int, 2) := by decide +kernel
theorem dX3_init_38 : decode cX3_init 38 = .ok (.putfield 25, 3) := by decide +kernel
theorem dX3_init_41 : decode cX3_init 41 = .ok (.aload_n 0, 1) := by decide +kernel
theorem dX3_init_42 : decode cX3_init 42 = .ok (.bipush 40, 2) := by decide +kernel
theorem dX3_init_44 : decode cX3_init 44 = .ok (.newarray .int, 2) := by decide +kernel
theorem dX3_init_46 : decode cX3_init 46 = .ok (.putfield 28, 3) := by decide +kernel
theorem dX3_init_49 : decode cX3_init 49 = .ok (.aload_n 0, 1) := by decide +kernel
theorem dX3_init_50 : decode cX3_init 50 = .ok (.bipush 40, 2) := by decide +kernel
theorem dX3_init_52 : decode cX3_init 52 = .ok (.newarray .boolean, 2) := by decide +kernel
theorem dX3_init_54 : decode cX3_init 54 = .ok (.putfield 31, 3) := by decide +kernel
theorem dX3_init_57 : decode cX3_init 57 = .ok (.return_, 1) := by decide +kernel
theorem dX3_has_0 : decode cX3_has 0 = .ok (.iload_n 1, 1) := by decide +kernel
theorem dX3_has_1 : decode cX3_has 1 = .ok (.ifCond .lt 15, 3) := by decide +kernel
theorem dX3_has_4 : decode cX3_has 4 = .ok (.iload_n 1, 1) := by decide +kernel
theorem dX3_has_5 : decode cX3_has 5 = .ok (.aload_n 0, 1) := by decide +kernel
theorem dX3_has_6 : decode cX3_has 6 = .ok (.getfield 9, 3) := by decide +kernel
theorem dX3_has_9 : decode cX3_has 9 = .ok (.if_icmp .ge 7, 3) := by decide +kernel
theorem dX3_has_12 : decode cX3_has 12 = .ok (.iconst 1, 1) := by decide +kernel
theorem dX3_has_13 : decode cX3_has 13 = .ok (.goto 4, 3) := by decide +kernel
theorem dX3_has_16 : decode cX3_has 16 = .ok (.iconst 0, 1) := by decide +kernel
theorem dX3_has_17 : decode cX3_has 17 = .ok (.ireturn, 1) := by decide +kernel
theorem dX3_isAt_0 : decode cX3_isAt 0 = .ok (.aload_n 0, 1) := by decide +kernel
theorem dX3_isAt_1 : decode cX3_isAt 1 = .ok (.getfield 15, 3) := by decide +kernel
theorem dX3_isAt_4 : decode cX3_isAt 4 = .ok (.iload_n 1, 1) := by decide +kernel
theorem dX3_isAt_5 : decode cX3_isAt 5 = .ok (.iaload, 1) := by decide +kernel
theorem dX3_isAt_6 : decode cX3_isAt 6 = .ok (.iload_n 2, 1) := by decide +kernel
theorem dX3_isAt_7 : decode cX3_isAt 7 = .ok (.if_icmp .ne 17, 3) := by decide +kernel
theorem dX3_isAt_10 : decode cX3_isAt 10 = .ok (.aload_n 0, 1) := by decide +kernel
theorem dX3_isAt_11 : decode cX3_isAt 11 = .ok (.getfield 19, 3) := by decide +kernel
theorem dX3_isAt_14 : decode cX3_isAt 14 = .ok (.iload_n 1, 1) := by decide +kernel
theorem dX3_isAt_15 : decode cX3_isAt 15 = .ok (.iaload, 1) := by decide +kernel
theorem dX3_isAt_16 : decode cX3_isAt 16 = .ok (.iload_n 3, 1) := by decide +kernel
theorem dX3_isAt_17 : decode cX3_isAt 17 = .ok (.if_icmp .ne 7, 3) := by decide +kernel
theorem dX3_isAt_20 : decode cX3_isAt 20 = .ok (.iconst 1, 1) := by decide +kernel
theorem dX3_isAt_21 : decode cX3_isAt 21 = .ok (.goto 4, 3) := by decide +kernel
theorem dX3_isAt_24 : decode cX3_isAt 24 = .ok (.iconst 0, 1) := by decide +kernel
theorem dX3_isAt_25 : decode cX3_isAt 25 = .ok (.ireturn, 1) := by decide +kernel
theorem dX3_isOpenAt_0 : decode cX3_isOpenAt 0 = .ok (.aload_n 0, 1) := by decide +kernel
theorem dX3_isOpenAt_1 : decode cX3_isOpenAt 1 = .ok (.getfield 31, 3) := by decide +kernel
theorem dX3_isOpenAt_4 : decode cX3_isOpenAt 4 = .ok (.iload_n 1, 1) := by decide +kernel
theorem dX3_isOpenAt_5 : decode cX3_isOpenAt 5 = .ok (.baload, 1) := by decide +kernel
theorem dX3_isOpenAt_6 : decode cX3_isOpenAt 6 = .ok (.ifCond .ne 17, 3) := by decide +kernel
theorem dX3_isOpenAt_9 : decode cX3_isOpenAt 9 = .ok (.aload_n 0, 1) := by decide +kernel
theorem dX3_isOpenAt_10 : decode cX3_isOpenAt 10 = .ok (.iload_n 1, 1) := by decide +kernel
theorem dX3_isOpenAt_11 : decode cX3_isOpenAt 11 = .ok (.iload_n 2, 1) := by decide +kernel
theorem dX3_isOpenAt_12 : decode cX3_isOpenAt 12 = .ok (.iload_n 3, 1) := by decide +kernel
theorem dX3_isOpenAt_13 : decode cX3_isOpenAt 13 = .ok (.invokevirtual 35, 3) := by decide +kernel
theorem dX3_isOpenAt_16 : decode cX3_isOpenAt 16 = .ok (.ifCond .eq 7, 3) := by decide +kernel
theorem dX3_isOpenAt_19 : decode cX3_isOpenAt 19 = .ok (.iconst 1, 1) := by decide +kernel
theorem dX3_isOpenAt_20 : decode cX3_isOpenAt 20 = .ok (.goto 4, 3) := by decide +kernel
theorem dX3_isOpenAt_23 : decode cX3_isOpenAt 23 = .ok (.iconst 0, 1) := by decide +kernel
theorem dX3_isOpenAt_24 : decode cX3_isOpenAt 24 = .ok (.ireturn, 1) := by decide +kernel
theorem dX3_openCounts_0 : decode cX3_openCounts 0 = .ok (.iconst 0, 1) := by decide +kernel
theorem dX3_openCounts_1 : decode cX3_openCounts 1 = .ok (.istore_n 1, 1) := by decide +kernel
theorem dX3_openCounts_2 : decode cX3_openCounts 2 = .ok (.iconst 0, 1) := by decide +kernel
theorem dX3_openCounts_3 : decode cX3_openCounts 3 = .ok (.istore_n 2, 1) := by decide +kernel
theorem dX3_openCounts_4 : decode cX3_openCounts 4 = .ok (.iload_n 2, 1) := by decide +kernel
theorem dX3_openCounts_5 : decode cX3_openCounts 5 = .ok (.aload_n 0, 1) := by decide +kernel
theorem dX3_openCounts_6 : decode cX3_openCounts 6 = .ok (.getfield 9, 3) := by decide +kernel
theorem dX3_openCounts_9 : decode cX3_openCounts 9 = .ok (.if_icmp .ge 21, 3) := by decide +kernel
theorem dX3_openCounts_12 : decode cX3_openCounts 12 = .ok (.aload_n 0, 1) := by decide +kernel
theorem dX3_openCounts_13 : decode cX3_openCounts 13 = .ok (.getfield 31, 3) := by decide +kernel
theorem dX3_openCounts_16 : decode cX3_openCounts 16 = .ok (.iload_n 2, 1) := by decide +kernel
theorem dX3_openCounts_17 : decode cX3_openCounts 17 = .ok (.baload, 1) := by decide +kernel
theorem dX3_openCounts_18 : decode cX3_openCounts 18 = .ok (.ifCond .ne 6, 3) := by decide +kernel
theorem dX3_openCounts_21 : decode cX3_openCounts 21 = .ok (.iinc 1 1, 3) := by decide +kernel
theorem dX3_openCounts_24 : decode cX3_openCounts 24 = .ok (.iinc 2 1, 3) := by decide +kernel
theorem dX3_openCounts_27 : decode cX3_openCounts 27 = .ok (.goto (-23), 3) := by decide +kernel
theorem dX3_openCounts_30 : decode cX3_openCounts 30 = .ok (.iload_n 1, 1) := by decide +kernel
theorem dX3_openCounts_31 : decode cX3_openCounts 31 = .ok (.ireturn, 1) := by decide +kernel
theorem dX3_isCountedAt_0 : decode cX3_isCountedAt 0 = .ok (.iconst 0, 1) := by decide +kernel
theorem dX3_isCountedAt_1 : decode cX3_isCountedAt 1 = .ok (.istore 4, 2) := by decide +kernel
theorem dX3_isCountedAt_3 : decode cX3_isCountedAt 3 = .ok (.iload 4, 2) := by decide +kernel
theorem dX3_isCountedAt_5 : decode cX3_isCountedAt 5 = .ok (.aload_n 0, 1) := by decide +kernel
theorem dX3_isCountedAt_6 : decode cX3_isCountedAt 6 = .ok (.getfield 9, 3) := by decide +kernel
theorem dX3_isCountedAt_9 : decode cX3_isCountedAt 9 = .ok (.if_icmp .ge 33, 3) := by decide +kernel
theorem dX3_isCountedAt_12 : decode cX3_isCountedAt 12 = .ok (.aload_n 0, 1) := by decide +kernel
theorem dX3_isCountedAt_13 : decode cX3_isCountedAt 13 = .ok (.iload 4, 2) := by decide +kernel
theorem dX3_isCountedAt_15 : decode cX3_isCountedAt 15 = .ok (.iload_n 1, 1) := by decide +kernel
theorem dX3_isCountedAt_16 : decode cX3_isCountedAt 16 = .ok (.iload_n 2, 1) := by decide +kernel
theorem dX3_isCountedAt_17 : decode cX3_isCountedAt 17 = .ok (.invokevirtual 35, 3) := by decide +kernel
theorem dX3_isCountedAt_20 : decode cX3_isCountedAt 20 = .ok (.ifCond .eq 16, 3) := by decide +kernel
theorem dX3_isCountedAt_23 : decode cX3_isCountedAt 23 = .ok (.aload_n 0, 1) := by decide +kernel
theorem dX3_isCountedAt_24 : decode cX3_isCountedAt 24 = .ok (.getfield 22, 3) := by decide +kernel
theorem dX3_isCountedAt_27 : decode cX3_isCountedAt 27 = .ok (.iload 4, 2) := by decide +kernel
theorem dX3_isCountedAt_29 : decode cX3_isCountedAt 29 = .ok (.iaload, 1) := by decide +kernel
theorem dX3_isCountedAt_30 : decode cX3_isCountedAt 30 = .ok (.iload_n 3, 1) := by decide +kernel
theorem dX3_isCountedAt_31 : decode cX3_isCountedAt 31 = .ok (.if_icmp .ne 5, 3) := by decide +kernel
theorem dX3_isCountedAt_34 : decode cX3_isCountedAt 34 = .ok (.iconst 1, 1) := by decide +kernel
theorem dX3_isCountedAt_35 : decode cX3_isCountedAt 35 = .ok (.ireturn, 1) := by decide +kernel
theorem dX3_isCountedAt_36 : decode cX3_isCountedAt 36 = .ok (.iinc 4 1, 3) := by decide +kernel
theorem dX3_isCountedAt_39 : decode cX3_isCountedAt 39 = .ok (.goto (-36), 3) := by decide +kernel
theorem dX3_isCountedAt_42 : decode cX3_isCountedAt 42 = .ok (.iconst 0, 1) := by decide +kernel
theorem dX3_isCountedAt_43 : decode cX3_isCountedAt 43 = .ok (.ireturn, 1) := by decide +kernel
theorem dX3_isPostedBehind_0 : decode cX3_isPostedBehind 0 = .ok (.iconst 0, 1) := by decide +kernel
theorem dX3_isPostedBehind_1 : decode cX3_isPostedBehind 1 = .ok (.istore 4, 2) := by decide +kernel
theorem dX3_isPostedBehind_3 : decode cX3_isPostedBehind 3 = .ok (.iload 4, 2) := by decide +kernel
theorem dX3_isPostedBehind_5 : decode cX3_isPostedBehind 5 = .ok (.aload_n 0, 1) := by decide +kernel
theorem dX3_isPostedBehind_6 : decode cX3_isPostedBehind 6 = .ok (.getfield 9, 3) := by decide +kernel
theorem dX3_isPostedBehind_9 : decode cX3_isPostedBehind 9 = .ok (.if_icmp .ge 43, 3) := by decide +kernel
theorem dX3_isPostedBehind_12 : decode cX3_isPostedBehind 12 = .ok (.aload_n 0, 1) := by decide +kernel
theorem dX3_isPostedBehind_13 : decode cX3_isPostedBehind 13 = .ok (.iload 4, 2) := by decide +kernel
theorem dX3_isPostedBehind_15 : decode cX3_isPostedBehind 15 = .ok (.iload_n 1, 1) := by decide +kernel
theorem dX3_isPostedBehind_16 : decode cX3_isPostedBehind 16 = .ok (.iload_n 2, 1) := by decide +kernel
theorem dX3_isPostedBehind_17 : decode cX3_isPostedBehind 17 = .ok (.invokevirtual 35, 3) := by decide +kernel
theorem dX3_isPostedBehind_20 : decode cX3_isPostedBehind 20 = .ok (.ifCond .eq 26, 3) := by decide +kernel
theorem dX3_isPostedBehind_23 : decode cX3_isPostedBehind 23 = .ok (.aload_n 0, 1) := by decide +kernel
theorem dX3_isPostedBehind_24 : decode cX3_isPostedBehind 24 = .ok (.getfield 31, 3) := by decide +kernel
theorem dX3_isPostedBehind_27 : decode cX3_isPostedBehind 27 = .ok (.iload 4, 2) := by decide +kernel
theorem dX3_isPostedBehind_29 : decode cX3_isPostedBehind 29 = .ok (.baload, 1) := by decide +kernel
theorem dX3_isPostedBehind_30 : decode cX3_isPostedBehind 30 = .ok (.ifCond .eq 16, 3) := by decide +kernel
theorem dX3_isPostedBehind_33 : decode cX3_isPostedBehind 33 = .ok (.aload_n 0, 1) := by decide +kernel
theorem dX3_isPostedBehind_34 : decode cX3_isPostedBehind 34 = .ok (.getfield 22, 3) := by decide +kernel
theorem dX3_isPostedBehind_37 : decode cX3_isPostedBehind 37 = .ok (.iload 4, 2) := by decide +kernel
theorem dX3_isPostedBehind_39 : decode cX3_isPostedBehind 39 = .ok (.iaload, 1) := by decide +kernel
theorem dX3_isPostedBehind_40 : decode cX3_isPostedBehind 40 = .ok (.iload_n 3, 1) := by decide +kernel
theorem dX3_isPostedBehind_41 : decode cX3_isPostedBehind 41 = .ok (.if_icmp .le 5, 3) := by decide +kernel
theorem dX3_isPostedBehind_44 : decode cX3_isPostedBehind 44 = .ok (.iconst 1, 1) := by decide +kernel
theorem dX3_isPostedBehind_45 : decode cX3_isPostedBehind 45 = .ok (.ireturn, 1) := by decide +kernel
theorem dX3_isPostedBehind_46 : decode cX3_isPostedBehind 46 = .ok (.iinc 4 1, 3) := by decide +kernel
theorem dX3_isPostedBehind_49 : decode cX3_isPostedBehind 49 = .ok (.goto (-46), 3) := by decide +kernel
theorem dX3_isPostedBehind_52 : decode cX3_isPostedBehind 52 = .ok (.iconst 0, 1) := by decide +kernel
theorem dX3_isPostedBehind_53 : decode cX3_isPostedBehind 53 = .ok (.ireturn, 1) := by decide +kernel
theorem dX3_openFirst_0 : decode cX3_openFirst 0 = .ok (.iconst (-1), 1) := by decide +kernel
theorem dX3_openFirst_1 : decode cX3_openFirst 1 = .ok (.istore_n 3, 1) := by decide +kernel
theorem dX3_openFirst_2 : decode cX3_openFirst 2 = .ok (.iconst 0, 1) := by decide +kernel
theorem dX3_openFirst_3 : decode cX3_openFirst 3 = .ok (.istore 4, 2) := by decide +kernel
theorem dX3_openFirst_5 : decode cX3_openFirst 5 = .ok (.iload 4, 2) := by decide +kernel
theorem dX3_openFirst_7 : decode cX3_openFirst 7 = .ok (.aload_n 0, 1) := by decide +kernel
theorem dX3_openFirst_8 : decode cX3_openFirst 8 = .ok (.getfield 9, 3) := by decide +kernel
theorem dX3_openFirst_11 : decode cX3_openFirst 11 = .ok (.if_icmp .ge 44, 3) := by decide +kernel
theorem dX3_openFirst_14 : decode cX3_openFirst 14 = .ok (.aload_n 0, 1) := by decide +kernel
theorem dX3_openFirst_15 : decode cX3_openFirst 15 = .ok (.iload 4, 2) := by decide +kernel
theorem dX3_openFirst_17 : decode cX3_openFirst 17 = .ok (.iload_n 1, 1) := by decide +kernel
theorem dX3_openFirst_18 : decode cX3_openFirst 18 = .ok (.iload_n 2, 1) := by decide +kernel
theorem dX3_openFirst_19 : decode cX3_openFirst 19 = .ok (.invokevirtual 39, 3) := by decide +kernel
theorem dX3_openFirst_22 : decode cX3_openFirst 22 = .ok (.ifCond .eq 27, 3) := by decide +kernel
theorem dX3_openFirst_25 : decode cX3_openFirst 25 = .ok (.iload_n 3, 1) := by decide +kernel
theorem dX3_openFirst_26 : decode cX3_openFirst 26 = .ok (.iconst (-1), 1) := by decide +kernel
theorem dX3_openFirst_27 : decode cX3_openFirst 27 = .ok (.if_icmp .eq 19, 3) := by decide +kernel
theorem dX3_openFirst_30 : decode cX3_openFirst 30 = .ok (.aload_n 0, 1) := by decide +kernel
theorem dX3_openFirst_31 : decode cX3_openFirst 31 = .ok (.getfield 22, 3) := by decide +kernel
theorem dX3_openFirst_34 : decode cX3_openFirst 34 = .ok (.iload 4, 2) := by decide +kernel
theorem dX3_openFirst_36 : decode cX3_openFirst 36 = .ok (.iaload, 1) := by decide +kernel
theorem dX3_openFirst_37 : decode cX3_openFirst 37 = .ok (.aload_n 0, 1) := by decide +kernel
theorem dX3_openFirst_38 : decode cX3_openFirst 38 = .ok (.getfield 22, 3) := by decide +kernel
theorem dX3_openFirst_41 : decode cX3_openFirst 41 = .ok (.iload_n 3, 1) := by decide +kernel
theorem dX3_openFirst_42 : decode cX3_openFirst 42 = .ok (.iaload, 1) := by decide +kernel
theorem dX3_openFirst_43 : decode cX3_openFirst 43 = .ok (.if_icmp .ge 6, 3) := by decide +kernel
theorem dX3_openFirst_46 : decode cX3_openFirst 46 = .ok (.iload 4, 2) := by decide +kernel
theorem dX3_openFirst_48 : decode cX3_openFirst 48 = .ok (.istore_n 3, 1) := by decide +kernel
theorem dX3_openFirst_49 : decode cX3_openFirst 49 = .ok (.iinc 4 1, 3) := by decide +kernel
theorem dX3_openFirst_52 : decode cX3_openFirst 52 = .ok (.goto (-47), 3) := by decide +kernel
theorem dX3_openFirst_55 : decode cX3_openFirst 55 = .ok (.iload_n 3, 1) := by decide +kernel
theorem dX3_openFirst_56 : decode cX3_openFirst 56 = .ok (.ireturn, 1) := by decide +kernel
theorem dX3_openAhead_0 : decode cX3_openAhead 0 = .ok (.iconst (-1), 1) := by decide +kernel
theorem dX3_openAhead_1 : decode cX3_openAhead 1 = .ok (.istore 4, 2) := by decide +kernel
theorem dX3_openAhead_3 : decode cX3_openAhead 3 = .ok (.iconst 0, 1) := by decide +kernel
theorem dX3_openAhead_4 : decode cX3_openAhead 4 = .ok (.istore 5, 2) := by decide +kernel
theorem dX3_openAhead_6 : decode cX3_openAhead 6 = .ok (.iload 5, 2) := by decide +kernel
theorem dX3_openAhead_8 : decode cX3_openAhead 8 = .ok (.aload_n 0, 1) := by decide +kernel
theorem dX3_openAhead_9 : decode cX3_openAhead 9 = .ok (.getfield 9, 3) := by decide +kernel
theorem dX3_openAhead_12 : decode cX3_openAhead 12 = .ok (.if_icmp .ge 58, 3) := by decide +kernel
theorem dX3_openAhead_15 : decode cX3_openAhead 15 = .ok (.aload_n 0, 1) := by decide +kernel
theorem dX3_openAhead_16 : decode cX3_openAhead 16 = .ok (.iload 5, 2) := by decide +kernel
theorem dX3_openAhead_18 : decode cX3_openAhead 18 = .ok (.iload_n 1, 1) := by decide +kernel
theorem dX3_openAhead_19 : decode cX3_openAhead 19 = .ok (.iload_n 2, 1) := by decide +kernel
theorem dX3_openAhead_20 : decode cX3_openAhead 20 = .ok (.invokevirtual 39, 3) := by decide +kernel
theorem dX3_openAhead_23 : decode cX3_openAhead 23 = .ok (.ifCond .eq 41, 3) := by decide +kernel
theorem dX3_openAhead_26 : decode cX3_openAhead 26 = .ok (.aload_n 0, 1) := by decide +kernel
theorem dX3_openAhead_27 : decode cX3_openAhead 27 = .ok (.getfield 22, 3) := by decide +kernel
theorem dX3_openAhead_30 : decode cX3_openAhead 30 = .ok (.iload 5, 2) := by decide +kernel
theorem dX3_openAhead_32 : decode cX3_openAhead 32 = .ok (.iaload, 1) := by decide +kernel
theorem dX3_openAhead_33 : decode cX3_openAhead 33 = .ok (.iload_n 3, 1) := by decide +kernel
theorem dX3_openAhead_34 : decode cX3_openAhead 34 = .ok (.if_icmp .ge 30, 3) := by decide +kernel
theorem dX3_openAhead_37 : decode cX3_openAhead 37 = .ok (.iload 4, 2) := by decide +kernel
theorem dX3_openAhead_39 : decode cX3_openAhead 39 = .ok (.iconst (-1), 1) := by decide +kernel
theorem dX3_openAhead_40 : decode cX3_openAhead 40 = .ok (.if_icmp .eq 20, 3) := by decide +kernel
theorem dX3_openAhead_43 : decode cX3_openAhead 43 = .ok (.aload_n 0, 1) := by decide +kernel
theorem dX3_openAhead_44 : decode cX3_openAhead 44 = .ok (.getfield 22, 3) := by decide +kernel
theorem dX3_openAhead_47 : decode cX3_openAhead 47 = .ok (.iload 5, 2) := by decide +kernel
theorem dX3_openAhead_49 : decode cX3_openAhead 49 = .ok (.iaload, 1) := by decide +kernel
theorem dX3_openAhead_50 : decode cX3_openAhead 50 = .ok (.aload_n 0, 1) := by decide +kernel
theorem dX3_openAhead_51 : decode cX3_openAhead 51 = .ok (.getfield 22, 3) := by decide +kernel
theorem dX3_openAhead_54 : decode cX3_openAhead 54 = .ok (.iload 4, 2) := by decide +kernel
theorem dX3_openAhead_56 : decode cX3_openAhead 56 = .ok (.iaload, 1) := by decide +kernel
theorem dX3_openAhead_57 : decode cX3_openAhead 57 = .ok (.if_icmp .le 7, 3) := by decide +kernel
theorem dX3_openAhead_60 : decode cX3_openAhead 60 = .ok (.iload 5, 2) := by decide +kernel
theorem dX3_openAhead_62 : decode cX3_openAhead 62 = .ok (.istore 4, 2) := by decide +kernel
theorem dX3_openAhead_64 : decode cX3_openAhead 64 = .ok (.iinc 5 1, 3) := by decide +kernel
theorem dX3_openAhead_67 : decode cX3_openAhead 67 = .ok (.goto (-61), 3) := by decide +kernel
theorem dX3_openAhead_70 : decode cX3_openAhead 70 = .ok (.iload 4, 2) := by decide +kernel
theorem dX3_openAhead_72 : decode cX3_openAhead 72 = .ok (.ireturn, 1) := by decide +kernel
theorem dX3_postUpTo_0 : decode cX3_postUpTo 0 = .ok (.lconst 0, 1) := by decide +kernel
theorem dX3_postUpTo_1 : decode cX3_postUpTo 1 = .ok (.lstore 4, 2) := by decide +kernel
theorem dX3_postUpTo_3 : decode cX3_postUpTo 3 = .ok (.iconst 0, 1) := by decide +kernel
theorem dX3_postUpTo_4 : decode cX3_postUpTo 4 = .ok (.istore 6, 2) := by decide +kernel
theorem dX3_postUpTo_6 : decode cX3_postUpTo 6 = .ok (.iload 6, 2) := by decide +kernel
theorem dX3_postUpTo_8 : decode cX3_postUpTo 8 = .ok (.aload_n 0, 1) := by decide +kernel
theorem dX3_postUpTo_9 : decode cX3_postUpTo 9 = .ok (.getfield 9, 3) := by decide +kernel
theorem dX3_postUpTo_12 : decode cX3_postUpTo 12 = .ok (.if_icmp .ge 48, 3) := by decide +kernel
theorem dX3_postUpTo_15 : decode cX3_postUpTo 15 = .ok (.aload_n 0, 1) := by decide +kernel
theorem dX3_postUpTo_16 : decode cX3_postUpTo 16 = .ok (.iload 6, 2) := by decide +kernel
theorem dX3_postUpTo_18 : decode cX3_postUpTo 18 = .ok (.iload_n 1, 1) := by decide +kernel
theorem dX3_postUpTo_19 : decode cX3_postUpTo 19 = .ok (.iload_n 2, 1) := by decide +kernel
theorem dX3_postUpTo_20 : decode cX3_postUpTo 20 = .ok (.invokevirtual 39, 3) := by decide +kernel
theorem dX3_postUpTo_23 : decode cX3_postUpTo 23 = .ok (.ifCond .eq 31, 3) := by decide +kernel
theorem dX3_postUpTo_26 : decode cX3_postUpTo 26 = .ok (.aload_n 0, 1) := by decide +kernel
theorem dX3_postUpTo_27 : decode cX3_postUpTo 27 = .ok (.getfield 22, 3) := by decide +kernel
theorem dX3_postUpTo_30 : decode cX3_postUpTo 30 = .ok (.iload 6, 2) := by decide +kernel
theorem dX3_postUpTo_32 : decode cX3_postUpTo 32 = .ok (.iaload, 1) := by decide +kernel
theorem dX3_postUpTo_33 : decode cX3_postUpTo 33 = .ok (.iload_n 3, 1) := by decide +kernel
theorem dX3_postUpTo_34 : decode cX3_postUpTo 34 = .ok (.if_icmp .gt 20, 3) := by decide +kernel
theorem dX3_postUpTo_37 : decode cX3_postUpTo 37 = .ok (.aload_n 0, 1) := by decide +kernel
theorem dX3_postUpTo_38 : decode cX3_postUpTo 38 = .ok (.getfield 31, 3) := by decide +kernel
theorem dX3_postUpTo_41 : decode cX3_postUpTo 41 = .ok (.iload 6, 2) := by decide +kernel
theorem dX3_postUpTo_43 : decode cX3_postUpTo 43 = .ok (.iconst 1, 1) := by decide +kernel
theorem dX3_postUpTo_44 : decode cX3_postUpTo 44 = .ok (.bastore, 1) := by decide +kernel
theorem dX3_postUpTo_45 : decode cX3_postUpTo 45 = .ok (.lload 4, 2) := by decide +kernel
theorem dX3_postUpTo_47 : decode cX3_postUpTo 47 = .ok (.lconst 1, 1) := by decide +kernel
theorem dX3_postUpTo_48 : decode cX3_postUpTo 48 = .ok (.iload 6, 2) := by decide +kernel
theorem dX3_postUpTo_50 : decode cX3_postUpTo 50 = .ok (.lshl, 1) := by decide +kernel
theorem dX3_postUpTo_51 : decode cX3_postUpTo 51 = .ok (.lor, 1) := by decide +kernel
theorem dX3_postUpTo_52 : decode cX3_postUpTo 52 = .ok (.lstore 4, 2) := by decide +kernel
theorem dX3_postUpTo_54 : decode cX3_postUpTo 54 = .ok (.iinc 6 1, 3) := by decide +kernel
theorem dX3_postUpTo_57 : decode cX3_postUpTo 57 = .ok (.goto (-51), 3) := by decide +kernel
theorem dX3_postUpTo_60 : decode cX3_postUpTo 60 = .ok (.lload 4, 2) := by decide +kernel
theorem dX3_postUpTo_62 : decode cX3_postUpTo 62 = .ok (.lreturn, 1) := by decide +kernel
theorem dX3_reopen_0 : decode cX3_reopen 0 = .ok (.iconst 0, 1) := by decide +kernel
theorem dX3_reopen_1 : decode cX3_reopen 1 = .ok (.istore_n 3, 1) := by decide +kernel
theorem dX3_reopen_2 : decode cX3_reopen 2 = .ok (.iload_n 3, 1) := by decide +kernel
theorem dX3_reopen_3 : decode cX3_reopen 3 = .ok (.aload_n 0, 1) := by decide +kernel
theorem dX3_reopen_4 : decode cX3_reopen 4 = .ok (.getfield 9, 3) := by decide +kernel
theorem dX3_reopen_7 : decode cX3_reopen 7 = .ok (.if_icmp .ge 26, 3) := by decide +kernel
theorem dX3_reopen_10 : decode cX3_reopen 10 = .ok (.lload_n 1, 1) := by decide +kernel
theorem dX3_reopen_11 : decode cX3_reopen 11 = .ok (.iload_n 3, 1) := by decide +kernel
theorem dX3_reopen_12 : decode cX3_reopen 12 = .ok (.lshr, 1) := by decide +kernel
theorem dX3_reopen_13 : decode cX3_reopen 13 = .ok (.lconst 1, 1) := by decide +kernel
theorem dX3_reopen_14 : decode cX3_reopen 14 = .ok (.land, 1) := by decide +kernel
theorem dX3_reopen_15 : decode cX3_reopen 15 = .ok (.lconst 1, 1) := by decide +kernel
theorem dX3_reopen_16 : decode cX3_reopen 16 = .ok (.lcmp, 1) := by decide +kernel
theorem dX3_reopen_17 : decode cX3_reopen 17 = .ok (.ifCond .ne 10, 3) := by decide +kernel
theorem dX3_reopen_20 : decode cX3_reopen 20 = .ok (.aload_n 0, 1) := by decide +kernel
theorem dX3_reopen_21 : decode cX3_reopen 21 = .ok (.getfield 31, 3) := by decide +kernel
theorem dX3_reopen_24 : decode cX3_reopen 24 = .ok (.iload_n 3, 1) := by decide +kernel
theorem dX3_reopen_25 : decode cX3_reopen 25 = .ok (.iconst 0, 1) := by decide +kernel
theorem dX3_reopen_26 : decode cX3_reopen 26 = .ok (.bastore, 1) := by decide +kernel
theorem dX3_reopen_27 : decode cX3_reopen 27 = .ok (.iinc 3 1, 3) := by decide +kernel
theorem dX3_reopen_30 : decode cX3_reopen 30 = .ok (.goto (-28), 3) := by decide +kernel
theorem dX3_reopen_33 : decode cX3_reopen 33 = .ok (.return_, 1) := by decide +kernel
theorem dX3_insert_0 : decode cX3_insert 0 = .ok (.aload_n 0, 1) := by decide +kernel
theorem dX3_insert_1 : decode cX3_insert 1 = .ok (.getfield 9, 3) := by decide +kernel
theorem dX3_insert_4 : decode cX3_insert 4 = .ok (.bipush 40, 2) := by decide +kernel
theorem dX3_insert_6 : decode cX3_insert 6 = .ok (.if_icmp .ge 15, 3) := by decide +kernel
theorem dX3_insert_9 : decode cX3_insert 9 = .ok (.iload_n 1, 1) := by decide +kernel
theorem dX3_insert_10 : decode cX3_insert 10 = .ok (.ifCond .lt 11, 3) := by decide +kernel
theorem dX3_insert_13 : decode cX3_insert 13 = .ok (.iload_n 1, 1) := by decide +kernel
theorem dX3_insert_14 : decode cX3_insert 14 = .ok (.aload_n 0, 1) := by decide +kernel
theorem dX3_insert_15 : decode cX3_insert 15 = .ok (.getfield 9, 3) := by decide +kernel
theorem dX3_insert_18 : decode cX3_insert 18 = .ok (.if_icmp .le 4, 3) := by decide +kernel
theorem dX3_insert_21 : decode cX3_insert 21 = .ok (.return_, 1) := by decide +kernel
theorem dX3_insert_22 : decode cX3_insert 22 = .ok (.aload_n 0, 1) := by decide +kernel
theorem dX3_insert_23 : decode cX3_insert 23 = .ok (.getfield 9, 3) := by decide +kernel
theorem dX3_insert_26 : decode cX3_insert 26 = .ok (.istore 7, 2) := by decide +kernel
theorem dX3_insert_28 : decode cX3_insert 28 = .ok (.iload 7, 2) := by decide +kernel
theorem dX3_insert_30 : decode cX3_insert 30 = .ok (.iload_n 1, 1) := by decide +kernel
theorem dX3_insert_31 : decode cX3_insert 31 = .ok (.if_icmp .le 19, 3) := by decide +kernel
theorem dX3_insert_34 : decode cX3_insert 34 = .ok (.aload_n 0, 1) := by decide +kernel
theorem dX3_insert_35 : decode cX3_insert 35 = .ok (.iload 7, 2) := by decide +kernel
theorem dX3_insert_37 : decode cX3_insert 37 = .ok (.iconst 1, 1) := by decide +kernel
theorem dX3_insert_38 : decode cX3_insert 38 = .ok (.isub, 1) := by decide +kernel
theorem dX3_insert_39 : decode cX3_insert 39 = .ok (.iload 7, 2) := by decide +kernel
theorem dX3_insert_41 : decode cX3_insert 41 = .ok (.invokevirtual 42, 3) := by decide +kernel
theorem dX3_insert_44 : decode cX3_insert 44 = .ok (.iinc 7 (-1), 3) := by decide +kernel
theorem dX3_insert_47 : decode cX3_insert 47 = .ok (.goto (-19), 3) := by decide +kernel
theorem dX3_insert_50 : decode cX3_insert 50 = .ok (.aload_n 0, 1) := by decide +kernel
theorem dX3_insert_51 : decode cX3_insert 51 = .ok (.getfield 15, 3) := by decide +kernel
theorem dX3_insert_54 : decode cX3_insert 54 = .ok (.iload_n 1, 1) := by decide +kernel
theorem dX3_insert_55 : decode cX3_insert 55 = .ok (.iload_n 2, 1) := by decide +kernel
theorem dX3_insert_56 : decode cX3_insert 56 = .ok (.iastore, 1) := by decide +kernel
theorem dX3_insert_57 : decode cX3_insert 57 = .ok (.aload_n 0, 1) := by decide +kernel
theorem dX3_insert_58 : decode cX3_insert 58 = .ok (.getfield 19, 3) := by decide +kernel
theorem dX3_insert_61 : decode cX3_insert 61 = .ok (.iload_n 1, 1) := by decide +kernel
theorem dX3_insert_62 : decode cX3_insert 62 = .ok (.iload_n 3, 1) := by decide +kernel
theorem dX3_insert_63 : decode cX3_insert 63 = .ok (.iastore, 1) := by decide +kernel
theorem dX3_insert_64 : decode cX3_insert 64 = .ok (.aload_n 0, 1) := by decide +kernel
theorem dX3_insert_65 : decode cX3_insert 65 = .ok (.getfield 22, 3) := by decide +kernel
theorem dX3_insert_68 : decode cX3_insert 68 = .ok (.iload_n 1, 1) := by decide +kernel
theorem dX3_insert_69 : decode cX3_insert 69 = .ok (.iload 4, 2) := by decide +kernel
theorem dX3_insert_71 : decode cX3_insert 71 = .ok (.iastore, 1) := by decide +kernel
theorem dX3_insert_72 : decode cX3_insert 72 = .ok (.aload_n 0, 1) := by decide +kernel
theorem dX3_insert_73 : decode cX3_insert 73 = .ok (.getfield 25, 3) := by decide +kernel
theorem dX3_insert_76 : decode cX3_insert 76 = .ok (.iload_n 1, 1) := by decide +kernel
theorem dX3_insert_77 : decode cX3_insert 77 = .ok (.iload 5, 2) := by decide +kernel
theorem dX3_insert_79 : decode cX3_insert 79 = .ok (.iastore, 1) := by decide +kernel
theorem dX3_insert_80 : decode cX3_insert 80 = .ok (.aload_n 0, 1) := by decide +kernel
theorem dX3_insert_81 : decode cX3_insert 81 = .ok (.getfield 28, 3) := by decide +kernel
theorem dX3_insert_84 : decode cX3_insert 84 = .ok (.iload_n 1, 1) := by decide +kernel
theorem dX3_insert_85 : decode cX3_insert 85 = .ok (.iload 6, 2) := by decide +kernel
theorem dX3_insert_87 : decode cX3_insert 87 = .ok (.iastore, 1) := by decide +kernel
theorem dX3_insert_88 : decode cX3_insert 88 = .ok (.aload_n 0, 1) := by decide +kernel
theorem dX3_insert_89 : decode cX3_insert 89 = .ok (.getfield 31, 3) := by decide +kernel
theorem dX3_insert_92 : decode cX3_insert 92 = .ok (.iload_n 1, 1) := by decide +kernel
theorem dX3_insert_93 : decode cX3_insert 93 = .ok (.iconst 0, 1) := by decide +kernel
theorem dX3_insert_94 : decode cX3_insert 94 = .ok (.bastore, 1) := by decide +kernel
theorem dX3_insert_95 : decode cX3_insert 95 = .ok (.aload_n 0, 1) := by decide +kernel
theorem dX3_insert_96 : decode cX3_insert 96 = .ok (.dup, 1) := by decide +kernel
theorem dX3_insert_97 : decode cX3_insert 97 = .ok (.getfield 9, 3) := by decide +kernel
theorem dX3_insert_100 : decode cX3_insert 100 = .ok (.iconst 1, 1) := by decide +kernel
theorem dX3_insert_101 : decode cX3_insert 101 = .ok (.iadd, 1) := by decide +kernel
theorem dX3_insert_102 : decode cX3_insert 102 = .ok (.putfield 9, 3) := by decide +kernel
theorem dX3_insert_105 : decode cX3_insert 105 = .ok (.return_, 1) := by decide +kernel
theorem dX3_remove_0 : decode cX3_remove 0 = .ok (.aload_n 0, 1) := by decide +kernel
theorem dX3_remove_1 : decode cX3_remove 1 = .ok (.iload_n 1, 1) := by decide +kernel
theorem dX3_remove_2 : decode cX3_remove 2 = .ok (.invokevirtual 46, 3) := by decide +kernel
theorem dX3_remove_5 : decode cX3_remove 5 = .ok (.ifCond .ne 4, 3) := by decide +kernel
theorem dX3_remove_8 : decode cX3_remove 8 = .ok (.return_, 1) := by decide +kernel
theorem dX3_remove_9 : decode cX3_remove 9 = .ok (.iload_n 1, 1) := by decide +kernel
theorem dX3_remove_10 : decode cX3_remove 10 = .ok (.istore_n 2, 1) := by decide +kernel
theorem dX3_remove_11 : decode cX3_remove 11 = .ok (.iload_n 2, 1) := by decide +kernel
theorem dX3_remove_12 : decode cX3_remove 12 = .ok (.aload_n 0, 1) := by decide +kernel
theorem dX3_remove_13 : decode cX3_remove 13 = .ok (.getfield 9, 3) := by decide +kernel
theorem dX3_remove_16 : decode cX3_remove 16 = .ok (.iconst 1, 1) := by decide +kernel
theorem dX3_remove_17 : decode cX3_remove 17 = .ok (.isub, 1) := by decide +kernel
theorem dX3_remove_18 : decode cX3_remove 18 = .ok (.if_icmp .ge 17, 3) := by decide +kernel
theorem dX3_remove_21 : decode cX3_remove 21 = .ok (.aload_n 0, 1) := by decide +kernel
theorem dX3_remove_22 : decode cX3_remove 22 = .ok (.iload_n 2, 1) := by decide +kernel
theorem dX3_remove_23 : decode cX3_remove 23 = .ok (.iconst 1, 1) := by decide +kernel
theorem dX3_remove_24 : decode cX3_remove 24 = .ok (.iadd, 1) := by decide +kernel
theorem dX3_remove_25 : decode cX3_remove 25 = .ok (.iload_n 2, 1) := by decide +kernel
theorem dX3_remove_26 : decode cX3_remove 26 = .ok (.invokevirtual 42, 3) := by decide +kernel
theorem dX3_remove_29 : decode cX3_remove 29 = .ok (.iinc 2 1, 3) := by decide +kernel
theorem dX3_remove_32 : decode cX3_remove 32 = .ok (.goto (-21), 3) := by decide +kernel
theorem dX3_remove_35 : decode cX3_remove 35 = .ok (.aload_n 0, 1) := by decide +kernel
theorem dX3_remove_36 : decode cX3_remove 36 = .ok (.dup, 1) := by decide +kernel
theorem dX3_remove_37 : decode cX3_remove 37 = .ok (.getfield 9, 3) := by decide +kernel
theorem dX3_remove_40 : decode cX3_remove 40 = .ok (.iconst 1, 1) := by decide +kernel
theorem dX3_remove_41 : decode cX3_remove 41 = .ok (.isub, 1) := by decide +kernel
theorem dX3_remove_42 : decode cX3_remove 42 = .ok (.putfield 9, 3) := by decide +kernel
theorem dX3_remove_45 : decode cX3_remove 45 = .ok (.return_, 1) := by decide +kernel
theorem dX3_copy_0 : decode cX3_copy 0 = .ok (.aload_n 0, 1) := by decide +kernel
theorem dX3_copy_1 : decode cX3_copy 1 = .ok (.getfield 15, 3) := by decide +kernel
theorem dX3_copy_4 : decode cX3_copy 4 = .ok (.iload_n 2, 1) := by decide +kernel
theorem dX3_copy_5 : decode cX3_copy 5 = .ok (.aload_n 0, 1) := by decide +kernel
theorem dX3_copy_6 : decode cX3_copy 6 = .ok (.getfield 15, 3) := by decide +kernel
theorem dX3_copy_9 : decode cX3_copy 9 = .ok (.iload_n 1, 1) := by decide +kernel
theorem dX3_copy_10 : decode cX3_copy 10 = .ok (.iaload, 1) := by decide +kernel
theorem dX3_copy_11 : decode cX3_copy 11 = .ok (.iastore, 1) := by decide +kernel
theorem dX3_copy_12 : decode cX3_copy 12 = .ok (.aload_n 0, 1) := by decide +kernel
theorem dX3_copy_13 : decode cX3_copy 13 = .ok (.getfield 19, 3) := by decide +kernel
theorem dX3_copy_16 : decode cX3_copy 16 = .ok (.iload_n 2, 1) := by decide +kernel
theorem dX3_copy_17 : decode cX3_copy 17 = .ok (.aload_n 0, 1) := by decide +kernel
theorem dX3_copy_18 : decode cX3_copy 18 = .ok (.getfield 19, 3) := by decide +kernel
theorem dX3_copy_21 : decode cX3_copy 21 = .ok (.iload_n 1, 1) := by decide +kernel
theorem dX3_copy_22 : decode cX3_copy 22 = .ok (.iaload, 1) := by decide +kernel
theorem dX3_copy_23 : decode cX3_copy 23 = .ok (.iastore, 1) := by decide +kernel
theorem dX3_copy_24 : decode cX3_copy 24 = .ok (.aload_n 0, 1) := by decide +kernel
theorem dX3_copy_25 : decode cX3_copy 25 = .ok (.getfield 22, 3) := by decide +kernel
theorem dX3_copy_28 : decode cX3_copy 28 = .ok (.iload_n 2, 1) := by decide +kernel
theorem dX3_copy_29 : decode cX3_copy 29 = .ok (.aload_n 0, 1) := by decide +kernel
theorem dX3_copy_30 : decode cX3_copy 30 = .ok (.getfield 22, 3) := by decide +kernel
theorem dX3_copy_33 : decode cX3_copy 33 = .ok (.iload_n 1, 1) := by decide +kernel
theorem dX3_copy_34 : decode cX3_copy 34 = .ok (.iaload, 1) := by decide +kernel
theorem dX3_copy_35 : decode cX3_copy 35 = .ok (.iastore, 1) := by decide +kernel
theorem dX3_copy_36 : decode cX3_copy 36 = .ok (.aload_n 0, 1) := by decide +kernel
theorem dX3_copy_37 : decode cX3_copy 37 = .ok (.getfield 25, 3) := by decide +kernel
theorem dX3_copy_40 : decode cX3_copy 40 = .ok (.iload_n 2, 1) := by decide +kernel
theorem dX3_copy_41 : decode cX3_copy 41 = .ok (.aload_n 0, 1) := by decide +kernel
theorem dX3_copy_42 : decode cX3_copy 42 = .ok (.getfield 25, 3) := by decide +kernel
theorem dX3_copy_45 : decode cX3_copy 45 = .ok (.iload_n 1, 1) := by decide +kernel
theorem dX3_copy_46 : decode cX3_copy 46 = .ok (.iaload, 1) := by decide +kernel
theorem dX3_copy_47 : decode cX3_copy 47 = .ok (.iastore, 1) := by decide +kernel
theorem dX3_copy_48 : decode cX3_copy 48 = .ok (.aload_n 0, 1) := by decide +kernel
theorem dX3_copy_49 : decode cX3_copy 49 = .ok (.getfield 28, 3) := by decide +kernel
theorem dX3_copy_52 : decode cX3_copy 52 = .ok (.iload_n 2, 1) := by decide +kernel
theorem dX3_copy_53 : decode cX3_copy 53 = .ok (.aload_n 0, 1) := by decide +kernel
theorem dX3_copy_54 : decode cX3_copy 54 = .ok (.getfield 28, 3) := by decide +kernel
theorem dX3_copy_57 : decode cX3_copy 57 = .ok (.iload_n 1, 1) := by decide +kernel
theorem dX3_copy_58 : decode cX3_copy 58 = .ok (.iaload, 1) := by decide +kernel
theorem dX3_copy_59 : decode cX3_copy 59 = .ok (.iastore, 1) := by decide +kernel
theorem dX3_copy_60 : decode cX3_copy 60 = .ok (.aload_n 0, 1) := by decide +kernel
theorem dX3_copy_61 : decode cX3_copy 61 = .ok (.getfield 31, 3) := by decide +kernel
theorem dX3_copy_64 : decode cX3_copy 64 = .ok (.iload_n 2, 1) := by decide +kernel
theorem dX3_copy_65 : decode cX3_copy 65 = .ok (.aload_n 0, 1) := by decide +kernel
theorem dX3_copy_66 : decode cX3_copy 66 = .ok (.getfield 31, 3) := by decide +kernel
theorem dX3_copy_69 : decode cX3_copy 69 = .ok (.iload_n 1, 1) := by decide +kernel
theorem dX3_copy_70 : decode cX3_copy 70 = .ok (.baload, 1) := by decide +kernel
theorem dX3_copy_71 : decode cX3_copy 71 = .ok (.bastore, 1) := by decide +kernel
theorem dX3_copy_72 : decode cX3_copy 72 = .ok (.return_, 1) := by decide +kernel
end
section
theorem dX4_init_0 : decode cX4_init 0 = .ok (.aload_n 0, 1) := by decide +kernel
theorem dX4_init_1 : decode cX4_init 1 = .ok (.invokespecial 3, 3) := by decide +kernel
theorem dX4_init_4 : decode cX4_init 4 = .ok (.aload_n 0, 1) := by decide +kernel
theorem dX4_init_5 : decode cX4_init 5 = .ok (.iconst 1, 1) := by decide +kernel
theorem dX4_init_6 : decode cX4_init 6 = .ok (.putfield 9, 3) := by decide +kernel
theorem dX4_init_9 : decode cX4_init 9 = .ok (.aload_n 0, 1) := by decide +kernel
theorem dX4_init_10 : decode cX4_init 10 = .ok (.iconst 0, 1) := by decide +kernel
theorem dX4_init_11 : decode cX4_init 11 = .ok (.putfield 15, 3) := by decide +kernel
theorem dX4_init_14 : decode cX4_init 14 = .ok (.aload_n 0, 1) := by decide +kernel
theorem dX4_init_15 : decode cX4_init 15 = .ok (.iconst 0, 1) := by decide +kernel
theorem dX4_init_16 : decode cX4_init 16 = .ok (.putfield 18, 3) := by decide +kernel
theorem dX4_init_19 : decode cX4_init 19 = .ok (.aload_n 0, 1) := by decide +kernel
theorem dX4_init_20 : decode cX4_init 20 = .ok (.iconst 5, 1) := by decide +kernel
theorem dX4_init_21 : decode cX4_init 21 = .ok (.newarray .int, 2) := by decide +kernel
theorem dX4_init_23 : decode cX4_init 23 = .ok (.putfield 21, 3) := by decide +kernel
theorem dX4_init_26 : decode cX4_init 26 = .ok (.aload_n 0, 1) := by decide +kernel
theorem dX4_init_27 : decode cX4_init 27 = .ok (.iconst 5, 1) := by decide +kernel
theorem dX4_init_28 : decode cX4_init 28 = .ok (.newarray .int, 2) := by decide +kernel
theorem dX4_init_30 : decode cX4_init 30 = .ok (.putfield 25, 3) := by decide +kernel
theorem dX4_init_33 : decode cX4_init 33 = .ok (.aload_n 0, 1) := by decide +kernel
theorem dX4_init_34 : decode cX4_init 34 = .ok (.bipush 30, 2) := by decide +kernel
theorem dX4_init_36 : decode cX4_init 36 = .ok (.newarray .int, 2) := by decide +kernel
theorem dX4_init_38 : decode cX4_init 38 = .ok (.putfield 28, 3) := by decide +kernel
theorem dX4_init_41 : decode cX4_init 41 = .ok (.aload_n 0, 1) := by decide +kernel
theorem dX4_init_42 : decode cX4_init 42 = .ok (.bipush 40, 2) := by decide +kernel
theorem dX4_init_44 : decode cX4_init 44 = .ok (.newarray .int, 2) := by decide +kernel
theorem dX4_init_46 : decode cX4_init 46 = .ok (.putfield 31, 3) := by decide +kernel
theorem dX4_init_49 : decode cX4_init 49 = .ok (.aload_n 0, 1) := by decide +kernel
theorem dX4_init_50 : decode cX4_init 50 = .ok (.bipush 40, 2) := by decide +kernel
theorem dX4_init_52 : decode cX4_init 52 = .ok (.newarray .int, 2) := by decide +kernel
theorem dX4_init_54 : decode cX4_init 54 = .ok (.putfield 34, 3) := by decide +kernel
theorem dX4_init_57 : decode cX4_init 57 = .ok (.aload_n 0, 1) := by decide +kernel
theorem dX4_init_58 : decode cX4_init 58 = .ok (.bipush 80, 2) := by decide +kernel
theorem dX4_init_60 : decode cX4_init 60 = .ok (.newarray .int, 2) := by decide +kernel
theorem dX4_init_62 : decode cX4_init 62 = .ok (.putfield 37, 3) := by decide +kernel
theorem dX4_init_65 : decode cX4_init 65 = .ok (.aload_n 0, 1) := by decide +kernel
theorem dX4_init_66 : decode cX4_init 66 = .ok (.bipush 80, 2) := by decide +kernel
theorem dX4_init_68 : decode cX4_init 68 = .ok (.newarray .int, 2) := by decide +kernel
theorem dX4_init_70 : decode cX4_init 70 = .ok (.putfield 40, 3) := by decide +kernel
theorem dX4_init_73 : decode cX4_init 73 = .ok (.aload_n 0, 1) := by decide +kernel
theorem dX4_init_74 : decode cX4_init 74 = .ok (.bipush 80, 2) := by decide +kernel
theorem dX4_init_76 : decode cX4_init 76 = .ok (.newarray .int, 2) := by decide +kernel
theorem dX4_init_78 : decode cX4_init 78 = .ok (.putfield 43, 3) := by decide +kernel
theorem dX4_init_81 : decode cX4_init 81 = .ok (.return_, 1) := by decide +kernel
theorem dX4_clear_0 : decode cX4_clear 0 = .ok (.aload_n 0, 1) := by decide +kernel
theorem dX4_clear_1 : decode cX4_clear 1 = .ok (.iconst 1, 1) := by decide +kernel
theorem dX4_clear_2 : decode cX4_clear 2 = .ok (.putfield 9, 3) := by decide +kernel
theorem dX4_clear_5 : decode cX4_clear 5 = .ok (.aload_n 0, 1) := by decide +kernel
theorem dX4_clear_6 : decode cX4_clear 6 = .ok (.iconst 0, 1) := by decide +kernel
theorem dX4_clear_7 : decode cX4_clear 7 = .ok (.putfield 15, 3) := by decide +kernel
theorem dX4_clear_10 : decode cX4_clear 10 = .ok (.aload_n 0, 1) := by decide +kernel
theorem dX4_clear_11 : decode cX4_clear 11 = .ok (.iconst 0, 1) := by decide +kernel
theorem dX4_clear_12 : decode cX4_clear 12 = .ok (.putfield 18, 3) := by decide +kernel
theorem dX4_clear_15 : decode cX4_clear 15 = .ok (.iconst 0, 1) := by decide +kernel
theorem dX4_clear_16 : decode cX4_clear 16 = .ok (.istore_n 1, 1) := by decide +kernel
theorem dX4_clear_17 : decode cX4_clear 17 = .ok (.iload_n 1, 1) := by decide +kernel
theorem dX4_clear_18 : decode cX4_clear 18 = .ok (.aload_n 0, 1) := by decide +kernel
theorem dX4_clear_19 : decode cX4_clear 19 = .ok (.getfield 28, 3) := by decide +kernel
theorem dX4_clear_22 : decode cX4_clear 22 = .ok (.arraylength, 1) := by decide +kernel
theorem dX4_clear_23 : decode cX4_clear 23 = .ok (.if_icmp .ge 16, 3) := by decide +kernel
theorem dX4_clear_26 : decode cX4_clear 26 = .ok (.aload_n 0, 1) := by decide +kernel
theorem dX4_clear_27 : decode cX4_clear 27 = .ok (.getfield 28, 3) := by decide +kernel
theorem dX4_clear_30 : decode cX4_clear 30 = .ok (.iload_n 1, 1) := by decide +kernel
theorem dX4_clear_31 : decode cX4_clear 31 = .ok (.iconst (-1), 1) := by decide +kernel
theorem dX4_clear_32 : decode cX4_clear 32 = .ok (.iastore, 1) := by decide +kernel
theorem dX4_clear_33 : decode cX4_clear 33 = .ok (.iinc 1 1, 3) := by decide +kernel
theorem dX4_clear_36 : decode cX4_clear 36 = .ok (.goto (-19), 3) := by decide +kernel
theorem dX4_clear_39 : decode cX4_clear 39 = .ok (.return_, 1) := by decide +kernel
theorem dX4_hasShelf_0 : decode cX4_hasShelf 0 = .ok (.iload_n 1, 1) := by decide +kernel
theorem dX4_hasShelf_1 : decode cX4_hasShelf 1 = .ok (.ifCond .lt 15, 3) := by decide +kernel
theorem dX4_hasShelf_4 : decode cX4_hasShelf 4 = .ok (.iload_n 1, 1) := by decide +kernel
theorem dX4_hasShelf_5 : decode cX4_hasShelf 5 = .ok (.aload_n 0, 1) := by decide +kernel
theorem dX4_hasShelf_6 : decode cX4_hasShelf 6 = .ok (.getfield 9, 3) := by decide +kernel
theorem dX4_hasShelf_9 : decode cX4_hasShelf 9 = .ok (.if_icmp .ge 7, 3) := by decide +kernel
theorem dX4_hasShelf_12 : decode cX4_hasShelf 12 = .ok (.iconst 1, 1) := by decide +kernel
theorem dX4_hasShelf_13 : decode cX4_hasShelf 13 = .ok (.goto 4, 3) := by decide +kernel
theorem dX4_hasShelf_16 : decode cX4_hasShelf 16 = .ok (.iconst 0, 1) := by decide +kernel
theorem dX4_hasShelf_17 : decode cX4_hasShelf 17 = .ok (.ireturn, 1) := by decide +kernel
theorem dX4_hasItem_0 : decode cX4_hasItem 0 = .ok (.iload_n 1, 1) := by decide +kernel
theorem dX4_hasItem_1 : decode cX4_hasItem 1 = .ok (.ifCond .lt 15, 3) := by decide +kernel
theorem dX4_hasItem_4 : decode cX4_hasItem 4 = .ok (.iload_n 1, 1) := by decide +kernel
theorem dX4_hasItem_5 : decode cX4_hasItem 5 = .ok (.aload_n 0, 1) := by decide +kernel
theorem dX4_hasItem_6 : decode cX4_hasItem 6 = .ok (.getfield 15, 3) := by decide +kernel
theorem dX4_hasItem_9 : decode cX4_hasItem 9 = .ok (.if_icmp .ge 7, 3) := by decide +kernel
theorem dX4_hasItem_12 : decode cX4_hasItem 12 = .ok (.iconst 1, 1) := by decide +kernel
theorem dX4_hasItem_13 : decode cX4_hasItem 13 = .ok (.goto 4, 3) := by decide +kernel
theorem dX4_hasItem_16 : decode cX4_hasItem 16 = .ok (.iconst 0, 1) := by decide +kernel
theorem dX4_hasItem_17 : decode cX4_hasItem 17 = .ok (.ireturn, 1) := by decide +kernel
theorem dX4_hasCouple_0 : decode cX4_hasCouple 0 = .ok (.aload_n 0, 1) := by decide +kernel
theorem dX4_hasCouple_1 : decode cX4_hasCouple 1 = .ok (.iload_n 1, 1) := by decide +kernel
theorem dX4_hasCouple_2 : decode cX4_hasCouple 2 = .ok (.invokevirtual 46, 3) := by decide +kernel
theorem dX4_hasCouple_5 : decode cX4_hasCouple 5 = .ok (.ifCond .eq 15, 3) := by decide +kernel
theorem dX4_hasCouple_8 : decode cX4_hasCouple 8 = .ok (.aload_n 0, 1) := by decide +kernel
theorem dX4_hasCouple_9 : decode cX4_hasCouple 9 = .ok (.iload_n 2, 1) := by decide +kernel
theorem dX4_hasCouple_10 : decode cX4_hasCouple 10 = .ok (.invokevirtual 50, 3) := by decide +kernel
theorem dX4_hasCouple_13 : decode cX4_hasCouple 13 = .ok (.ifCond .eq 7, 3) := by decide +kernel
theorem dX4_hasCouple_16 : decode cX4_hasCouple 16 = .ok (.iconst 1, 1) := by decide +kernel
theorem dX4_hasCouple_17 : decode cX4_hasCouple 17 = .ok (.goto 4, 3) := by decide +kernel
theorem dX4_hasCouple_20 : decode cX4_hasCouple 20 = .ok (.iconst 0, 1) := by decide +kernel
theorem dX4_hasCouple_21 : decode cX4_hasCouple 21 = .ok (.ireturn, 1) := by decide +kernel
theorem dX4_hasMove_0 : decode cX4_hasMove 0 = .ok (.iload_n 1, 1) := by decide +kernel
theorem dX4_hasMove_1 : decode cX4_hasMove 1 = .ok (.ifCond .lt 15, 3) := by decide +kernel
theorem dX4_hasMove_4 : decode cX4_hasMove 4 = .ok (.iload_n 1, 1) := by decide +kernel
theorem dX4_hasMove_5 : decode cX4_hasMove 5 = .ok (.aload_n 0, 1) := by decide +kernel
theorem dX4_hasMove_6 : decode cX4_hasMove 6 = .ok (.getfield 18, 3) := by decide +kernel
theorem dX4_hasMove_9 : decode cX4_hasMove 9 = .ok (.if_icmp .ge 7, 3) := by decide +kernel
theorem dX4_hasMove_12 : decode cX4_hasMove 12 = .ok (.iconst 1, 1) := by decide +kernel
theorem dX4_hasMove_13 : decode cX4_hasMove 13 = .ok (.goto 4, 3) := by decide +kernel
theorem dX4_hasMove_16 : decode cX4_hasMove 16 = .ok (.iconst 0, 1) := by decide +kernel
theorem dX4_hasMove_17 : decode cX4_hasMove 17 = .ok (.ireturn, 1) := by decide +kernel
theorem dX4_placeOf_0 : decode cX4_placeOf 0 = .ok (.iload_n 0, 1) := by decide +kernel
theorem dX4_placeOf_1 : decode cX4_placeOf 1 = .ok (.iconst 5, 1) := by decide +kernel
theorem dX4_placeOf_2 : decode cX4_placeOf 2 = .ok (.imul, 1) := by decide +kernel
theorem dX4_placeOf_3 : decode cX4_placeOf 3 = .ok (.iload_n 1, 1) := by decide +kernel
theorem dX4_placeOf_4 : decode cX4_placeOf 4 = .ok (.iadd, 1) := by decide +kernel
theorem dX4_placeOf_5 : decode cX4_placeOf 5 = .ok (.ireturn, 1) := by decide +kernel
theorem dX4_isStockTold_0 : decode cX4_isStockTold 0 = .ok (.aload_n 0, 1) := by decide +kernel
theorem dX4_isStockTold_1 : decode cX4_isStockTold 1 = .ok (.iload_n 1, 1) := by decide +kernel
theorem dX4_isStockTold_2 : decode cX4_isStockTold 2 = .ok (.iload_n 2, 1) := by decide +kernel
theorem dX4_isStockTold_3 : decode cX4_isStockTold 3 = .ok (.invokevirtual 53, 3) := by decide +kernel
theorem dX4_isStockTold_6 : decode cX4_isStockTold 6 = .ok (.ifCond .eq 21, 3) := by decide +kernel
theorem dX4_isStockTold_9 : decode cX4_isStockTold 9 = .ok (.aload_n 0, 1) := by decide +kernel
theorem dX4_isStockTold_10 : decode cX4_isStockTold 10 = .ok (.getfield 28, 3) := by decide +kernel
theorem dX4_isStockTold_13 : decode cX4_isStockTold 13 = .ok (.iload_n 1, 1) := by decide +kernel
theorem dX4_isStockTold_14 : decode cX4_isStockTold 14 = .ok (.iload_n 2, 1) := by decide +kernel
theorem dX4_isStockTold_15 : decode cX4_isStockTold 15 = .ok (.invokestatic 57, 3) := by decide +kernel
theorem dX4_isStockTold_18 : decode cX4_isStockTold 18 = .ok (.iaload, 1) := by decide +kernel
theorem dX4_isStockTold_19 : decode cX4_isStockTold 19 = .ok (.iconst (-1), 1) := by decide +kernel
theorem dX4_isStockTold_20 : decode cX4_isStockTold 20 = .ok (.if_icmp .eq 7, 3) := by decide +kernel
theorem dX4_isStockTold_23 : decode cX4_isStockTold 23 = .ok (.iconst 1, 1) := by decide +kernel
theorem dX4_isStockTold_24 : decode cX4_isStockTold 24 = .ok (.goto 4, 3) := by decide +kernel
theorem dX4_isStockTold_27 : decode cX4_isStockTold 27 = .ok (.iconst 0, 1) := by decide +kernel
theorem dX4_isStockTold_28 : decode cX4_isStockTold 28 = .ok (.ireturn, 1) := by decide +kernel
theorem dX4_tellStock_0 : decode cX4_tellStock 0 = .ok (.aload_n 0, 1) := by decide +kernel
theorem dX4_tellStock_1 : decode cX4_tellStock 1 = .ok (.iload_n 1, 1) := by decide +kernel
theorem dX4_tellStock_2 : decode cX4_tellStock 2 = .ok (.iload_n 2, 1) := by decide +kernel
theorem dX4_tellStock_3 : decode cX4_tellStock 3 = .ok (.invokevirtual 53, 3) := by decide +kernel
theorem dX4_tellStock_6 : decode cX4_tellStock 6 = .ok (.ifCond .eq 14, 3) := by decide +kernel
theorem dX4_tellStock_9 : decode cX4_tellStock 9 = .ok (.aload_n 0, 1) := by decide +kernel
theorem dX4_tellStock_10 : decode cX4_tellStock 10 = .ok (.getfield 28, 3) := by decide +kernel
theorem dX4_tellStock_13 : decode cX4_tellStock 13 = .ok (.iload_n 1, 1) := by decide +kernel
theorem dX4_tellStock_14 : decode cX4_tellStock 14 = .ok (.iload_n 2, 1) := by decide +kernel
theorem dX4_tellStock_15 : decode cX4_tellStock 15 = .ok (.invokestatic 57, 3) := by decide +kernel
theorem dX4_tellStock_18 : decode cX4_tellStock 18 = .ok (.iload_n 3, 1) := by decide +kernel
theorem dX4_tellStock_19 : decode cX4_tellStock 19 = .ok (.iastore, 1) := by decide +kernel
theorem dX4_tellStock_20 : decode cX4_tellStock 20 = .ok (.return_, 1) := by decide +kernel
theorem dX4_stockOf_0 : decode cX4_stockOf 0 = .ok (.aload_n 0, 1) := by decide +kernel
theorem dX4_stockOf_1 : decode cX4_stockOf 1 = .ok (.getfield 28, 3) := by decide +kernel
theorem dX4_stockOf_4 : decode cX4_stockOf 4 = .ok (.iload_n 1, 1) := by decide +kernel
theorem dX4_stockOf_5 : decode cX4_stockOf 5 = .ok (.iload_n 2, 1) := by decide +kernel
theorem dX4_stockOf_6 : decode cX4_stockOf 6 = .ok (.invokestatic 57, 3) := by decide +kernel
theorem dX4_stockOf_9 : decode cX4_stockOf 9 = .ok (.iaload, 1) := by decide +kernel
theorem dX4_stockOf_10 : decode cX4_stockOf 10 = .ok (.iconst 0, 1) := by decide +kernel
theorem dX4_stockOf_11 : decode cX4_stockOf 11 = .ok (.invokestatic 61, 3) := by decide +kernel
theorem dX4_stockOf_14 : decode cX4_stockOf 14 = .ok (.ireturn, 1) := by decide +kernel
theorem dX4_addItem_0 : decode cX4_addItem 0 = .ok (.aload_n 0, 1) := by decide +kernel
theorem dX4_addItem_1 : decode cX4_addItem 1 = .ok (.getfield 15, 3) := by decide +kernel
theorem dX4_addItem_4 : decode cX4_addItem 4 = .ok (.iconst 5, 1) := by decide +kernel
theorem dX4_addItem_5 : decode cX4_addItem 5 = .ok (.if_icmp .ge 33, 3) := by decide +kernel
theorem dX4_addItem_8 : decode cX4_addItem 8 = .ok (.aload_n 0, 1) := by decide +kernel
theorem dX4_addItem_9 : decode cX4_addItem 9 = .ok (.getfield 21, 3) := by decide +kernel
theorem dX4_addItem_12 : decode cX4_addItem 12 = .ok (.aload_n 0, 1) := by decide +kernel
theorem dX4_addItem_13 : decode cX4_addItem 13 = .ok (.getfield 15, 3) := by decide +kernel
theorem dX4_addItem_16 : decode cX4_addItem 16 = .ok (.iload_n 1, 1) := by decide +kernel
theorem dX4_addItem_17 : decode cX4_addItem 17 = .ok (.iastore, 1) := by decide +kernel
theorem dX4_addItem_18 : decode cX4_addItem 18 = .ok (.aload_n 0, 1) := by decide +kernel
theorem dX4_addItem_19 : decode cX4_addItem 19 = .ok (.getfield 25, 3) := by decide +kernel
theorem dX4_addItem_22 : decode cX4_addItem 22 = .ok (.aload_n 0, 1) := by decide +kernel
theorem dX4_addItem_23 : decode cX4_addItem 23 = .ok (.getfield 15, 3) := by decide +kernel
theorem dX4_addItem_26 : decode cX4_addItem 26 = .ok (.iload_n 2, 1) := by decide +kernel
theorem dX4_addItem_27 : decode cX4_addItem 27 = .ok (.iastore, 1) := by decide +kernel
theorem dX4_addItem_28 : decode cX4_addItem 28 = .ok (.aload_n 0, 1) := by decide +kernel
theorem dX4_addItem_29 : decode cX4_addItem 29 = .ok (.dup, 1) := by decide +kernel
theorem dX4_addItem_30 : decode cX4_addItem 30 = .ok (.getfield 15, 3) := by decide +kernel
theorem dX4_addItem_33 : decode cX4_addItem 33 = .ok (.iconst 1, 1) := by decide +kernel
theorem dX4_addItem_34 : decode cX4_addItem 34 = .ok (.iadd, 1) := by decide +kernel
theorem dX4_addItem_35 : decode cX4_addItem 35 = .ok (.putfield 15, 3) := by decide +kernel
theorem dX4_addItem_38 : decode cX4_addItem 38 = .ok (.return_, 1) := by decide +kernel
theorem dX4_addMove_0 : decode cX4_addMove 0 = .ok (.aload_n 0, 1) := by decide +kernel
theorem dX4_addMove_1 : decode cX4_addMove 1 = .ok (.getfield 18, 3) := by decide +kernel
theorem dX4_addMove_4 : decode cX4_addMove 4 = .ok (.bipush 40, 2) := by decide +kernel
theorem dX4_addMove_6 : decode cX4_addMove 6 = .ok (.if_icmp .lt 5, 3) := by decide +kernel
theorem dX4_addMove_9 : decode cX4_addMove 9 = .ok (.iconst (-1), 1) := by decide +kernel
theorem dX4_addMove_10 : decode cX4_addMove 10 = .ok (.ireturn, 1) := by decide +kernel
theorem dX4_addMove_11 : decode cX4_addMove 11 = .ok (.aload_n 0, 1) := by decide +kernel
theorem dX4_addMove_12 : decode cX4_addMove 12 = .ok (.getfield 18, 3) := by decide +kernel
theorem dX4_addMove_15 : decode cX4_addMove 15 = .ok (.istore_n 3, 1) := by decide +kernel
theorem dX4_addMove_16 : decode cX4_addMove 16 = .ok (.aload_n 0, 1) := by decide +kernel
theorem dX4_addMove_17 : decode cX4_addMove 17 = .ok (.getfield 31, 3) := by decide +kernel
theorem dX4_addMove_20 : decode cX4_addMove 20 = .ok (.iload_n 3, 1) := by decide +kernel
theorem dX4_addMove_21 : decode cX4_addMove 21 = .ok (.iload_n 1, 1) := by decide +kernel
theorem dX4_addMove_22 : decode cX4_addMove 22 = .ok (.iastore, 1) := by decide +kernel
theorem dX4_addMove_23 : decode cX4_addMove 23 = .ok (.aload_n 0, 1) := by decide +kernel
theorem dX4_addMove_24 : decode cX4_addMove 24 = .ok (.getfield 34, 3) := by decide +kernel
theorem dX4_addMove_27 : decode cX4_addMove 27 = .ok (.iload_n 3, 1) := by decide +kernel
theorem dX4_addMove_28 : decode cX4_addMove 28 = .ok (.iload_n 2, 1) := by decide +kernel
theorem dX4_addMove_29 : decode cX4_addMove 29 = .ok (.iastore, 1) := by decide +kernel
theorem dX4_addMove_30 : decode cX4_addMove 30 = .ok (.aload_n 0, 1) := by decide +kernel
theorem dX4_addMove_31 : decode cX4_addMove 31 = .ok (.iload_n 3, 1) := by decide +kernel
theorem dX4_addMove_32 : decode cX4_addMove 32 = .ok (.iconst 0, 1) := by decide +kernel
theorem dX4_addMove_33 : decode cX4_addMove 33 = .ok (.invokestatic 66, 3) := by decide +kernel
theorem dX4_addMove_36 : decode cX4_addMove 36 = .ok (.invokevirtual 69, 3) := by decide +kernel
theorem dX4_addMove_39 : decode cX4_addMove 39 = .ok (.aload_n 0, 1) := by decide +kernel
theorem dX4_addMove_40 : decode cX4_addMove 40 = .ok (.iload_n 3, 1) := by decide +kernel
theorem dX4_addMove_41 : decode cX4_addMove 41 = .ok (.iconst 1, 1) := by decide +kernel
theorem dX4_addMove_42 : decode cX4_addMove 42 = .ok (.invokestatic 66, 3) := by decide +kernel
theorem dX4_addMove_45 : decode cX4_addMove 45 = .ok (.invokevirtual 69, 3) := by decide +kernel
theorem dX4_addMove_48 : decode cX4_addMove 48 = .ok (.aload_n 0, 1) := by decide +kernel
theorem dX4_addMove_49 : decode cX4_addMove 49 = .ok (.dup, 1) := by decide +kernel
theorem dX4_addMove_50 : decode cX4_addMove 50 = .ok (.getfield 18, 3) := by decide +kernel
theorem dX4_addMove_53 : decode cX4_addMove 53 = .ok (.iconst 1, 1) := by decide +kernel
theorem dX4_addMove_54 : decode cX4_addMove 54 = .ok (.iadd, 1) := by decide +kernel
theorem dX4_addMove_55 : decode cX4_addMove 55 = .ok (.putfield 18, 3) := by decide +kernel
theorem dX4_addMove_58 : decode cX4_addMove 58 = .ok (.iload_n 3, 1) := by decide +kernel
theorem dX4_addMove_59 : decode cX4_addMove 59 = .ok (.ireturn, 1) := by decide +kernel
theorem dX4_removeLastMove_0 : decode cX4_removeLastMove 0 = .ok (.aload_n 0, 1) := by decide +kernel
theorem dX4_removeLastMove_1 : decode cX4_removeLastMove 1 = .ok (.getfield 18, 3) := by decide +kernel
theorem dX4_removeLastMove_4 : decode cX4_removeLastMove 4 = .ok (.ifCond .le 13, 3) := by decide +kernel
theorem dX4_removeLastMove_7 : decode cX4_removeLastMove 7 = .ok (.aload_n 0, 1) := by decide +kernel
theorem dX4_removeLastMove_8 : decode cX4_removeLastMove 8 = .ok (.dup, 1) := by decide +kernel
theorem dX4_removeLastMove_9 : decode cX4_removeLastMove 9 = .ok (.getfield 18, 3) := by decide +kernel
theorem dX4_removeLastMove_12 : decode cX4_removeLastMove 12 = .ok (.iconst 1, 1) := by decide +kernel
theorem dX4_removeLastMove_13 : decode cX4_removeLastMove 13 = .ok (.isub, 1) := by decide +kernel
theorem dX4_removeLastMove_14 : decode cX4_removeLastMove 14 = .ok (.putfield 18, 3) := by decide +kernel
theorem dX4_removeLastMove_17 : decode cX4_removeLastMove 17 = .ok (.return_, 1) := by decide +kernel
theorem dX4_setLeg_0 : decode cX4_setLeg 0 = .ok (.iload_n 1, 1) := by decide +kernel
theorem dX4_setLeg_1 : decode cX4_setLeg 1 = .ok (.ifCond .lt 31, 3) := by decide +kernel
theorem dX4_setLeg_4 : decode cX4_setLeg 4 = .ok (.iload_n 1, 1) := by decide +kernel
theorem dX4_setLeg_5 : decode cX4_setLeg 5 = .ok (.bipush 80, 2) := by decide +kernel
theorem dX4_setLeg_7 : decode cX4_setLeg 7 = .ok (.if_icmp .ge 25, 3) := by decide +kernel
theorem dX4_setLeg_10 : decode cX4_setLeg 10 = .ok (.aload_n 0, 1) := by decide +kernel
theorem dX4_setLeg_11 : decode cX4_setLeg 11 = .ok (.getfield 37, 3) := by decide +kernel
theorem dX4_setLeg_14 : decode cX4_setLeg 14 = .ok (.iload_n 1, 1) := by decide +kernel
theorem dX4_setLeg_15 : decode cX4_setLeg 15 = .ok (.iload_n 2, 1) := by decide +kernel
theorem dX4_setLeg_16 : decode cX4_setLeg 16 = .ok (.iastore, 1) := by decide +kernel
theorem dX4_setLeg_17 : decode cX4_setLeg 17 = .ok (.aload_n 0, 1) := by decide +kernel
theorem dX4_setLeg_18 : decode cX4_setLeg 18 = .ok (.getfield 40, 3) := by decide +kernel
theorem dX4_setLeg_21 : decode cX4_setLeg 21 = .ok (.iload_n 1, 1) := by decide +kernel
theorem dX4_setLeg_22 : decode cX4_setLeg 22 = .ok (.iload_n 3, 1) := by decide +kernel
theorem dX4_setLeg_23 : decode cX4_setLeg 23 = .ok (.iastore, 1) := by decide +kernel
theorem dX4_setLeg_24 : decode cX4_setLeg 24 = .ok (.aload_n 0, 1) := by decide +kernel
theorem dX4_setLeg_25 : decode cX4_setLeg 25 = .ok (.getfield 43, 3) := by decide +kernel
theorem dX4_setLeg_28 : decode cX4_setLeg 28 = .ok (.iload_n 1, 1) := by decide +kernel
theorem dX4_setLeg_29 : decode cX4_setLeg 29 = .ok (.iload 4, 2) := by decide +kernel
theorem dX4_setLeg_31 : decode cX4_setLeg 31 = .ok (.iastore, 1) := by decide +kernel
theorem dX4_setLeg_32 : decode cX4_setLeg 32 = .ok (.return_, 1) := by decide +kernel
theorem dX4_removeLeg_0 : decode cX4_removeLeg 0 = .ok (.aload_n 0, 1) := by decide +kernel
theorem dX4_removeLeg_1 : decode cX4_removeLeg 1 = .ok (.iload_n 1, 1) := by decide +kernel
theorem dX4_removeLeg_2 : decode cX4_removeLeg 2 = .ok (.iconst (-1), 1) := by decide +kernel
theorem dX4_removeLeg_3 : decode cX4_removeLeg 3 = .ok (.iconst (-1), 1) := by decide +kernel
theorem dX4_removeLeg_4 : decode cX4_removeLeg 4 = .ok (.iconst (-1), 1) := by decide +kernel
theorem dX4_removeLeg_5 : decode cX4_removeLeg 5 = .ok (.invokevirtual 73, 3) := by decide +kernel
theorem dX4_removeLeg_8 : decode cX4_removeLeg 8 = .ok (.return_, 1) := by decide +kernel
theorem dX4_setSpan_0 : decode cX4_setSpan 0 = .ok (.iload_n 1, 1) := by decide +kernel
theorem dX4_setSpan_1 : decode cX4_setSpan 1 = .ok (.ifCond .lt 23, 3) := by decide +kernel
theorem dX4_setSpan_4 : decode cX4_setSpan 4 = .ok (.iload_n 1, 1) := by decide +kernel
theorem dX4_setSpan_5 : decode cX4_setSpan 5 = .ok (.bipush 80, 2) := by decide +kernel
theorem dX4_setSpan_7 : decode cX4_setSpan 7 = .ok (.if_icmp .ge 17, 3) := by decide +kernel
theorem dX4_setSpan_10 : decode cX4_setSpan 10 = .ok (.aload_n 0, 1) := by decide +kernel
theorem dX4_setSpan_11 : decode cX4_setSpan 11 = .ok (.getfield 40, 3) := by decide +kernel
theorem dX4_setSpan_14 : decode cX4_setSpan 14 = .ok (.iload_n 1, 1) := by decide +kernel
theorem dX4_setSpan_15 : decode cX4_setSpan 15 = .ok (.iload_n 2, 1) := by decide +kernel
theorem dX4_setSpan_16 : decode cX4_setSpan 16 = .ok (.iastore, 1) := by decide +kernel
theorem dX4_setSpan_17 : decode cX4_setSpan 17 = .ok (.aload_n 0, 1) := by decide +kernel
theorem dX4_setSpan_18 : decode cX4_setSpan 18 = .ok (.getfield 43, 3) := by decide +kernel
theorem dX4_setSpan_21 : decode cX4_setSpan 21 = .ok (.iload_n 1, 1) := by decide +kernel
theorem dX4_setSpan_22 : decode cX4_setSpan 22 = .ok (.iload_n 3, 1) := by decide +kernel
theorem dX4_setSpan_23 : decode cX4_setSpan 23 = .ok (.iastore, 1) := by decide +kernel
theorem dX4_setSpan_24 : decode cX4_setSpan 24 = .ok (.return_, 1) := by decide +kernel
theorem dX4_isThere_0 : decode cX4_isThere 0 = .ok (.aload_n 0, 1) := by decide +kernel
theorem dX4_isThere_1 : decode cX4_isThere 1 = .ok (.getfield 37, 3) := by decide +kernel
theorem dX4_isThere_4 : decode cX4_isThere 4 = .ok (.iload_n 1, 1) := by decide +kernel
theorem dX4_isThere_5 : decode cX4_isThere 5 = .ok (.iaload, 1) := by decide +kernel
theorem dX4_isThere_6 : decode cX4_isThere 6 = .ok (.iconst (-1), 1) := by decide +kernel
theorem dX4_isThere_7 : decode cX4_isThere 7 = .ok (.if_icmp .eq 7, 3) := by decide +kernel
theorem dX4_isThere_10 : decode cX4_isThere 10 = .ok (.iconst 1, 1) := by decide +kernel
theorem dX4_isThere_11 : decode cX4_isThere 11 = .ok (.goto 4, 3) := by decide +kernel
theorem dX4_isThere_14 : decode cX4_isThere 14 = .ok (.iconst 0, 1) := by decide +kernel
theorem dX4_isThere_15 : decode cX4_isThere 15 = .ok (.ireturn, 1) := by decide +kernel
theorem dX4_isOver_0 : decode cX4_isOver 0 = .ok (.aload_n 0, 1) := by decide +kernel
theorem dX4_isOver_1 : decode cX4_isOver 1 = .ok (.getfield 43, 3) := by decide +kernel
theorem dX4_isOver_4 : decode cX4_isOver 4 = .ok (.iload_n 1, 1) := by decide +kernel
theorem dX4_isOver_5 : decode cX4_isOver 5 = .ok (.iaload, 1) := by decide +kernel
theorem dX4_isOver_6 : decode cX4_isOver 6 = .ok (.iload_n 2, 1) := by decide +kernel
theorem dX4_isOver_7 : decode cX4_isOver 7 = .ok (.if_icmp .gt 7, 3) := by decide +kernel
theorem dX4_isOver_10 : decode cX4_isOver 10 = .ok (.iconst 1, 1) := by decide +kernel
theorem dX4_isOver_11 : decode cX4_isOver 11 = .ok (.goto 4, 3) := by decide +kernel
theorem dX4_isOver_14 : decode cX4_isOver 14 = .ok (.iconst 0, 1) := by decide +kernel
theorem dX4_isOver_15 : decode cX4_isOver 15 = .ok (.ireturn, 1) := by decide +kernel
theorem dX4_isToCome_0 : decode cX4_isToCome 0 = .ok (.aload_n 0, 1) := by decide +kernel
theorem dX4_isToCome_1 : decode cX4_isToCome 1 = .ok (.getfield 40, 3) := by decide +kernel
theorem dX4_isToCome_4 : decode cX4_isToCome 4 = .ok (.iload_n 1, 1) := by decide +kernel
theorem dX4_isToCome_5 : decode cX4_isToCome 5 = .ok (.iaload, 1) := by decide +kernel
theorem dX4_isToCome_6 : decode cX4_isToCome 6 = .ok (.iload_n 2, 1) := by decide +kernel
theorem dX4_isToCome_7 : decode cX4_isToCome 7 = .ok (.if_icmp .le 7, 3) := by decide +kernel
theorem dX4_isToCome_10 : decode cX4_isToCome 10 = .ok (.iconst 1, 1) := by decide +kernel
theorem dX4_isToCome_11 : decode cX4_isToCome 11 = .ok (.goto 4, 3) := by decide +kernel
theorem dX4_isToCome_14 : decode cX4_isToCome 14 = .ok (.iconst 0, 1) := by decide +kernel
theorem dX4_isToCome_15 : decode cX4_isToCome 15 = .ok (.ireturn, 1) := by decide +kernel
end
section
theorem dX5_init_0 : decode cX5_init 0 = .ok (.aload_n 0, 1) := by decide +kernel
theorem dX5_init_1 : decode cX5_init 1 = .ok (.invokespecial 3, 3) := by decide +kernel
theorem dX5_init_4 : decode cX5_init 4 = .ok (.aload_n 0, 1) := by decide +kernel
theorem dX5_init_5 : decode cX5_init 5 = .ok (.iconst 0, 1) := by decide +kernel
theorem dX5_init_6 : decode cX5_init 6 = .ok (.putfield 9, 3) := by decide +kernel
theorem dX5_init_9 : decode cX5_init 9 = .ok (.aload_n 0, 1) := by decide +kernel
theorem dX5_init_10 : decode cX5_init 10 = .ok (.iconst 0, 1) := by decide +kernel
theorem dX5_init_11 : decode cX5_init 11 = .ok (.putfield 15, 3) := by decide +kernel
theorem dX5_init_14 : decode cX5_init 14 = .ok (.aload_n 0, 1) := by decide +kernel
theorem dX5_init_15 : decode cX5_init 15 = .ok (.bipush 10, 2) := by decide +kernel
theorem dX5_init_17 : decode cX5_init 17 = .ok (.anewarray 18, 3) := by decide +kernel
theorem dX5_init_20 : decode cX5_init 20 = .ok (.putfield 20, 3) := by decide +kernel
theorem dX5_init_23 : decode cX5_init 23 = .ok (.iconst 0, 1) := by decide +kernel
theorem dX5_init_24 : decode cX5_init 24 = .ok (.istore_n 1, 1) := by decide +kernel
theorem dX5_init_25 : decode cX5_init 25 = .ok (.iload_n 1, 1) := by decide +kernel
theorem dX5_init_26 : decode cX5_init 26 = .ok (.bipush 10, 2) := by decide +kernel
theorem dX5_init_28 : decode cX5_init 28 = .ok (.if_icmp .ge 22, 3) := by decide +kernel
theorem dX5_init_31 : decode cX5_init 31 = .ok (.aload_n 0, 1) := by decide +kernel
theorem dX5_init_32 : decode cX5_init 32 = .ok (.getfield 20, 3) := by decide +kernel
theorem dX5_init_35 : decode cX5_init 35 = .ok (.iload_n 1, 1) := by decide +kernel
theorem dX5_init_36 : decode cX5_init 36 = .ok (.new 18, 3) := by decide +kernel
theorem dX5_init_39 : decode cX5_init 39 = .ok (.dup, 1) := by decide +kernel
theorem dX5_init_40 : decode cX5_init 40 = .ok (.invokespecial 24, 3) := by decide +kernel
theorem dX5_init_43 : decode cX5_init 43 = .ok (.aastore, 1) := by decide +kernel
theorem dX5_init_44 : decode cX5_init 44 = .ok (.iinc 1 1, 3) := by decide +kernel
theorem dX5_init_47 : decode cX5_init 47 = .ok (.goto (-22), 3) := by decide +kernel
theorem dX5_init_50 : decode cX5_init 50 = .ok (.return_, 1) := by decide +kernel
theorem dX5_begin_0 : decode cX5_begin 0 = .ok (.aload_n 0, 1) := by decide +kernel
theorem dX5_begin_1 : decode cX5_begin 1 = .ok (.getfield 20, 3) := by decide +kernel
theorem dX5_begin_4 : decode cX5_begin 4 = .ok (.aload_n 0, 1) := by decide +kernel
theorem dX5_begin_5 : decode cX5_begin 5 = .ok (.getfield 15, 3) := by decide +kernel
theorem dX5_begin_8 : decode cX5_begin 8 = .ok (.aaload, 1) := by decide +kernel
theorem dX5_begin_9 : decode cX5_begin 9 = .ok (.astore_n 3, 1) := by decide +kernel
theorem dX5_begin_10 : decode cX5_begin 10 = .ok (.aload_n 3, 1) := by decide +kernel
theorem dX5_begin_11 : decode cX5_begin 11 = .ok (.iload_n 1, 1) := by decide +kernel
theorem dX5_begin_12 : decode cX5_begin 12 = .ok (.putfield 25, 3) := by decide +kernel
theorem dX5_begin_15 : decode cX5_begin 15 = .ok (.aload_n 3, 1) := by decide +kernel
theorem dX5_begin_16 : decode cX5_begin 16 = .ok (.iload_n 2, 1) := by decide +kernel
theorem dX5_begin_17 : decode cX5_begin 17 = .ok (.putfield 28, 3) := by decide +kernel
theorem dX5_begin_20 : decode cX5_begin 20 = .ok (.aload_n 0, 1) := by decide +kernel
theorem dX5_begin_21 : decode cX5_begin 21 = .ok (.aload_n 0, 1) := by decide +kernel
theorem dX5_begin_22 : decode cX5_begin 22 = .ok (.getfield 15, 3) := by decide +kernel
theorem dX5_begin_25 : decode cX5_begin 25 = .ok (.bipush 9, 2) := by decide +kernel
theorem dX5_begin_27 : decode cX5_begin 27 = .ok (.if_icmp .ge 12, 3) := by decide +kernel
theorem dX5_begin_30 : decode cX5_begin 30 = .ok (.aload_n 0, 1) := by decide +kernel
theorem dX5_begin_31 : decode cX5_begin 31 = .ok (.getfield 15, 3) := by decide +kernel
theorem dX5_begin_34 : decode cX5_begin 34 = .ok (.iconst 1, 1) := by decide +kernel
theorem dX5_begin_35 : decode cX5_begin 35 = .ok (.iadd, 1) := by decide +kernel
theorem dX5_begin_36 : decode cX5_begin 36 = .ok (.goto 4, 3) := by decide +kernel
theorem dX5_begin_39 : decode cX5_begin 39 = .ok (.iconst 0, 1) := by decide +kernel
theorem dX5_begin_40 : decode cX5_begin 40 = .ok (.putfield 15, 3) := by decide +kernel
theorem dX5_begin_43 : decode cX5_begin 43 = .ok (.aload_n 0, 1) := by decide +kernel
theorem dX5_begin_44 : decode cX5_begin 44 = .ok (.aload_n 0, 1) := by decide +kernel
theorem dX5_begin_45 : decode cX5_begin 45 = .ok (.getfield 9, 3) := by decide +kernel
theorem dX5_begin_48 : decode cX5_begin 48 = .ok (.iconst 1, 1) := by decide +kernel
theorem dX5_begin_49 : decode cX5_begin 49 = .ok (.iadd, 1) := by decide +kernel
theorem dX5_begin_50 : decode cX5_begin 50 = .ok (.bipush 10, 2) := by decide +kernel
theorem dX5_begin_52 : decode cX5_begin 52 = .ok (.invokestatic 31, 3) := by decide +kernel
theorem dX5_begin_55 : decode cX5_begin 55 = .ok (.putfield 9, 3) := by decide +kernel
theorem dX5_begin_58 : decode cX5_begin 58 = .ok (.aload_n 3, 1) := by decide +kernel
theorem dX5_begin_59 : decode cX5_begin 59 = .ok (.areturn, 1) := by decide +kernel
theorem dX5_takeLatest_0 : decode cX5_takeLatest 0 = .ok (.aload_n 0, 1) := by decide +kernel
theorem dX5_takeLatest_1 : decode cX5_takeLatest 1 = .ok (.aload_n 0, 1) := by decide +kernel
theorem dX5_takeLatest_2 : decode cX5_takeLatest 2 = .ok (.getfield 15, 3) := by decide +kernel
theorem dX5_takeLatest_5 : decode cX5_takeLatest 5 = .ok (.ifCond .le 12, 3) := by decide +kernel
theorem dX5_takeLatest_8 : decode cX5_takeLatest 8 = .ok (.aload_n 0, 1) := by decide +kernel
theorem dX5_takeLatest_9 : decode cX5_takeLatest 9 = .ok (.getfield 15, 3) := by decide +kernel
theorem dX5_takeLatest_12 : decode cX5_takeLatest 12 = .ok (.iconst 1, 1) := by decide +kernel
theorem dX5_takeLatest_13 : decode cX5_takeLatest 13 = .ok (.isub, 1) := by decide +kernel
theorem dX5_takeLatest_14 : decode cX5_takeLatest 14 = .ok (.goto 5, 3) := by decide +kernel
theorem dX5_takeLatest_17 : decode cX5_takeLatest 17 = .ok (.bipush 9, 2) := by decide +kernel
theorem dX5_takeLatest_19 : decode cX5_takeLatest 19 = .ok (.putfield 15, 3) := by decide +kernel
theorem dX5_takeLatest_22 : decode cX5_takeLatest 22 = .ok (.aload_n 0, 1) := by decide +kernel
theorem dX5_takeLatest_23 : decode cX5_takeLatest 23 = .ok (.aload_n 0, 1) := by decide +kernel
theorem dX5_takeLatest_24 : decode cX5_takeLatest 24 = .ok (.getfield 9, 3) := by decide +kernel
theorem dX5_takeLatest_27 : decode cX5_takeLatest 27 = .ok (.iconst 1, 1) := by decide +kernel
theorem dX5_takeLatest_28 : decode cX5_takeLatest 28 = .ok (.isub, 1) := by decide +kernel
theorem dX5_takeLatest_29 : decode cX5_takeLatest 29 = .ok (.iconst 0, 1) := by decide +kernel
theorem dX5_takeLatest_30 : decode cX5_takeLatest 30 = .ok (.invokestatic 37, 3) := by decide +kernel
theorem dX5_takeLatest_33 : decode cX5_takeLatest 33 = .ok (.putfield 9, 3) := by decide +kernel
theorem dX5_takeLatest_36 : decode cX5_takeLatest 36 = .ok (.aload_n 0, 1) := by decide +kernel
theorem dX5_takeLatest_37 : decode cX5_takeLatest 37 = .ok (.getfield 20, 3) := by decide +kernel
theorem dX5_takeLatest_40 : decode cX5_takeLatest 40 = .ok (.aload_n 0, 1) := by decide +kernel
theorem dX5_takeLatest_41 : decode cX5_takeLatest 41 = .ok (.getfield 15, 3) := by decide +kernel
theorem dX5_takeLatest_44 : decode cX5_takeLatest 44 = .ok (.aaload, 1) := by decide +kernel
theorem dX5_takeLatest_45 : decode cX5_takeLatest 45 = .ok (.areturn, 1) := by decide +kernel
end
section
theorem dX6_init_0 : decode cX6_init 0 = .ok (.aload_n 0, 1) := by decide +kernel
theorem dX6_init_1 : decode cX6_init 1 = .ok (.invokespecial 1, 3) := by decide +kernel
theorem dX6_init_4 : decode cX6_init 4 = .ok (.aload_n 0, 1) := by decide +kernel
theorem dX6_init_5 : decode cX6_init 5 = .ok (.iconst 0, 1) := by decide +kernel
theorem dX6_init_6 : decode cX6_init 6 = .ok (.putfield 7, 3) := by decide +kernel
theorem dX6_init_9 : decode cX6_init 9 = .ok (.aload_n 0, 1) := by decide +kernel
theorem dX6_init_10 : decode cX6_init 10 = .ok (.sipush 640, 3) := by decide +kernel
theorem dX6_init_13 : decode cX6_init 13 = .ok (.newarray .byte, 2) := by decide +kernel
theorem dX6_init_15 : decode cX6_init 15 = .ok (.putfield 13, 3) := by decide +kernel
theorem dX6_init_18 : decode cX6_init 18 = .ok (.aload_n 0, 1) := by decide +kernel
theorem dX6_init_19 : decode cX6_init 19 = .ok (.iconst 0, 1) := by decide +kernel
theorem dX6_init_20 : decode cX6_init 20 = .ok (.putfield 17, 3) := by decide +kernel
theorem dX6_init_23 : decode cX6_init 23 = .ok (.aload_n 0, 1) := by decide +kernel
theorem dX6_init_24 : decode cX6_init 24 = .ok (.sipush 601, 3) := by decide +kernel
theorem dX6_init_27 : decode cX6_init 27 = .ok (.newarray .int, 2) := by decide +kernel
theorem dX6_init_29 : decode cX6_init 29 = .ok (.putfield 20, 3) := by decide +kernel
theorem dX6_init_32 : decode cX6_init 32 = .ok (.aload_n 0, 1) := by decide +kernel
theorem dX6_init_33 : decode cX6_init 33 = .ok (.sipush 601, 3) := by decide +kernel
theorem dX6_init_36 : decode cX6_init 36 = .ok (.newarray .int, 2) := by decide +kernel
theorem dX6_init_38 : decode cX6_init 38 = .ok (.putfield 24, 3) := by decide +kernel
theorem dX6_init_41 : decode cX6_init 41 = .ok (.return_, 1) := by decide +kernel
theorem dX6_hasRoom_0 : decode cX6_hasRoom 0 = .ok (.aload_n 0, 1) := by decide +kernel
theorem dX6_hasRoom_1 : decode cX6_hasRoom 1 = .ok (.getfield 7, 3) := by decide +kernel
theorem dX6_hasRoom_4 : decode cX6_hasRoom 4 = .ok (.sipush 620, 3) := by decide +kernel
theorem dX6_hasRoom_7 : decode cX6_hasRoom 7 = .ok (.if_icmp .gt 7, 3) := by decide +kernel
theorem dX6_hasRoom_10 : decode cX6_hasRoom 10 = .ok (.iconst 1, 1) := by decide +kernel
theorem dX6_hasRoom_11 : decode cX6_hasRoom 11 = .ok (.goto 4, 3) := by decide +kernel
theorem dX6_hasRoom_14 : decode cX6_hasRoom 14 = .ok (.iconst 0, 1) := by decide +kernel
theorem dX6_hasRoom_15 : decode cX6_hasRoom 15 = .ok (.ireturn, 1) := by decide +kernel
theorem dX6_append_0 : decode cX6_append 0 = .ok (.bipush 24, 2) := by decide +kernel
theorem dX6_append_2 : decode cX6_append 2 = .ok (.istore_n 2, 1) := by decide +kernel
theorem dX6_append_3 : decode cX6_append 3 = .ok (.iload_n 2, 1) := by decide +kernel
theorem dX6_append_4 : decode cX6_append 4 = .ok (.ifCond .lt 42, 3) := by decide +kernel
theorem dX6_append_7 : decode cX6_append 7 = .ok (.aload_n 0, 1) := by decide +kernel
theorem dX6_append_8 : decode cX6_append 8 = .ok (.getfield 7, 3) := by decide +kernel
theorem dX6_append_11 : decode cX6_append 11 = .ok (.sipush 640, 3) := by decide +kernel
theorem dX6_append_14 : decode cX6_append 14 = .ok (.if_icmp .ge 26, 3) := by decide +kernel
theorem dX6_append_17 : decode cX6_append 17 = .ok (.aload_n 0, 1) := by decide +kernel
theorem dX6_append_18 : decode cX6_append 18 = .ok (.getfield 13, 3) := by decide +kernel
theorem dX6_append_21 : decode cX6_append 21 = .ok (.aload_n 0, 1) := by decide +kernel
theorem dX6_append_22 : decode cX6_append 22 = .ok (.getfield 7, 3) := by decide +kernel
theorem dX6_append_25 : decode cX6_append 25 = .ok (.iload_n 1, 1) := by decide +kernel
theorem dX6_append_26 : decode cX6_append 26 = .ok (.iload_n 2, 1) := by decide +kernel
theorem dX6_append_27 : decode cX6_append 27 = .ok (.ishr, 1) := by decide +kernel
theorem dX6_append_28 : decode cX6_append 28 = .ok (.i2b, 1) := by decide +kernel
theorem dX6_append_29 : decode cX6_append 29 = .ok (.bastore, 1) := by decide +kernel
theorem dX6_append_30 : decode cX6_append 30 = .ok (.aload_n 0, 1) := by decide +kernel
theorem dX6_append_31 : decode cX6_append 31 = .ok (.dup, 1) := by decide +kernel
theorem dX6_append_32 : decode cX6_append 32 = .ok (.getfield 7, 3) := by decide +kernel
theorem dX6_append_35 : decode cX6_append 35 = .ok (.iconst 1, 1) := by decide +kernel
theorem dX6_append_36 : decode cX6_append 36 = .ok (.iadd, 1) := by decide +kernel
theorem dX6_append_37 : decode cX6_append 37 = .ok (.putfield 7, 3) := by decide +kernel
theorem dX6_append_40 : decode cX6_append 40 = .ok (.iinc 2 (-8), 3) := by decide +kernel
theorem dX6_append_43 : decode cX6_append 43 = .ok (.goto (-40), 3) := by decide +kernel
theorem dX6_append_46 : decode cX6_append 46 = .ok (.return_, 1) := by decide +kernel
theorem dX6_scan_0 : decode cX6_scan 0 = .ok (.aload_n 0, 1) := by decide +kernel
theorem dX6_scan_1 : decode cX6_scan 1 = .ok (.getfield 7, 3) := by decide +kernel
theorem dX6_scan_4 : decode cX6_scan 4 = .ok (.sipush 600, 3) := by decide +kernel
theorem dX6_scan_7 : decode cX6_scan 7 = .ok (.invokestatic 27, 3) := by decide +kernel
theorem dX6_scan_10 : decode cX6_scan 10 = .ok (.istore_n 1, 1) := by decide +kernel
theorem dX6_scan_11 : decode cX6_scan 11 = .ok (.iconst 0, 1) := by decide +kernel
theorem dX6_scan_12 : decode cX6_scan 12 = .ok (.istore_n 2, 1) := by decide +kernel
theorem dX6_scan_13 : decode cX6_scan 13 = .ok (.aload_n 0, 1) := by decide +kernel
theorem dX6_scan_14 : decode cX6_scan 14 = .ok (.iconst 0, 1) := by decide +kernel
theorem dX6_scan_15 : decode cX6_scan 15 = .ok (.putfield 17, 3) := by decide +kernel
theorem dX6_scan_18 : decode cX6_scan 18 = .ok (.iconst 0, 1) := by decide +kernel
theorem dX6_scan_19 : decode cX6_scan 19 = .ok (.istore_n 3, 1) := by decide +kernel
theorem dX6_scan_20 : decode cX6_scan 20 = .ok (.iload_n 3, 1) := by decide +kernel
theorem dX6_scan_21 : decode cX6_scan 21 = .ok (.sipush 600, 3) := by decide +kernel
theorem dX6_scan_24 : decode cX6_scan 24 = .ok (.if_icmp .ge 54, 3) := by decide +kernel
theorem dX6_scan_27 : decode cX6_scan 27 = .ok (.iload_n 2, 1) := by decide +kernel
theorem dX6_scan_28 : decode cX6_scan 28 = .ok (.iload_n 1, 1) := by decide +kernel
theorem dX6_scan_29 : decode cX6_scan 29 = .ok (.if_icmp .ge 49, 3) := by decide +kernel
theorem dX6_scan_32 : decode cX6_scan 32 = .ok (.aload_n 0, 1) := by decide +kernel
theorem dX6_scan_33 : decode cX6_scan 33 = .ok (.getfield 13, 3) := by decide +kernel
theorem dX6_scan_36 : decode cX6_scan 36 = .ok (.iload_n 2, 1) := by decide +kernel
theorem dX6_scan_37 : decode cX6_scan 37 = .ok (.baload, 1) := by decide +kernel
theorem dX6_scan_38 : decode cX6_scan 38 = .ok (.invokestatic 33, 3) := by decide +kernel
theorem dX6_scan_41 : decode cX6_scan 41 = .ok (.ifCond .eq 9, 3) := by decide +kernel
theorem dX6_scan_44 : decode cX6_scan 44 = .ok (.iinc 2 1, 3) := by decide +kernel
theorem dX6_scan_47 : decode cX6_scan 47 = .ok (.goto 25, 3) := by decide +kernel
theorem dX6_scan_50 : decode cX6_scan 50 = .ok (.aload_n 0, 1) := by decide +kernel
theorem dX6_scan_51 : decode cX6_scan 51 = .ok (.iload_n 2, 1) := by decide +kernel
theorem dX6_scan_52 : decode cX6_scan 52 = .ok (.invokevirtual 37, 3) := by decide +kernel
theorem dX6_scan_55 : decode cX6_scan 55 = .ok (.istore 4, 2) := by decide +kernel
theorem dX6_scan_57 : decode cX6_scan 57 = .ok (.aload_n 0, 1) := by decide +kernel
theorem dX6_scan_58 : decode cX6_scan 58 = .ok (.aload_n 0, 1) := by decide +kernel
theorem dX6_scan_59 : decode cX6_scan 59 = .ok (.iload_n 2, 1) := by decide +kernel
theorem dX6_scan_60 : decode cX6_scan 60 = .ok (.iload 4, 2) := by decide +kernel
theorem dX6_scan_62 : decode cX6_scan 62 = .ok (.invokevirtual 41, 3) := by decide +kernel
theorem dX6_scan_65 : decode cX6_scan 65 = .ok (.iload_n 2, 1) := by decide +kernel
theorem dX6_scan_66 : decode cX6_scan 66 = .ok (.invokevirtual 44, 3) := by decide +kernel
theorem dX6_scan_69 : decode cX6_scan 69 = .ok (.iload 4, 2) := by decide +kernel
theorem dX6_scan_71 : decode cX6_scan 71 = .ok (.istore_n 2, 1) := by decide +kernel
theorem dX6_scan_72 : decode cX6_scan 72 = .ok (.iinc 3 1, 3) := by decide +kernel
theorem dX6_scan_75 : decode cX6_scan 75 = .ok (.goto (-55), 3) := by decide +kernel
theorem dX6_scan_78 : decode cX6_scan 78 = .ok (.aload_n 0, 1) := by decide +kernel
theorem dX6_scan_79 : decode cX6_scan 79 = .ok (.bipush (-2), 2) := by decide +kernel
theorem dX6_scan_81 : decode cX6_scan 81 = .ok (.iload_n 1, 1) := by decide +kernel
theorem dX6_scan_82 : decode cX6_scan 82 = .ok (.invokevirtual 44, 3) := by decide +kernel
theorem dX6_scan_85 : decode cX6_scan 85 = .ok (.return_, 1) := by decide +kernel
theorem dX6_addToken_0 : decode cX6_addToken 0 = .ok (.aload_n 0, 1) := by decide +kernel
theorem dX6_addToken_1 : decode cX6_addToken 1 = .ok (.getfield 17, 3) := by decide +kernel
theorem dX6_addToken_4 : decode cX6_addToken 4 = .ok (.aload_n 0, 1) := by decide +kernel
theorem dX6_addToken_5 : decode cX6_addToken 5 = .ok (.getfield 20, 3) := by decide +kernel
theorem dX6_addToken_8 : decode cX6_addToken 8 = .ok (.arraylength, 1) := by decide +kernel
theorem dX6_addToken_9 : decode cX6_addToken 9 = .ok (.if_icmp .ge 33, 3) := by decide +kernel
theorem dX6_addToken_12 : decode cX6_addToken 12 = .ok (.aload_n 0, 1) := by decide +kernel
theorem dX6_addToken_13 : decode cX6_addToken 13 = .ok (.getfield 20, 3) := by decide +kernel
theorem dX6_addToken_16 : decode cX6_addToken 16 = .ok (.aload_n 0, 1) := by decide +kernel
theorem dX6_addToken_17 : decode cX6_addToken 17 = .ok (.getfield 17, 3) := by decide +kernel
theorem dX6_addToken_20 : decode cX6_addToken 20 = .ok (.iload_n 1, 1) := by decide +kernel
theorem dX6_addToken_21 : decode cX6_addToken 21 = .ok (.iastore, 1) := by decide +kernel
theorem dX6_addToken_22 : decode cX6_addToken 22 = .ok (.aload_n 0, 1) := by decide +kernel
theorem dX6_addToken_23 : decode cX6_addToken 23 = .ok (.getfield 24, 3) := by decide +kernel
theorem dX6_addToken_26 : decode cX6_addToken 26 = .ok (.aload_n 0, 1) := by decide +kernel
theorem dX6_addToken_27 : decode cX6_addToken 27 = .ok (.getfield 17, 3) := by decide +kernel
theorem dX6_addToken_30 : decode cX6_addToken 30 = .ok (.iload_n 2, 1) := by decide +kernel
theorem dX6_addToken_31 : decode cX6_addToken 31 = .ok (.iastore, 1) := by decide +kernel
theorem dX6_addToken_32 : decode cX6_addToken 32 = .ok (.aload_n 0, 1) := by decide +kernel
theorem dX6_addToken_33 : decode cX6_addToken 33 = .ok (.dup, 1) := by decide +kernel
theorem dX6_addToken_34 : decode cX6_addToken 34 = .ok (.getfield 17, 3) := by decide +kernel
theorem dX6_addToken_37 : decode cX6_addToken 37 = .ok (.iconst 1, 1) := by decide +kernel
theorem dX6_addToken_38 : decode cX6_addToken 38 = .ok (.iadd, 1) := by decide +kernel
theorem dX6_addToken_39 : decode cX6_addToken 39 = .ok (.putfield 17, 3) := by decide +kernel
theorem dX6_addToken_42 : decode cX6_addToken 42 = .ok (.return_, 1) := by decide +kernel
theorem dX6_behindRun_0 : decode cX6_behindRun 0 = .ok (.iload_n 1, 1) := by decide +kernel
theorem dX6_behindRun_1 : decode cX6_behindRun 1 = .ok (.istore_n 2, 1) := by decide +kernel
theorem dX6_behindRun_2 : decode cX6_behindRun 2 = .ok (.iload_n 2, 1) := by decide +kernel
theorem dX6_behindRun_3 : decode cX6_behindRun 3 = .ok (.aload_n 0, 1) := by decide +kernel
theorem dX6_behindRun_4 : decode cX6_behindRun 4 = .ok (.getfield 7, 3) := by decide +kernel
theorem dX6_behindRun_7 : decode cX6_behindRun 7 = .ok (.if_icmp .ge 33, 3) := by decide +kernel
theorem dX6_behindRun_10 : decode cX6_behindRun 10 = .ok (.aload_n 0, 1) := by decide +kernel
theorem dX6_behindRun_11 : decode cX6_behindRun 11 = .ok (.getfield 13, 3) := by decide +kernel
theorem dX6_behindRun_14 : decode cX6_behindRun 14 = .ok (.iload_n 2, 1) := by decide +kernel
theorem dX6_behindRun_15 : decode cX6_behindRun 15 = .ok (.baload, 1) := by decide +kernel
theorem dX6_behindRun_16 : decode cX6_behindRun 16 = .ok (.invokestatic 48, 3) := by decide +kernel
theorem dX6_behindRun_19 : decode cX6_behindRun 19 = .ok (.ifCond .ne 15, 3) := by decide +kernel
theorem dX6_behindRun_22 : decode cX6_behindRun 22 = .ok (.aload_n 0, 1) := by decide +kernel
theorem dX6_behindRun_23 : decode cX6_behindRun 23 = .ok (.getfield 13, 3) := by decide +kernel
theorem dX6_behindRun_26 : decode cX6_behindRun 26 = .ok (.iload_n 2, 1) := by decide +kernel
theorem dX6_behindRun_27 : decode cX6_behindRun 27 = .ok (.baload, 1) := by decide +kernel
theorem dX6_behindRun_28 : decode cX6_behindRun 28 = .ok (.invokestatic 51, 3) := by decide +kernel
theorem dX6_behindRun_31 : decode cX6_behindRun 31 = .ok (.ifCond .eq 9, 3) := by decide +kernel
theorem dX6_behindRun_34 : decode cX6_behindRun 34 = .ok (.iinc 2 1, 3) := by decide +kernel
theorem dX6_behindRun_37 : decode cX6_behindRun 37 = .ok (.goto (-35), 3) := by decide +kernel
theorem dX6_behindRun_40 : decode cX6_behindRun 40 = .ok (.iload_n 2, 1) := by decide +kernel
theorem dX6_behindRun_41 : decode cX6_behindRun 41 = .ok (.iload_n 1, 1) := by decide +kernel
theorem dX6_behindRun_42 : decode cX6_behindRun 42 = .ok (.iconst 1, 1) := by decide +kernel
theorem dX6_behindRun_43 : decode cX6_behindRun 43 = .ok (.iadd, 1) := by decide +kernel
theorem dX6_behindRun_44 : decode cX6_behindRun 44 = .ok (.invokestatic 54, 3) := by decide +kernel
theorem dX6_behindRun_47 : decode cX6_behindRun 47 = .ok (.ireturn, 1) := by decide +kernel
theorem dX6_kindOf_0 : decode cX6_kindOf 0 = .ok (.iconst 0, 1) := by decide +kernel
theorem dX6_kindOf_1 : decode cX6_kindOf 1 = .ok (.istore_n 3, 1) := by decide +kernel
theorem dX6_kindOf_2 : decode cX6_kindOf 2 = .ok (.iconst 0, 1) := by decide +kernel
theorem dX6_kindOf_3 : decode cX6_kindOf 3 = .ok (.istore 4, 2) := by decide +kernel
theorem dX6_kindOf_5 : decode cX6_kindOf 5 = .ok (.iconst 0, 1) := by decide +kernel
theorem dX6_kindOf_6 : decode cX6_kindOf 6 = .ok (.istore 5, 2) := by decide +kernel
theorem dX6_kindOf_8 : decode cX6_kindOf 8 = .ok (.iload_n 1, 1) := by decide +kernel
theorem dX6_kindOf_9 : decode cX6_kindOf 9 = .ok (.istore 6, 2) := by decide +kernel
theorem dX6_kindOf_11 : decode cX6_kindOf 11 = .ok (.iload 6, 2) := by decide +kernel
theorem dX6_kindOf_13 : decode cX6_kindOf 13 = .ok (.iload_n 2, 1) := by decide +kernel
theorem dX6_kindOf_14 : decode cX6_kindOf 14 = .ok (.if_icmp .ge 62, 3) := by decide +kernel
theorem dX6_kindOf_17 : decode cX6_kindOf 17 = .ok (.aload_n 0, 1) := by decide +kernel
theorem dX6_kindOf_18 : decode cX6_kindOf 18 = .ok (.getfield 13, 3) := by decide +kernel
theorem dX6_kindOf_21 : decode cX6_kindOf 21 = .ok (.iload 6, 2) := by decide +kernel
theorem dX6_kindOf_23 : decode cX6_kindOf 23 = .ok (.baload, 1) := by decide +kernel
theorem dX6_kindOf_24 : decode cX6_kindOf 24 = .ok (.invokestatic 48, 3) := by decide +kernel
theorem dX6_kindOf_27 : decode cX6_kindOf 27 = .ok (.ifCond .eq 9, 3) := by decide +kernel
theorem dX6_kindOf_30 : decode cX6_kindOf 30 = .ok (.iinc 3 1, 3) := by decide +kernel
theorem dX6_kindOf_33 : decode cX6_kindOf 33 = .ok (.goto 37, 3) := by decide +kernel
theorem dX6_kindOf_36 : decode cX6_kindOf 36 = .ok (.aload_n 0, 1) := by decide +kernel
theorem dX6_kindOf_37 : decode cX6_kindOf 37 = .ok (.getfield 13, 3) := by decide +kernel
theorem dX6_kindOf_40 : decode cX6_kindOf 40 = .ok (.iload 6, 2) := by decide +kernel
theorem dX6_kindOf_42 : decode cX6_kindOf 42 = .ok (.baload, 1) := by decide +kernel
theorem dX6_kindOf_43 : decode cX6_kindOf 43 = .ok (.invokestatic 51, 3) := by decide +kernel
theorem dX6_kindOf_46 : decode cX6_kindOf 46 = .ok (.ifCond .eq 24, 3) := by decide +kernel
theorem dX6_kindOf_49 : decode cX6_kindOf 49 = .ok (.iinc 4 1, 3) := by decide +kernel
theorem dX6_kindOf_52 : decode cX6_kindOf 52 = .ok (.bipush 10, 2) := by decide +kernel
theorem dX6_kindOf_54 : decode cX6_kindOf 54 = .ok (.iload 5, 2) := by decide +kernel
theorem dX6_kindOf_56 : decode cX6_kindOf 56 = .ok (.imul, 1) := by decide +kernel
theorem dX6_kindOf_57 : decode cX6_kindOf 57 = .ok (.aload_n 0, 1) := by decide +kernel
theorem dX6_kindOf_58 : decode cX6_kindOf 58 = .ok (.getfield 13, 3) := by decide +kernel
theorem dX6_kindOf_61 : decode cX6_kindOf 61 = .ok (.iload 6, 2) := by decide +kernel
theorem dX6_kindOf_63 : decode cX6_kindOf 63 = .ok (.baload, 1) := by decide +kernel
theorem dX6_kindOf_64 : decode cX6_kindOf 64 = .ok (.iadd, 1) := by decide +kernel
theorem dX6_kindOf_65 : decode cX6_kindOf 65 = .ok (.bipush 48, 2) := by decide +kernel
theorem dX6_kindOf_67 : decode cX6_kindOf 67 = .ok (.isub, 1) := by decide +kernel
theorem dX6_kindOf_68 : decode cX6_kindOf 68 = .ok (.istore 5, 2) := by decide +kernel
theorem dX6_kindOf_70 : decode cX6_kindOf 70 = .ok (.iinc 6 1, 3) := by decide +kernel
theorem dX6_kindOf_73 : decode cX6_kindOf 73 = .ok (.goto (-62), 3) := by decide +kernel
theorem dX6_kindOf_76 : decode cX6_kindOf 76 = .ok (.iload_n 3, 1) := by decide +kernel
theorem dX6_kindOf_77 : decode cX6_kindOf 77 = .ok (.iload_n 2, 1) := by decide +kernel
theorem dX6_kindOf_78 : decode cX6_kindOf 78 = .ok (.iload_n 1, 1) := by decide +kernel
theorem dX6_kindOf_79 : decode cX6_kindOf 79 = .ok (.isub, 1) := by decide +kernel
theorem dX6_kindOf_80 : decode cX6_kindOf 80 = .ok (.if_icmp .ne 10, 3) := by decide +kernel
theorem dX6_kindOf_83 : decode cX6_kindOf 83 = .ok (.aload_n 0, 1) := by decide +kernel
theorem dX6_kindOf_84 : decode cX6_kindOf 84 = .ok (.iload_n 1, 1) := by decide +kernel
theorem dX6_kindOf_85 : decode cX6_kindOf 85 = .ok (.iload_n 3, 1) := by decide +kernel
theorem dX6_kindOf_86 : decode cX6_kindOf 86 = .ok (.invokevirtual 57, 3) := by decide +kernel
theorem dX6_kindOf_89 : decode cX6_kindOf 89 = .ok (.ireturn, 1) := by decide +kernel
theorem dX6_kindOf_90 : decode cX6_kindOf 90 = .ok (.iload 4, 2) := by decide +kernel
theorem dX6_kindOf_92 : decode cX6_kindOf 92 = .ok (.iload_n 2, 1) := by decide +kernel
theorem dX6_kindOf_93 : decode cX6_kindOf 93 = .ok (.iload_n 1, 1) := by decide +kernel
theorem dX6_kindOf_94 : decode cX6_kindOf 94 = .ok (.isub, 1) := by decide +kernel
theorem dX6_kindOf_95 : decode cX6_kindOf 95 = .ok (.if_icmp .ne 12, 3) := by decide +kernel
theorem dX6_kindOf_98 : decode cX6_kindOf 98 = .ok (.iload 4, 2) := by decide +kernel
theorem dX6_kindOf_100 : decode cX6_kindOf 100 = .ok (.iconst 3, 1) := by decide +kernel
theorem dX6_kindOf_101 : decode cX6_kindOf 101 = .ok (.if_icmp .gt 6, 3) := by decide +kernel
theorem dX6_kindOf_104 : decode cX6_kindOf 104 = .ok (.iload 5, 2) := by decide +kernel
theorem dX6_kindOf_106 : decode cX6_kindOf 106 = .ok (.ireturn, 1) := by decide +kernel
theorem dX6_kindOf_107 : decode cX6_kindOf 107 = .ok (.aload_n 0, 1) := by decide +kernel
theorem dX6_kindOf_108 : decode cX6_kindOf 108 = .ok (.getfield 13, 3) := by decide +kernel
theorem dX6_kindOf_111 : decode cX6_kindOf 111 = .ok (.iload_n 1, 1) := by decide +kernel
theorem dX6_kindOf_112 : decode cX6_kindOf 112 = .ok (.baload, 1) := by decide +kernel
theorem dX6_kindOf_113 : decode cX6_kindOf 113 = .ok (.bipush 59, 2) := by decide +kernel
theorem dX6_kindOf_115 : decode cX6_kindOf 115 = .ok (.if_icmp .ne 8, 3) := by decide +kernel
theorem dX6_kindOf_118 : decode cX6_kindOf 118 = .ok (.bipush (-3), 2) := by decide +kernel
theorem dX6_kindOf_120 : decode cX6_kindOf 120 = .ok (.goto 4, 3) := by decide +kernel
theorem dX6_kindOf_123 : decode cX6_kindOf 123 = .ok (.iconst (-1), 1) := by decide +kernel
theorem dX6_kindOf_124 : decode cX6_kindOf 124 = .ok (.ireturn, 1) := by decide +kernel
theorem dX6_kindOfWord_0 : decode cX6_kindOfWord 0 = .ok (.aload_n 0, 1) := by decide +kernel
theorem dX6_kindOfWord_1 : decode cX6_kindOfWord 1 = .ok (.iload_n 1, 1) := by decide +kernel
theorem dX6_kindOfWord_2 : decode cX6_kindOfWord 2 = .ok (.iload_n 2, 1) := by decide +kernel
theorem dX6_kindOfWord_3 : decode cX6_kindOfWord 3 = .ok (.ldc 60, 2) := by decide +kernel
theorem dX6_kindOfWord_5 : decode cX6_kindOfWord 5 = .ok (.invokevirtual 62, 3) := by decide +kernel
theorem dX6_kindOfWord_8 : decode cX6_kindOfWord 8 = .ok (.ifCond .eq 6, 3) := by decide +kernel
theorem dX6_kindOfWord_11 : decode cX6_kindOfWord 11 = .ok (.bipush (-5), 2) := by decide +kernel
theorem dX6_kindOfWord_13 : decode cX6_kindOfWord 13 = .ok (.ireturn, 1) := by decide +kernel
theorem dX6_kindOfWord_14 : decode cX6_kindOfWord 14 = .ok (.aload_n 0, 1) := by decide +kernel
theorem dX6_kindOfWord_15 : decode cX6_kindOfWord 15 = .ok (.iload_n 1, 1) := by decide +kernel
theorem dX6_kindOfWord_16 : decode cX6_kindOfWord 16 = .ok (.iload_n 2, 1) := by decide +kernel
theorem dX6_kindOfWord_17 : decode cX6_kindOfWord 17 = .ok (.ldc 66, 2) := by decide +kernel
theorem dX6_kindOfWord_19 : decode cX6_kindOfWord 19 = .ok (.invokevirtual 62, 3) := by decide +kernel
theorem dX6_kindOfWord_22 : decode cX6_kindOfWord 22 = .ok (.ifCond .eq 6, 3) := by decide +kernel
theorem dX6_kindOfWord_25 : decode cX6_kindOfWord 25 = .ok (.bipush (-6), 2) := by decide +kernel
theorem dX6_kindOfWord_27 : decode cX6_kindOfWord 27 = .ok (.ireturn, 1) := by decide +kernel
theorem dX6_kindOfWord_28 : decode cX6_kindOfWord 28 = .ok (.aload_n 0, 1) := by decide +kernel
theorem dX6_kindOfWord_29 : decode cX6_kindOfWord 29 = .ok (.iload_n 1, 1) := by decide +kernel
theorem dX6_kindOfWord_30 : decode cX6_kindOfWord 30 = .ok (.iload_n 2, 1) := by decide +kernel
theorem dX6_kindOfWord_31 : decode cX6_kindOfWord 31 = .ok (.ldc 68, 2) := by decide +kernel
theorem dX6_kindOfWord_33 : decode cX6_kindOfWord 33 = .ok (.invokevirtual 62, 3) := by decide +kernel
theorem dX6_kindOfWord_36 : decode cX6_kindOfWord 36 = .ok (.ifCond .eq 6, 3) := by decide +kernel
theorem dX6_kindOfWord_39 : decode cX6_kindOfWord 39 = .ok (.bipush (-7), 2) := by decide +kernel
theorem dX6_kindOfWord_41 : decode cX6_kindOfWord 41 = .ok (.ireturn, 1) := by decide +kernel
theorem dX6_kindOfWord_42 : decode cX6_kindOfWord 42 = .ok (.aload_n 0, 1) := by decide +kernel
theorem dX6_kindOfWord_43 : decode cX6_kindOfWord 43 = .ok (.iload_n 1, 1) := by decide +kernel
theorem dX6_kindOfWord_44 : decode cX6_kindOfWord 44 = .ok (.iload_n 2, 1) := by decide +kernel
theorem dX6_kindOfWord_45 : decode cX6_kindOfWord 45 = .ok (.ldc 70, 2) := by decide +kernel
theorem dX6_kindOfWord_47 : decode cX6_kindOfWord 47 = .ok (.invokevirtual 62, 3) := by decide +kernel
theorem dX6_kindOfWord_50 : decode cX6_kindOfWord 50 = .ok (.ifCond .eq 6, 3) := by decide +kernel
theorem dX6_kindOfWord_53 : decode cX6_kindOfWord 53 = .ok (.bipush (-8), 2) := by decide +kernel
theorem dX6_kindOfWord_55 : decode cX6_kindOfWord 55 = .ok (.ireturn, 1) := by decide +kernel
theorem dX6_kindOfWord_56 : decode cX6_kindOfWord 56 = .ok (.aload_n 0, 1) := by decide +kernel
theorem dX6_kindOfWord_57 : decode cX6_kindOfWord 57 = .ok (.iload_n 1, 1) := by decide +kernel
theorem dX6_kindOfWord_58 : decode cX6_kindOfWord 58 = .ok (.iload_n 2, 1) := by decide +kernel
theorem dX6_kindOfWord_59 : decode cX6_kindOfWord 59 = .ok (.ldc 72, 2) := by decide +kernel
theorem dX6_kindOfWord_61 : decode cX6_kindOfWord 61 = .ok (.invokevirtual 62, 3) := by decide +kernel
theorem dX6_kindOfWord_64 : decode cX6_kindOfWord 64 = .ok (.ifCond .eq 6, 3) := by decide +kernel
theorem dX6_kindOfWord_67 : decode cX6_kindOfWord 67 = .ok (.bipush (-9), 2) := by decide +kernel
theorem dX6_kindOfWord_69 : decode cX6_kindOfWord 69 = .ok (.ireturn, 1) := by decide +kernel
theorem dX6_kindOfWord_70 : decode cX6_kindOfWord 70 = .ok (.aload_n 0, 1) := by decide +kernel
theorem dX6_kindOfWord_71 : decode cX6_kindOfWord 71 = .ok (.iload_n 1, 1) := by decide +kernel
theorem dX6_kindOfWord_72 : decode cX6_kindOfWord 72 = .ok (.iload_n 2, 1) := by decide +kernel
theorem dX6_kindOfWord_73 : decode cX6_kindOfWord 73 = .ok (.ldc 74, 2) := by decide +kernel
theorem dX6_kindOfWord_75 : decode cX6_kindOfWord 75 = .ok (.invokevirtual 62, 3) := by decide +kernel
theorem dX6_kindOfWord_78 : decode cX6_kindOfWord 78 = .ok (.ifCond .eq 8, 3) := by decide +kernel
theorem dX6_kindOfWord_81 : decode cX6_kindOfWord 81 = .ok (.bipush (-10), 2) := by decide +kernel
theorem dX6_kindOfWord_83 : decode cX6_kindOfWord 83 = .ok (.goto 5, 3) := by decide +kernel
theorem dX6_kindOfWord_86 : decode cX6_kindOfWord 86 = .ok (.bipush (-4), 2) := by decide +kernel
theorem dX6_kindOfWord_88 : decode cX6_kindOfWord 88 = .ok (.ireturn, 1) := by decide +kernel
theorem dX6_isWord_0 : decode cX6_isWord 0 = .ok (.iload_n 2, 1) := by decide +kernel
theorem dX6_isWord_1 : decode cX6_isWord 1 = .ok (.aload_n 3, 1) := by decide +kernel
theorem dX6_isWord_2 : decode cX6_isWord 2 = .ok (.invokevirtual 76, 3) := by decide +kernel
theorem dX6_isWord_5 : decode cX6_isWord 5 = .ok (.if_icmp .eq 5, 3) := by decide +kernel
theorem dX6_isWord_8 : decode cX6_isWord 8 = .ok (.iconst 0, 1) := by decide +kernel
theorem dX6_isWord_9 : decode cX6_isWord 9 = .ok (.ireturn, 1) := by decide +kernel
theorem dX6_isWord_10 : decode cX6_isWord 10 = .ok (.iconst 0, 1) := by decide +kernel
theorem dX6_isWord_11 : decode cX6_isWord 11 = .ok (.istore 4, 2) := by decide +kernel
theorem dX6_isWord_13 : decode cX6_isWord 13 = .ok (.iload 4, 2) := by decide +kernel
theorem dX6_isWord_15 : decode cX6_isWord 15 = .ok (.iload_n 2, 1) := by decide +kernel
theorem dX6_isWord_16 : decode cX6_isWord 16 = .ok (.if_icmp .ge 29, 3) := by decide +kernel
theorem dX6_isWord_19 : decode cX6_isWord 19 = .ok (.aload_n 0, 1) := by decide +kernel
theorem dX6_isWord_20 : decode cX6_isWord 20 = .ok (.getfield 13, 3) := by decide +kernel
theorem dX6_isWord_23 : decode cX6_isWord 23 = .ok (.iload_n 1, 1) := by decide +kernel
theorem dX6_isWord_24 : decode cX6_isWord 24 = .ok (.iload 4, 2) := by decide +kernel
theorem dX6_isWord_26 : decode cX6_isWord 26 = .ok (.iadd, 1) := by decide +kernel
theorem dX6_isWord_27 : decode cX6_isWord 27 = .ok (.baload, 1) := by decide +kernel
theorem dX6_isWord_28 : decode cX6_isWord 28 = .ok (.aload_n 3, 1) := by decide +kernel
theorem dX6_isWord_29 : decode cX6_isWord 29 = .ok (.iload 4, 2) := by decide +kernel
theorem dX6_isWord_31 : decode cX6_isWord 31 = .ok (.invokevirtual 81, 3) := by decide +kernel
theorem dX6_isWord_34 : decode cX6_isWord 34 = .ok (.if_icmp .eq 5, 3) := by decide +kernel
theorem dX6_isWord_37 : decode cX6_isWord 37 = .ok (.iconst 0, 1) := by decide +kernel
theorem dX6_isWord_38 : decode cX6_isWord 38 = .ok (.ireturn, 1) := by decide +kernel
theorem dX6_isWord_39 : decode cX6_isWord 39 = .ok (.iinc 4 1, 3) := by decide +kernel
theorem dX6_isWord_42 : decode cX6_isWord 42 = .ok (.goto (-29), 3) := by decide +kernel
theorem dX6_isWord_45 : decode cX6_isWord 45 = .ok (.iconst 1, 1) := by decide +kernel
theorem dX6_isWord_46 : decode cX6_isWord 46 = .ok (.ireturn, 1) := by decide +kernel
theorem dX6_isBlank_0 : decode cX6_isBlank 0 = .ok (.iload_n 0, 1) := by decide +kernel
theorem dX6_isBlank_1 : decode cX6_isBlank 1 = .ok (.bipush 32, 2) := by decide +kernel
theorem dX6_isBlank_3 : decode cX6_isBlank 3 = .ok (.if_icmp .eq 9, 3) := by decide +kernel
theorem dX6_isBlank_6 : decode cX6_isBlank 6 = .ok (.iload_n 0, 1) := by decide +kernel
theorem dX6_isBlank_7 : decode cX6_isBlank 7 = .ok (.bipush 10, 2) := by decide +kernel
theorem dX6_isBlank_9 : decode cX6_isBlank 9 = .ok (.if_icmp .ne 7, 3) := by decide +kernel
theorem dX6_isBlank_12 : decode cX6_isBlank 12 = .ok (.iconst 1, 1) := by decide +kernel
theorem dX6_isBlank_13 : decode cX6_isBlank 13 = .ok (.goto 4, 3) := by decide +kernel
theorem dX6_isBlank_16 : decode cX6_isBlank 16 = .ok (.iconst 0, 1) := by decide +kernel
theorem dX6_isBlank_17 : decode cX6_isBlank 17 = .ok (.ireturn, 1) := by decide +kernel
theorem dX6_isLetter_0 : decode cX6_isLetter 0 = .ok (.iload_n 0, 1) := by decide +kernel
theorem dX6_isLetter_1 : decode cX6_isLetter 1 = .ok (.bipush 97, 2) := by decide +kernel
theorem dX6_isLetter_3 : decode cX6_isLetter 3 = .ok (.if_icmp .lt 13, 3) := by decide +kernel
theorem dX6_isLetter_6 : decode cX6_isLetter 6 = .ok (.iload_n 0, 1) := by decide +kernel
theorem dX6_isLetter_7 : decode cX6_isLetter 7 = .ok (.bipush 122, 2) := by decide +kernel
theorem dX6_isLetter_9 : decode cX6_isLetter 9 = .ok (.if_icmp .gt 7, 3) := by decide +kernel
theorem dX6_isLetter_12 : decode cX6_isLetter 12 = .ok (.iconst 1, 1) := by decide +kernel
theorem dX6_isLetter_13 : decode cX6_isLetter 13 = .ok (.goto 4, 3) := by decide +kernel
theorem dX6_isLetter_16 : decode cX6_isLetter 16 = .ok (.iconst 0, 1) := by decide +kernel
theorem dX6_isLetter_17 : decode cX6_isLetter 17 = .ok (.ireturn, 1) := by decide +kernel
theorem dX6_isDigit_0 : decode cX6_isDigit 0 = .ok (.iload_n 0, 1) := by decide +kernel
theorem dX6_isDigit_1 : decode cX6_isDigit 1 = .ok (.bipush 48, 2) := by decide +kernel
theorem dX6_isDigit_3 : decode cX6_isDigit 3 = .ok (.if_icmp .lt 13, 3) := by decide +kernel
theorem dX6_isDigit_6 : decode cX6_isDigit 6 = .ok (.iload_n 0, 1) := by decide +kernel
theorem dX6_isDigit_7 : decode cX6_isDigit 7 = .ok (.bipush 57, 2) := by decide +kernel
theorem dX6_isDigit_9 : decode cX6_isDigit 9 = .ok (.if_icmp .gt 7, 3) := by decide +kernel
theorem dX6_isDigit_12 : decode cX6_isDigit 12 = .ok (.iconst 1, 1) := by decide +kernel
theorem dX6_isDigit_13 : decode cX6_isDigit 13 = .ok (.goto 4, 3) := by decide +kernel
theorem dX6_isDigit_16 : decode cX6_isDigit 16 = .ok (.iconst 0, 1) := by decide +kernel
theorem dX6_isDigit_17 : decode cX6_isDigit 17 = .ok (.ireturn, 1) := by decide +kernel
end
section
theorem dX7_init_0 : decode cX7_init 0 = .ok (.aload_n 0, 1) := by decide +kernel
theorem dX7_init_1 : decode cX7_init 1 = .ok (.invokespecial 3, 3) := by decide +kernel
theorem dX7_init_4 : decode cX7_init 4 = .ok (.aload_n 0, 1) := by decide +kernel
theorem dX7_init_5 : decode cX7_init 5 = .ok (.new 9, 3) := by decide +kernel
theorem dX7_init_8 : decode cX7_init 8 = .ok (.dup, 1) := by decide +kernel
theorem dX7_init_9 : decode cX7_init 9 = .ok (.invokespecial 11, 3) := by decide +kernel
theorem dX7_init_12 : decode cX7_init 12 = .ok (.putfield 12, 3) := by decide +kernel
theorem dX7_init_15 : decode cX7_init 15 = .ok (.aload_n 0, 1) := by decide +kernel
theorem dX7_init_16 : decode cX7_init 16 = .ok (.iconst 0, 1) := by decide +kernel
theorem dX7_init_17 : decode cX7_init 17 = .ok (.putfield 18, 3) := by decide +kernel
theorem dX7_init_20 : decode cX7_init 20 = .ok (.aload_n 0, 1) := by decide +kernel
theorem dX7_init_21 : decode cX7_init 21 = .ok (.bipush (-2), 2) := by decide +kernel
theorem dX7_init_23 : decode cX7_init 23 = .ok (.putfield 22, 3) := by decide +kernel
theorem dX7_init_26 : decode cX7_init 26 = .ok (.aload_n 0, 1) := by decide +kernel
theorem dX7_init_27 : decode cX7_init 27 = .ok (.iconst 0, 1) := by decide +kernel
theorem dX7_init_28 : decode cX7_init 28 = .ok (.putfield 25, 3) := by decide +kernel
theorem dX7_init_31 : decode cX7_init 31 = .ok (.aload_n 0, 1) := by decide +kernel
theorem dX7_init_32 : decode cX7_init 32 = .ok (.iconst 0, 1) := by decide +kernel
theorem dX7_init_33 : decode cX7_init 33 = .ok (.putfield 28, 3) := by decide +kernel
theorem dX7_init_36 : decode cX7_init 36 = .ok (.aload_n 0, 1) := by decide +kernel
theorem dX7_init_37 : decode cX7_init 37 = .ok (.iconst 0, 1) := by decide +kernel
theorem dX7_init_38 : decode cX7_init 38 = .ok (.putfield 31, 3) := by decide +kernel
theorem dX7_init_41 : decode cX7_init 41 = .ok (.aload_n 0, 1) := by decide +kernel
theorem dX7_init_42 : decode cX7_init 42 = .ok (.iconst 0, 1) := by decide +kernel
theorem dX7_init_43 : decode cX7_init 43 = .ok (.putfield 34, 3) := by decide +kernel
theorem dX7_init_46 : decode cX7_init 46 = .ok (.aload_n 0, 1) := by decide +kernel
theorem dX7_init_47 : decode cX7_init 47 = .ok (.iconst 0, 1) := by decide +kernel
theorem dX7_init_48 : decode cX7_init 48 = .ok (.putfield 37, 3) := by decide +kernel
theorem dX7_init_51 : decode cX7_init 51 = .ok (.return_, 1) := by decide +kernel
theorem dX7_readText_0 : decode cX7_readText 0 = .ok (.aload_n 0, 1) := by decide +kernel
theorem dX7_readText_1 : decode cX7_readText 1 = .ok (.getfield 12, 3) := by decide +kernel
theorem dX7_readText_4 : decode cX7_readText 4 = .ok (.invokevirtual 40, 3) := by decide +kernel
theorem dX7_readText_7 : decode cX7_readText 7 = .ok (.aload_n 1, 1) := by decide +kernel
theorem dX7_readText_8 : decode cX7_readText 8 = .ok (.invokevirtual 43, 3) := by decide +kernel
theorem dX7_readText_11 : decode cX7_readText 11 = .ok (.aload_n 0, 1) := by decide +kernel
theorem dX7_readText_12 : decode cX7_readText 12 = .ok (.iconst 0, 1) := by decide +kernel
theorem dX7_readText_13 : decode cX7_readText 13 = .ok (.putfield 18, 3) := by decide +kernel
theorem dX7_readText_16 : decode cX7_readText 16 = .ok (.aload_n 0, 1) := by decide +kernel
theorem dX7_readText_17 : decode cX7_readText 17 = .ok (.iconst 0, 1) := by decide +kernel
theorem dX7_readText_18 : decode cX7_readText 18 = .ok (.putfield 31, 3) := by decide +kernel
theorem dX7_readText_21 : decode cX7_readText 21 = .ok (.aload_n 0, 1) := by decide +kernel
theorem dX7_readText_22 : decode cX7_readText 22 = .ok (.iconst 0, 1) := by decide +kernel
theorem dX7_readText_23 : decode cX7_readText 23 = .ok (.putfield 34, 3) := by decide +kernel
theorem dX7_readText_26 : decode cX7_readText 26 = .ok (.aload_n 0, 1) := by decide +kernel
theorem dX7_readText_27 : decode cX7_readText 27 = .ok (.invokevirtual 48, 3) := by decide +kernel
theorem dX7_readText_30 : decode cX7_readText 30 = .ok (.aload_n 0, 1) := by decide +kernel
theorem dX7_readText_31 : decode cX7_readText 31 = .ok (.aload_n 1, 1) := by decide +kernel
theorem dX7_readText_32 : decode cX7_readText 32 = .ok (.invokevirtual 51, 3) := by decide +kernel
theorem dX7_readText_35 : decode cX7_readText 35 = .ok (.ifCond .eq 38, 3) := by decide +kernel
theorem dX7_readText_38 : decode cX7_readText 38 = .ok (.aload_n 0, 1) := by decide +kernel
theorem dX7_readText_39 : decode cX7_readText 39 = .ok (.aload_n 1, 1) := by decide +kernel
theorem dX7_readText_40 : decode cX7_readText 40 = .ok (.invokevirtual 55, 3) := by decide +kernel
theorem dX7_readText_43 : decode cX7_readText 43 = .ok (.ifCond .eq 30, 3) := by decide +kernel
theorem dX7_readText_46 : decode cX7_readText 46 = .ok (.aload_n 0, 1) := by decide +kernel
theorem dX7_readText_47 : decode cX7_readText 47 = .ok (.aload_n 1, 1) := by decide +kernel
theorem dX7_readText_48 : decode cX7_readText 48 = .ok (.invokevirtual 58, 3) := by decide +kernel
theorem dX7_readText_51 : decode cX7_readText 51 = .ok (.ifCond .eq 22, 3) := by decide +kernel
theorem dX7_readText_54 : decode cX7_readText 54 = .ok (.aload_n 0, 1) := by decide +kernel
theorem dX7_readText_55 : decode cX7_readText 55 = .ok (.aload_n 1, 1) := by decide +kernel
theorem dX7_readText_56 : decode cX7_readText 56 = .ok (.invokevirtual 61, 3) := by decide +kernel
theorem dX7_readText_59 : decode cX7_readText 59 = .ok (.ifCond .eq 14, 3) := by decide +kernel
theorem dX7_readText_62 : decode cX7_readText 62 = .ok (.aload_n 0, 1) := by decide +kernel
theorem dX7_readText_63 : decode cX7_readText 63 = .ok (.invokevirtual 64, 3) := by decide +kernel
theorem dX7_readText_66 : decode cX7_readText 66 = .ok (.ifCond .eq 7, 3) := by decide +kernel
theorem dX7_readText_69 : decode cX7_readText 69 = .ok (.iconst 1, 1) := by decide +kernel
theorem dX7_readText_70 : decode cX7_readText 70 = .ok (.goto 4, 3) := by decide +kernel
theorem dX7_readText_73 : decode cX7_readText 73 = .ok (.iconst 0, 1) := by decide +kernel
theorem dX7_readText_74 : decode cX7_readText 74 = .ok (.ireturn, 1) := by decide +kernel
theorem dX7_readShelves_0 : decode cX7_readShelves 0 = .ok (.aload_n 0, 1) := by decide +kernel
theorem dX7_readShelves_1 : decode cX7_readShelves 1 = .ok (.bipush (-5), 2) := by decide +kernel
theorem dX7_readShelves_3 : decode cX7_readShelves 3 = .ok (.invokevirtual 68, 3) := by decide +kernel
theorem dX7_readShelves_6 : decode cX7_readShelves 6 = .ok (.ifCond .eq 13, 3) := by decide +kernel
theorem dX7_readShelves_9 : decode cX7_readShelves 9 = .ok (.aload_n 0, 1) := by decide +kernel
theorem dX7_readShelves_10 : decode cX7_readShelves 10 = .ok (.iconst 1, 1) := by decide +kernel
theorem dX7_readShelves_11 : decode cX7_readShelves 11 = .ok (.bipush 6, 2) := by decide +kernel
theorem dX7_readShelves_13 : decode cX7_readShelves 13 = .ok (.invokevirtual 72, 3) := by decide +kernel
theorem dX7_readShelves_16 : decode cX7_readShelves 16 = .ok (.ifCond .ne 5, 3) := by decide +kernel
theorem dX7_readShelves_19 : decode cX7_readShelves 19 = .ok (.iconst 0, 1) := by decide +kernel
theorem dX7_readShelves_20 : decode cX7_readShelves 20 = .ok (.ireturn, 1) := by decide +kernel
theorem dX7_readShelves_21 : decode cX7_readShelves 21 = .ok (.aload_n 1, 1) := by decide +kernel
theorem dX7_readShelves_22 : decode cX7_readShelves 22 = .ok (.aload_n 0, 1) := by decide +kernel
theorem dX7_readShelves_23 : decode cX7_readShelves 23 = .ok (.getfield 28, 3) := by decide +kernel
theorem dX7_readShelves_26 : decode cX7_readShelves 26 = .ok (.putfield 76, 3) := by decide +kernel
theorem dX7_readShelves_29 : decode cX7_readShelves 29 = .ok (.aload_n 0, 1) := by decide +kernel
theorem dX7_readShelves_30 : decode cX7_readShelves 30 = .ok (.invokevirtual 79, 3) := by decide +kernel
theorem dX7_readShelves_33 : decode cX7_readShelves 33 = .ok (.ireturn, 1) := by decide +kernel
theorem dX7_readItems_0 : decode cX7_readItems 0 = .ok (.iconst 0, 1) := by decide +kernel
theorem dX7_readItems_1 : decode cX7_readItems 1 = .ok (.istore_n 2, 1) := by decide +kernel
theorem dX7_readItems_2 : decode cX7_readItems 2 = .ok (.iload_n 2, 1) := by decide +kernel
theorem dX7_readItems_3 : decode cX7_readItems 3 = .ok (.iconst 5, 1) := by decide +kernel
theorem dX7_readItems_4 : decode cX7_readItems 4 = .ok (.if_icmp .gt 42, 3) := by decide +kernel
theorem dX7_readItems_7 : decode cX7_readItems 7 = .ok (.aload_n 0, 1) := by decide +kernel
theorem dX7_readItems_8 : decode cX7_readItems 8 = .ok (.getfield 22, 3) := by decide +kernel
theorem dX7_readItems_11 : decode cX7_readItems 11 = .ok (.bipush (-6), 2) := by decide +kernel
theorem dX7_readItems_13 : decode cX7_readItems 13 = .ok (.if_icmp .ne 33, 3) := by decide +kernel
theorem dX7_readItems_16 : decode cX7_readItems 16 = .ok (.aload_n 1, 1) := by decide +kernel
theorem dX7_readItems_17 : decode cX7_readItems 17 = .ok (.getfield 82, 3) := by decide +kernel
theorem dX7_readItems_20 : decode cX7_readItems 20 = .ok (.iconst 5, 1) := by decide +kernel
theorem dX7_readItems_21 : decode cX7_readItems 21 = .ok (.if_icmp .lt 9, 3) := by decide +kernel
theorem dX7_readItems_24 : decode cX7_readItems 24 = .ok (.aload_n 0, 1) := by decide +kernel
theorem dX7_readItems_25 : decode cX7_readItems 25 = .ok (.iconst 3, 1) := by decide +kernel
theorem dX7_readItems_26 : decode cX7_readItems 26 = .ok (.invokevirtual 85, 3) := by decide +kernel
theorem dX7_readItems_29 : decode cX7_readItems 29 = .ok (.ireturn, 1) := by decide +kernel
theorem dX7_readItems_30 : decode cX7_readItems 30 = .ok (.aload_n 0, 1) := by decide +kernel
theorem dX7_readItems_31 : decode cX7_readItems 31 = .ok (.aload_n 1, 1) := by decide +kernel
theorem dX7_readItems_32 : decode cX7_readItems 32 = .ok (.invokevirtual 88, 3) := by decide +kernel
theorem dX7_readItems_35 : decode cX7_readItems 35 = .ok (.ifCond .ne 5, 3) := by decide +kernel
theorem dX7_readItems_38 : decode cX7_readItems 38 = .ok (.iconst 0, 1) := by decide +kernel
theorem dX7_readItems_39 : decode cX7_readItems 39 = .ok (.ireturn, 1) := by decide +kernel
theorem dX7_readItems_40 : decode cX7_readItems 40 = .ok (.iinc 2 1, 3) := by decide +kernel
theorem dX7_readItems_43 : decode cX7_readItems 43 = .ok (.goto (-41), 3) := by decide +kernel
theorem dX7_readItems_46 : decode cX7_readItems 46 = .ok (.iconst 1, 1) := by decide +kernel
theorem dX7_readItems_47 : decode cX7_readItems 47 = .ok (.ireturn, 1) := by decide +kernel
theorem dX7_readItem_0 : decode cX7_readItem 0 = .ok (.aload_n 0, 1) := by decide +kernel
theorem dX7_readItem_1 : decode cX7_readItem 1 = .ok (.bipush (-6), 2) := by decide +kernel
theorem dX7_readItem_3 : decode cX7_readItem 3 = .ok (.invokevirtual 68, 3) := by decide +kernel
theorem dX7_readItem_6 : decode cX7_readItem 6 = .ok (.ifCond .eq 13, 3) := by decide +kernel
theorem dX7_readItem_9 : decode cX7_readItem 9 = .ok (.aload_n 0, 1) := by decide +kernel
theorem dX7_readItem_10 : decode cX7_readItem 10 = .ok (.iconst 0, 1) := by decide +kernel
theorem dX7_readItem_11 : decode cX7_readItem 11 = .ok (.bipush 99, 2) := by decide +kernel
theorem dX7_readItem_13 : decode cX7_readItem 13 = .ok (.invokevirtual 72, 3) := by decide +kernel
theorem dX7_readItem_16 : decode cX7_readItem 16 = .ok (.ifCond .ne 5, 3) := by decide +kernel
theorem dX7_readItem_19 : decode cX7_readItem 19 = .ok (.iconst 0, 1) := by decide +kernel
theorem dX7_readItem_20 : decode cX7_readItem 20 = .ok (.ireturn, 1) := by decide +kernel
theorem dX7_readItem_21 : decode cX7_readItem 21 = .ok (.aload_n 0, 1) := by decide +kernel
theorem dX7_readItem_22 : decode cX7_readItem 22 = .ok (.getfield 28, 3) := by decide +kernel
theorem dX7_readItem_25 : decode cX7_readItem 25 = .ok (.istore_n 2, 1) := by decide +kernel
theorem dX7_readItem_26 : decode cX7_readItem 26 = .ok (.aload_n 0, 1) := by decide +kernel
theorem dX7_readItem_27 : decode cX7_readItem 27 = .ok (.iconst 0, 1) := by decide +kernel
theorem dX7_readItem_28 : decode cX7_readItem 28 = .ok (.bipush 99, 2) := by decide +kernel
theorem dX7_readItem_30 : decode cX7_readItem 30 = .ok (.invokevirtual 72, 3) := by decide +kernel
theorem dX7_readItem_33 : decode cX7_readItem 33 = .ok (.ifCond .ne 5, 3) := by decide +kernel
theorem dX7_readItem_36 : decode cX7_readItem 36 = .ok (.iconst 0, 1) := by decide +kernel
theorem dX7_readItem_37 : decode cX7_readItem 37 = .ok (.ireturn, 1) := by decide +kernel
theorem dX7_readItem_38 : decode cX7_readItem 38 = .ok (.aload_n 1, 1) := by decide +kernel
theorem dX7_readItem_39 : decode cX7_readItem 39 = .ok (.iload_n 2, 1) := by decide +kernel
theorem dX7_readItem_40 : decode cX7_readItem 40 = .ok (.aload_n 0, 1) := by decide +kernel
theorem dX7_readItem_41 : decode cX7_readItem 41 = .ok (.getfield 28, 3) := by decide +kernel
theorem dX7_readItem_44 : decode cX7_readItem 44 = .ok (.invokevirtual 91, 3) := by decide +kernel
theorem dX7_readItem_47 : decode cX7_readItem 47 = .ok (.aload_n 0, 1) := by decide +kernel
theorem dX7_readItem_48 : decode cX7_readItem 48 = .ok (.invokevirtual 79, 3) := by decide +kernel
theorem dX7_readItem_51 : decode cX7_readItem 51 = .ok (.ireturn, 1) := by decide +kernel
theorem dX7_readStocks_0 : decode cX7_readStocks 0 = .ok (.iconst 0, 1) := by decide +kernel
theorem dX7_readStocks_1 : decode cX7_readStocks 1 = .ok (.istore_n 2, 1) := by decide +kernel
theorem dX7_readStocks_2 : decode cX7_readStocks 2 = .ok (.iload_n 2, 1) := by decide +kernel
theorem dX7_readStocks_3 : decode cX7_readStocks 3 = .ok (.bipush 30, 2) := by decide +kernel
theorem dX7_readStocks_5 : decode cX7_readStocks 5 = .ok (.if_icmp .gt 28, 3) := by decide +kernel
theorem dX7_readStocks_8 : decode cX7_readStocks 8 = .ok (.aload_n 0, 1) := by decide +kernel
theorem dX7_readStocks_9 : decode cX7_readStocks 9 = .ok (.getfield 22, 3) := by decide +kernel
theorem dX7_readStocks_12 : decode cX7_readStocks 12 = .ok (.bipush (-7), 2) := by decide +kernel
theorem dX7_readStocks_14 : decode cX7_readStocks 14 = .ok (.if_icmp .ne 19, 3) := by decide +kernel
theorem dX7_readStocks_17 : decode cX7_readStocks 17 = .ok (.aload_n 0, 1) := by decide +kernel
theorem dX7_readStocks_18 : decode cX7_readStocks 18 = .ok (.aload_n 1, 1) := by decide +kernel
theorem dX7_readStocks_19 : decode cX7_readStocks 19 = .ok (.invokevirtual 95, 3) := by decide +kernel
theorem dX7_readStocks_22 : decode cX7_readStocks 22 = .ok (.ifCond .ne 5, 3) := by decide +kernel
theorem dX7_readStocks_25 : decode cX7_readStocks 25 = .ok (.iconst 0, 1) := by decide +kernel
theorem dX7_readStocks_26 : decode cX7_readStocks 26 = .ok (.ireturn, 1) := by decide +kernel
theorem dX7_readStocks_27 : decode cX7_readStocks 27 = .ok (.iinc 2 1, 3) := by decide +kernel
theorem dX7_readStocks_30 : decode cX7_readStocks 30 = .ok (.goto (-28), 3) := by decide +kernel
theorem dX7_readStocks_33 : decode cX7_readStocks 33 = .ok (.iconst 1, 1) := by decide +kernel
theorem dX7_readStocks_34 : decode cX7_readStocks 34 = .ok (.ireturn, 1) := by decide +kernel
theorem dX7_readStock_0 : decode cX7_readStock 0 = .ok (.aload_n 0, 1) := by decide +kernel
theorem dX7_readStock_1 : decode cX7_readStock 1 = .ok (.bipush (-7), 2) := by decide +kernel
theorem dX7_readStock_3 : decode cX7_readStock 3 = .ok (.invokevirtual 68, 3) := by decide +kernel
theorem dX7_readStock_6 : decode cX7_readStock 6 = .ok (.ifCond .eq 17, 3) := by decide +kernel
theorem dX7_readStock_9 : decode cX7_readStock 9 = .ok (.aload_n 0, 1) := by decide +kernel
theorem dX7_readStock_10 : decode cX7_readStock 10 = .ok (.iconst 0, 1) := by decide +kernel
theorem dX7_readStock_11 : decode cX7_readStock 11 = .ok (.aload_n 1, 1) := by decide +kernel
theorem dX7_readStock_12 : decode cX7_readStock 12 = .ok (.getfield 76, 3) := by decide +kernel
theorem dX7_readStock_15 : decode cX7_readStock 15 = .ok (.iconst 1, 1) := by decide +kernel
theorem dX7_readStock_16 : decode cX7_readStock 16 = .ok (.isub, 1) := by decide +kernel
theorem dX7_readStock_17 : decode cX7_readStock 17 = .ok (.invokevirtual 72, 3) := by decide +kernel
theorem dX7_readStock_20 : decode cX7_readStock 20 = .ok (.ifCond .ne 5, 3) := by decide +kernel
theorem dX7_readStock_23 : decode cX7_readStock 23 = .ok (.iconst 0, 1) := by decide +kernel
theorem dX7_readStock_24 : decode cX7_readStock 24 = .ok (.ireturn, 1) := by decide +kernel
theorem dX7_readStock_25 : decode cX7_readStock 25 = .ok (.aload_n 0, 1) := by decide +kernel
theorem dX7_readStock_26 : decode cX7_readStock 26 = .ok (.getfield 28, 3) := by decide +kernel
theorem dX7_readStock_29 : decode cX7_readStock 29 = .ok (.istore_n 2, 1) := by decide +kernel
theorem dX7_readStock_30 : decode cX7_readStock 30 = .ok (.aload_n 1, 1) := by decide +kernel
theorem dX7_readStock_31 : decode cX7_readStock 31 = .ok (.iload_n 2, 1) := by decide +kernel
theorem dX7_readStock_32 : decode cX7_readStock 32 = .ok (.aload_n 0, 1) := by decide +kernel
theorem dX7_readStock_33 : decode cX7_readStock 33 = .ok (.getfield 22, 3) := by decide +kernel
theorem dX7_readStock_36 : decode cX7_readStock 36 = .ok (.invokevirtual 98, 3) := by decide +kernel
theorem dX7_readStock_39 : decode cX7_readStock 39 = .ok (.ifCond .eq 9, 3) := by decide +kernel
theorem dX7_readStock_42 : decode cX7_readStock 42 = .ok (.aload_n 0, 1) := by decide +kernel
theorem dX7_readStock_43 : decode cX7_readStock 43 = .ok (.iconst 2, 1) := by decide +kernel
theorem dX7_readStock_44 : decode cX7_readStock 44 = .ok (.invokevirtual 85, 3) := by decide +kernel
theorem dX7_readStock_47 : decode cX7_readStock 47 = .ok (.ireturn, 1) := by decide +kernel
theorem dX7_readStock_48 : decode cX7_readStock 48 = .ok (.aload_n 0, 1) := by decide +kernel
theorem dX7_readStock_49 : decode cX7_readStock 49 = .ok (.iconst 0, 1) := by decide +kernel
theorem dX7_readStock_50 : decode cX7_readStock 50 = .ok (.aload_n 1, 1) := by decide +kernel
theorem dX7_readStock_51 : decode cX7_readStock 51 = .ok (.getfield 82, 3) := by decide +kernel
theorem dX7_readStock_54 : decode cX7_readStock 54 = .ok (.iconst 1, 1) := by decide +kernel
theorem dX7_readStock_55 : decode cX7_readStock 55 = .ok (.isub, 1) := by decide +kernel
theorem dX7_readStock_56 : decode cX7_readStock 56 = .ok (.invokevirtual 72, 3) := by decide +kernel
theorem dX7_readStock_59 : decode cX7_readStock 59 = .ok (.ifCond .ne 5, 3) := by decide +kernel
theorem dX7_readStock_62 : decode cX7_readStock 62 = .ok (.iconst 0, 1) := by decide +kernel
theorem dX7_readStock_63 : decode cX7_readStock 63 = .ok (.ireturn, 1) := by decide +kernel
theorem dX7_readStock_64 : decode cX7_readStock 64 = .ok (.aload_n 0, 1) := by decide +kernel
theorem dX7_readStock_65 : decode cX7_readStock 65 = .ok (.getfield 28, 3) := by decide +kernel
theorem dX7_readStock_68 : decode cX7_readStock 68 = .ok (.istore_n 3, 1) := by decide +kernel
theorem dX7_readStock_69 : decode cX7_readStock 69 = .ok (.aload_n 0, 1) := by decide +kernel
theorem dX7_readStock_70 : decode cX7_readStock 70 = .ok (.iconst 0, 1) := by decide +kernel
theorem dX7_readStock_71 : decode cX7_readStock 71 = .ok (.sipush 999, 3) := by decide +kernel
theorem dX7_readStock_74 : decode cX7_readStock 74 = .ok (.invokevirtual 72, 3) := by decide +kernel
theorem dX7_readStock_77 : decode cX7_readStock 77 = .ok (.ifCond .ne 5, 3) := by decide +kernel
theorem dX7_readStock_80 : decode cX7_readStock 80 = .ok (.iconst 0, 1) := by decide +kernel
theorem dX7_readStock_81 : decode cX7_readStock 81 = .ok (.ireturn, 1) := by decide +kernel
theorem dX7_readStock_82 : decode cX7_readStock 82 = .ok (.aload_n 1, 1) := by decide +kernel
theorem dX7_readStock_83 : decode cX7_readStock 83 = .ok (.iload_n 2, 1) := by decide +kernel
theorem dX7_readStock_84 : decode cX7_readStock 84 = .ok (.iload_n 3, 1) := by decide +kernel
theorem dX7_readStock_85 : decode cX7_readStock 85 = .ok (.aload_n 0, 1) := by decide +kernel
theorem dX7_readStock_86 : decode cX7_readStock 86 = .ok (.getfield 28, 3) := by decide +kernel
theorem dX7_readStock_89 : decode cX7_readStock 89 = .ok (.invokevirtual 101, 3) := by decide +kernel
theorem dX7_readStock_92 : decode cX7_readStock 92 = .ok (.aload_n 0, 1) := by decide +kernel
theorem dX7_readStock_93 : decode cX7_readStock 93 = .ok (.invokevirtual 79, 3) := by decide +kernel
theorem dX7_readStock_96 : decode cX7_readStock 96 = .ok (.ireturn, 1) := by decide +kernel
theorem dX7_readMoves_0 : decode cX7_readMoves 0 = .ok (.iconst 0, 1) := by decide +kernel
theorem dX7_readMoves_1 : decode cX7_readMoves 1 = .ok (.istore_n 2, 1) := by decide +kernel
theorem dX7_readMoves_2 : decode cX7_readMoves 2 = .ok (.iload_n 2, 1) := by decide +kernel
theorem dX7_readMoves_3 : decode cX7_readMoves 3 = .ok (.bipush 16, 2) := by decide +kernel
theorem dX7_readMoves_5 : decode cX7_readMoves 5 = .ok (.if_icmp .gt 43, 3) := by decide +kernel
theorem dX7_readMoves_8 : decode cX7_readMoves 8 = .ok (.aload_n 0, 1) := by decide +kernel
theorem dX7_readMoves_9 : decode cX7_readMoves 9 = .ok (.getfield 22, 3) := by decide +kernel
theorem dX7_readMoves_12 : decode cX7_readMoves 12 = .ok (.bipush (-8), 2) := by decide +kernel
theorem dX7_readMoves_14 : decode cX7_readMoves 14 = .ok (.if_icmp .ne 34, 3) := by decide +kernel
theorem dX7_readMoves_17 : decode cX7_readMoves 17 = .ok (.aload_n 1, 1) := by decide +kernel
theorem dX7_readMoves_18 : decode cX7_readMoves 18 = .ok (.getfield 105, 3) := by decide +kernel
theorem dX7_readMoves_21 : decode cX7_readMoves 21 = .ok (.bipush 16, 2) := by decide +kernel
theorem dX7_readMoves_23 : decode cX7_readMoves 23 = .ok (.if_icmp .lt 9, 3) := by decide +kernel
theorem dX7_readMoves_26 : decode cX7_readMoves 26 = .ok (.aload_n 0, 1) := by decide +kernel
theorem dX7_readMoves_27 : decode cX7_readMoves 27 = .ok (.iconst 3, 1) := by decide +kernel
theorem dX7_readMoves_28 : decode cX7_readMoves 28 = .ok (.invokevirtual 85, 3) := by decide +kernel
theorem dX7_readMoves_31 : decode cX7_readMoves 31 = .ok (.ireturn, 1) := by decide +kernel
theorem dX7_readMoves_32 : decode cX7_readMoves 32 = .ok (.aload_n 0, 1) := by decide +kernel
theorem dX7_readMoves_33 : decode cX7_readMoves 33 = .ok (.aload_n 1, 1) := by decide +kernel
theorem dX7_readMoves_34 : decode cX7_readMoves 34 = .ok (.invokevirtual 108, 3) := by decide +kernel
theorem dX7_readMoves_37 : decode cX7_readMoves 37 = .ok (.ifCond .ne 5, 3) := by decide +kernel
theorem dX7_readMoves_40 : decode cX7_readMoves 40 = .ok (.iconst 0, 1) := by decide +kernel
theorem dX7_readMoves_41 : decode cX7_readMoves 41 = .ok (.ireturn, 1) := by decide +kernel
theorem dX7_readMoves_42 : decode cX7_readMoves 42 = .ok (.iinc 2 1, 3) := by decide +kernel
theorem dX7_readMoves_45 : decode cX7_readMoves 45 = .ok (.goto (-43), 3) := by decide +kernel
theorem dX7_readMoves_48 : decode cX7_readMoves 48 = .ok (.iconst 1, 1) := by decide +kernel
theorem dX7_readMoves_49 : decode cX7_readMoves 49 = .ok (.ireturn, 1) := by decide +kernel
theorem dX7_readMove_0 : decode cX7_readMove 0 = .ok (.aload_n 0, 1) := by decide +kernel
theorem dX7_readMove_1 : decode cX7_readMove 1 = .ok (.bipush (-8), 2) := by decide +kernel
theorem dX7_readMove_3 : decode cX7_readMove 3 = .ok (.invokevirtual 68, 3) := by decide +kernel
theorem dX7_readMove_6 : decode cX7_readMove 6 = .ok (.ifCond .eq 17, 3) := by decide +kernel
theorem dX7_readMove_9 : decode cX7_readMove 9 = .ok (.aload_n 0, 1) := by decide +kernel
theorem dX7_readMove_10 : decode cX7_readMove 10 = .ok (.iconst 0, 1) := by decide +kernel
theorem dX7_readMove_11 : decode cX7_readMove 11 = .ok (.aload_n 1, 1) := by decide +kernel
theorem dX7_readMove_12 : decode cX7_readMove 12 = .ok (.getfield 82, 3) := by decide +kernel
theorem dX7_readMove_15 : decode cX7_readMove 15 = .ok (.iconst 1, 1) := by decide +kernel
theorem dX7_readMove_16 : decode cX7_readMove 16 = .ok (.isub, 1) := by decide +kernel
theorem dX7_readMove_17 : decode cX7_readMove 17 = .ok (.invokevirtual 72, 3) := by decide +kernel
theorem dX7_readMove_20 : decode cX7_readMove 20 = .ok (.ifCond .ne 5, 3) := by decide +kernel
theorem dX7_readMove_23 : decode cX7_readMove 23 = .ok (.iconst 0, 1) := by decide +kernel
theorem dX7_readMove_24 : decode cX7_readMove 24 = .ok (.ireturn, 1) := by decide +kernel
theorem dX7_readMove_25 : decode cX7_readMove 25 = .ok (.aload_n 0, 1) := by decide +kernel
theorem dX7_readMove_26 : decode cX7_readMove 26 = .ok (.getfield 28, 3) := by decide +kernel
theorem dX7_readMove_29 : decode cX7_readMove 29 = .ok (.istore_n 2, 1) := by decide +kernel
theorem dX7_readMove_30 : decode cX7_readMove 30 = .ok (.aload_n 0, 1) := by decide +kernel
theorem dX7_readMove_31 : decode cX7_readMove 31 = .ok (.iconst 1, 1) := by decide +kernel
theorem dX7_readMove_32 : decode cX7_readMove 32 = .ok (.bipush 99, 2) := by decide +kernel
theorem dX7_readMove_34 : decode cX7_readMove 34 = .ok (.invokevirtual 72, 3) := by decide +kernel
theorem dX7_readMove_37 : decode cX7_readMove 37 = .ok (.ifCond .ne 5, 3) := by decide +kernel
theorem dX7_readMove_40 : decode cX7_readMove 40 = .ok (.iconst 0, 1) := by decide +kernel
theorem dX7_readMove_41 : decode cX7_readMove 41 = .ok (.ireturn, 1) := by decide +kernel
theorem dX7_readMove_42 : decode cX7_readMove 42 = .ok (.aload_n 1, 1) := by decide +kernel
theorem dX7_readMove_43 : decode cX7_readMove 43 = .ok (.iload_n 2, 1) := by decide +kernel
theorem dX7_readMove_44 : decode cX7_readMove 44 = .ok (.aload_n 0, 1) := by decide +kernel
theorem dX7_readMove_45 : decode cX7_readMove 45 = .ok (.getfield 28, 3) := by decide +kernel
theorem dX7_readMove_48 : decode cX7_readMove 48 = .ok (.invokevirtual 111, 3) := by decide +kernel
theorem dX7_readMove_51 : decode cX7_readMove 51 = .ok (.istore_n 3, 1) := by decide +kernel
theorem dX7_readMove_52 : decode cX7_readMove 52 = .ok (.aload_n 0, 1) := by decide +kernel
theorem dX7_readMove_53 : decode cX7_readMove 53 = .ok (.getfield 22, 3) := by decide +kernel
theorem dX7_readMove_56 : decode cX7_readMove 56 = .ok (.bipush (-9), 2) := by decide +kernel
theorem dX7_readMove_58 : decode cX7_readMove 58 = .ok (.if_icmp .ne 20, 3) := by decide +kernel
theorem dX7_readMove_61 : decode cX7_readMove 61 = .ok (.aload_n 0, 1) := by decide +kernel
theorem dX7_readMove_62 : decode cX7_readMove 62 = .ok (.aload_n 1, 1) := by decide +kernel
theorem dX7_readMove_63 : decode cX7_readMove 63 = .ok (.bipush (-9), 2) := by decide +kernel
theorem dX7_readMove_65 : decode cX7_readMove 65 = .ok (.iload_n 3, 1) := by decide +kernel
theorem dX7_readMove_66 : decode cX7_readMove 66 = .ok (.iconst 0, 1) := by decide +kernel
theorem dX7_readMove_67 : decode cX7_readMove 67 = .ok (.invokestatic 115, 3) := by decide +kernel
theorem dX7_readMove_70 : decode cX7_readMove 70 = .ok (.invokevirtual 118, 3) := by decide +kernel
theorem dX7_readMove_73 : decode cX7_readMove 73 = .ok (.ifCond .ne 5, 3) := by decide +kernel
theorem dX7_readMove_76 : decode cX7_readMove 76 = .ok (.iconst 0, 1) := by decide +kernel
theorem dX7_readMove_77 : decode cX7_readMove 77 = .ok (.ireturn, 1) := by decide +kernel
theorem dX7_readMove_78 : decode cX7_readMove 78 = .ok (.aload_n 0, 1) := by decide +kernel
theorem dX7_readMove_79 : decode cX7_readMove 79 = .ok (.getfield 22, 3) := by decide +kernel
theorem dX7_readMove_82 : decode cX7_readMove 82 = .ok (.bipush (-10), 2) := by decide +kernel
theorem dX7_readMove_84 : decode cX7_readMove 84 = .ok (.if_icmp .ne 20, 3) := by decide +kernel
theorem dX7_readMove_87 : decode cX7_readMove 87 = .ok (.aload_n 0, 1) := by decide +kernel
theorem dX7_readMove_88 : decode cX7_readMove 88 = .ok (.aload_n 1, 1) := by decide +kernel
theorem dX7_readMove_89 : decode cX7_readMove 89 = .ok (.bipush (-10), 2) := by decide +kernel
theorem dX7_readMove_91 : decode cX7_readMove 91 = .ok (.iload_n 3, 1) := by decide +kernel
theorem dX7_readMove_92 : decode cX7_readMove 92 = .ok (.iconst 1, 1) := by decide +kernel
theorem dX7_readMove_93 : decode cX7_readMove 93 = .ok (.invokestatic 115, 3) := by decide +kernel
theorem dX7_readMove_96 : decode cX7_readMove 96 = .ok (.invokevirtual 118, 3) := by decide +kernel
theorem dX7_readMove_99 : decode cX7_readMove 99 = .ok (.ifCond .ne 5, 3) := by decide +kernel
theorem dX7_readMove_102 : decode cX7_readMove 102 = .ok (.iconst 0, 1) := by decide +kernel
theorem dX7_readMove_103 : decode cX7_readMove 103 = .ok (.ireturn, 1) := by decide +kernel
theorem dX7_readMove_104 : decode cX7_readMove 104 = .ok (.aload_n 0, 1) := by decide +kernel
theorem dX7_readMove_105 : decode cX7_readMove 105 = .ok (.invokevirtual 79, 3) := by decide +kernel
theorem dX7_readMove_108 : decode cX7_readMove 108 = .ok (.ireturn, 1) := by decide +kernel
theorem dX7_readLeg_0 : decode cX7_readLeg 0 = .ok (.aload_n 0, 1) := by decide +kernel
theorem dX7_readLeg_1 : decode cX7_readLeg 1 = .ok (.iload_n 2, 1) := by decide +kernel
theorem dX7_readLeg_2 : decode cX7_readLeg 2 = .ok (.invokevirtual 68, 3) := by decide +kernel
theorem dX7_readLeg_5 : decode cX7_readLeg 5 = .ok (.ifCond .eq 17, 3) := by decide +kernel
theorem dX7_readLeg_8 : decode cX7_readLeg 8 = .ok (.aload_n 0, 1) := by decide +kernel
theorem dX7_readLeg_9 : decode cX7_readLeg 9 = .ok (.iconst 0, 1) := by decide +kernel
theorem dX7_readLeg_10 : decode cX7_readLeg 10 = .ok (.aload_n 1, 1) := by decide +kernel
theorem dX7_readLeg_11 : decode cX7_readLeg 11 = .ok (.getfield 76, 3) := by decide +kernel
theorem dX7_readLeg_14 : decode cX7_readLeg 14 = .ok (.iconst 1, 1) := by decide +kernel
theorem dX7_readLeg_15 : decode cX7_readLeg 15 = .ok (.isub, 1) := by decide +kernel
theorem dX7_readLeg_16 : decode cX7_readLeg 16 = .ok (.invokevirtual 72, 3) := by decide +kernel
theorem dX7_readLeg_19 : decode cX7_readLeg 19 = .ok (.ifCond .ne 5, 3) := by decide +kernel
theorem dX7_readLeg_22 : decode cX7_readLeg 22 = .ok (.iconst 0, 1) := by decide +kernel
theorem dX7_readLeg_23 : decode cX7_readLeg 23 = .ok (.ireturn, 1) := by decide +kernel
theorem dX7_readLeg_24 : decode cX7_readLeg 24 = .ok (.aload_n 0, 1) := by decide +kernel
theorem dX7_readLeg_25 : decode cX7_readLeg 25 = .ok (.getfield 28, 3) := by decide +kernel
theorem dX7_readLeg_28 : decode cX7_readLeg 28 = .ok (.istore 4, 2) := by decide +kernel
theorem dX7_readLeg_30 : decode cX7_readLeg 30 = .ok (.aload_n 0, 1) := by decide +kernel
theorem dX7_readLeg_31 : decode cX7_readLeg 31 = .ok (.iconst 0, 1) := by decide +kernel
theorem dX7_readLeg_32 : decode cX7_readLeg 32 = .ok (.sipush 999, 3) := by decide +kernel
theorem dX7_readLeg_35 : decode cX7_readLeg 35 = .ok (.invokevirtual 72, 3) := by decide +kernel
theorem dX7_readLeg_38 : decode cX7_readLeg 38 = .ok (.ifCond .ne 5, 3) := by decide +kernel
theorem dX7_readLeg_41 : decode cX7_readLeg 41 = .ok (.iconst 0, 1) := by decide +kernel
theorem dX7_readLeg_42 : decode cX7_readLeg 42 = .ok (.ireturn, 1) := by decide +kernel
theorem dX7_readLeg_43 : decode cX7_readLeg 43 = .ok (.aload_n 0, 1) := by decide +kernel
theorem dX7_readLeg_44 : decode cX7_readLeg 44 = .ok (.getfield 28, 3) := by decide +kernel
theorem dX7_readLeg_47 : decode cX7_readLeg 47 = .ok (.istore 5, 2) := by decide +kernel
theorem dX7_readLeg_49 : decode cX7_readLeg 49 = .ok (.aload_n 0, 1) := by decide +kernel
theorem dX7_readLeg_50 : decode cX7_readLeg 50 = .ok (.iload 5, 2) := by decide +kernel
theorem dX7_readLeg_52 : decode cX7_readLeg 52 = .ok (.sipush 999, 3) := by decide +kernel
theorem dX7_readLeg_55 : decode cX7_readLeg 55 = .ok (.invokevirtual 72, 3) := by decide +kernel
theorem dX7_readLeg_58 : decode cX7_readLeg 58 = .ok (.ifCond .ne 5, 3) := by decide +kernel
theorem dX7_readLeg_61 : decode cX7_readLeg 61 = .ok (.iconst 0, 1) := by decide +kernel
theorem dX7_readLeg_62 : decode cX7_readLeg 62 = .ok (.ireturn, 1) := by decide +kernel
theorem dX7_readLeg_63 : decode cX7_readLeg 63 = .ok (.aload_n 1, 1) := by decide +kernel
theorem dX7_readLeg_64 : decode cX7_readLeg 64 = .ok (.iload_n 3, 1) := by decide +kernel
theorem dX7_readLeg_65 : decode cX7_readLeg 65 = .ok (.iload 4, 2) := by decide +kernel
theorem dX7_readLeg_67 : decode cX7_readLeg 67 = .ok (.iload 5, 2) := by decide +kernel
theorem dX7_readLeg_69 : decode cX7_readLeg 69 = .ok (.aload_n 0, 1) := by decide +kernel
theorem dX7_readLeg_70 : decode cX7_readLeg 70 = .ok (.getfield 28, 3) := by decide +kernel
theorem dX7_readLeg_73 : decode cX7_readLeg 73 = .ok (.invokevirtual 122, 3) := by decide +kernel
theorem dX7_readLeg_76 : decode cX7_readLeg 76 = .ok (.iconst 1, 1) := by decide +kernel
theorem dX7_readLeg_77 : decode cX7_readLeg 77 = .ok (.ireturn, 1) := by decide +kernel
theorem dX7_readEnd_0 : decode cX7_readEnd 0 = .ok (.aload_n 0, 1) := by decide +kernel
theorem dX7_readEnd_1 : decode cX7_readEnd 1 = .ok (.getfield 22, 3) := by decide +kernel
theorem dX7_readEnd_4 : decode cX7_readEnd 4 = .ok (.bipush (-2), 2) := by decide +kernel
theorem dX7_readEnd_6 : decode cX7_readEnd 6 = .ok (.if_icmp .ne 16, 3) := by decide +kernel
theorem dX7_readEnd_9 : decode cX7_readEnd 9 = .ok (.aload_n 0, 1) := by decide +kernel
theorem dX7_readEnd_10 : decode cX7_readEnd 10 = .ok (.getfield 12, 3) := by decide +kernel
theorem dX7_readEnd_13 : decode cX7_readEnd 13 = .ok (.getfield 126, 3) := by decide +kernel
theorem dX7_readEnd_16 : decode cX7_readEnd 16 = .ok (.sipush 600, 3) := by decide +kernel
theorem dX7_readEnd_19 : decode cX7_readEnd 19 = .ok (.if_icmp .le 11, 3) := by decide +kernel
theorem dX7_readEnd_22 : decode cX7_readEnd 22 = .ok (.aload_n 0, 1) := by decide +kernel
theorem dX7_readEnd_23 : decode cX7_readEnd 23 = .ok (.iconst 1, 1) := by decide +kernel
theorem dX7_readEnd_24 : decode cX7_readEnd 24 = .ok (.invokevirtual 85, 3) := by decide +kernel
theorem dX7_readEnd_27 : decode cX7_readEnd 27 = .ok (.ifCond .eq 7, 3) := by decide +kernel
theorem dX7_readEnd_30 : decode cX7_readEnd 30 = .ok (.iconst 1, 1) := by decide +kernel
theorem dX7_readEnd_31 : decode cX7_readEnd 31 = .ok (.goto 4, 3) := by decide +kernel
theorem dX7_readEnd_34 : decode cX7_readEnd 34 = .ok (.iconst 0, 1) := by decide +kernel
theorem dX7_readEnd_35 : decode cX7_readEnd 35 = .ok (.ireturn, 1) := by decide +kernel
theorem dX7_takeLineEnd_0 : decode cX7_takeLineEnd 0 = .ok (.aload_n 0, 1) := by decide +kernel
theorem dX7_takeLineEnd_1 : decode cX7_takeLineEnd 1 = .ok (.dup, 1) := by decide +kernel
theorem dX7_takeLineEnd_2 : decode cX7_takeLineEnd 2 = .ok (.getfield 31, 3) := by decide +kernel
theorem dX7_takeLineEnd_5 : decode cX7_takeLineEnd 5 = .ok (.iconst 1, 1) := by decide +kernel
theorem dX7_takeLineEnd_6 : decode cX7_takeLineEnd 6 = .ok (.iadd, 1) := by decide +kernel
theorem dX7_takeLineEnd_7 : decode cX7_takeLineEnd 7 = .ok (.putfield 31, 3) := by decide +kernel
theorem dX7_takeLineEnd_10 : decode cX7_takeLineEnd 10 = .ok (.aload_n 0, 1) := by decide +kernel
theorem dX7_takeLineEnd_11 : decode cX7_takeLineEnd 11 = .ok (.bipush (-3), 2) := by decide +kernel
theorem dX7_takeLineEnd_13 : decode cX7_takeLineEnd 13 = .ok (.invokevirtual 68, 3) := by decide +kernel
theorem dX7_takeLineEnd_16 : decode cX7_takeLineEnd 16 = .ok (.ireturn, 1) := by decide +kernel
theorem dX7_take_0 : decode cX7_take 0 = .ok (.aload_n 0, 1) := by decide +kernel
theorem dX7_take_1 : decode cX7_take 1 = .ok (.getfield 22, 3) := by decide +kernel
theorem dX7_take_4 : decode cX7_take 4 = .ok (.iload_n 1, 1) := by decide +kernel
theorem dX7_take_5 : decode cX7_take 5 = .ok (.if_icmp .eq 9, 3) := by decide +kernel
theorem dX7_take_8 : decode cX7_take 8 = .ok (.aload_n 0, 1) := by decide +kernel
theorem dX7_take_9 : decode cX7_take 9 = .ok (.iconst 1, 1) := by decide +kernel
theorem dX7_take_10 : decode cX7_take 10 = .ok (.invokevirtual 85, 3) := by decide +kernel
theorem dX7_take_13 : decode cX7_take 13 = .ok (.ireturn, 1) := by decide +kernel
theorem dX7_take_14 : decode cX7_take 14 = .ok (.aload_n 0, 1) := by decide +kernel
theorem dX7_take_15 : decode cX7_take 15 = .ok (.invokevirtual 48, 3) := by decide +kernel
theorem dX7_take_18 : decode cX7_take 18 = .ok (.iconst 1, 1) := by decide +kernel
theorem dX7_take_19 : decode cX7_take 19 = .ok (.ireturn, 1) := by decide +kernel
theorem dX7_takeNumber_0 : decode cX7_takeNumber 0 = .ok (.aload_n 0, 1) := by decide +kernel
theorem dX7_takeNumber_1 : decode cX7_takeNumber 1 = .ok (.getfield 22, 3) := by decide +kernel
theorem dX7_takeNumber_4 : decode cX7_takeNumber 4 = .ok (.ifCond .ge 9, 3) := by decide +kernel
theorem dX7_takeNumber_7 : decode cX7_takeNumber 7 = .ok (.aload_n 0, 1) := by decide +kernel
theorem dX7_takeNumber_8 : decode cX7_takeNumber 8 = .ok (.iconst 1, 1) := by decide +kernel
theorem dX7_takeNumber_9 : decode cX7_takeNumber 9 = .ok (.invokevirtual 85, 3) := by decide +kernel
theorem dX7_takeNumber_12 : decode cX7_takeNumber 12 = .ok (.ireturn, 1) := by decide +kernel
theorem dX7_takeNumber_13 : decode cX7_takeNumber 13 = .ok (.aload_n 0, 1) := by decide +kernel
theorem dX7_takeNumber_14 : decode cX7_takeNumber 14 = .ok (.getfield 22, 3) := by decide +kernel
theorem dX7_takeNumber_17 : decode cX7_takeNumber 17 = .ok (.iload_n 1, 1) := by decide +kernel
theorem dX7_takeNumber_18 : decode cX7_takeNumber 18 = .ok (.if_icmp .lt 11, 3) := by decide +kernel
theorem dX7_takeNumber_21 : decode cX7_takeNumber 21 = .ok (.aload_n 0, 1) := by decide +kernel
theorem dX7_takeNumber_22 : decode cX7_takeNumber 22 = .ok (.getfield 22, 3) := by decide +kernel
theorem dX7_takeNumber_25 : decode cX7_takeNumber 25 = .ok (.iload_n 2, 1) := by decide +kernel
theorem dX7_takeNumber_26 : decode cX7_takeNumber 26 = .ok (.if_icmp .le 9, 3) := by decide +kernel
theorem dX7_takeNumber_29 : decode cX7_takeNumber 29 = .ok (.aload_n 0, 1) := by decide +kernel
theorem dX7_takeNumber_30 : decode cX7_takeNumber 30 = .ok (.iconst 2, 1) := by decide +kernel
theorem dX7_takeNumber_31 : decode cX7_takeNumber 31 = .ok (.invokevirtual 85, 3) := by decide +kernel
theorem dX7_takeNumber_34 : decode cX7_takeNumber 34 = .ok (.ireturn, 1) := by decide +kernel
theorem dX7_takeNumber_35 : decode cX7_takeNumber 35 = .ok (.aload_n 0, 1) := by decide +kernel
theorem dX7_takeNumber_36 : decode cX7_takeNumber 36 = .ok (.aload_n 0, 1) := by decide +kernel
theorem dX7_takeNumber_37 : decode cX7_takeNumber 37 = .ok (.getfield 22, 3) := by decide +kernel
theorem dX7_takeNumber_40 : decode cX7_takeNumber 40 = .ok (.putfield 28, 3) := by decide +kernel
theorem dX7_takeNumber_43 : decode cX7_takeNumber 43 = .ok (.aload_n 0, 1) := by decide +kernel
theorem dX7_takeNumber_44 : decode cX7_takeNumber 44 = .ok (.invokevirtual 48, 3) := by decide +kernel
theorem dX7_takeNumber_47 : decode cX7_takeNumber 47 = .ok (.iconst 1, 1) := by decide +kernel
theorem dX7_takeNumber_48 : decode cX7_takeNumber 48 = .ok (.ireturn, 1) := by decide +kernel
theorem dX7_advance_0 : decode cX7_advance 0 = .ok (.aload_n 0, 1) := by decide +kernel
theorem dX7_advance_1 : decode cX7_advance 1 = .ok (.getfield 18, 3) := by decide +kernel
theorem dX7_advance_4 : decode cX7_advance 4 = .ok (.aload_n 0, 1) := by decide +kernel
theorem dX7_advance_5 : decode cX7_advance 5 = .ok (.getfield 12, 3) := by decide +kernel
theorem dX7_advance_8 : decode cX7_advance 8 = .ok (.getfield 129, 3) := by decide +kernel
theorem dX7_advance_11 : decode cX7_advance 11 = .ok (.if_icmp .ge 60, 3) := by decide +kernel
theorem dX7_advance_14 : decode cX7_advance 14 = .ok (.aload_n 0, 1) := by decide +kernel
theorem dX7_advance_15 : decode cX7_advance 15 = .ok (.getfield 18, 3) := by decide +kernel
theorem dX7_advance_18 : decode cX7_advance 18 = .ok (.aload_n 0, 1) := by decide +kernel
theorem dX7_advance_19 : decode cX7_advance 19 = .ok (.getfield 12, 3) := by decide +kernel
theorem dX7_advance_22 : decode cX7_advance 22 = .ok (.getfield 132, 3) := by decide +kernel
theorem dX7_advance_25 : decode cX7_advance 25 = .ok (.arraylength, 1) := by decide +kernel
theorem dX7_advance_26 : decode cX7_advance 26 = .ok (.if_icmp .ge 45, 3) := by decide +kernel
theorem dX7_advance_29 : decode cX7_advance 29 = .ok (.aload_n 0, 1) := by decide +kernel
theorem dX7_advance_30 : decode cX7_advance 30 = .ok (.aload_n 0, 1) := by decide +kernel
theorem dX7_advance_31 : decode cX7_advance 31 = .ok (.getfield 12, 3) := by decide +kernel
theorem dX7_advance_34 : decode cX7_advance 34 = .ok (.getfield 132, 3) := by decide +kernel
theorem dX7_advance_37 : decode cX7_advance 37 = .ok (.aload_n 0, 1) := by decide +kernel
theorem dX7_advance_38 : decode cX7_advance 38 = .ok (.getfield 18, 3) := by decide +kernel
theorem dX7_advance_41 : decode cX7_advance 41 = .ok (.iaload, 1) := by decide +kernel
theorem dX7_advance_42 : decode cX7_advance 42 = .ok (.putfield 22, 3) := by decide +kernel
theorem dX7_advance_45 : decode cX7_advance 45 = .ok (.aload_n 0, 1) := by decide +kernel
theorem dX7_advance_46 : decode cX7_advance 46 = .ok (.aload_n 0, 1) := by decide +kernel
theorem dX7_advance_47 : decode cX7_advance 47 = .ok (.getfield 12, 3) := by decide +kernel
theorem dX7_advance_50 : decode cX7_advance 50 = .ok (.getfield 136, 3) := by decide +kernel
theorem dX7_advance_53 : decode cX7_advance 53 = .ok (.aload_n 0, 1) := by decide +kernel
theorem dX7_advance_54 : decode cX7_advance 54 = .ok (.getfield 18, 3) := by decide +kernel
theorem dX7_advance_57 : decode cX7_advance 57 = .ok (.iaload, 1) := by decide +kernel
theorem dX7_advance_58 : decode cX7_advance 58 = .ok (.putfield 25, 3) := by decide +kernel
theorem dX7_advance_61 : decode cX7_advance 61 = .ok (.aload_n 0, 1) := by decide +kernel
theorem dX7_advance_62 : decode cX7_advance 62 = .ok (.dup, 1) := by decide +kernel
theorem dX7_advance_63 : decode cX7_advance 63 = .ok (.getfield 18, 3) := by decide +kernel
theorem dX7_advance_66 : decode cX7_advance 66 = .ok (.iconst 1, 1) := by decide +kernel
theorem dX7_advance_67 : decode cX7_advance 67 = .ok (.iadd, 1) := by decide +kernel
theorem dX7_advance_68 : decode cX7_advance 68 = .ok (.putfield 18, 3) := by decide +kernel
theorem dX7_advance_71 : decode cX7_advance 71 = .ok (.return_, 1) := by decide +kernel
theorem dX7_fail_0 : decode cX7_fail 0 = .ok (.aload_n 0, 1) := by decide +kernel
theorem dX7_fail_1 : decode cX7_fail 1 = .ok (.iload_n 1, 1) := by decide +kernel
theorem dX7_fail_2 : decode cX7_fail 2 = .ok (.putfield 34, 3) := by decide +kernel
theorem dX7_fail_5 : decode cX7_fail 5 = .ok (.aload_n 0, 1) := by decide +kernel
theorem dX7_fail_6 : decode cX7_fail 6 = .ok (.aload_n 0, 1) := by decide +kernel
theorem dX7_fail_7 : decode cX7_fail 7 = .ok (.getfield 25, 3) := by decide +kernel
theorem dX7_fail_10 : decode cX7_fail 10 = .ok (.putfield 37, 3) := by decide +kernel
theorem dX7_fail_13 : decode cX7_fail 13 = .ok (.iconst 0, 1) := by decide +kernel
theorem dX7_fail_14 : decode cX7_fail 14 = .ok (.ireturn, 1) := by decide +kernel
end
section
theorem dX8_init_0 : decode cX8_init 0 = .ok (.aload_n 0, 1) := by decide +kernel
theorem dX8_init_1 : decode cX8_init 1 = .ok (.invokespecial 3, 3) := by decide +kernel
theorem dX8_init_4 : decode cX8_init 4 = .ok (.aload_n 0, 1) := by decide +kernel
theorem dX8_init_5 : decode cX8_init 5 = .ok (.new 9, 3) := by decide +kernel
theorem dX8_init_8 : decode cX8_init 8 = .ok (.dup, 1) := by decide +kernel
theorem dX8_init_9 : decode cX8_init 9 = .ok (.invokespecial 11, 3) := by decide +kernel
theorem dX8_init_12 : decode cX8_init 12 = .ok (.putfield 12, 3) := by decide +kernel
theorem dX8_init_15 : decode cX8_init 15 = .ok (.aload_n 0, 1) := by decide +kernel
theorem dX8_init_16 : decode cX8_init 16 = .ok (.new 16, 3) := by decide +kernel
theorem dX8_init_19 : decode cX8_init 19 = .ok (.dup, 1) := by decide +kernel
theorem dX8_init_20 : decode cX8_init 20 = .ok (.invokespecial 18, 3) := by decide +kernel
theorem dX8_init_23 : decode cX8_init 23 = .ok (.putfield 19, 3) := by decide +kernel
theorem dX8_init_26 : decode cX8_init 26 = .ok (.aload_n 0, 1) := by decide +kernel
theorem dX8_init_27 : decode cX8_init 27 = .ok (.new 16, 3) := by decide +kernel
theorem dX8_init_30 : decode cX8_init 30 = .ok (.dup, 1) := by decide +kernel
theorem dX8_init_31 : decode cX8_init 31 = .ok (.invokespecial 18, 3) := by decide +kernel
theorem dX8_init_34 : decode cX8_init 34 = .ok (.putfield 23, 3) := by decide +kernel
theorem dX8_init_37 : decode cX8_init 37 = .ok (.aload_n 0, 1) := by decide +kernel
theorem dX8_init_38 : decode cX8_init 38 = .ok (.new 26, 3) := by decide +kernel
theorem dX8_init_41 : decode cX8_init 41 = .ok (.dup, 1) := by decide +kernel
theorem dX8_init_42 : decode cX8_init 42 = .ok (.invokespecial 28, 3) := by decide +kernel
theorem dX8_init_45 : decode cX8_init 45 = .ok (.putfield 29, 3) := by decide +kernel
theorem dX8_init_48 : decode cX8_init 48 = .ok (.aload_n 0, 1) := by decide +kernel
theorem dX8_init_49 : decode cX8_init 49 = .ok (.new 33, 3) := by decide +kernel
theorem dX8_init_52 : decode cX8_init 52 = .ok (.dup, 1) := by decide +kernel
theorem dX8_init_53 : decode cX8_init 53 = .ok (.invokespecial 35, 3) := by decide +kernel
theorem dX8_init_56 : decode cX8_init 56 = .ok (.putfield 36, 3) := by decide +kernel
theorem dX8_init_59 : decode cX8_init 59 = .ok (.aload_n 0, 1) := by decide +kernel
theorem dX8_init_60 : decode cX8_init 60 = .ok (.new 40, 3) := by decide +kernel
theorem dX8_init_63 : decode cX8_init 63 = .ok (.dup, 1) := by decide +kernel
theorem dX8_init_64 : decode cX8_init 64 = .ok (.invokespecial 42, 3) := by decide +kernel
theorem dX8_init_67 : decode cX8_init 67 = .ok (.putfield 43, 3) := by decide +kernel
theorem dX8_init_70 : decode cX8_init 70 = .ok (.aload_n 0, 1) := by decide +kernel
theorem dX8_init_71 : decode cX8_init 71 = .ok (.new 47, 3) := by decide +kernel
theorem dX8_init_74 : decode cX8_init 74 = .ok (.dup, 1) := by decide +kernel
theorem dX8_init_75 : decode cX8_init 75 = .ok (.invokespecial 49, 3) := by decide +kernel
theorem dX8_init_78 : decode cX8_init 78 = .ok (.putfield 50, 3) := by decide +kernel
theorem dX8_init_81 : decode cX8_init 81 = .ok (.return_, 1) := by decide +kernel
theorem dX8_feed_0 : decode cX8_feed 0 = .ok (.aload_n 0, 1) := by decide +kernel
theorem dX8_feed_1 : decode cX8_feed 1 = .ok (.getfield 12, 3) := by decide +kernel
theorem dX8_feed_4 : decode cX8_feed 4 = .ok (.getfield 54, 3) := by decide +kernel
theorem dX8_feed_7 : decode cX8_feed 7 = .ok (.astore 6, 2) := by decide +kernel
theorem dX8_feed_9 : decode cX8_feed 9 = .ok (.aload 6, 2) := by decide +kernel
theorem dX8_feed_11 : decode cX8_feed 11 = .ok (.invokevirtual 58, 3) := by decide +kernel
theorem dX8_feed_14 : decode cX8_feed 14 = .ok (.ifCond .ne 5, 3) := by decide +kernel
theorem dX8_feed_17 : decode cX8_feed 17 = .ok (.iconst (-1), 1) := by decide +kernel
theorem dX8_feed_18 : decode cX8_feed 18 = .ok (.ireturn, 1) := by decide +kernel
theorem dX8_feed_19 : decode cX8_feed 19 = .ok (.aload 6, 2) := by decide +kernel
theorem dX8_feed_21 : decode cX8_feed 21 = .ok (.iload_n 1, 1) := by decide +kernel
theorem dX8_feed_22 : decode cX8_feed 22 = .ok (.invokevirtual 64, 3) := by decide +kernel
theorem dX8_feed_25 : decode cX8_feed 25 = .ok (.aload 6, 2) := by decide +kernel
theorem dX8_feed_27 : decode cX8_feed 27 = .ok (.iload_n 2, 1) := by decide +kernel
theorem dX8_feed_28 : decode cX8_feed 28 = .ok (.invokevirtual 64, 3) := by decide +kernel
theorem dX8_feed_31 : decode cX8_feed 31 = .ok (.aload 6, 2) := by decide +kernel
theorem dX8_feed_33 : decode cX8_feed 33 = .ok (.iload_n 3, 1) := by decide +kernel
theorem dX8_feed_34 : decode cX8_feed 34 = .ok (.invokevirtual 64, 3) := by decide +kernel
theorem dX8_feed_37 : decode cX8_feed 37 = .ok (.aload 6, 2) := by decide +kernel
theorem dX8_feed_39 : decode cX8_feed 39 = .ok (.iload 4, 2) := by decide +kernel
theorem dX8_feed_41 : decode cX8_feed 41 = .ok (.invokevirtual 64, 3) := by decide +kernel
theorem dX8_feed_44 : decode cX8_feed 44 = .ok (.aload 6, 2) := by decide +kernel
theorem dX8_feed_46 : decode cX8_feed 46 = .ok (.iload 5, 2) := by decide +kernel
theorem dX8_feed_48 : decode cX8_feed 48 = .ok (.invokevirtual 64, 3) := by decide +kernel
theorem dX8_feed_51 : decode cX8_feed 51 = .ok (.aload 6, 2) := by decide +kernel
theorem dX8_feed_53 : decode cX8_feed 53 = .ok (.getfield 68, 3) := by decide +kernel
theorem dX8_feed_56 : decode cX8_feed 56 = .ok (.ireturn, 1) := by decide +kernel
theorem dX8_end_0 : decode cX8_end 0 = .ok (.iload_n 1, 1) := by decide +kernel
theorem dX8_end_1 : decode cX8_end 1 = .ok (.ifCond .lt 17, 3) := by decide +kernel
theorem dX8_end_4 : decode cX8_end 4 = .ok (.iload_n 1, 1) := by decide +kernel
theorem dX8_end_5 : decode cX8_end 5 = .ok (.aload_n 0, 1) := by decide +kernel
theorem dX8_end_6 : decode cX8_end 6 = .ok (.getfield 12, 3) := by decide +kernel
theorem dX8_end_9 : decode cX8_end 9 = .ok (.getfield 54, 3) := by decide +kernel
theorem dX8_end_12 : decode cX8_end 12 = .ok (.getfield 68, 3) := by decide +kernel
theorem dX8_end_15 : decode cX8_end 15 = .ok (.if_icmp .le 5, 3) := by decide +kernel
theorem dX8_end_18 : decode cX8_end 18 = .ok (.iconst 0, 1) := by decide +kernel
theorem dX8_end_19 : decode cX8_end 19 = .ok (.ireturn, 1) := by decide +kernel
theorem dX8_end_20 : decode cX8_end 20 = .ok (.aload_n 0, 1) := by decide +kernel
theorem dX8_end_21 : decode cX8_end 21 = .ok (.getfield 12, 3) := by decide +kernel
theorem dX8_end_24 : decode cX8_end 24 = .ok (.getfield 54, 3) := by decide +kernel
theorem dX8_end_27 : decode cX8_end 27 = .ok (.iload_n 1, 1) := by decide +kernel
theorem dX8_end_28 : decode cX8_end 28 = .ok (.putfield 68, 3) := by decide +kernel
theorem dX8_end_31 : decode cX8_end 31 = .ok (.iconst 1, 1) := by decide +kernel
theorem dX8_end_32 : decode cX8_end 32 = .ok (.ireturn, 1) := by decide +kernel
theorem dX8_text_0 : decode cX8_text 0 = .ok (.aload_n 0, 1) := by decide +kernel
theorem dX8_text_1 : decode cX8_text 1 = .ok (.getfield 12, 3) := by decide +kernel
theorem dX8_text_4 : decode cX8_text 4 = .ok (.aload_n 0, 1) := by decide +kernel
theorem dX8_text_5 : decode cX8_text 5 = .ok (.getfield 23, 3) := by decide +kernel
theorem dX8_text_8 : decode cX8_text 8 = .ok (.invokevirtual 72, 3) := by decide +kernel
theorem dX8_text_11 : decode cX8_text 11 = .ok (.istore_n 1, 1) := by decide +kernel
theorem dX8_text_12 : decode cX8_text 12 = .ok (.aload_n 0, 1) := by decide +kernel
theorem dX8_text_13 : decode cX8_text 13 = .ok (.getfield 12, 3) := by decide +kernel
theorem dX8_text_16 : decode cX8_text 16 = .ok (.getfield 54, 3) := by decide +kernel
theorem dX8_text_19 : decode cX8_text 19 = .ok (.iconst 0, 1) := by decide +kernel
theorem dX8_text_20 : decode cX8_text 20 = .ok (.putfield 68, 3) := by decide +kernel
theorem dX8_text_23 : decode cX8_text 23 = .ok (.iload_n 1, 1) := by decide +kernel
theorem dX8_text_24 : decode cX8_text 24 = .ok (.ifCond .ne 13, 3) := by decide +kernel
theorem dX8_text_27 : decode cX8_text 27 = .ok (.iconst (-1), 1) := by decide +kernel
theorem dX8_text_28 : decode cX8_text 28 = .ok (.aload_n 0, 1) := by decide +kernel
theorem dX8_text_29 : decode cX8_text 29 = .ok (.getfield 12, 3) := by decide +kernel
theorem dX8_text_32 : decode cX8_text 32 = .ok (.getfield 76, 3) := by decide +kernel
theorem dX8_text_35 : decode cX8_text 35 = .ok (.isub, 1) := by decide +kernel
theorem dX8_text_36 : decode cX8_text 36 = .ok (.ireturn, 1) := by decide +kernel
theorem dX8_text_37 : decode cX8_text 37 = .ok (.aload_n 0, 1) := by decide +kernel
theorem dX8_text_38 : decode cX8_text 38 = .ok (.getfield 23, 3) := by decide +kernel
theorem dX8_text_41 : decode cX8_text 41 = .ok (.astore_n 2, 1) := by decide +kernel
theorem dX8_text_42 : decode cX8_text 42 = .ok (.aload_n 0, 1) := by decide +kernel
theorem dX8_text_43 : decode cX8_text 43 = .ok (.aload_n 0, 1) := by decide +kernel
theorem dX8_text_44 : decode cX8_text 44 = .ok (.getfield 19, 3) := by decide +kernel
theorem dX8_text_47 : decode cX8_text 47 = .ok (.putfield 23, 3) := by decide +kernel
theorem dX8_text_50 : decode cX8_text 50 = .ok (.aload_n 0, 1) := by decide +kernel
theorem dX8_text_51 : decode cX8_text 51 = .ok (.aload_n 2, 1) := by decide +kernel
theorem dX8_text_52 : decode cX8_text 52 = .ok (.putfield 19, 3) := by decide +kernel
theorem dX8_text_55 : decode cX8_text 55 = .ok (.aload_n 0, 1) := by decide +kernel
theorem dX8_text_56 : decode cX8_text 56 = .ok (.getfield 29, 3) := by decide +kernel
theorem dX8_text_59 : decode cX8_text 59 = .ok (.iconst 0, 1) := by decide +kernel
theorem dX8_text_60 : decode cX8_text 60 = .ok (.putfield 79, 3) := by decide +kernel
theorem dX8_text_63 : decode cX8_text 63 = .ok (.aload_n 0, 1) := by decide +kernel
theorem dX8_text_64 : decode cX8_text 64 = .ok (.getfield 36, 3) := by decide +kernel
theorem dX8_text_67 : decode cX8_text 67 = .ok (.iconst 0, 1) := by decide +kernel
theorem dX8_text_68 : decode cX8_text 68 = .ok (.putfield 82, 3) := by decide +kernel
theorem dX8_text_71 : decode cX8_text 71 = .ok (.aload_n 0, 1) := by decide +kernel
theorem dX8_text_72 : decode cX8_text 72 = .ok (.getfield 43, 3) := by decide +kernel
theorem dX8_text_75 : decode cX8_text 75 = .ok (.iconst 0, 1) := by decide +kernel
theorem dX8_text_76 : decode cX8_text 76 = .ok (.putfield 83, 3) := by decide +kernel
theorem dX8_text_79 : decode cX8_text 79 = .ok (.aload_n 0, 1) := by decide +kernel
theorem dX8_text_80 : decode cX8_text 80 = .ok (.getfield 12, 3) := by decide +kernel
theorem dX8_text_83 : decode cX8_text 83 = .ok (.getfield 84, 3) := by decide +kernel
theorem dX8_text_86 : decode cX8_text 86 = .ok (.ireturn, 1) := by decide +kernel
theorem dX8_fault_0 : decode cX8_fault 0 = .ok (.aload_n 0, 1) := by decide +kernel
theorem dX8_fault_1 : decode cX8_fault 1 = .ok (.getfield 12, 3) := by decide +kernel
theorem dX8_fault_4 : decode cX8_fault 4 = .ok (.getfield 87, 3) := by decide +kernel
theorem dX8_fault_7 : decode cX8_fault 7 = .ok (.ireturn, 1) := by decide +kernel
theorem dX8_now_0 : decode cX8_now 0 = .ok (.iload_n 1, 1) := by decide +kernel
theorem dX8_now_1 : decode cX8_now 1 = .ok (.tableswitch 114 0 7 #[47, 55, 63, 71, 79, 87, 95, 103], 47) := by decide +kernel
theorem dX8_now_48 : decode cX8_now 48 = .ok (.aload_n 0, 1) := by decide +kernel
theorem dX8_now_49 : decode cX8_now 49 = .ok (.getfield 19, 3) := by decide +kernel
theorem dX8_now_52 : decode cX8_now 52 = .ok (.getfield 90, 3) := by decide +kernel
theorem dX8_now_55 : decode cX8_now 55 = .ok (.ireturn, 1) := by decide +kernel
theorem dX8_now_56 : decode cX8_now 56 = .ok (.aload_n 0, 1) := by decide +kernel
theorem dX8_now_57 : decode cX8_now 57 = .ok (.getfield 19, 3) := by decide +kernel
theorem dX8_now_60 : decode cX8_now 60 = .ok (.getfield 93, 3) := by decide +kernel
theorem dX8_now_63 : decode cX8_now 63 = .ok (.ireturn, 1) := by decide +kernel
theorem dX8_now_64 : decode cX8_now 64 = .ok (.aload_n 0, 1) := by decide +kernel
theorem dX8_now_65 : decode cX8_now 65 = .ok (.getfield 19, 3) := by decide +kernel
theorem dX8_now_68 : decode cX8_now 68 = .ok (.getfield 96, 3) := by decide +kernel
theorem dX8_now_71 : decode cX8_now 71 = .ok (.ireturn, 1) := by decide +kernel
theorem dX8_now_72 : decode cX8_now 72 = .ok (.aload_n 0, 1) := by decide +kernel
theorem dX8_now_73 : decode cX8_now 73 = .ok (.getfield 29, 3) := by decide +kernel
theorem dX8_now_76 : decode cX8_now 76 = .ok (.getfield 79, 3) := by decide +kernel
theorem dX8_now_79 : decode cX8_now 79 = .ok (.ireturn, 1) := by decide +kernel
theorem dX8_now_80 : decode cX8_now 80 = .ok (.aload_n 0, 1) := by decide +kernel
theorem dX8_now_81 : decode cX8_now 81 = .ok (.getfield 29, 3) := by decide +kernel
theorem dX8_now_84 : decode cX8_now 84 = .ok (.invokevirtual 99, 3) := by decide +kernel
theorem dX8_now_87 : decode cX8_now 87 = .ok (.ireturn, 1) := by decide +kernel
theorem dX8_now_88 : decode cX8_now 88 = .ok (.aload_n 0, 1) := by decide +kernel
theorem dX8_now_89 : decode cX8_now 89 = .ok (.getfield 36, 3) := by decide +kernel
theorem dX8_now_92 : decode cX8_now 92 = .ok (.getfield 82, 3) := by decide +kernel
theorem dX8_now_95 : decode cX8_now 95 = .ok (.ireturn, 1) := by decide +kernel
theorem dX8_now_96 : decode cX8_now 96 = .ok (.aload_n 0, 1) := by decide +kernel
theorem dX8_now_97 : decode cX8_now 97 = .ok (.getfield 43, 3) := by decide +kernel
theorem dX8_now_100 : decode cX8_now 100 = .ok (.getfield 83, 3) := by decide +kernel
theorem dX8_now_103 : decode cX8_now 103 = .ok (.ireturn, 1) := by decide +kernel
theorem dX8_now_104 : decode cX8_now 104 = .ok (.aload_n 0, 1) := by decide +kernel
theorem dX8_now_105 : decode cX8_now 105 = .ok (.getfield 12, 3) := by decide +kernel
theorem dX8_now_108 : decode cX8_now 108 = .ok (.getfield 54, 3) := by decide +kernel
theorem dX8_now_111 : decode cX8_now 111 = .ok (.getfield 68, 3) := by decide +kernel
theorem dX8_now_114 : decode cX8_now 114 = .ok (.ireturn, 1) := by decide +kernel
theorem dX8_now_115 : decode cX8_now 115 = .ok (.iconst (-1), 1) := by decide +kernel
theorem dX8_now_116 : decode cX8_now 116 = .ok (.ireturn, 1) := by decide +kernel
theorem dX8_item_0 : decode cX8_item 0 = .ok (.aload_n 0, 1) := by decide +kernel
theorem dX8_item_1 : decode cX8_item 1 = .ok (.getfield 19, 3) := by decide +kernel
theorem dX8_item_4 : decode cX8_item 4 = .ok (.iload_n 1, 1) := by decide +kernel
theorem dX8_item_5 : decode cX8_item 5 = .ok (.invokevirtual 103, 3) := by decide +kernel
theorem dX8_item_8 : decode cX8_item 8 = .ok (.ifCond .ne 5, 3) := by decide +kernel
theorem dX8_item_11 : decode cX8_item 11 = .ok (.iconst (-1), 1) := by decide +kernel
theorem dX8_item_12 : decode cX8_item 12 = .ok (.ireturn, 1) := by decide +kernel
theorem dX8_item_13 : decode cX8_item 13 = .ok (.iload_n 2, 1) := by decide +kernel
theorem dX8_item_14 : decode cX8_item 14 = .ok (.lookupswitch 46 #[(0, 26), (1, 36)], 26) := by decide +kernel
theorem dX8_item_40 : decode cX8_item 40 = .ok (.aload_n 0, 1) := by decide +kernel
theorem dX8_item_41 : decode cX8_item 41 = .ok (.getfield 19, 3) := by decide +kernel
theorem dX8_item_44 : decode cX8_item 44 = .ok (.getfield 107, 3) := by decide +kernel
theorem dX8_item_47 : decode cX8_item 47 = .ok (.iload_n 1, 1) := by decide +kernel
theorem dX8_item_48 : decode cX8_item 48 = .ok (.iaload, 1) := by decide +kernel
theorem dX8_item_49 : decode cX8_item 49 = .ok (.ireturn, 1) := by decide +kernel
theorem dX8_item_50 : decode cX8_item 50 = .ok (.aload_n 0, 1) := by decide +kernel
theorem dX8_item_51 : decode cX8_item 51 = .ok (.getfield 19, 3) := by decide +kernel
theorem dX8_item_54 : decode cX8_item 54 = .ok (.getfield 111, 3) := by decide +kernel
theorem dX8_item_57 : decode cX8_item 57 = .ok (.iload_n 1, 1) := by decide +kernel
theorem dX8_item_58 : decode cX8_item 58 = .ok (.iaload, 1) := by decide +kernel
theorem dX8_item_59 : decode cX8_item 59 = .ok (.ireturn, 1) := by decide +kernel
theorem dX8_item_60 : decode cX8_item 60 = .ok (.iconst (-1), 1) := by decide +kernel
theorem dX8_item_61 : decode cX8_item 61 = .ok (.ireturn, 1) := by decide +kernel
theorem dX8_move_0 : decode cX8_move 0 = .ok (.aload_n 0, 1) := by decide +kernel
theorem dX8_move_1 : decode cX8_move 1 = .ok (.getfield 19, 3) := by decide +kernel
theorem dX8_move_4 : decode cX8_move 4 = .ok (.iload_n 1, 1) := by decide +kernel
theorem dX8_move_5 : decode cX8_move 5 = .ok (.invokevirtual 114, 3) := by decide +kernel
theorem dX8_move_8 : decode cX8_move 8 = .ok (.ifCond .ne 13, 3) := by decide +kernel
theorem dX8_move_11 : decode cX8_move 11 = .ok (.new 117, 3) := by decide +kernel
theorem dX8_move_14 : decode cX8_move 14 = .ok (.dup, 1) := by decide +kernel
theorem dX8_move_15 : decode cX8_move 15 = .ok (.ldc 119, 2) := by decide +kernel
theorem dX8_move_17 : decode cX8_move 17 = .ok (.invokespecial 121, 3) := by decide +kernel
theorem dX8_move_20 : decode cX8_move 20 = .ok (.athrow, 1) := by decide +kernel
theorem dX8_move_21 : decode cX8_move 21 = .ok (.iload_n 2, 1) := by decide +kernel
theorem dX8_move_22 : decode cX8_move 22 = .ok (.tableswitch 210 0 22 #[106, 116, 210, 210, 210, 210, 210, 210, 210, 210, 126, 140, 154, 210, 210, 210, 210, 210, 210, 210, 168, 182, 196], 106) := by decide +kernel
theorem dX8_move_128 : decode cX8_move 128 = .ok (.aload_n 0, 1) := by decide +kernel
theorem dX8_move_129 : decode cX8_move 129 = .ok (.getfield 19, 3) := by decide +kernel
theorem dX8_move_132 : decode cX8_move 132 = .ok (.getfield 124, 3) := by decide +kernel
theorem dX8_move_135 : decode cX8_move 135 = .ok (.iload_n 1, 1) := by decide +kernel
theorem dX8_move_136 : decode cX8_move 136 = .ok (.iaload, 1) := by decide +kernel
theorem dX8_move_137 : decode cX8_move 137 = .ok (.ireturn, 1) := by decide +kernel
theorem dX8_move_138 : decode cX8_move 138 = .ok (.aload_n 0, 1) := by decide +kernel
theorem dX8_move_139 : decode cX8_move 139 = .ok (.getfield 19, 3) := by decide +kernel
theorem dX8_move_142 : decode cX8_move 142 = .ok (.getfield 127, 3) := by decide +kernel
theorem dX8_move_145 : decode cX8_move 145 = .ok (.iload_n 1, 1) := by decide +kernel
theorem dX8_move_146 : decode cX8_move 146 = .ok (.iaload, 1) := by decide +kernel
theorem dX8_move_147 : decode cX8_move 147 = .ok (.ireturn, 1) := by decide +kernel
theorem dX8_move_148 : decode cX8_move 148 = .ok (.aload_n 0, 1) := by decide +kernel
theorem dX8_move_149 : decode cX8_move 149 = .ok (.getfield 19, 3) := by decide +kernel
theorem dX8_move_152 : decode cX8_move 152 = .ok (.getfield 130, 3) := by decide +kernel
theorem dX8_move_155 : decode cX8_move 155 = .ok (.iload_n 1, 1) := by decide +kernel
theorem dX8_move_156 : decode cX8_move 156 = .ok (.iconst 0, 1) := by decide +kernel
theorem dX8_move_157 : decode cX8_move 157 = .ok (.invokestatic 133, 3) := by decide +kernel
theorem dX8_move_160 : decode cX8_move 160 = .ok (.iaload, 1) := by decide +kernel
theorem dX8_move_161 : decode cX8_move 161 = .ok (.ireturn, 1) := by decide +kernel
theorem dX8_move_162 : decode cX8_move 162 = .ok (.aload_n 0, 1) := by decide +kernel
theorem dX8_move_163 : decode cX8_move 163 = .ok (.getfield 19, 3) := by decide +kernel
theorem dX8_move_166 : decode cX8_move 166 = .ok (.getfield 137, 3) := by decide +kernel
theorem dX8_move_169 : decode cX8_move 169 = .ok (.iload_n 1, 1) := by decide +kernel
theorem dX8_move_170 : decode cX8_move 170 = .ok (.iconst 0, 1) := by decide +kernel
theorem dX8_move_171 : decode cX8_move 171 = .ok (.invokestatic 133, 3) := by decide +kernel
theorem dX8_move_174 : decode cX8_move 174 = .ok (.iaload, 1) := by decide +kernel
theorem dX8_move_175 : decode cX8_move 175 = .ok (.ireturn, 1) := by decide +kernel
theorem dX8_move_176 : decode cX8_move 176 = .ok (.aload_n 0, 1) := by decide +kernel
theorem dX8_move_177 : decode cX8_move 177 = .ok (.getfield 19, 3) := by decide +kernel
theorem dX8_move_180 : decode cX8_move 180 = .ok (.getfield 140, 3) := by decide +kernel
theorem dX8_move_183 : decode cX8_move 183 = .ok (.iload_n 1, 1) := by decide +kernel
theorem dX8_move_184 : decode cX8_move 184 = .ok (.iconst 0, 1) := by decide +kernel
theorem dX8_move_185 : decode cX8_move 185 = .ok (.invokestatic 133, 3) := by decide +kernel
theorem dX8_move_188 : decode cX8_move 188 = .ok (.iaload, 1) := by decide +kernel
theorem dX8_move_189 : decode cX8_move 189 = .ok (.ireturn, 1) := by decide +kernel
theorem dX8_move_190 : decode cX8_move 190 = .ok (.aload_n 0, 1) := by decide +kernel
theorem dX8_move_191 : decode cX8_move 191 = .ok (.getfield 19, 3) := by decide +kernel
theorem dX8_move_194 : decode cX8_move 194 = .ok (.getfield 130, 3) := by decide +kernel
theorem dX8_move_197 : decode cX8_move 197 = .ok (.iload_n 1, 1) := by decide +kernel
theorem dX8_move_198 : decode cX8_move 198 = .ok (.iconst 1, 1) := by decide +kernel
theorem dX8_move_199 : decode cX8_move 199 = .ok (.invokestatic 133, 3) := by decide +kernel
theorem dX8_move_202 : decode cX8_move 202 = .ok (.iaload, 1) := by decide +kernel
theorem dX8_move_203 : decode cX8_move 203 = .ok (.ireturn, 1) := by decide +kernel
theorem dX8_move_204 : decode cX8_move 204 = .ok (.aload_n 0, 1) := by decide +kernel
theorem dX8_move_205 : decode cX8_move 205 = .ok (.getfield 19, 3) := by decide +kernel
theorem dX8_move_208 : decode cX8_move 208 = .ok (.getfield 137, 3) := by decide +kernel
theorem dX8_move_211 : decode cX8_move 211 = .ok (.iload_n 1, 1) := by decide +kernel
theorem dX8_move_212 : decode cX8_move 212 = .ok (.iconst 1, 1) := by decide +kernel
theorem dX8_move_213 : decode cX8_move 213 = .ok (.invokestatic 133, 3) := by decide +kernel
theorem dX8_move_216 : decode cX8_move 216 = .ok (.iaload, 1) := by decide +kernel
theorem dX8_move_217 : decode cX8_move 217 = .ok (.ireturn, 1) := by decide +kernel
theorem dX8_move_218 : decode cX8_move 218 = .ok (.aload_n 0, 1) := by decide +kernel
theorem dX8_move_219 : decode cX8_move 219 = .ok (.getfield 19, 3) := by decide +kernel
theorem dX8_move_222 : decode cX8_move 222 = .ok (.getfield 140, 3) := by decide +kernel
theorem dX8_move_225 : decode cX8_move 225 = .ok (.iload_n 1, 1) := by decide +kernel
theorem dX8_move_226 : decode cX8_move 226 = .ok (.iconst 1, 1) := by decide +kernel
theorem dX8_move_227 : decode cX8_move 227 = .ok (.invokestatic 133, 3) := by decide +kernel
theorem dX8_move_230 : decode cX8_move 230 = .ok (.iaload, 1) := by decide +kernel
theorem dX8_move_231 : decode cX8_move 231 = .ok (.ireturn, 1) := by decide +kernel
theorem dX8_move_232 : decode cX8_move 232 = .ok (.new 117, 3) := by decide +kernel
theorem dX8_move_235 : decode cX8_move 235 = .ok (.dup, 1) := by decide +kernel
theorem dX8_move_236 : decode cX8_move 236 = .ok (.ldc 143, 2) := by decide +kernel
theorem dX8_move_238 : decode cX8_move 238 = .ok (.invokespecial 121, 3) := by decide +kernel
theorem dX8_move_241 : decode cX8_move 241 = .ok (.athrow, 1) := by decide +kernel
theorem dX8_book_0 : decode cX8_book 0 = .ok (.aload_n 0, 1) := by decide +kernel
theorem dX8_book_1 : decode cX8_book 1 = .ok (.getfield 19, 3) := by decide +kernel
theorem dX8_book_4 : decode cX8_book 4 = .ok (.iload_n 1, 1) := by decide +kernel
theorem dX8_book_5 : decode cX8_book 5 = .ok (.iload_n 2, 1) := by decide +kernel
theorem dX8_book_6 : decode cX8_book 6 = .ok (.invokevirtual 145, 3) := by decide +kernel
theorem dX8_book_9 : decode cX8_book 9 = .ok (.ifCond .eq 10, 3) := by decide +kernel
theorem dX8_book_12 : decode cX8_book 12 = .ok (.iload_n 3, 1) := by decide +kernel
theorem dX8_book_13 : decode cX8_book 13 = .ok (.invokestatic 149, 3) := by decide +kernel
theorem dX8_book_16 : decode cX8_book 16 = .ok (.ifCond .ne 6, 3) := by decide +kernel
theorem dX8_book_19 : decode cX8_book 19 = .ok (.ldc 152, 2) := by decide +kernel
theorem dX8_book_21 : decode cX8_book 21 = .ok (.ireturn, 1) := by decide +kernel
theorem dX8_book_22 : decode cX8_book 22 = .ok (.aload_n 0, 1) := by decide +kernel
theorem dX8_book_23 : decode cX8_book 23 = .ok (.getfield 50, 3) := by decide +kernel
theorem dX8_book_26 : decode cX8_book 26 = .ok (.aload_n 0, 1) := by decide +kernel
theorem dX8_book_27 : decode cX8_book 27 = .ok (.getfield 19, 3) := by decide +kernel
theorem dX8_book_30 : decode cX8_book 30 = .ok (.aload_n 0, 1) := by decide +kernel
theorem dX8_book_31 : decode cX8_book 31 = .ok (.getfield 36, 3) := by decide +kernel
theorem dX8_book_34 : decode cX8_book 34 = .ok (.iload_n 1, 1) := by decide +kernel
theorem dX8_book_35 : decode cX8_book 35 = .ok (.iload_n 2, 1) := by decide +kernel
theorem dX8_book_36 : decode cX8_book 36 = .ok (.iload_n 3, 1) := by decide +kernel
theorem dX8_book_37 : decode cX8_book 37 = .ok (.invokevirtual 153, 3) := by decide +kernel
theorem dX8_book_40 : decode cX8_book 40 = .ok (.iload 4, 2) := by decide +kernel
theorem dX8_book_42 : decode cX8_book 42 = .ok (.tableswitch 62 0 3 #[30, 38, 46, 54], 30) := by decide +kernel
theorem dX8_book_72 : decode cX8_book 72 = .ok (.aload_n 0, 1) := by decide +kernel
theorem dX8_book_73 : decode cX8_book 73 = .ok (.getfield 50, 3) := by decide +kernel
theorem dX8_book_76 : decode cX8_book 76 = .ok (.getfield 157, 3) := by decide +kernel
theorem dX8_book_79 : decode cX8_book 79 = .ok (.ireturn, 1) := by decide +kernel
theorem dX8_book_80 : decode cX8_book 80 = .ok (.aload_n 0, 1) := by decide +kernel
theorem dX8_book_81 : decode cX8_book 81 = .ok (.getfield 50, 3) := by decide +kernel
theorem dX8_book_84 : decode cX8_book 84 = .ok (.getfield 160, 3) := by decide +kernel
theorem dX8_book_87 : decode cX8_book 87 = .ok (.ireturn, 1) := by decide +kernel
theorem dX8_book_88 : decode cX8_book 88 = .ok (.aload_n 0, 1) := by decide +kernel
theorem dX8_book_89 : decode cX8_book 89 = .ok (.getfield 50, 3) := by decide +kernel
theorem dX8_book_92 : decode cX8_book 92 = .ok (.getfield 163, 3) := by decide +kernel
theorem dX8_book_95 : decode cX8_book 95 = .ok (.ireturn, 1) := by decide +kernel
theorem dX8_book_96 : decode cX8_book 96 = .ok (.aload_n 0, 1) := by decide +kernel
theorem dX8_book_97 : decode cX8_book 97 = .ok (.getfield 50, 3) := by decide +kernel
theorem dX8_book_100 : decode cX8_book 100 = .ok (.getfield 166, 3) := by decide +kernel
theorem dX8_book_103 : decode cX8_book 103 = .ok (.ireturn, 1) := by decide +kernel
theorem dX8_book_104 : decode cX8_book 104 = .ok (.ldc 152, 2) := by decide +kernel
theorem dX8_book_106 : decode cX8_book 106 = .ok (.ireturn, 1) := by decide +kernel
theorem dX8_transit_0 : decode cX8_transit 0 = .ok (.aload_n 0, 1) := by decide +kernel
theorem dX8_transit_1 : decode cX8_transit 1 = .ok (.getfield 19, 3) := by decide +kernel
theorem dX8_transit_4 : decode cX8_transit 4 = .ok (.iload_n 1, 1) := by decide +kernel
theorem dX8_transit_5 : decode cX8_transit 5 = .ok (.invokevirtual 103, 3) := by decide +kernel
theorem dX8_transit_8 : decode cX8_transit 8 = .ok (.ifCond .eq 19, 3) := by decide +kernel
theorem dX8_transit_11 : decode cX8_transit 11 = .ok (.iload_n 2, 1) := by decide +kernel
theorem dX8_transit_12 : decode cX8_transit 12 = .ok (.invokestatic 149, 3) := by decide +kernel
theorem dX8_transit_15 : decode cX8_transit 15 = .ok (.ifCond .eq 12, 3) := by decide +kernel
theorem dX8_transit_18 : decode cX8_transit 18 = .ok (.iload_n 3, 1) := by decide +kernel
theorem dX8_transit_19 : decode cX8_transit 19 = .ok (.ifCond .lt 8, 3) := by decide +kernel
theorem dX8_transit_22 : decode cX8_transit 22 = .ok (.iload_n 3, 1) := by decide +kernel
theorem dX8_transit_23 : decode cX8_transit 23 = .ok (.iconst 1, 1) := by decide +kernel
theorem dX8_transit_24 : decode cX8_transit 24 = .ok (.if_icmp .le 5, 3) := by decide +kernel
theorem dX8_transit_27 : decode cX8_transit 27 = .ok (.iconst (-1), 1) := by decide +kernel
theorem dX8_transit_28 : decode cX8_transit 28 = .ok (.ireturn, 1) := by decide +kernel
theorem dX8_transit_29 : decode cX8_transit 29 = .ok (.iconst 0, 1) := by decide +kernel
theorem dX8_transit_30 : decode cX8_transit 30 = .ok (.istore 4, 2) := by decide +kernel
theorem dX8_transit_32 : decode cX8_transit 32 = .ok (.iconst 0, 1) := by decide +kernel
theorem dX8_transit_33 : decode cX8_transit 33 = .ok (.istore 5, 2) := by decide +kernel
theorem dX8_transit_35 : decode cX8_transit 35 = .ok (.iload 5, 2) := by decide +kernel
theorem dX8_transit_37 : decode cX8_transit 37 = .ok (.aload_n 0, 1) := by decide +kernel
theorem dX8_transit_38 : decode cX8_transit 38 = .ok (.getfield 19, 3) := by decide +kernel
theorem dX8_transit_41 : decode cX8_transit 41 = .ok (.getfield 96, 3) := by decide +kernel
theorem dX8_transit_44 : decode cX8_transit 44 = .ok (.if_icmp .ge 57, 3) := by decide +kernel
theorem dX8_transit_47 : decode cX8_transit 47 = .ok (.aload_n 0, 1) := by decide +kernel
theorem dX8_transit_48 : decode cX8_transit 48 = .ok (.getfield 19, 3) := by decide +kernel
theorem dX8_transit_51 : decode cX8_transit 51 = .ok (.getfield 124, 3) := by decide +kernel
theorem dX8_transit_54 : decode cX8_transit 54 = .ok (.iload 5, 2) := by decide +kernel
theorem dX8_transit_56 : decode cX8_transit 56 = .ok (.iaload, 1) := by decide +kernel
theorem dX8_transit_57 : decode cX8_transit 57 = .ok (.iload_n 1, 1) := by decide +kernel
theorem dX8_transit_58 : decode cX8_transit 58 = .ok (.if_icmp .ne 37, 3) := by decide +kernel
theorem dX8_transit_61 : decode cX8_transit 61 = .ok (.aload_n 0, 1) := by decide +kernel
theorem dX8_transit_62 : decode cX8_transit 62 = .ok (.iload 5, 2) := by decide +kernel
theorem dX8_transit_64 : decode cX8_transit 64 = .ok (.iload_n 2, 1) := by decide +kernel
theorem dX8_transit_65 : decode cX8_transit 65 = .ok (.iload_n 3, 1) := by decide +kernel
theorem dX8_transit_66 : decode cX8_transit 66 = .ok (.ifCond .ne 7, 3) := by decide +kernel
theorem dX8_transit_69 : decode cX8_transit 69 = .ok (.iconst 1, 1) := by decide +kernel
theorem dX8_transit_70 : decode cX8_transit 70 = .ok (.goto 4, 3) := by decide +kernel
theorem dX8_transit_73 : decode cX8_transit 73 = .ok (.iconst 0, 1) := by decide +kernel
theorem dX8_transit_74 : decode cX8_transit 74 = .ok (.invokevirtual 169, 3) := by decide +kernel
theorem dX8_transit_77 : decode cX8_transit 77 = .ok (.ifCond .eq 18, 3) := by decide +kernel
theorem dX8_transit_80 : decode cX8_transit 80 = .ok (.iload 4, 2) := by decide +kernel
theorem dX8_transit_82 : decode cX8_transit 82 = .ok (.aload_n 0, 1) := by decide +kernel
theorem dX8_transit_83 : decode cX8_transit 83 = .ok (.getfield 19, 3) := by decide +kernel
theorem dX8_transit_86 : decode cX8_transit 86 = .ok (.getfield 127, 3) := by decide +kernel
theorem dX8_transit_89 : decode cX8_transit 89 = .ok (.iload 5, 2) := by decide +kernel
theorem dX8_transit_91 : decode cX8_transit 91 = .ok (.iaload, 1) := by decide +kernel
theorem dX8_transit_92 : decode cX8_transit 92 = .ok (.iadd, 1) := by decide +kernel
theorem dX8_transit_93 : decode cX8_transit 93 = .ok (.istore 4, 2) := by decide +kernel
theorem dX8_transit_95 : decode cX8_transit 95 = .ok (.iinc 5 1, 3) := by decide +kernel
theorem dX8_transit_98 : decode cX8_transit 98 = .ok (.goto (-63), 3) := by decide +kernel
theorem dX8_transit_101 : decode cX8_transit 101 = .ok (.iload 4, 2) := by decide +kernel
theorem dX8_transit_103 : decode cX8_transit 103 = .ok (.ireturn, 1) := by decide +kernel
theorem dX8_below_0 : decode cX8_below 0 = .ok (.aload_n 0, 1) := by decide +kernel
theorem dX8_below_1 : decode cX8_below 1 = .ok (.getfield 19, 3) := by decide +kernel
theorem dX8_below_4 : decode cX8_below 4 = .ok (.iload_n 1, 1) := by decide +kernel
theorem dX8_below_5 : decode cX8_below 5 = .ok (.iload_n 2, 1) := by decide +kernel
theorem dX8_below_6 : decode cX8_below 6 = .ok (.invokevirtual 145, 3) := by decide +kernel
theorem dX8_below_9 : decode cX8_below 9 = .ok (.ifCond .ne 5, 3) := by decide +kernel
theorem dX8_below_12 : decode cX8_below 12 = .ok (.iconst (-1), 1) := by decide +kernel
theorem dX8_below_13 : decode cX8_below 13 = .ok (.ireturn, 1) := by decide +kernel
theorem dX8_below_14 : decode cX8_below 14 = .ok (.sipush 1000, 3) := by decide +kernel
theorem dX8_below_17 : decode cX8_below 17 = .ok (.istore_n 3, 1) := by decide +kernel
theorem dX8_below_18 : decode cX8_below 18 = .ok (.iconst 0, 1) := by decide +kernel
theorem dX8_below_19 : decode cX8_below 19 = .ok (.istore 4, 2) := by decide +kernel
theorem dX8_below_21 : decode cX8_below 21 = .ok (.iload 4, 2) := by decide +kernel
theorem dX8_below_23 : decode cX8_below 23 = .ok (.aload_n 0, 1) := by decide +kernel
theorem dX8_below_24 : decode cX8_below 24 = .ok (.getfield 19, 3) := by decide +kernel
theorem dX8_below_27 : decode cX8_below 27 = .ok (.getfield 96, 3) := by decide +kernel
theorem dX8_below_30 : decode cX8_below 30 = .ok (.if_icmp .ge 89, 3) := by decide +kernel
theorem dX8_below_33 : decode cX8_below 33 = .ok (.iload 4, 2) := by decide +kernel
theorem dX8_below_35 : decode cX8_below 35 = .ok (.iconst 0, 1) := by decide +kernel
theorem dX8_below_36 : decode cX8_below 36 = .ok (.invokestatic 133, 3) := by decide +kernel
theorem dX8_below_39 : decode cX8_below 39 = .ok (.istore 5, 2) := by decide +kernel
theorem dX8_below_41 : decode cX8_below 41 = .ok (.aload_n 0, 1) := by decide +kernel
theorem dX8_below_42 : decode cX8_below 42 = .ok (.getfield 19, 3) := by decide +kernel
theorem dX8_below_45 : decode cX8_below 45 = .ok (.getfield 124, 3) := by decide +kernel
theorem dX8_below_48 : decode cX8_below 48 = .ok (.iload 4, 2) := by decide +kernel
theorem dX8_below_50 : decode cX8_below 50 = .ok (.iaload, 1) := by decide +kernel
theorem dX8_below_51 : decode cX8_below 51 = .ok (.iload_n 2, 1) := by decide +kernel
theorem dX8_below_52 : decode cX8_below 52 = .ok (.if_icmp .ne 61, 3) := by decide +kernel
theorem dX8_below_55 : decode cX8_below 55 = .ok (.aload_n 0, 1) := by decide +kernel
theorem dX8_below_56 : decode cX8_below 56 = .ok (.getfield 19, 3) := by decide +kernel
theorem dX8_below_59 : decode cX8_below 59 = .ok (.getfield 130, 3) := by decide +kernel
theorem dX8_below_62 : decode cX8_below 62 = .ok (.iload 5, 2) := by decide +kernel
theorem dX8_below_64 : decode cX8_below 64 = .ok (.iaload, 1) := by decide +kernel
theorem dX8_below_65 : decode cX8_below 65 = .ok (.iload_n 1, 1) := by decide +kernel
theorem dX8_below_66 : decode cX8_below 66 = .ok (.if_icmp .ne 47, 3) := by decide +kernel
theorem dX8_below_69 : decode cX8_below 69 = .ok (.aload_n 0, 1) := by decide +kernel
theorem dX8_below_70 : decode cX8_below 70 = .ok (.getfield 19, 3) := by decide +kernel
theorem dX8_below_73 : decode cX8_below 73 = .ok (.getfield 140, 3) := by decide +kernel
theorem dX8_below_76 : decode cX8_below 76 = .ok (.iload 5, 2) := by decide +kernel
theorem dX8_below_78 : decode cX8_below 78 = .ok (.iaload, 1) := by decide +kernel
theorem dX8_below_79 : decode cX8_below 79 = .ok (.iload_n 3, 1) := by decide +kernel
theorem dX8_below_80 : decode cX8_below 80 = .ok (.if_icmp .ge 33, 3) := by decide +kernel
theorem dX8_below_83 : decode cX8_below 83 = .ok (.aload_n 0, 1) := by decide +kernel
theorem dX8_below_84 : decode cX8_below 84 = .ok (.iload_n 1, 1) := by decide +kernel
theorem dX8_below_85 : decode cX8_below 85 = .ok (.iload_n 2, 1) := by decide +kernel
theorem dX8_below_86 : decode cX8_below 86 = .ok (.aload_n 0, 1) := by decide +kernel
theorem dX8_below_87 : decode cX8_below 87 = .ok (.getfield 19, 3) := by decide +kernel
theorem dX8_below_90 : decode cX8_below 90 = .ok (.getfield 140, 3) := by decide +kernel
theorem dX8_below_93 : decode cX8_below 93 = .ok (.iload 5, 2) := by decide +kernel
theorem dX8_below_95 : decode cX8_below 95 = .ok (.iaload, 1) := by decide +kernel
theorem dX8_below_96 : decode cX8_below 96 = .ok (.invokevirtual 173, 3) := by decide +kernel
theorem dX8_below_99 : decode cX8_below 99 = .ok (.ifCond .eq 14, 3) := by decide +kernel
theorem dX8_below_102 : decode cX8_below 102 = .ok (.aload_n 0, 1) := by decide +kernel
theorem dX8_below_103 : decode cX8_below 103 = .ok (.getfield 19, 3) := by decide +kernel
theorem dX8_below_106 : decode cX8_below 106 = .ok (.getfield 140, 3) := by decide +kernel
theorem dX8_below_109 : decode cX8_below 109 = .ok (.iload 5, 2) := by decide +kernel
theorem dX8_below_111 : decode cX8_below 111 = .ok (.iaload, 1) := by decide +kernel
theorem dX8_below_112 : decode cX8_below 112 = .ok (.istore_n 3, 1) := by decide +kernel
theorem dX8_below_113 : decode cX8_below 113 = .ok (.iinc 4 1, 3) := by decide +kernel
theorem dX8_below_116 : decode cX8_below 116 = .ok (.goto (-95), 3) := by decide +kernel
theorem dX8_below_119 : decode cX8_below 119 = .ok (.iconst 0, 1) := by decide +kernel
theorem dX8_below_120 : decode cX8_below 120 = .ok (.istore 4, 2) := by decide +kernel
theorem dX8_below_122 : decode cX8_below 122 = .ok (.iload 4, 2) := by decide +kernel
theorem dX8_below_124 : decode cX8_below 124 = .ok (.aload_n 0, 1) := by decide +kernel
theorem dX8_below_125 : decode cX8_below 125 = .ok (.getfield 36, 3) := by decide +kernel
theorem dX8_below_128 : decode cX8_below 128 = .ok (.getfield 82, 3) := by decide +kernel
theorem dX8_below_131 : decode cX8_below 131 = .ok (.if_icmp .ge 67, 3) := by decide +kernel
theorem dX8_below_134 : decode cX8_below 134 = .ok (.aload_n 0, 1) := by decide +kernel
theorem dX8_below_135 : decode cX8_below 135 = .ok (.getfield 36, 3) := by decide +kernel
theorem dX8_below_138 : decode cX8_below 138 = .ok (.iload 4, 2) := by decide +kernel
theorem dX8_below_140 : decode cX8_below 140 = .ok (.iload_n 1, 1) := by decide +kernel
theorem dX8_below_141 : decode cX8_below 141 = .ok (.iload_n 2, 1) := by decide +kernel
theorem dX8_below_142 : decode cX8_below 142 = .ok (.invokevirtual 177, 3) := by decide +kernel
theorem dX8_below_145 : decode cX8_below 145 = .ok (.ifCond .eq 47, 3) := by decide +kernel
theorem dX8_below_148 : decode cX8_below 148 = .ok (.aload_n 0, 1) := by decide +kernel
theorem dX8_below_149 : decode cX8_below 149 = .ok (.getfield 36, 3) := by decide +kernel
theorem dX8_below_152 : decode cX8_below 152 = .ok (.getfield 180, 3) := by decide +kernel
theorem dX8_below_155 : decode cX8_below 155 = .ok (.iload 4, 2) := by decide +kernel
theorem dX8_below_157 : decode cX8_below 157 = .ok (.iaload, 1) := by decide +kernel
theorem dX8_below_158 : decode cX8_below 158 = .ok (.iload_n 3, 1) := by decide +kernel
theorem dX8_below_159 : decode cX8_below 159 = .ok (.if_icmp .ge 33, 3) := by decide +kernel
theorem dX8_below_162 : decode cX8_below 162 = .ok (.aload_n 0, 1) := by decide +kernel
theorem dX8_below_163 : decode cX8_below 163 = .ok (.iload_n 1, 1) := by decide +kernel
theorem dX8_below_164 : decode cX8_below 164 = .ok (.iload_n 2, 1) := by decide +kernel
theorem dX8_below_165 : decode cX8_below 165 = .ok (.aload_n 0, 1) := by decide +kernel
theorem dX8_below_166 : decode cX8_below 166 = .ok (.getfield 36, 3) := by decide +kernel
theorem dX8_below_169 : decode cX8_below 169 = .ok (.getfield 180, 3) := by decide +kernel
theorem dX8_below_172 : decode cX8_below 172 = .ok (.iload 4, 2) := by decide +kernel
theorem dX8_below_174 : decode cX8_below 174 = .ok (.iaload, 1) := by decide +kernel
theorem dX8_below_175 : decode cX8_below 175 = .ok (.invokevirtual 173, 3) := by decide +kernel
theorem dX8_below_178 : decode cX8_below 178 = .ok (.ifCond .eq 14, 3) := by decide +kernel
theorem dX8_below_181 : decode cX8_below 181 = .ok (.aload_n 0, 1) := by decide +kernel
theorem dX8_below_182 : decode cX8_below 182 = .ok (.getfield 36, 3) := by decide +kernel
theorem dX8_below_185 : decode cX8_below 185 = .ok (.getfield 180, 3) := by decide +kernel
theorem dX8_below_188 : decode cX8_below 188 = .ok (.iload 4, 2) := by decide +kernel
theorem dX8_below_190 : decode cX8_below 190 = .ok (.iaload, 1) := by decide +kernel
theorem dX8_below_191 : decode cX8_below 191 = .ok (.istore_n 3, 1) := by decide +kernel
theorem dX8_below_192 : decode cX8_below 192 = .ok (.iinc 4 1, 3) := by decide +kernel
theorem dX8_below_195 : decode cX8_below 195 = .ok (.goto (-73), 3) := by decide +kernel
theorem dX8_below_198 : decode cX8_below 198 = .ok (.iload_n 3, 1) := by decide +kernel
theorem dX8_below_199 : decode cX8_below 199 = .ok (.sipush 999, 3) := by decide +kernel
theorem dX8_below_202 : decode cX8_below 202 = .ok (.if_icmp .le 7, 3) := by decide +kernel
theorem dX8_below_205 : decode cX8_below 205 = .ok (.iconst (-1), 1) := by decide +kernel
theorem dX8_below_206 : decode cX8_below 206 = .ok (.goto 4, 3) := by decide +kernel
theorem dX8_below_209 : decode cX8_below 209 = .ok (.iload_n 3, 1) := by decide +kernel
theorem dX8_below_210 : decode cX8_below 210 = .ok (.ireturn, 1) := by decide +kernel
theorem dX8_count_0 : decode cX8_count 0 = .ok (.aload_n 0, 1) := by decide +kernel
theorem dX8_count_1 : decode cX8_count 1 = .ok (.getfield 29, 3) := by decide +kernel
theorem dX8_count_4 : decode cX8_count 4 = .ok (.iload_n 1, 1) := by decide +kernel
theorem dX8_count_5 : decode cX8_count 5 = .ok (.invokevirtual 183, 3) := by decide +kernel
theorem dX8_count_8 : decode cX8_count 8 = .ok (.ifCond .ne 13, 3) := by decide +kernel
theorem dX8_count_11 : decode cX8_count 11 = .ok (.new 117, 3) := by decide +kernel
theorem dX8_count_14 : decode cX8_count 14 = .ok (.dup, 1) := by decide +kernel
theorem dX8_count_15 : decode cX8_count 15 = .ok (.ldc 186, 2) := by decide +kernel
theorem dX8_count_17 : decode cX8_count 17 = .ok (.invokespecial 121, 3) := by decide +kernel
theorem dX8_count_20 : decode cX8_count 20 = .ok (.athrow, 1) := by decide +kernel
theorem dX8_count_21 : decode cX8_count 21 = .ok (.iload_n 2, 1) := by decide +kernel
theorem dX8_count_22 : decode cX8_count 22 = .ok (.tableswitch 116 0 6 #[42, 52, 62, 72, 82, 92, 110], 42) := by decide +kernel
theorem dX8_count_64 : decode cX8_count 64 = .ok (.aload_n 0, 1) := by decide +kernel
theorem dX8_count_65 : decode cX8_count 65 = .ok (.getfield 29, 3) := by decide +kernel
theorem dX8_count_68 : decode cX8_count 68 = .ok (.getfield 188, 3) := by decide +kernel
theorem dX8_count_71 : decode cX8_count 71 = .ok (.iload_n 1, 1) := by decide +kernel
theorem dX8_count_72 : decode cX8_count 72 = .ok (.iaload, 1) := by decide +kernel
theorem dX8_count_73 : decode cX8_count 73 = .ok (.ireturn, 1) := by decide +kernel
theorem dX8_count_74 : decode cX8_count 74 = .ok (.aload_n 0, 1) := by decide +kernel
theorem dX8_count_75 : decode cX8_count 75 = .ok (.getfield 29, 3) := by decide +kernel
theorem dX8_count_78 : decode cX8_count 78 = .ok (.getfield 191, 3) := by decide +kernel
theorem dX8_count_81 : decode cX8_count 81 = .ok (.iload_n 1, 1) := by decide +kernel
theorem dX8_count_82 : decode cX8_count 82 = .ok (.iaload, 1) := by decide +kernel
theorem dX8_count_83 : decode cX8_count 83 = .ok (.ireturn, 1) := by decide +kernel
theorem dX8_count_84 : decode cX8_count 84 = .ok (.aload_n 0, 1) := by decide +kernel
theorem dX8_count_85 : decode cX8_count 85 = .ok (.getfield 29, 3) := by decide +kernel
theorem dX8_count_88 : decode cX8_count 88 = .ok (.getfield 194, 3) := by decide +kernel
theorem dX8_count_91 : decode cX8_count 91 = .ok (.iload_n 1, 1) := by decide +kernel
theorem dX8_count_92 : decode cX8_count 92 = .ok (.iaload, 1) := by decide +kernel
theorem dX8_count_93 : decode cX8_count 93 = .ok (.ireturn, 1) := by decide +kernel
theorem dX8_count_94 : decode cX8_count 94 = .ok (.aload_n 0, 1) := by decide +kernel
theorem dX8_count_95 : decode cX8_count 95 = .ok (.getfield 29, 3) := by decide +kernel
theorem dX8_count_98 : decode cX8_count 98 = .ok (.getfield 195, 3) := by decide +kernel
theorem dX8_count_101 : decode cX8_count 101 = .ok (.iload_n 1, 1) := by decide +kernel
theorem dX8_count_102 : decode cX8_count 102 = .ok (.iaload, 1) := by decide +kernel
theorem dX8_count_103 : decode cX8_count 103 = .ok (.ireturn, 1) := by decide +kernel
theorem dX8_count_104 : decode cX8_count 104 = .ok (.aload_n 0, 1) := by decide +kernel
theorem dX8_count_105 : decode cX8_count 105 = .ok (.getfield 29, 3) := by decide +kernel
theorem dX8_count_108 : decode cX8_count 108 = .ok (.getfield 198, 3) := by decide +kernel
theorem dX8_count_111 : decode cX8_count 111 = .ok (.iload_n 1, 1) := by decide +kernel
theorem dX8_count_112 : decode cX8_count 112 = .ok (.iaload, 1) := by decide +kernel
theorem dX8_count_113 : decode cX8_count 113 = .ok (.ireturn, 1) := by decide +kernel
theorem dX8_count_114 : decode cX8_count 114 = .ok (.aload_n 0, 1) := by decide +kernel
theorem dX8_count_115 : decode cX8_count 115 = .ok (.getfield 29, 3) := by decide +kernel
theorem dX8_count_118 : decode cX8_count 118 = .ok (.getfield 201, 3) := by decide +kernel
theorem dX8_count_121 : decode cX8_count 121 = .ok (.iload_n 1, 1) := by decide +kernel
theorem dX8_count_122 : decode cX8_count 122 = .ok (.baload, 1) := by decide +kernel
theorem dX8_count_123 : decode cX8_count 123 = .ok (.ifCond .eq 7, 3) := by decide +kernel
theorem dX8_count_126 : decode cX8_count 126 = .ok (.iconst 1, 1) := by decide +kernel
theorem dX8_count_127 : decode cX8_count 127 = .ok (.goto 4, 3) := by decide +kernel
theorem dX8_count_130 : decode cX8_count 130 = .ok (.iconst 0, 1) := by decide +kernel
theorem dX8_count_131 : decode cX8_count 131 = .ok (.ireturn, 1) := by decide +kernel
theorem dX8_count_132 : decode cX8_count 132 = .ok (.aload_n 0, 1) := by decide +kernel
theorem dX8_count_133 : decode cX8_count 133 = .ok (.iload_n 1, 1) := by decide +kernel
theorem dX8_count_134 : decode cX8_count 134 = .ok (.invokevirtual 205, 3) := by decide +kernel
theorem dX8_count_137 : decode cX8_count 137 = .ok (.ireturn, 1) := by decide +kernel
theorem dX8_count_138 : decode cX8_count 138 = .ok (.new 117, 3) := by decide +kernel
theorem dX8_count_141 : decode cX8_count 141 = .ok (.dup, 1) := by decide +kernel
theorem dX8_count_142 : decode cX8_count 142 = .ok (.ldc 209, 2) := by decide +kernel
theorem dX8_count_144 : decode cX8_count 144 = .ok (.invokespecial 121, 3) := by decide +kernel
theorem dX8_count_147 : decode cX8_count 147 = .ok (.athrow, 1) := by decide +kernel
theorem dX8_difference_0 : decode cX8_difference 0 = .ok (.aload_n 0, 1) := by decide +kernel
theorem dX8_difference_1 : decode cX8_difference 1 = .ok (.getfield 29, 3) := by decide +kernel
theorem dX8_difference_4 : decode cX8_difference 4 = .ok (.iload_n 1, 1) := by decide +kernel
theorem dX8_difference_5 : decode cX8_difference 5 = .ok (.invokevirtual 183, 3) := by decide +kernel
theorem dX8_difference_8 : decode cX8_difference 8 = .ok (.ifCond .eq 11, 3) := by decide +kernel
theorem dX8_difference_11 : decode cX8_difference 11 = .ok (.aload_n 0, 1) := by decide +kernel
theorem dX8_difference_12 : decode cX8_difference 12 = .ok (.iload_n 1, 1) := by decide +kernel
theorem dX8_difference_13 : decode cX8_difference 13 = .ok (.invokevirtual 211, 3) := by decide +kernel
theorem dX8_difference_16 : decode cX8_difference 16 = .ok (.goto 5, 3) := by decide +kernel
theorem dX8_difference_19 : decode cX8_difference 19 = .ok (.ldc 152, 2) := by decide +kernel
theorem dX8_difference_21 : decode cX8_difference 21 = .ok (.ireturn, 1) := by decide +kernel
theorem dX8_share_0 : decode cX8_share 0 = .ok (.aload_n 0, 1) := by decide +kernel
theorem dX8_share_1 : decode cX8_share 1 = .ok (.getfield 29, 3) := by decide +kernel
theorem dX8_share_4 : decode cX8_share 4 = .ok (.iload_n 1, 1) := by decide +kernel
theorem dX8_share_5 : decode cX8_share 5 = .ok (.invokevirtual 183, 3) := by decide +kernel
theorem dX8_share_8 : decode cX8_share 8 = .ok (.ifCond .ne 6, 3) := by decide +kernel
theorem dX8_share_11 : decode cX8_share 11 = .ok (.ldc 152, 2) := by decide +kernel
theorem dX8_share_13 : decode cX8_share 13 = .ok (.ireturn, 1) := by decide +kernel
theorem dX8_share_14 : decode cX8_share 14 = .ok (.aload_n 0, 1) := by decide +kernel
theorem dX8_share_15 : decode cX8_share 15 = .ok (.iload_n 1, 1) := by decide +kernel
theorem dX8_share_16 : decode cX8_share 16 = .ok (.invokevirtual 211, 3) := by decide +kernel
theorem dX8_share_19 : decode cX8_share 19 = .ok (.istore_n 2, 1) := by decide +kernel
theorem dX8_share_20 : decode cX8_share 20 = .ok (.aload_n 0, 1) := by decide +kernel
theorem dX8_share_21 : decode cX8_share 21 = .ok (.getfield 50, 3) := by decide +kernel
theorem dX8_share_24 : decode cX8_share 24 = .ok (.getfield 157, 3) := by decide +kernel
theorem dX8_share_27 : decode cX8_share 27 = .ok (.ifCond .ne 5, 3) := by decide +kernel
theorem dX8_share_30 : decode cX8_share 30 = .ok (.iconst 0, 1) := by decide +kernel
theorem dX8_share_31 : decode cX8_share 31 = .ok (.ireturn, 1) := by decide +kernel
theorem dX8_share_32 : decode cX8_share 32 = .ok (.ldc 214, 2) := by decide +kernel
theorem dX8_share_34 : decode cX8_share 34 = .ok (.iload_n 2, 1) := by decide +kernel
theorem dX8_share_35 : decode cX8_share 35 = .ok (.i2f, 1) := by decide +kernel
theorem dX8_share_36 : decode cX8_share 36 = .ok (.fmul, 1) := by decide +kernel
theorem dX8_share_37 : decode cX8_share 37 = .ok (.aload_n 0, 1) := by decide +kernel
theorem dX8_share_38 : decode cX8_share 38 = .ok (.getfield 50, 3) := by decide +kernel
theorem dX8_share_41 : decode cX8_share 41 = .ok (.getfield 157, 3) := by decide +kernel
theorem dX8_share_44 : decode cX8_share 44 = .ok (.i2f, 1) := by decide +kernel
theorem dX8_share_45 : decode cX8_share 45 = .ok (.fdiv, 1) := by decide +kernel
theorem dX8_share_46 : decode cX8_share 46 = .ok (.f2i, 1) := by decide +kernel
theorem dX8_share_47 : decode cX8_share 47 = .ok (.ireturn, 1) := by decide +kernel
theorem dX8_chosen_0 : decode cX8_chosen 0 = .ok (.aload_n 0, 1) := by decide +kernel
theorem dX8_chosen_1 : decode cX8_chosen 1 = .ok (.getfield 19, 3) := by decide +kernel
theorem dX8_chosen_4 : decode cX8_chosen 4 = .ok (.iload_n 1, 1) := by decide +kernel
theorem dX8_chosen_5 : decode cX8_chosen 5 = .ok (.iload_n 2, 1) := by decide +kernel
theorem dX8_chosen_6 : decode cX8_chosen 6 = .ok (.invokevirtual 145, 3) := by decide +kernel
theorem dX8_chosen_9 : decode cX8_chosen 9 = .ok (.ifCond .eq 12, 3) := by decide +kernel
theorem dX8_chosen_12 : decode cX8_chosen 12 = .ok (.aload_n 0, 1) := by decide +kernel
theorem dX8_chosen_13 : decode cX8_chosen 13 = .ok (.iload_n 1, 1) := by decide +kernel
theorem dX8_chosen_14 : decode cX8_chosen 14 = .ok (.iload_n 2, 1) := by decide +kernel
theorem dX8_chosen_15 : decode cX8_chosen 15 = .ok (.invokevirtual 215, 3) := by decide +kernel
theorem dX8_chosen_18 : decode cX8_chosen 18 = .ok (.goto 4, 3) := by decide +kernel
theorem dX8_chosen_21 : decode cX8_chosen 21 = .ok (.iconst (-1), 1) := by decide +kernel
theorem dX8_chosen_22 : decode cX8_chosen 22 = .ok (.ireturn, 1) := by decide +kernel
theorem dX8_due_0 : decode cX8_due 0 = .ok (.iconst 0, 1) := by decide +kernel
theorem dX8_due_1 : decode cX8_due 1 = .ok (.istore_n 1, 1) := by decide +kernel
theorem dX8_due_2 : decode cX8_due 2 = .ok (.iconst 0, 1) := by decide +kernel
theorem dX8_due_3 : decode cX8_due 3 = .ok (.istore_n 2, 1) := by decide +kernel
theorem dX8_due_4 : decode cX8_due 4 = .ok (.iload_n 2, 1) := by decide +kernel
theorem dX8_due_5 : decode cX8_due 5 = .ok (.aload_n 0, 1) := by decide +kernel
theorem dX8_due_6 : decode cX8_due 6 = .ok (.getfield 19, 3) := by decide +kernel
theorem dX8_due_9 : decode cX8_due 9 = .ok (.getfield 90, 3) := by decide +kernel
theorem dX8_due_12 : decode cX8_due 12 = .ok (.if_icmp .ge 42, 3) := by decide +kernel
theorem dX8_due_15 : decode cX8_due 15 = .ok (.iconst 0, 1) := by decide +kernel
theorem dX8_due_16 : decode cX8_due 16 = .ok (.istore_n 3, 1) := by decide +kernel
theorem dX8_due_17 : decode cX8_due 17 = .ok (.iload_n 3, 1) := by decide +kernel
theorem dX8_due_18 : decode cX8_due 18 = .ok (.aload_n 0, 1) := by decide +kernel
theorem dX8_due_19 : decode cX8_due 19 = .ok (.getfield 19, 3) := by decide +kernel
theorem dX8_due_22 : decode cX8_due 22 = .ok (.getfield 93, 3) := by decide +kernel
theorem dX8_due_25 : decode cX8_due 25 = .ok (.if_icmp .ge 23, 3) := by decide +kernel
theorem dX8_due_28 : decode cX8_due 28 = .ok (.aload_n 0, 1) := by decide +kernel
theorem dX8_due_29 : decode cX8_due 29 = .ok (.iload_n 2, 1) := by decide +kernel
theorem dX8_due_30 : decode cX8_due 30 = .ok (.iload_n 3, 1) := by decide +kernel
theorem dX8_due_31 : decode cX8_due 31 = .ok (.invokevirtual 215, 3) := by decide +kernel
theorem dX8_due_34 : decode cX8_due 34 = .ok (.bipush (-2), 2) := by decide +kernel
theorem dX8_due_36 : decode cX8_due 36 = .ok (.if_icmp .ne 6, 3) := by decide +kernel
theorem dX8_due_39 : decode cX8_due 39 = .ok (.iinc 1 1, 3) := by decide +kernel
theorem dX8_due_42 : decode cX8_due 42 = .ok (.iinc 3 1, 3) := by decide +kernel
theorem dX8_due_45 : decode cX8_due 45 = .ok (.goto (-28), 3) := by decide +kernel
theorem dX8_due_48 : decode cX8_due 48 = .ok (.iinc 2 1, 3) := by decide +kernel
theorem dX8_due_51 : decode cX8_due 51 = .ok (.goto (-47), 3) := by decide +kernel
theorem dX8_due_54 : decode cX8_due 54 = .ok (.iload_n 1, 1) := by decide +kernel
theorem dX8_due_55 : decode cX8_due 55 = .ok (.ireturn, 1) := by decide +kernel
theorem dX8_explained_0 : decode cX8_explained 0 = .ok (.aload_n 0, 1) := by decide +kernel
theorem dX8_explained_1 : decode cX8_explained 1 = .ok (.getfield 29, 3) := by decide +kernel
theorem dX8_explained_4 : decode cX8_explained 4 = .ok (.iload_n 1, 1) := by decide +kernel
theorem dX8_explained_5 : decode cX8_explained 5 = .ok (.invokevirtual 183, 3) := by decide +kernel
theorem dX8_explained_8 : decode cX8_explained 8 = .ok (.ifCond .ne 5, 3) := by decide +kernel
theorem dX8_explained_11 : decode cX8_explained 11 = .ok (.iconst (-1), 1) := by decide +kernel
theorem dX8_explained_12 : decode cX8_explained 12 = .ok (.ireturn, 1) := by decide +kernel
theorem dX8_explained_13 : decode cX8_explained 13 = .ok (.aload_n 0, 1) := by decide +kernel
theorem dX8_explained_14 : decode cX8_explained 14 = .ok (.iload_n 1, 1) := by decide +kernel
theorem dX8_explained_15 : decode cX8_explained 15 = .ok (.invokevirtual 218, 3) := by decide +kernel
theorem dX8_explained_18 : decode cX8_explained 18 = .ok (.aload_n 0, 1) := by decide +kernel
theorem dX8_explained_19 : decode cX8_explained 19 = .ok (.getfield 50, 3) := by decide +kernel
theorem dX8_explained_22 : decode cX8_explained 22 = .ok (.getfield 166, 3) := by decide +kernel
theorem dX8_explained_25 : decode cX8_explained 25 = .ok (.bipush 10, 2) := by decide +kernel
theorem dX8_explained_27 : decode cX8_explained 27 = .ok (.if_icmp .le 6, 3) := by decide +kernel
theorem dX8_explained_30 : decode cX8_explained 30 = .ok (.bipush (-2), 2) := by decide +kernel
theorem dX8_explained_32 : decode cX8_explained 32 = .ok (.ireturn, 1) := by decide +kernel
theorem dX8_explained_33 : decode cX8_explained 33 = .ok (.iconst 0, 1) := by decide +kernel
theorem dX8_explained_34 : decode cX8_explained 34 = .ok (.istore_n 3, 1) := by decide +kernel
theorem dX8_explained_35 : decode cX8_explained 35 = .ok (.iconst 0, 1) := by decide +kernel
theorem dX8_explained_36 : decode cX8_explained 36 = .ok (.istore 4, 2) := by decide +kernel
theorem dX8_explained_38 : decode cX8_explained 38 = .ok (.iload 4, 2) := by decide +kernel
theorem dX8_explained_40 : decode cX8_explained 40 = .ok (.iconst 1, 1) := by decide +kernel
theorem dX8_explained_41 : decode cX8_explained 41 = .ok (.aload_n 0, 1) := by decide +kernel
theorem dX8_explained_42 : decode cX8_explained 42 = .ok (.getfield 50, 3) := by decide +kernel
theorem dX8_explained_45 : decode cX8_explained 45 = .ok (.getfield 166, 3) := by decide +kernel
theorem dX8_explained_48 : decode cX8_explained 48 = .ok (.ishl, 1) := by decide +kernel
theorem dX8_explained_49 : decode cX8_explained 49 = .ok (.if_icmp .ge 41, 3) := by decide +kernel
theorem dX8_explained_52 : decode cX8_explained 52 = .ok (.aload_n 0, 1) := by decide +kernel
theorem dX8_explained_53 : decode cX8_explained 53 = .ok (.getfield 50, 3) := by decide +kernel
theorem dX8_explained_56 : decode cX8_explained 56 = .ok (.iload 4, 2) := by decide +kernel
theorem dX8_explained_58 : decode cX8_explained 58 = .ok (.invokevirtual 221, 3) := by decide +kernel
theorem dX8_explained_61 : decode cX8_explained 61 = .ok (.aload_n 0, 1) := by decide +kernel
theorem dX8_explained_62 : decode cX8_explained 62 = .ok (.getfield 29, 3) := by decide +kernel
theorem dX8_explained_65 : decode cX8_explained 65 = .ok (.getfield 195, 3) := by decide +kernel
theorem dX8_explained_68 : decode cX8_explained 68 = .ok (.iload_n 1, 1) := by decide +kernel
theorem dX8_explained_69 : decode cX8_explained 69 = .ok (.iaload, 1) := by decide +kernel
theorem dX8_explained_70 : decode cX8_explained 70 = .ok (.if_icmp .ne 14, 3) := by decide +kernel
theorem dX8_explained_73 : decode cX8_explained 73 = .ok (.iload_n 3, 1) := by decide +kernel
theorem dX8_explained_74 : decode cX8_explained 74 = .ok (.iload_n 2, 1) := by decide +kernel
theorem dX8_explained_75 : decode cX8_explained 75 = .ok (.if_icmp .ne 6, 3) := by decide +kernel
theorem dX8_explained_78 : decode cX8_explained 78 = .ok (.iload 4, 2) := by decide +kernel
theorem dX8_explained_80 : decode cX8_explained 80 = .ok (.ireturn, 1) := by decide +kernel
theorem dX8_explained_81 : decode cX8_explained 81 = .ok (.iinc 3 1, 3) := by decide +kernel
theorem dX8_explained_84 : decode cX8_explained 84 = .ok (.iinc 4 1, 3) := by decide +kernel
theorem dX8_explained_87 : decode cX8_explained 87 = .ok (.goto (-49), 3) := by decide +kernel
theorem dX8_explained_90 : decode cX8_explained 90 = .ok (.iload_n 2, 1) := by decide +kernel
theorem dX8_explained_91 : decode cX8_explained 91 = .ok (.iconst (-1), 1) := by decide +kernel
theorem dX8_explained_92 : decode cX8_explained 92 = .ok (.if_icmp .ne 7, 3) := by decide +kernel
theorem dX8_explained_95 : decode cX8_explained 95 = .ok (.iload_n 3, 1) := by decide +kernel
theorem dX8_explained_96 : decode cX8_explained 96 = .ok (.goto 4, 3) := by decide +kernel
theorem dX8_explained_99 : decode cX8_explained 99 = .ok (.iconst (-1), 1) := by decide +kernel
theorem dX8_explained_100 : decode cX8_explained 100 = .ok (.ireturn, 1) := by decide +kernel
theorem dX8_adjusted_0 : decode cX8_adjusted 0 = .ok (.iload_n 1, 1) := by decide +kernel
theorem dX8_adjusted_1 : decode cX8_adjusted 1 = .ok (.ifCond .lt 14, 3) := by decide +kernel
theorem dX8_adjusted_4 : decode cX8_adjusted 4 = .ok (.iload_n 1, 1) := by decide +kernel
theorem dX8_adjusted_5 : decode cX8_adjusted 5 = .ok (.aload_n 0, 1) := by decide +kernel
theorem dX8_adjusted_6 : decode cX8_adjusted 6 = .ok (.getfield 36, 3) := by decide +kernel
theorem dX8_adjusted_9 : decode cX8_adjusted 9 = .ok (.getfield 82, 3) := by decide +kernel
theorem dX8_adjusted_12 : decode cX8_adjusted 12 = .ok (.if_icmp .lt 6, 3) := by decide +kernel
theorem dX8_adjusted_15 : decode cX8_adjusted 15 = .ok (.ldc 152, 2) := by decide +kernel
theorem dX8_adjusted_17 : decode cX8_adjusted 17 = .ok (.ireturn, 1) := by decide +kernel
theorem dX8_adjusted_18 : decode cX8_adjusted 18 = .ok (.iload_n 2, 1) := by decide +kernel
theorem dX8_adjusted_19 : decode cX8_adjusted 19 = .ok (.tableswitch 69 0 3 #[29, 39, 49, 59], 29) := by decide +kernel
theorem dX8_adjusted_48 : decode cX8_adjusted 48 = .ok (.aload_n 0, 1) := by decide +kernel
theorem dX8_adjusted_49 : decode cX8_adjusted 49 = .ok (.getfield 36, 3) := by decide +kernel
theorem dX8_adjusted_52 : decode cX8_adjusted 52 = .ok (.getfield 224, 3) := by decide +kernel
theorem dX8_adjusted_55 : decode cX8_adjusted 55 = .ok (.iload_n 1, 1) := by decide +kernel
theorem dX8_adjusted_56 : decode cX8_adjusted 56 = .ok (.iaload, 1) := by decide +kernel
theorem dX8_adjusted_57 : decode cX8_adjusted 57 = .ok (.ireturn, 1) := by decide +kernel
theorem dX8_adjusted_58 : decode cX8_adjusted 58 = .ok (.aload_n 0, 1) := by decide +kernel
theorem dX8_adjusted_59 : decode cX8_adjusted 59 = .ok (.getfield 36, 3) := by decide +kernel
theorem dX8_adjusted_62 : decode cX8_adjusted 62 = .ok (.getfield 225, 3) := by decide +kernel
theorem dX8_adjusted_65 : decode cX8_adjusted 65 = .ok (.iload_n 1, 1) := by decide +kernel
theorem dX8_adjusted_66 : decode cX8_adjusted 66 = .ok (.iaload, 1) := by decide +kernel
theorem dX8_adjusted_67 : decode cX8_adjusted 67 = .ok (.ireturn, 1) := by decide +kernel
theorem dX8_adjusted_68 : decode cX8_adjusted 68 = .ok (.aload_n 0, 1) := by decide +kernel
theorem dX8_adjusted_69 : decode cX8_adjusted 69 = .ok (.getfield 36, 3) := by decide +kernel
theorem dX8_adjusted_72 : decode cX8_adjusted 72 = .ok (.getfield 180, 3) := by decide +kernel
theorem dX8_adjusted_75 : decode cX8_adjusted 75 = .ok (.iload_n 1, 1) := by decide +kernel
theorem dX8_adjusted_76 : decode cX8_adjusted 76 = .ok (.iaload, 1) := by decide +kernel
theorem dX8_adjusted_77 : decode cX8_adjusted 77 = .ok (.ireturn, 1) := by decide +kernel
theorem dX8_adjusted_78 : decode cX8_adjusted 78 = .ok (.aload_n 0, 1) := by decide +kernel
theorem dX8_adjusted_79 : decode cX8_adjusted 79 = .ok (.getfield 36, 3) := by decide +kernel
theorem dX8_adjusted_82 : decode cX8_adjusted 82 = .ok (.getfield 226, 3) := by decide +kernel
theorem dX8_adjusted_85 : decode cX8_adjusted 85 = .ok (.iload_n 1, 1) := by decide +kernel
theorem dX8_adjusted_86 : decode cX8_adjusted 86 = .ok (.iaload, 1) := by decide +kernel
theorem dX8_adjusted_87 : decode cX8_adjusted 87 = .ok (.ireturn, 1) := by decide +kernel
theorem dX8_adjusted_88 : decode cX8_adjusted 88 = .ok (.ldc 152, 2) := by decide +kernel
theorem dX8_adjusted_90 : decode cX8_adjusted 90 = .ok (.ireturn, 1) := by decide +kernel
theorem dX8_moves_0 : decode cX8_moves 0 = .ok (.aload_n 0, 1) := by decide +kernel
theorem dX8_moves_1 : decode cX8_moves 1 = .ok (.getfield 19, 3) := by decide +kernel
theorem dX8_moves_4 : decode cX8_moves 4 = .ok (.iload_n 1, 1) := by decide +kernel
theorem dX8_moves_5 : decode cX8_moves 5 = .ok (.invokevirtual 103, 3) := by decide +kernel
theorem dX8_moves_8 : decode cX8_moves 8 = .ok (.ifCond .eq 14, 3) := by decide +kernel
theorem dX8_moves_11 : decode cX8_moves 11 = .ok (.iload_n 2, 1) := by decide +kernel
theorem dX8_moves_12 : decode cX8_moves 12 = .ok (.iconst 1, 1) := by decide +kernel
theorem dX8_moves_13 : decode cX8_moves 13 = .ok (.if_icmp .lt 9, 3) := by decide +kernel
theorem dX8_moves_16 : decode cX8_moves 16 = .ok (.iload_n 2, 1) := by decide +kernel
theorem dX8_moves_17 : decode cX8_moves 17 = .ok (.bipush 99, 2) := by decide +kernel
theorem dX8_moves_19 : decode cX8_moves 19 = .ok (.if_icmp .le 5, 3) := by decide +kernel
theorem dX8_moves_22 : decode cX8_moves 22 = .ok (.iconst (-1), 1) := by decide +kernel
theorem dX8_moves_23 : decode cX8_moves 23 = .ok (.ireturn, 1) := by decide +kernel
theorem dX8_moves_24 : decode cX8_moves 24 = .ok (.aload_n 0, 1) := by decide +kernel
theorem dX8_moves_25 : decode cX8_moves 25 = .ok (.getfield 19, 3) := by decide +kernel
theorem dX8_moves_28 : decode cX8_moves 28 = .ok (.getfield 96, 3) := by decide +kernel
theorem dX8_moves_31 : decode cX8_moves 31 = .ok (.bipush 40, 2) := by decide +kernel
theorem dX8_moves_33 : decode cX8_moves 33 = .ok (.if_icmp .lt 6, 3) := by decide +kernel
theorem dX8_moves_36 : decode cX8_moves 36 = .ok (.bipush (-2), 2) := by decide +kernel
theorem dX8_moves_38 : decode cX8_moves 38 = .ok (.ireturn, 1) := by decide +kernel
theorem dX8_moves_39 : decode cX8_moves 39 = .ok (.aload_n 0, 1) := by decide +kernel
theorem dX8_moves_40 : decode cX8_moves 40 = .ok (.getfield 19, 3) := by decide +kernel
theorem dX8_moves_43 : decode cX8_moves 43 = .ok (.iload_n 1, 1) := by decide +kernel
theorem dX8_moves_44 : decode cX8_moves 44 = .ok (.iload_n 2, 1) := by decide +kernel
theorem dX8_moves_45 : decode cX8_moves 45 = .ok (.invokevirtual 229, 3) := by decide +kernel
theorem dX8_moves_48 : decode cX8_moves 48 = .ok (.istore_n 3, 1) := by decide +kernel
theorem dX8_moves_49 : decode cX8_moves 49 = .ok (.aload_n 0, 1) := by decide +kernel
theorem dX8_moves_50 : decode cX8_moves 50 = .ok (.getfield 43, 3) := by decide +kernel
theorem dX8_moves_53 : decode cX8_moves 53 = .ok (.iconst 0, 1) := by decide +kernel
theorem dX8_moves_54 : decode cX8_moves 54 = .ok (.iload_n 3, 1) := by decide +kernel
theorem dX8_moves_55 : decode cX8_moves 55 = .ok (.invokevirtual 234, 3) := by decide +kernel
theorem dX8_moves_58 : decode cX8_moves 58 = .ok (.pop, 1) := by decide +kernel
theorem dX8_moves_59 : decode cX8_moves 59 = .ok (.iload_n 3, 1) := by decide +kernel
theorem dX8_moves_60 : decode cX8_moves 60 = .ok (.ireturn, 1) := by decide +kernel
theorem dX8_leg_0 : decode cX8_leg 0 = .ok (.aload_n 0, 1) := by decide +kernel
theorem dX8_leg_1 : decode cX8_leg 1 = .ok (.getfield 19, 3) := by decide +kernel
theorem dX8_leg_4 : decode cX8_leg 4 = .ok (.iload_n 1, 1) := by decide +kernel
theorem dX8_leg_5 : decode cX8_leg 5 = .ok (.invokevirtual 114, 3) := by decide +kernel
theorem dX8_leg_8 : decode cX8_leg 8 = .ok (.ifCond .eq 31, 3) := by decide +kernel
theorem dX8_leg_11 : decode cX8_leg 11 = .ok (.iload_n 2, 1) := by decide +kernel
theorem dX8_leg_12 : decode cX8_leg 12 = .ok (.invokestatic 238, 3) := by decide +kernel
theorem dX8_leg_15 : decode cX8_leg 15 = .ok (.ifCond .eq 24, 3) := by decide +kernel
theorem dX8_leg_18 : decode cX8_leg 18 = .ok (.aload_n 0, 1) := by decide +kernel
theorem dX8_leg_19 : decode cX8_leg 19 = .ok (.getfield 19, 3) := by decide +kernel
theorem dX8_leg_22 : decode cX8_leg 22 = .ok (.iload_n 3, 1) := by decide +kernel
theorem dX8_leg_23 : decode cX8_leg 23 = .ok (.invokevirtual 241, 3) := by decide +kernel
theorem dX8_leg_26 : decode cX8_leg 26 = .ok (.ifCond .eq 13, 3) := by decide +kernel
theorem dX8_leg_29 : decode cX8_leg 29 = .ok (.iload 4, 2) := by decide +kernel
theorem dX8_leg_31 : decode cX8_leg 31 = .ok (.iload 5, 2) := by decide +kernel
theorem dX8_leg_33 : decode cX8_leg 33 = .ok (.invokestatic 244, 3) := by decide +kernel
theorem dX8_leg_36 : decode cX8_leg 36 = .ok (.ifCond .ne 5, 3) := by decide +kernel
theorem dX8_leg_39 : decode cX8_leg 39 = .ok (.iconst 0, 1) := by decide +kernel
theorem dX8_leg_40 : decode cX8_leg 40 = .ok (.ireturn, 1) := by decide +kernel
theorem dX8_leg_41 : decode cX8_leg 41 = .ok (.aload_n 0, 1) := by decide +kernel
theorem dX8_leg_42 : decode cX8_leg 42 = .ok (.getfield 19, 3) := by decide +kernel
theorem dX8_leg_45 : decode cX8_leg 45 = .ok (.iload_n 1, 1) := by decide +kernel
theorem dX8_leg_46 : decode cX8_leg 46 = .ok (.iload_n 2, 1) := by decide +kernel
theorem dX8_leg_47 : decode cX8_leg 47 = .ok (.invokestatic 133, 3) := by decide +kernel
theorem dX8_leg_50 : decode cX8_leg 50 = .ok (.invokevirtual 247, 3) := by decide +kernel
theorem dX8_leg_53 : decode cX8_leg 53 = .ok (.ifCond .eq 5, 3) := by decide +kernel
theorem dX8_leg_56 : decode cX8_leg 56 = .ok (.iconst 0, 1) := by decide +kernel
theorem dX8_leg_57 : decode cX8_leg 57 = .ok (.ireturn, 1) := by decide +kernel
theorem dX8_leg_58 : decode cX8_leg 58 = .ok (.aload_n 0, 1) := by decide +kernel
theorem dX8_leg_59 : decode cX8_leg 59 = .ok (.getfield 19, 3) := by decide +kernel
theorem dX8_leg_62 : decode cX8_leg 62 = .ok (.iload_n 1, 1) := by decide +kernel
theorem dX8_leg_63 : decode cX8_leg 63 = .ok (.iload_n 2, 1) := by decide +kernel
theorem dX8_leg_64 : decode cX8_leg 64 = .ok (.invokestatic 133, 3) := by decide +kernel
theorem dX8_leg_67 : decode cX8_leg 67 = .ok (.iload_n 3, 1) := by decide +kernel
theorem dX8_leg_68 : decode cX8_leg 68 = .ok (.iload 4, 2) := by decide +kernel
theorem dX8_leg_70 : decode cX8_leg 70 = .ok (.iload 5, 2) := by decide +kernel
theorem dX8_leg_72 : decode cX8_leg 72 = .ok (.invokevirtual 250, 3) := by decide +kernel
theorem dX8_leg_75 : decode cX8_leg 75 = .ok (.aload_n 0, 1) := by decide +kernel
theorem dX8_leg_76 : decode cX8_leg 76 = .ok (.getfield 43, 3) := by decide +kernel
theorem dX8_leg_79 : decode cX8_leg 79 = .ok (.iconst 1, 1) := by decide +kernel
theorem dX8_leg_80 : decode cX8_leg 80 = .ok (.iload_n 1, 1) := by decide +kernel
theorem dX8_leg_81 : decode cX8_leg 81 = .ok (.iload_n 2, 1) := by decide +kernel
theorem dX8_leg_82 : decode cX8_leg 82 = .ok (.invokestatic 133, 3) := by decide +kernel
theorem dX8_leg_85 : decode cX8_leg 85 = .ok (.invokevirtual 234, 3) := by decide +kernel
theorem dX8_leg_88 : decode cX8_leg 88 = .ok (.pop, 1) := by decide +kernel
theorem dX8_leg_89 : decode cX8_leg 89 = .ok (.iconst 1, 1) := by decide +kernel
theorem dX8_leg_90 : decode cX8_leg 90 = .ok (.ireturn, 1) := by decide +kernel
theorem dX8_narrow_0 : decode cX8_narrow 0 = .ok (.aload_n 0, 1) := by decide +kernel
theorem dX8_narrow_1 : decode cX8_narrow 1 = .ok (.getfield 19, 3) := by decide +kernel
theorem dX8_narrow_4 : decode cX8_narrow 4 = .ok (.iload_n 1, 1) := by decide +kernel
theorem dX8_narrow_5 : decode cX8_narrow 5 = .ok (.invokevirtual 114, 3) := by decide +kernel
theorem dX8_narrow_8 : decode cX8_narrow 8 = .ok (.ifCond .eq 25, 3) := by decide +kernel
theorem dX8_narrow_11 : decode cX8_narrow 11 = .ok (.iload_n 2, 1) := by decide +kernel
theorem dX8_narrow_12 : decode cX8_narrow 12 = .ok (.invokestatic 238, 3) := by decide +kernel
theorem dX8_narrow_15 : decode cX8_narrow 15 = .ok (.ifCond .eq 18, 3) := by decide +kernel
theorem dX8_narrow_18 : decode cX8_narrow 18 = .ok (.aload_n 0, 1) := by decide +kernel
theorem dX8_narrow_19 : decode cX8_narrow 19 = .ok (.getfield 19, 3) := by decide +kernel
theorem dX8_narrow_22 : decode cX8_narrow 22 = .ok (.iload_n 1, 1) := by decide +kernel
theorem dX8_narrow_23 : decode cX8_narrow 23 = .ok (.iload_n 2, 1) := by decide +kernel
theorem dX8_narrow_24 : decode cX8_narrow 24 = .ok (.invokestatic 133, 3) := by decide +kernel
theorem dX8_narrow_27 : decode cX8_narrow 27 = .ok (.invokevirtual 247, 3) := by decide +kernel
theorem dX8_narrow_30 : decode cX8_narrow 30 = .ok (.ifCond .ne 5, 3) := by decide +kernel
theorem dX8_narrow_33 : decode cX8_narrow 33 = .ok (.iconst (-1), 1) := by decide +kernel
theorem dX8_narrow_34 : decode cX8_narrow 34 = .ok (.ireturn, 1) := by decide +kernel
theorem dX8_narrow_35 : decode cX8_narrow 35 = .ok (.iload_n 1, 1) := by decide +kernel
theorem dX8_narrow_36 : decode cX8_narrow 36 = .ok (.iload_n 2, 1) := by decide +kernel
theorem dX8_narrow_37 : decode cX8_narrow 37 = .ok (.invokestatic 133, 3) := by decide +kernel
theorem dX8_narrow_40 : decode cX8_narrow 40 = .ok (.istore 5, 2) := by decide +kernel
theorem dX8_narrow_42 : decode cX8_narrow 42 = .ok (.aload_n 0, 1) := by decide +kernel
theorem dX8_narrow_43 : decode cX8_narrow 43 = .ok (.getfield 19, 3) := by decide +kernel
theorem dX8_narrow_46 : decode cX8_narrow 46 = .ok (.getfield 137, 3) := by decide +kernel
theorem dX8_narrow_49 : decode cX8_narrow 49 = .ok (.iload 5, 2) := by decide +kernel
theorem dX8_narrow_51 : decode cX8_narrow 51 = .ok (.iaload, 1) := by decide +kernel
theorem dX8_narrow_52 : decode cX8_narrow 52 = .ok (.istore 6, 2) := by decide +kernel
theorem dX8_narrow_54 : decode cX8_narrow 54 = .ok (.aload_n 0, 1) := by decide +kernel
theorem dX8_narrow_55 : decode cX8_narrow 55 = .ok (.getfield 19, 3) := by decide +kernel
theorem dX8_narrow_58 : decode cX8_narrow 58 = .ok (.getfield 140, 3) := by decide +kernel
theorem dX8_narrow_61 : decode cX8_narrow 61 = .ok (.iload 5, 2) := by decide +kernel
theorem dX8_narrow_63 : decode cX8_narrow 63 = .ok (.iaload, 1) := by decide +kernel
theorem dX8_narrow_64 : decode cX8_narrow 64 = .ok (.istore 7, 2) := by decide +kernel
theorem dX8_narrow_66 : decode cX8_narrow 66 = .ok (.iload_n 3, 1) := by decide +kernel
theorem dX8_narrow_67 : decode cX8_narrow 67 = .ok (.iload 6, 2) := by decide +kernel
theorem dX8_narrow_69 : decode cX8_narrow 69 = .ok (.if_icmp .lt 16, 3) := by decide +kernel
theorem dX8_narrow_72 : decode cX8_narrow 72 = .ok (.iload 4, 2) := by decide +kernel
theorem dX8_narrow_74 : decode cX8_narrow 74 = .ok (.iload 7, 2) := by decide +kernel
theorem dX8_narrow_76 : decode cX8_narrow 76 = .ok (.if_icmp .gt 9, 3) := by decide +kernel
theorem dX8_narrow_79 : decode cX8_narrow 79 = .ok (.iload_n 3, 1) := by decide +kernel
theorem dX8_narrow_80 : decode cX8_narrow 80 = .ok (.iload 4, 2) := by decide +kernel
theorem dX8_narrow_82 : decode cX8_narrow 82 = .ok (.if_icmp .le 5, 3) := by decide +kernel
theorem dX8_narrow_85 : decode cX8_narrow 85 = .ok (.iconst (-1), 1) := by decide +kernel
theorem dX8_narrow_86 : decode cX8_narrow 86 = .ok (.ireturn, 1) := by decide +kernel
theorem dX8_narrow_87 : decode cX8_narrow 87 = .ok (.aload_n 0, 1) := by decide +kernel
theorem dX8_narrow_88 : decode cX8_narrow 88 = .ok (.getfield 43, 3) := by decide +kernel
theorem dX8_narrow_91 : decode cX8_narrow 91 = .ok (.iconst 2, 1) := by decide +kernel
theorem dX8_narrow_92 : decode cX8_narrow 92 = .ok (.iload 5, 2) := by decide +kernel
theorem dX8_narrow_94 : decode cX8_narrow 94 = .ok (.invokevirtual 234, 3) := by decide +kernel
theorem dX8_narrow_97 : decode cX8_narrow 97 = .ok (.astore 8, 2) := by decide +kernel
theorem dX8_narrow_99 : decode cX8_narrow 99 = .ok (.aload 8, 2) := by decide +kernel
theorem dX8_narrow_101 : decode cX8_narrow 101 = .ok (.iload 6, 2) := by decide +kernel
theorem dX8_narrow_103 : decode cX8_narrow 103 = .ok (.putfield 254, 3) := by decide +kernel
theorem dX8_narrow_106 : decode cX8_narrow 106 = .ok (.aload 8, 2) := by decide +kernel
theorem dX8_narrow_108 : decode cX8_narrow 108 = .ok (.iload 7, 2) := by decide +kernel
theorem dX8_narrow_110 : decode cX8_narrow 110 = .ok (.putfield 257, 3) := by decide +kernel
theorem dX8_narrow_113 : decode cX8_narrow 113 = .ok (.aload_n 0, 1) := by decide +kernel
theorem dX8_narrow_114 : decode cX8_narrow 114 = .ok (.getfield 19, 3) := by decide +kernel
theorem dX8_narrow_117 : decode cX8_narrow 117 = .ok (.iload 5, 2) := by decide +kernel
theorem dX8_narrow_119 : decode cX8_narrow 119 = .ok (.iload_n 3, 1) := by decide +kernel
theorem dX8_narrow_120 : decode cX8_narrow 120 = .ok (.iload 4, 2) := by decide +kernel
theorem dX8_narrow_122 : decode cX8_narrow 122 = .ok (.invokevirtual 260, 3) := by decide +kernel
theorem dX8_narrow_125 : decode cX8_narrow 125 = .ok (.iload 7, 2) := by decide +kernel
theorem dX8_narrow_127 : decode cX8_narrow 127 = .ok (.iload 6, 2) := by decide +kernel
theorem dX8_narrow_129 : decode cX8_narrow 129 = .ok (.isub, 1) := by decide +kernel
theorem dX8_narrow_130 : decode cX8_narrow 130 = .ok (.iload 4, 2) := by decide +kernel
theorem dX8_narrow_132 : decode cX8_narrow 132 = .ok (.iload_n 3, 1) := by decide +kernel
theorem dX8_narrow_133 : decode cX8_narrow 133 = .ok (.isub, 1) := by decide +kernel
theorem dX8_narrow_134 : decode cX8_narrow 134 = .ok (.isub, 1) := by decide +kernel
theorem dX8_narrow_135 : decode cX8_narrow 135 = .ok (.ireturn, 1) := by decide +kernel
theorem dX8_counts_0 : decode cX8_counts 0 = .ok (.aload_n 0, 1) := by decide +kernel
theorem dX8_counts_1 : decode cX8_counts 1 = .ok (.getfield 19, 3) := by decide +kernel
theorem dX8_counts_4 : decode cX8_counts 4 = .ok (.iload_n 1, 1) := by decide +kernel
theorem dX8_counts_5 : decode cX8_counts 5 = .ok (.iload_n 2, 1) := by decide +kernel
theorem dX8_counts_6 : decode cX8_counts 6 = .ok (.invokevirtual 145, 3) := by decide +kernel
theorem dX8_counts_9 : decode cX8_counts 9 = .ok (.ifCond .eq 34, 3) := by decide +kernel
theorem dX8_counts_12 : decode cX8_counts 12 = .ok (.iload_n 3, 1) := by decide +kernel
theorem dX8_counts_13 : decode cX8_counts 13 = .ok (.invokestatic 149, 3) := by decide +kernel
theorem dX8_counts_16 : decode cX8_counts 16 = .ok (.ifCond .eq 27, 3) := by decide +kernel
theorem dX8_counts_19 : decode cX8_counts 19 = .ok (.iload 4, 2) := by decide +kernel
theorem dX8_counts_21 : decode cX8_counts 21 = .ok (.ifCond .lt 22, 3) := by decide +kernel
theorem dX8_counts_24 : decode cX8_counts 24 = .ok (.iload 4, 2) := by decide +kernel
theorem dX8_counts_26 : decode cX8_counts 26 = .ok (.sipush 9999, 3) := by decide +kernel
theorem dX8_counts_29 : decode cX8_counts 29 = .ok (.if_icmp .gt 14, 3) := by decide +kernel
theorem dX8_counts_32 : decode cX8_counts 32 = .ok (.iload 5, 2) := by decide +kernel
theorem dX8_counts_34 : decode cX8_counts 34 = .ok (.ifCond .lt 9, 3) := by decide +kernel
theorem dX8_counts_37 : decode cX8_counts 37 = .ok (.iload 5, 2) := by decide +kernel
theorem dX8_counts_39 : decode cX8_counts 39 = .ok (.iconst 3, 1) := by decide +kernel
theorem dX8_counts_40 : decode cX8_counts 40 = .ok (.if_icmp .le 5, 3) := by decide +kernel
theorem dX8_counts_43 : decode cX8_counts 43 = .ok (.iconst (-1), 1) := by decide +kernel
theorem dX8_counts_44 : decode cX8_counts 44 = .ok (.ireturn, 1) := by decide +kernel
theorem dX8_counts_45 : decode cX8_counts 45 = .ok (.aload_n 0, 1) := by decide +kernel
theorem dX8_counts_46 : decode cX8_counts 46 = .ok (.getfield 29, 3) := by decide +kernel
theorem dX8_counts_49 : decode cX8_counts 49 = .ok (.iload_n 1, 1) := by decide +kernel
theorem dX8_counts_50 : decode cX8_counts 50 = .ok (.iload_n 2, 1) := by decide +kernel
theorem dX8_counts_51 : decode cX8_counts 51 = .ok (.iload_n 3, 1) := by decide +kernel
theorem dX8_counts_52 : decode cX8_counts 52 = .ok (.invokevirtual 264, 3) := by decide +kernel
theorem dX8_counts_55 : decode cX8_counts 55 = .ok (.ifCond .eq 6, 3) := by decide +kernel
theorem dX8_counts_58 : decode cX8_counts 58 = .ok (.bipush (-2), 2) := by decide +kernel
theorem dX8_counts_60 : decode cX8_counts 60 = .ok (.ireturn, 1) := by decide +kernel
theorem dX8_counts_61 : decode cX8_counts 61 = .ok (.aload_n 0, 1) := by decide +kernel
theorem dX8_counts_62 : decode cX8_counts 62 = .ok (.getfield 29, 3) := by decide +kernel
theorem dX8_counts_65 : decode cX8_counts 65 = .ok (.iload_n 1, 1) := by decide +kernel
theorem dX8_counts_66 : decode cX8_counts 66 = .ok (.iload_n 2, 1) := by decide +kernel
theorem dX8_counts_67 : decode cX8_counts 67 = .ok (.iload_n 3, 1) := by decide +kernel
theorem dX8_counts_68 : decode cX8_counts 68 = .ok (.invokevirtual 267, 3) := by decide +kernel
theorem dX8_counts_71 : decode cX8_counts 71 = .ok (.istore 6, 2) := by decide +kernel
theorem dX8_counts_73 : decode cX8_counts 73 = .ok (.iload 6, 2) := by decide +kernel
theorem dX8_counts_75 : decode cX8_counts 75 = .ok (.iconst (-1), 1) := by decide +kernel
theorem dX8_counts_76 : decode cX8_counts 76 = .ok (.if_icmp .eq 21, 3) := by decide +kernel
theorem dX8_counts_79 : decode cX8_counts 79 = .ok (.aload_n 0, 1) := by decide +kernel
theorem dX8_counts_80 : decode cX8_counts 80 = .ok (.getfield 29, 3) := by decide +kernel
theorem dX8_counts_83 : decode cX8_counts 83 = .ok (.getfield 198, 3) := by decide +kernel
theorem dX8_counts_86 : decode cX8_counts 86 = .ok (.iload 6, 2) := by decide +kernel
theorem dX8_counts_88 : decode cX8_counts 88 = .ok (.iaload, 1) := by decide +kernel
theorem dX8_counts_89 : decode cX8_counts 89 = .ok (.iload 5, 2) := by decide +kernel
theorem dX8_counts_91 : decode cX8_counts 91 = .ok (.if_icmp .ne 6, 3) := by decide +kernel
theorem dX8_counts_94 : decode cX8_counts 94 = .ok (.bipush (-3), 2) := by decide +kernel
theorem dX8_counts_96 : decode cX8_counts 96 = .ok (.ireturn, 1) := by decide +kernel
theorem dX8_counts_97 : decode cX8_counts 97 = .ok (.aload_n 0, 1) := by decide +kernel
theorem dX8_counts_98 : decode cX8_counts 98 = .ok (.getfield 29, 3) := by decide +kernel
theorem dX8_counts_101 : decode cX8_counts 101 = .ok (.iload_n 1, 1) := by decide +kernel
theorem dX8_counts_102 : decode cX8_counts 102 = .ok (.iload_n 2, 1) := by decide +kernel
theorem dX8_counts_103 : decode cX8_counts 103 = .ok (.iload_n 3, 1) := by decide +kernel
theorem dX8_counts_104 : decode cX8_counts 104 = .ok (.invokevirtual 271, 3) := by decide +kernel
theorem dX8_counts_107 : decode cX8_counts 107 = .ok (.ifCond .eq 6, 3) := by decide +kernel
theorem dX8_counts_110 : decode cX8_counts 110 = .ok (.bipush (-4), 2) := by decide +kernel
theorem dX8_counts_112 : decode cX8_counts 112 = .ok (.ireturn, 1) := by decide +kernel
theorem dX8_counts_113 : decode cX8_counts 113 = .ok (.aload_n 0, 1) := by decide +kernel
theorem dX8_counts_114 : decode cX8_counts 114 = .ok (.getfield 29, 3) := by decide +kernel
theorem dX8_counts_117 : decode cX8_counts 117 = .ok (.getfield 79, 3) := by decide +kernel
theorem dX8_counts_120 : decode cX8_counts 120 = .ok (.bipush 40, 2) := by decide +kernel
theorem dX8_counts_122 : decode cX8_counts 122 = .ok (.if_icmp .lt 6, 3) := by decide +kernel
theorem dX8_counts_125 : decode cX8_counts 125 = .ok (.bipush (-5), 2) := by decide +kernel
theorem dX8_counts_127 : decode cX8_counts 127 = .ok (.ireturn, 1) := by decide +kernel
theorem dX8_counts_128 : decode cX8_counts 128 = .ok (.aload_n 0, 1) := by decide +kernel
theorem dX8_counts_129 : decode cX8_counts 129 = .ok (.getfield 29, 3) := by decide +kernel
theorem dX8_counts_132 : decode cX8_counts 132 = .ok (.getfield 79, 3) := by decide +kernel
theorem dX8_counts_135 : decode cX8_counts 135 = .ok (.istore 7, 2) := by decide +kernel
theorem dX8_counts_137 : decode cX8_counts 137 = .ok (.aload_n 0, 1) := by decide +kernel
theorem dX8_counts_138 : decode cX8_counts 138 = .ok (.getfield 29, 3) := by decide +kernel
theorem dX8_counts_141 : decode cX8_counts 141 = .ok (.iload 7, 2) := by decide +kernel
theorem dX8_counts_143 : decode cX8_counts 143 = .ok (.iload_n 1, 1) := by decide +kernel
theorem dX8_counts_144 : decode cX8_counts 144 = .ok (.iload_n 2, 1) := by decide +kernel
theorem dX8_counts_145 : decode cX8_counts 145 = .ok (.iload_n 3, 1) := by decide +kernel
theorem dX8_counts_146 : decode cX8_counts 146 = .ok (.iload 4, 2) := by decide +kernel
theorem dX8_counts_148 : decode cX8_counts 148 = .ok (.iload 5, 2) := by decide +kernel
theorem dX8_counts_150 : decode cX8_counts 150 = .ok (.invokevirtual 274, 3) := by decide +kernel
theorem dX8_counts_153 : decode cX8_counts 153 = .ok (.aload_n 0, 1) := by decide +kernel
theorem dX8_counts_154 : decode cX8_counts 154 = .ok (.getfield 43, 3) := by decide +kernel
theorem dX8_counts_157 : decode cX8_counts 157 = .ok (.iconst 3, 1) := by decide +kernel
theorem dX8_counts_158 : decode cX8_counts 158 = .ok (.iload 7, 2) := by decide +kernel
theorem dX8_counts_160 : decode cX8_counts 160 = .ok (.invokevirtual 234, 3) := by decide +kernel
theorem dX8_counts_163 : decode cX8_counts 163 = .ok (.pop, 1) := by decide +kernel
theorem dX8_counts_164 : decode cX8_counts 164 = .ok (.iload 7, 2) := by decide +kernel
theorem dX8_counts_166 : decode cX8_counts 166 = .ok (.ireturn, 1) := by decide +kernel
theorem dX8_post_0 : decode cX8_post 0 = .ok (.aload_n 0, 1) := by decide +kernel
theorem dX8_post_1 : decode cX8_post 1 = .ok (.getfield 19, 3) := by decide +kernel
theorem dX8_post_4 : decode cX8_post 4 = .ok (.iload_n 1, 1) := by decide +kernel
theorem dX8_post_5 : decode cX8_post 5 = .ok (.iload_n 2, 1) := by decide +kernel
theorem dX8_post_6 : decode cX8_post 6 = .ok (.invokevirtual 145, 3) := by decide +kernel
theorem dX8_post_9 : decode cX8_post 9 = .ok (.ifCond .eq 12, 3) := by decide +kernel
theorem dX8_post_12 : decode cX8_post 12 = .ok (.aload_n 0, 1) := by decide +kernel
theorem dX8_post_13 : decode cX8_post 13 = .ok (.iload_n 1, 1) := by decide +kernel
theorem dX8_post_14 : decode cX8_post 14 = .ok (.iload_n 2, 1) := by decide +kernel
theorem dX8_post_15 : decode cX8_post 15 = .ok (.invokevirtual 215, 3) := by decide +kernel
theorem dX8_post_18 : decode cX8_post 18 = .ok (.goto 4, 3) := by decide +kernel
theorem dX8_post_21 : decode cX8_post 21 = .ok (.iconst (-1), 1) := by decide +kernel
theorem dX8_post_22 : decode cX8_post 22 = .ok (.istore_n 3, 1) := by decide +kernel
theorem dX8_post_23 : decode cX8_post 23 = .ok (.iload_n 3, 1) := by decide +kernel
theorem dX8_post_24 : decode cX8_post 24 = .ok (.ifCond .ge 6, 3) := by decide +kernel
theorem dX8_post_27 : decode cX8_post 27 = .ok (.ldc 152, 2) := by decide +kernel
theorem dX8_post_29 : decode cX8_post 29 = .ok (.ireturn, 1) := by decide +kernel
theorem dX8_post_30 : decode cX8_post 30 = .ok (.aload_n 0, 1) := by decide +kernel
theorem dX8_post_31 : decode cX8_post 31 = .ok (.getfield 29, 3) := by decide +kernel
theorem dX8_post_34 : decode cX8_post 34 = .ok (.getfield 194, 3) := by decide +kernel
theorem dX8_post_37 : decode cX8_post 37 = .ok (.iload_n 3, 1) := by decide +kernel
theorem dX8_post_38 : decode cX8_post 38 = .ok (.iaload, 1) := by decide +kernel
theorem dX8_post_39 : decode cX8_post 39 = .ok (.istore 4, 2) := by decide +kernel
theorem dX8_post_41 : decode cX8_post 41 = .ok (.aload_n 0, 1) := by decide +kernel
theorem dX8_post_42 : decode cX8_post 42 = .ok (.iload_n 3, 1) := by decide +kernel
theorem dX8_post_43 : decode cX8_post 43 = .ok (.invokevirtual 211, 3) := by decide +kernel
theorem dX8_post_46 : decode cX8_post 46 = .ok (.istore 5, 2) := by decide +kernel
theorem dX8_post_48 : decode cX8_post 48 = .ok (.aload_n 0, 1) := by decide +kernel
theorem dX8_post_49 : decode cX8_post 49 = .ok (.getfield 36, 3) := by decide +kernel
theorem dX8_post_52 : decode cX8_post 52 = .ok (.iload_n 1, 1) := by decide +kernel
theorem dX8_post_53 : decode cX8_post 53 = .ok (.iload_n 2, 1) := by decide +kernel
theorem dX8_post_54 : decode cX8_post 54 = .ok (.iload 4, 2) := by decide +kernel
theorem dX8_post_56 : decode cX8_post 56 = .ok (.iload 5, 2) := by decide +kernel
theorem dX8_post_58 : decode cX8_post 58 = .ok (.invokevirtual 278, 3) := by decide +kernel
theorem dX8_post_61 : decode cX8_post 61 = .ok (.aload_n 0, 1) := by decide +kernel
theorem dX8_post_62 : decode cX8_post 62 = .ok (.getfield 43, 3) := by decide +kernel
theorem dX8_post_65 : decode cX8_post 65 = .ok (.iconst 4, 1) := by decide +kernel
theorem dX8_post_66 : decode cX8_post 66 = .ok (.iload_n 3, 1) := by decide +kernel
theorem dX8_post_67 : decode cX8_post 67 = .ok (.invokevirtual 234, 3) := by decide +kernel
theorem dX8_post_70 : decode cX8_post 70 = .ok (.astore 6, 2) := by decide +kernel
theorem dX8_post_72 : decode cX8_post 72 = .ok (.aload 6, 2) := by decide +kernel
theorem dX8_post_74 : decode cX8_post 74 = .ok (.aload_n 0, 1) := by decide +kernel
theorem dX8_post_75 : decode cX8_post 75 = .ok (.getfield 29, 3) := by decide +kernel
theorem dX8_post_78 : decode cX8_post 78 = .ok (.iload_n 1, 1) := by decide +kernel
theorem dX8_post_79 : decode cX8_post 79 = .ok (.iload_n 2, 1) := by decide +kernel
theorem dX8_post_80 : decode cX8_post 80 = .ok (.iload 4, 2) := by decide +kernel
theorem dX8_post_82 : decode cX8_post 82 = .ok (.invokevirtual 280, 3) := by decide +kernel
theorem dX8_post_85 : decode cX8_post 85 = .ok (.putfield 284, 3) := by decide +kernel
theorem dX8_post_88 : decode cX8_post 88 = .ok (.iload 5, 2) := by decide +kernel
theorem dX8_post_90 : decode cX8_post 90 = .ok (.ireturn, 1) := by decide +kernel
theorem dX8_drop_0 : decode cX8_drop 0 = .ok (.aload_n 0, 1) := by decide +kernel
theorem dX8_drop_1 : decode cX8_drop 1 = .ok (.getfield 29, 3) := by decide +kernel
theorem dX8_drop_4 : decode cX8_drop 4 = .ok (.iload_n 1, 1) := by decide +kernel
theorem dX8_drop_5 : decode cX8_drop 5 = .ok (.invokevirtual 183, 3) := by decide +kernel
theorem dX8_drop_8 : decode cX8_drop 8 = .ok (.ifCond .eq 15, 3) := by decide +kernel
theorem dX8_drop_11 : decode cX8_drop 11 = .ok (.aload_n 0, 1) := by decide +kernel
theorem dX8_drop_12 : decode cX8_drop 12 = .ok (.getfield 29, 3) := by decide +kernel
theorem dX8_drop_15 : decode cX8_drop 15 = .ok (.getfield 201, 3) := by decide +kernel
theorem dX8_drop_18 : decode cX8_drop 18 = .ok (.iload_n 1, 1) := by decide +kernel
theorem dX8_drop_19 : decode cX8_drop 19 = .ok (.baload, 1) := by decide +kernel
theorem dX8_drop_20 : decode cX8_drop 20 = .ok (.ifCond .eq 5, 3) := by decide +kernel
theorem dX8_drop_23 : decode cX8_drop 23 = .ok (.iconst 0, 1) := by decide +kernel
theorem dX8_drop_24 : decode cX8_drop 24 = .ok (.ireturn, 1) := by decide +kernel
theorem dX8_drop_25 : decode cX8_drop 25 = .ok (.aload_n 0, 1) := by decide +kernel
theorem dX8_drop_26 : decode cX8_drop 26 = .ok (.getfield 43, 3) := by decide +kernel
theorem dX8_drop_29 : decode cX8_drop 29 = .ok (.iconst 5, 1) := by decide +kernel
theorem dX8_drop_30 : decode cX8_drop 30 = .ok (.iload_n 1, 1) := by decide +kernel
theorem dX8_drop_31 : decode cX8_drop 31 = .ok (.invokevirtual 234, 3) := by decide +kernel
theorem dX8_drop_34 : decode cX8_drop 34 = .ok (.astore_n 2, 1) := by decide +kernel
theorem dX8_drop_35 : decode cX8_drop 35 = .ok (.aload_n 2, 1) := by decide +kernel
theorem dX8_drop_36 : decode cX8_drop 36 = .ok (.aload_n 0, 1) := by decide +kernel
theorem dX8_drop_37 : decode cX8_drop 37 = .ok (.getfield 29, 3) := by decide +kernel
theorem dX8_drop_40 : decode cX8_drop 40 = .ok (.getfield 188, 3) := by decide +kernel
theorem dX8_drop_43 : decode cX8_drop 43 = .ok (.iload_n 1, 1) := by decide +kernel
theorem dX8_drop_44 : decode cX8_drop 44 = .ok (.iaload, 1) := by decide +kernel
theorem dX8_drop_45 : decode cX8_drop 45 = .ok (.putfield 287, 3) := by decide +kernel
theorem dX8_drop_48 : decode cX8_drop 48 = .ok (.aload_n 2, 1) := by decide +kernel
theorem dX8_drop_49 : decode cX8_drop 49 = .ok (.aload_n 0, 1) := by decide +kernel
theorem dX8_drop_50 : decode cX8_drop 50 = .ok (.getfield 29, 3) := by decide +kernel
theorem dX8_drop_53 : decode cX8_drop 53 = .ok (.getfield 191, 3) := by decide +kernel
theorem dX8_drop_56 : decode cX8_drop 56 = .ok (.iload_n 1, 1) := by decide +kernel
theorem dX8_drop_57 : decode cX8_drop 57 = .ok (.iaload, 1) := by decide +kernel
theorem dX8_drop_58 : decode cX8_drop 58 = .ok (.putfield 289, 3) := by decide +kernel
theorem dX8_drop_61 : decode cX8_drop 61 = .ok (.aload_n 2, 1) := by decide +kernel
theorem dX8_drop_62 : decode cX8_drop 62 = .ok (.aload_n 0, 1) := by decide +kernel
theorem dX8_drop_63 : decode cX8_drop 63 = .ok (.getfield 29, 3) := by decide +kernel
theorem dX8_drop_66 : decode cX8_drop 66 = .ok (.getfield 194, 3) := by decide +kernel
theorem dX8_drop_69 : decode cX8_drop 69 = .ok (.iload_n 1, 1) := by decide +kernel
theorem dX8_drop_70 : decode cX8_drop 70 = .ok (.iaload, 1) := by decide +kernel
theorem dX8_drop_71 : decode cX8_drop 71 = .ok (.putfield 291, 3) := by decide +kernel
theorem dX8_drop_74 : decode cX8_drop 74 = .ok (.aload_n 2, 1) := by decide +kernel
theorem dX8_drop_75 : decode cX8_drop 75 = .ok (.aload_n 0, 1) := by decide +kernel
theorem dX8_drop_76 : decode cX8_drop 76 = .ok (.getfield 29, 3) := by decide +kernel
theorem dX8_drop_79 : decode cX8_drop 79 = .ok (.getfield 195, 3) := by decide +kernel
theorem dX8_drop_82 : decode cX8_drop 82 = .ok (.iload_n 1, 1) := by decide +kernel
theorem dX8_drop_83 : decode cX8_drop 83 = .ok (.iaload, 1) := by decide +kernel
theorem dX8_drop_84 : decode cX8_drop 84 = .ok (.putfield 293, 3) := by decide +kernel
theorem dX8_drop_87 : decode cX8_drop 87 = .ok (.aload_n 2, 1) := by decide +kernel
theorem dX8_drop_88 : decode cX8_drop 88 = .ok (.aload_n 0, 1) := by decide +kernel
theorem dX8_drop_89 : decode cX8_drop 89 = .ok (.getfield 29, 3) := by decide +kernel
theorem dX8_drop_92 : decode cX8_drop 92 = .ok (.getfield 198, 3) := by decide +kernel
theorem dX8_drop_95 : decode cX8_drop 95 = .ok (.iload_n 1, 1) := by decide +kernel
theorem dX8_drop_96 : decode cX8_drop 96 = .ok (.iaload, 1) := by decide +kernel
theorem dX8_drop_97 : decode cX8_drop 97 = .ok (.putfield 295, 3) := by decide +kernel
theorem dX8_drop_100 : decode cX8_drop 100 = .ok (.aload_n 0, 1) := by decide +kernel
theorem dX8_drop_101 : decode cX8_drop 101 = .ok (.getfield 29, 3) := by decide +kernel
theorem dX8_drop_104 : decode cX8_drop 104 = .ok (.iload_n 1, 1) := by decide +kernel
theorem dX8_drop_105 : decode cX8_drop 105 = .ok (.invokevirtual 297, 3) := by decide +kernel
theorem dX8_drop_108 : decode cX8_drop 108 = .ok (.iconst 1, 1) := by decide +kernel
theorem dX8_drop_109 : decode cX8_drop 109 = .ok (.ireturn, 1) := by decide +kernel
theorem dX8_undo_0 : decode cX8_undo 0 = .ok (.aload_n 0, 1) := by decide +kernel
theorem dX8_undo_1 : decode cX8_undo 1 = .ok (.getfield 43, 3) := by decide +kernel
theorem dX8_undo_4 : decode cX8_undo 4 = .ok (.getfield 83, 3) := by decide +kernel
theorem dX8_undo_7 : decode cX8_undo 7 = .ok (.ifCond .gt 5, 3) := by decide +kernel
theorem dX8_undo_10 : decode cX8_undo 10 = .ok (.iconst (-1), 1) := by decide +kernel
theorem dX8_undo_11 : decode cX8_undo 11 = .ok (.ireturn, 1) := by decide +kernel
theorem dX8_undo_12 : decode cX8_undo 12 = .ok (.aload_n 0, 1) := by decide +kernel
theorem dX8_undo_13 : decode cX8_undo 13 = .ok (.aload_n 0, 1) := by decide +kernel
theorem dX8_undo_14 : decode cX8_undo 14 = .ok (.getfield 43, 3) := by decide +kernel
theorem dX8_undo_17 : decode cX8_undo 17 = .ok (.invokevirtual 300, 3) := by decide +kernel
theorem dX8_undo_20 : decode cX8_undo 20 = .ok (.invokevirtual 304, 3) := by decide +kernel
theorem dX8_undo_23 : decode cX8_undo 23 = .ok (.aload_n 0, 1) := by decide +kernel
theorem dX8_undo_24 : decode cX8_undo 24 = .ok (.getfield 43, 3) := by decide +kernel
theorem dX8_undo_27 : decode cX8_undo 27 = .ok (.getfield 83, 3) := by decide +kernel
theorem dX8_undo_30 : decode cX8_undo 30 = .ok (.ireturn, 1) := by decide +kernel
theorem dX8_takeBack_0 : decode cX8_takeBack 0 = .ok (.aload_n 1, 1) := by decide +kernel
theorem dX8_takeBack_1 : decode cX8_takeBack 1 = .ok (.getfield 308, 3) := by decide +kernel
theorem dX8_takeBack_4 : decode cX8_takeBack 4 = .ok (.tableswitch 155 0 5 #[40, 50, 64, 86, 100, 121], 40) := by decide +kernel
theorem dX8_takeBack_44 : decode cX8_takeBack 44 = .ok (.aload_n 0, 1) := by decide +kernel
theorem dX8_takeBack_45 : decode cX8_takeBack 45 = .ok (.getfield 19, 3) := by decide +kernel
theorem dX8_takeBack_48 : decode cX8_takeBack 48 = .ok (.invokevirtual 311, 3) := by decide +kernel
theorem dX8_takeBack_51 : decode cX8_takeBack 51 = .ok (.goto 108, 3) := by decide +kernel
theorem dX8_takeBack_54 : decode cX8_takeBack 54 = .ok (.aload_n 0, 1) := by decide +kernel
theorem dX8_takeBack_55 : decode cX8_takeBack 55 = .ok (.getfield 19, 3) := by decide +kernel
theorem dX8_takeBack_58 : decode cX8_takeBack 58 = .ok (.aload_n 1, 1) := by decide +kernel
theorem dX8_takeBack_59 : decode cX8_takeBack 59 = .ok (.getfield 314, 3) := by decide +kernel
theorem dX8_takeBack_62 : decode cX8_takeBack 62 = .ok (.invokevirtual 317, 3) := by decide +kernel
theorem dX8_takeBack_65 : decode cX8_takeBack 65 = .ok (.goto 94, 3) := by decide +kernel
theorem dX8_takeBack_68 : decode cX8_takeBack 68 = .ok (.aload_n 0, 1) := by decide +kernel
theorem dX8_takeBack_69 : decode cX8_takeBack 69 = .ok (.getfield 19, 3) := by decide +kernel
theorem dX8_takeBack_72 : decode cX8_takeBack 72 = .ok (.aload_n 1, 1) := by decide +kernel
theorem dX8_takeBack_73 : decode cX8_takeBack 73 = .ok (.getfield 314, 3) := by decide +kernel
theorem dX8_takeBack_76 : decode cX8_takeBack 76 = .ok (.aload_n 1, 1) := by decide +kernel
theorem dX8_takeBack_77 : decode cX8_takeBack 77 = .ok (.getfield 254, 3) := by decide +kernel
theorem dX8_takeBack_80 : decode cX8_takeBack 80 = .ok (.aload_n 1, 1) := by decide +kernel
theorem dX8_takeBack_81 : decode cX8_takeBack 81 = .ok (.getfield 257, 3) := by decide +kernel
theorem dX8_takeBack_84 : decode cX8_takeBack 84 = .ok (.invokevirtual 260, 3) := by decide +kernel
theorem dX8_takeBack_87 : decode cX8_takeBack 87 = .ok (.goto 72, 3) := by decide +kernel
theorem dX8_takeBack_90 : decode cX8_takeBack 90 = .ok (.aload_n 0, 1) := by decide +kernel
theorem dX8_takeBack_91 : decode cX8_takeBack 91 = .ok (.getfield 29, 3) := by decide +kernel
theorem dX8_takeBack_94 : decode cX8_takeBack 94 = .ok (.aload_n 1, 1) := by decide +kernel
theorem dX8_takeBack_95 : decode cX8_takeBack 95 = .ok (.getfield 314, 3) := by decide +kernel
theorem dX8_takeBack_98 : decode cX8_takeBack 98 = .ok (.invokevirtual 297, 3) := by decide +kernel
theorem dX8_takeBack_101 : decode cX8_takeBack 101 = .ok (.goto 58, 3) := by decide +kernel
theorem dX8_takeBack_104 : decode cX8_takeBack 104 = .ok (.aload_n 0, 1) := by decide +kernel
theorem dX8_takeBack_105 : decode cX8_takeBack 105 = .ok (.getfield 36, 3) := by decide +kernel
theorem dX8_takeBack_108 : decode cX8_takeBack 108 = .ok (.invokevirtual 320, 3) := by decide +kernel
theorem dX8_takeBack_111 : decode cX8_takeBack 111 = .ok (.aload_n 0, 1) := by decide +kernel
theorem dX8_takeBack_112 : decode cX8_takeBack 112 = .ok (.getfield 29, 3) := by decide +kernel
theorem dX8_takeBack_115 : decode cX8_takeBack 115 = .ok (.aload_n 1, 1) := by decide +kernel
theorem dX8_takeBack_116 : decode cX8_takeBack 116 = .ok (.getfield 284, 3) := by decide +kernel
theorem dX8_takeBack_119 : decode cX8_takeBack 119 = .ok (.invokevirtual 323, 3) := by decide +kernel
theorem dX8_takeBack_122 : decode cX8_takeBack 122 = .ok (.goto 37, 3) := by decide +kernel
theorem dX8_takeBack_125 : decode cX8_takeBack 125 = .ok (.aload_n 0, 1) := by decide +kernel
theorem dX8_takeBack_126 : decode cX8_takeBack 126 = .ok (.getfield 29, 3) := by decide +kernel
theorem dX8_takeBack_129 : decode cX8_takeBack 129 = .ok (.aload_n 1, 1) := by decide +kernel
theorem dX8_takeBack_130 : decode cX8_takeBack 130 = .ok (.getfield 314, 3) := by decide +kernel
theorem dX8_takeBack_133 : decode cX8_takeBack 133 = .ok (.aload_n 1, 1) := by decide +kernel
theorem dX8_takeBack_134 : decode cX8_takeBack 134 = .ok (.getfield 287, 3) := by decide +kernel
theorem dX8_takeBack_137 : decode cX8_takeBack 137 = .ok (.aload_n 1, 1) := by decide +kernel
theorem dX8_takeBack_138 : decode cX8_takeBack 138 = .ok (.getfield 289, 3) := by decide +kernel
theorem dX8_takeBack_141 : decode cX8_takeBack 141 = .ok (.aload_n 1, 1) := by decide +kernel
theorem dX8_takeBack_142 : decode cX8_takeBack 142 = .ok (.getfield 291, 3) := by decide +kernel
theorem dX8_takeBack_145 : decode cX8_takeBack 145 = .ok (.aload_n 1, 1) := by decide +kernel
theorem dX8_takeBack_146 : decode cX8_takeBack 146 = .ok (.getfield 293, 3) := by decide +kernel
theorem dX8_takeBack_149 : decode cX8_takeBack 149 = .ok (.aload_n 1, 1) := by decide +kernel
theorem dX8_takeBack_150 : decode cX8_takeBack 150 = .ok (.getfield 295, 3) := by decide +kernel
theorem dX8_takeBack_153 : decode cX8_takeBack 153 = .ok (.invokevirtual 274, 3) := by decide +kernel
theorem dX8_takeBack_156 : decode cX8_takeBack 156 = .ok (.goto 3, 3) := by decide +kernel
theorem dX8_takeBack_159 : decode cX8_takeBack 159 = .ok (.return_, 1) := by decide +kernel
theorem dX8_isInstant_0 : decode cX8_isInstant 0 = .ok (.iload_n 0, 1) := by decide +kernel
theorem dX8_isInstant_1 : decode cX8_isInstant 1 = .ok (.ifCond .lt 14, 3) := by decide +kernel
theorem dX8_isInstant_4 : decode cX8_isInstant 4 = .ok (.iload_n 0, 1) := by decide +kernel
theorem dX8_isInstant_5 : decode cX8_isInstant 5 = .ok (.sipush 999, 3) := by decide +kernel
theorem dX8_isInstant_8 : decode cX8_isInstant 8 = .ok (.if_icmp .gt 7, 3) := by decide +kernel
theorem dX8_isInstant_11 : decode cX8_isInstant 11 = .ok (.iconst 1, 1) := by decide +kernel
theorem dX8_isInstant_12 : decode cX8_isInstant 12 = .ok (.goto 4, 3) := by decide +kernel
theorem dX8_isInstant_15 : decode cX8_isInstant 15 = .ok (.iconst 0, 1) := by decide +kernel
theorem dX8_isInstant_16 : decode cX8_isInstant 16 = .ok (.ireturn, 1) := by decide +kernel
theorem dX8_isSpan_0 : decode cX8_isSpan 0 = .ok (.iload_n 0, 1) := by decide +kernel
theorem dX8_isSpan_1 : decode cX8_isSpan 1 = .ok (.invokestatic 149, 3) := by decide +kernel
theorem dX8_isSpan_4 : decode cX8_isSpan 4 = .ok (.ifCond .eq 19, 3) := by decide +kernel
theorem dX8_isSpan_7 : decode cX8_isSpan 7 = .ok (.iload_n 1, 1) := by decide +kernel
theorem dX8_isSpan_8 : decode cX8_isSpan 8 = .ok (.invokestatic 149, 3) := by decide +kernel
theorem dX8_isSpan_11 : decode cX8_isSpan 11 = .ok (.ifCond .eq 12, 3) := by decide +kernel
theorem dX8_isSpan_14 : decode cX8_isSpan 14 = .ok (.iload_n 0, 1) := by decide +kernel
theorem dX8_isSpan_15 : decode cX8_isSpan 15 = .ok (.iload_n 1, 1) := by decide +kernel
theorem dX8_isSpan_16 : decode cX8_isSpan 16 = .ok (.if_icmp .gt 7, 3) := by decide +kernel
theorem dX8_isSpan_19 : decode cX8_isSpan 19 = .ok (.iconst 1, 1) := by decide +kernel
theorem dX8_isSpan_20 : decode cX8_isSpan 20 = .ok (.goto 4, 3) := by decide +kernel
theorem dX8_isSpan_23 : decode cX8_isSpan 23 = .ok (.iconst 0, 1) := by decide +kernel
theorem dX8_isSpan_24 : decode cX8_isSpan 24 = .ok (.ireturn, 1) := by decide +kernel
theorem dX8_isLeg_0 : decode cX8_isLeg 0 = .ok (.iload_n 0, 1) := by decide +kernel
theorem dX8_isLeg_1 : decode cX8_isLeg 1 = .ok (.ifCond .eq 8, 3) := by decide +kernel
theorem dX8_isLeg_4 : decode cX8_isLeg 4 = .ok (.iload_n 0, 1) := by decide +kernel
theorem dX8_isLeg_5 : decode cX8_isLeg 5 = .ok (.iconst 1, 1) := by decide +kernel
theorem dX8_isLeg_6 : decode cX8_isLeg 6 = .ok (.if_icmp .ne 7, 3) := by decide +kernel
theorem dX8_isLeg_9 : decode cX8_isLeg 9 = .ok (.iconst 1, 1) := by decide +kernel
theorem dX8_isLeg_10 : decode cX8_isLeg 10 = .ok (.goto 4, 3) := by decide +kernel
theorem dX8_isLeg_13 : decode cX8_isLeg 13 = .ok (.iconst 0, 1) := by decide +kernel
theorem dX8_isLeg_14 : decode cX8_isLeg 14 = .ok (.ireturn, 1) := by decide +kernel
theorem dX8_legOf_0 : decode cX8_legOf 0 = .ok (.iconst 2, 1) := by decide +kernel
theorem dX8_legOf_1 : decode cX8_legOf 1 = .ok (.iload_n 0, 1) := by decide +kernel
theorem dX8_legOf_2 : decode cX8_legOf 2 = .ok (.imul, 1) := by decide +kernel
theorem dX8_legOf_3 : decode cX8_legOf 3 = .ok (.iload_n 1, 1) := by decide +kernel
theorem dX8_legOf_4 : decode cX8_legOf 4 = .ok (.iadd, 1) := by decide +kernel
theorem dX8_legOf_5 : decode cX8_legOf 5 = .ok (.ireturn, 1) := by decide +kernel
theorem dX8_isInTransit_0 : decode cX8_isInTransit 0 = .ok (.iload_n 1, 1) := by decide +kernel
theorem dX8_isInTransit_1 : decode cX8_isInTransit 1 = .ok (.iconst 0, 1) := by decide +kernel
theorem dX8_isInTransit_2 : decode cX8_isInTransit 2 = .ok (.invokestatic 133, 3) := by decide +kernel
theorem dX8_isInTransit_5 : decode cX8_isInTransit 5 = .ok (.istore 4, 2) := by decide +kernel
theorem dX8_isInTransit_7 : decode cX8_isInTransit 7 = .ok (.iload_n 1, 1) := by decide +kernel
theorem dX8_isInTransit_8 : decode cX8_isInTransit 8 = .ok (.iconst 1, 1) := by decide +kernel
theorem dX8_isInTransit_9 : decode cX8_isInTransit 9 = .ok (.invokestatic 133, 3) := by decide +kernel
theorem dX8_isInTransit_12 : decode cX8_isInTransit 12 = .ok (.istore 5, 2) := by decide +kernel
theorem dX8_isInTransit_14 : decode cX8_isInTransit 14 = .ok (.aload_n 0, 1) := by decide +kernel
theorem dX8_isInTransit_15 : decode cX8_isInTransit 15 = .ok (.getfield 19, 3) := by decide +kernel
theorem dX8_isInTransit_18 : decode cX8_isInTransit 18 = .ok (.iload 4, 2) := by decide +kernel
theorem dX8_isInTransit_20 : decode cX8_isInTransit 20 = .ok (.invokevirtual 247, 3) := by decide +kernel
theorem dX8_isInTransit_23 : decode cX8_isInTransit 23 = .ok (.ifCond .eq 59, 3) := by decide +kernel
theorem dX8_isInTransit_26 : decode cX8_isInTransit 26 = .ok (.aload_n 0, 1) := by decide +kernel
theorem dX8_isInTransit_27 : decode cX8_isInTransit 27 = .ok (.getfield 19, 3) := by decide +kernel
theorem dX8_isInTransit_30 : decode cX8_isInTransit 30 = .ok (.iload 5, 2) := by decide +kernel
theorem dX8_isInTransit_32 : decode cX8_isInTransit 32 = .ok (.invokevirtual 247, 3) := by decide +kernel
theorem dX8_isInTransit_35 : decode cX8_isInTransit 35 = .ok (.ifCond .eq 47, 3) := by decide +kernel
theorem dX8_isInTransit_38 : decode cX8_isInTransit 38 = .ok (.aload_n 0, 1) := by decide +kernel
theorem dX8_isInTransit_39 : decode cX8_isInTransit 39 = .ok (.getfield 19, 3) := by decide +kernel
theorem dX8_isInTransit_42 : decode cX8_isInTransit 42 = .ok (.iload 4, 2) := by decide +kernel
theorem dX8_isInTransit_44 : decode cX8_isInTransit 44 = .ok (.iload_n 2, 1) := by decide +kernel
theorem dX8_isInTransit_45 : decode cX8_isInTransit 45 = .ok (.invokevirtual 327, 3) := by decide +kernel
theorem dX8_isInTransit_48 : decode cX8_isInTransit 48 = .ok (.ifCond .eq 34, 3) := by decide +kernel
theorem dX8_isInTransit_51 : decode cX8_isInTransit 51 = .ok (.aload_n 0, 1) := by decide +kernel
theorem dX8_isInTransit_52 : decode cX8_isInTransit 52 = .ok (.getfield 19, 3) := by decide +kernel
theorem dX8_isInTransit_55 : decode cX8_isInTransit 55 = .ok (.iload 5, 2) := by decide +kernel
theorem dX8_isInTransit_57 : decode cX8_isInTransit 57 = .ok (.iload_n 2, 1) := by decide +kernel
theorem dX8_isInTransit_58 : decode cX8_isInTransit 58 = .ok (.invokevirtual 327, 3) := by decide +kernel
theorem dX8_isInTransit_61 : decode cX8_isInTransit 61 = .ok (.ifCond .ne 21, 3) := by decide +kernel
theorem dX8_isInTransit_64 : decode cX8_isInTransit 64 = .ok (.aload_n 0, 1) := by decide +kernel
theorem dX8_isInTransit_65 : decode cX8_isInTransit 65 = .ok (.getfield 19, 3) := by decide +kernel
theorem dX8_isInTransit_68 : decode cX8_isInTransit 68 = .ok (.iload 5, 2) := by decide +kernel
theorem dX8_isInTransit_70 : decode cX8_isInTransit 70 = .ok (.iload_n 2, 1) := by decide +kernel
theorem dX8_isInTransit_71 : decode cX8_isInTransit 71 = .ok (.invokevirtual 330, 3) := by decide +kernel
theorem dX8_isInTransit_74 : decode cX8_isInTransit 74 = .ok (.iload_n 3, 1) := by decide +kernel
theorem dX8_isInTransit_75 : decode cX8_isInTransit 75 = .ok (.if_icmp .ne 7, 3) := by decide +kernel
theorem dX8_isInTransit_78 : decode cX8_isInTransit 78 = .ok (.iconst 1, 1) := by decide +kernel
theorem dX8_isInTransit_79 : decode cX8_isInTransit 79 = .ok (.goto 4, 3) := by decide +kernel
theorem dX8_isInTransit_82 : decode cX8_isInTransit 82 = .ok (.iconst 0, 1) := by decide +kernel
theorem dX8_isInTransit_83 : decode cX8_isInTransit 83 = .ok (.ireturn, 1) := by decide +kernel
theorem dX8_isBelow_0 : decode cX8_isBelow 0 = .ok (.aload_n 0, 1) := by decide +kernel
theorem dX8_isBelow_1 : decode cX8_isBelow 1 = .ok (.getfield 50, 3) := by decide +kernel
theorem dX8_isBelow_4 : decode cX8_isBelow 4 = .ok (.aload_n 0, 1) := by decide +kernel
theorem dX8_isBelow_5 : decode cX8_isBelow 5 = .ok (.getfield 19, 3) := by decide +kernel
theorem dX8_isBelow_8 : decode cX8_isBelow 8 = .ok (.aload_n 0, 1) := by decide +kernel
theorem dX8_isBelow_9 : decode cX8_isBelow 9 = .ok (.getfield 36, 3) := by decide +kernel
theorem dX8_isBelow_12 : decode cX8_isBelow 12 = .ok (.iload_n 1, 1) := by decide +kernel
theorem dX8_isBelow_13 : decode cX8_isBelow 13 = .ok (.iload_n 2, 1) := by decide +kernel
theorem dX8_isBelow_14 : decode cX8_isBelow 14 = .ok (.iload_n 3, 1) := by decide +kernel
theorem dX8_isBelow_15 : decode cX8_isBelow 15 = .ok (.invokevirtual 153, 3) := by decide +kernel
theorem dX8_isBelow_18 : decode cX8_isBelow 18 = .ok (.aload_n 0, 1) := by decide +kernel
theorem dX8_isBelow_19 : decode cX8_isBelow 19 = .ok (.getfield 50, 3) := by decide +kernel
theorem dX8_isBelow_22 : decode cX8_isBelow 22 = .ok (.getfield 163, 3) := by decide +kernel
theorem dX8_isBelow_25 : decode cX8_isBelow 25 = .ok (.ifCond .ge 7, 3) := by decide +kernel
theorem dX8_isBelow_28 : decode cX8_isBelow 28 = .ok (.iconst 1, 1) := by decide +kernel
theorem dX8_isBelow_29 : decode cX8_isBelow 29 = .ok (.goto 4, 3) := by decide +kernel
theorem dX8_isBelow_32 : decode cX8_isBelow 32 = .ok (.iconst 0, 1) := by decide +kernel
theorem dX8_isBelow_33 : decode cX8_isBelow 33 = .ok (.ireturn, 1) := by decide +kernel
theorem dX8_turnTo_0 : decode cX8_turnTo 0 = .ok (.aload_n 0, 1) := by decide +kernel
theorem dX8_turnTo_1 : decode cX8_turnTo 1 = .ok (.getfield 50, 3) := by decide +kernel
theorem dX8_turnTo_4 : decode cX8_turnTo 4 = .ok (.aload_n 0, 1) := by decide +kernel
theorem dX8_turnTo_5 : decode cX8_turnTo 5 = .ok (.getfield 19, 3) := by decide +kernel
theorem dX8_turnTo_8 : decode cX8_turnTo 8 = .ok (.aload_n 0, 1) := by decide +kernel
theorem dX8_turnTo_9 : decode cX8_turnTo 9 = .ok (.getfield 36, 3) := by decide +kernel
theorem dX8_turnTo_12 : decode cX8_turnTo 12 = .ok (.aload_n 0, 1) := by decide +kernel
theorem dX8_turnTo_13 : decode cX8_turnTo 13 = .ok (.getfield 29, 3) := by decide +kernel
theorem dX8_turnTo_16 : decode cX8_turnTo 16 = .ok (.getfield 188, 3) := by decide +kernel
theorem dX8_turnTo_19 : decode cX8_turnTo 19 = .ok (.iload_n 1, 1) := by decide +kernel
theorem dX8_turnTo_20 : decode cX8_turnTo 20 = .ok (.iaload, 1) := by decide +kernel
theorem dX8_turnTo_21 : decode cX8_turnTo 21 = .ok (.aload_n 0, 1) := by decide +kernel
theorem dX8_turnTo_22 : decode cX8_turnTo 22 = .ok (.getfield 29, 3) := by decide +kernel
theorem dX8_turnTo_25 : decode cX8_turnTo 25 = .ok (.getfield 191, 3) := by decide +kernel
theorem dX8_turnTo_28 : decode cX8_turnTo 28 = .ok (.iload_n 1, 1) := by decide +kernel
theorem dX8_turnTo_29 : decode cX8_turnTo 29 = .ok (.iaload, 1) := by decide +kernel
theorem dX8_turnTo_30 : decode cX8_turnTo 30 = .ok (.aload_n 0, 1) := by decide +kernel
theorem dX8_turnTo_31 : decode cX8_turnTo 31 = .ok (.getfield 29, 3) := by decide +kernel
theorem dX8_turnTo_34 : decode cX8_turnTo 34 = .ok (.getfield 194, 3) := by decide +kernel
theorem dX8_turnTo_37 : decode cX8_turnTo 37 = .ok (.iload_n 1, 1) := by decide +kernel
theorem dX8_turnTo_38 : decode cX8_turnTo 38 = .ok (.iaload, 1) := by decide +kernel
theorem dX8_turnTo_39 : decode cX8_turnTo 39 = .ok (.invokevirtual 153, 3) := by decide +kernel
theorem dX8_turnTo_42 : decode cX8_turnTo 42 = .ok (.return_, 1) := by decide +kernel
theorem dX8_differenceOf_0 : decode cX8_differenceOf 0 = .ok (.aload_n 0, 1) := by decide +kernel
theorem dX8_differenceOf_1 : decode cX8_differenceOf 1 = .ok (.iload_n 1, 1) := by decide +kernel
theorem dX8_differenceOf_2 : decode cX8_differenceOf 2 = .ok (.invokevirtual 218, 3) := by decide +kernel
theorem dX8_differenceOf_5 : decode cX8_differenceOf 5 = .ok (.aload_n 0, 1) := by decide +kernel
theorem dX8_differenceOf_6 : decode cX8_differenceOf 6 = .ok (.getfield 29, 3) := by decide +kernel
theorem dX8_differenceOf_9 : decode cX8_differenceOf 9 = .ok (.getfield 195, 3) := by decide +kernel
theorem dX8_differenceOf_12 : decode cX8_differenceOf 12 = .ok (.iload_n 1, 1) := by decide +kernel
theorem dX8_differenceOf_13 : decode cX8_differenceOf 13 = .ok (.iaload, 1) := by decide +kernel
theorem dX8_differenceOf_14 : decode cX8_differenceOf 14 = .ok (.istore_n 2, 1) := by decide +kernel
theorem dX8_differenceOf_15 : decode cX8_differenceOf 15 = .ok (.iload_n 2, 1) := by decide +kernel
theorem dX8_differenceOf_16 : decode cX8_differenceOf 16 = .ok (.aload_n 0, 1) := by decide +kernel
theorem dX8_differenceOf_17 : decode cX8_differenceOf 17 = .ok (.getfield 50, 3) := by decide +kernel
theorem dX8_differenceOf_20 : decode cX8_differenceOf 20 = .ok (.getfield 163, 3) := by decide +kernel
theorem dX8_differenceOf_23 : decode cX8_differenceOf 23 = .ok (.if_icmp .le 13, 3) := by decide +kernel
theorem dX8_differenceOf_26 : decode cX8_differenceOf 26 = .ok (.iload_n 2, 1) := by decide +kernel
theorem dX8_differenceOf_27 : decode cX8_differenceOf 27 = .ok (.aload_n 0, 1) := by decide +kernel
theorem dX8_differenceOf_28 : decode cX8_differenceOf 28 = .ok (.getfield 50, 3) := by decide +kernel
theorem dX8_differenceOf_31 : decode cX8_differenceOf 31 = .ok (.getfield 163, 3) := by decide +kernel
theorem dX8_differenceOf_34 : decode cX8_differenceOf 34 = .ok (.isub, 1) := by decide +kernel
theorem dX8_differenceOf_35 : decode cX8_differenceOf 35 = .ok (.ireturn, 1) := by decide +kernel
theorem dX8_differenceOf_36 : decode cX8_differenceOf 36 = .ok (.iload_n 2, 1) := by decide +kernel
theorem dX8_differenceOf_37 : decode cX8_differenceOf 37 = .ok (.aload_n 0, 1) := by decide +kernel
theorem dX8_differenceOf_38 : decode cX8_differenceOf 38 = .ok (.getfield 50, 3) := by decide +kernel
theorem dX8_differenceOf_41 : decode cX8_differenceOf 41 = .ok (.getfield 160, 3) := by decide +kernel
theorem dX8_differenceOf_44 : decode cX8_differenceOf 44 = .ok (.if_icmp .ge 15, 3) := by decide +kernel
theorem dX8_differenceOf_47 : decode cX8_differenceOf 47 = .ok (.iload_n 2, 1) := by decide +kernel
theorem dX8_differenceOf_48 : decode cX8_differenceOf 48 = .ok (.aload_n 0, 1) := by decide +kernel
theorem dX8_differenceOf_49 : decode cX8_differenceOf 49 = .ok (.getfield 50, 3) := by decide +kernel
theorem dX8_differenceOf_52 : decode cX8_differenceOf 52 = .ok (.getfield 160, 3) := by decide +kernel
theorem dX8_differenceOf_55 : decode cX8_differenceOf 55 = .ok (.isub, 1) := by decide +kernel
theorem dX8_differenceOf_56 : decode cX8_differenceOf 56 = .ok (.goto 4, 3) := by decide +kernel
theorem dX8_differenceOf_59 : decode cX8_differenceOf 59 = .ok (.iconst 0, 1) := by decide +kernel
theorem dX8_differenceOf_60 : decode cX8_differenceOf 60 = .ok (.ireturn, 1) := by decide +kernel
theorem dX8_allowedFor_0 : decode cX8_allowedFor 0 = .ok (.aload_n 0, 1) := by decide +kernel
theorem dX8_allowedFor_1 : decode cX8_allowedFor 1 = .ok (.iload_n 1, 1) := by decide +kernel
theorem dX8_allowedFor_2 : decode cX8_allowedFor 2 = .ok (.invokevirtual 218, 3) := by decide +kernel
theorem dX8_allowedFor_5 : decode cX8_allowedFor 5 = .ok (.aload_n 0, 1) := by decide +kernel
theorem dX8_allowedFor_6 : decode cX8_allowedFor 6 = .ok (.getfield 29, 3) := by decide +kernel
theorem dX8_allowedFor_9 : decode cX8_allowedFor 9 = .ok (.getfield 191, 3) := by decide +kernel
theorem dX8_allowedFor_12 : decode cX8_allowedFor 12 = .ok (.iload_n 1, 1) := by decide +kernel
theorem dX8_allowedFor_13 : decode cX8_allowedFor 13 = .ok (.iaload, 1) := by decide +kernel
theorem dX8_allowedFor_14 : decode cX8_allowedFor 14 = .ok (.istore_n 2, 1) := by decide +kernel
theorem dX8_allowedFor_15 : decode cX8_allowedFor 15 = .ok (.aload_n 0, 1) := by decide +kernel
theorem dX8_allowedFor_16 : decode cX8_allowedFor 16 = .ok (.getfield 19, 3) := by decide +kernel
theorem dX8_allowedFor_19 : decode cX8_allowedFor 19 = .ok (.getfield 111, 3) := by decide +kernel
theorem dX8_allowedFor_22 : decode cX8_allowedFor 22 = .ok (.iload_n 2, 1) := by decide +kernel
theorem dX8_allowedFor_23 : decode cX8_allowedFor 23 = .ok (.iaload, 1) := by decide +kernel
theorem dX8_allowedFor_24 : decode cX8_allowedFor 24 = .ok (.aload_n 0, 1) := by decide +kernel
theorem dX8_allowedFor_25 : decode cX8_allowedFor 25 = .ok (.getfield 50, 3) := by decide +kernel
theorem dX8_allowedFor_28 : decode cX8_allowedFor 28 = .ok (.getfield 157, 3) := by decide +kernel
theorem dX8_allowedFor_31 : decode cX8_allowedFor 31 = .ok (.iconst 0, 1) := by decide +kernel
theorem dX8_allowedFor_32 : decode cX8_allowedFor 32 = .ok (.invokestatic 333, 3) := by decide +kernel
theorem dX8_allowedFor_35 : decode cX8_allowedFor 35 = .ok (.imul, 1) := by decide +kernel
theorem dX8_allowedFor_36 : decode cX8_allowedFor 36 = .ok (.bipush 100, 2) := by decide +kernel
theorem dX8_allowedFor_38 : decode cX8_allowedFor 38 = .ok (.idiv, 1) := by decide +kernel
theorem dX8_allowedFor_39 : decode cX8_allowedFor 39 = .ok (.istore_n 3, 1) := by decide +kernel
theorem dX8_allowedFor_40 : decode cX8_allowedFor 40 = .ok (.aload_n 0, 1) := by decide +kernel
theorem dX8_allowedFor_41 : decode cX8_allowedFor 41 = .ok (.getfield 19, 3) := by decide +kernel
theorem dX8_allowedFor_44 : decode cX8_allowedFor 44 = .ok (.getfield 107, 3) := by decide +kernel
theorem dX8_allowedFor_47 : decode cX8_allowedFor 47 = .ok (.iload_n 2, 1) := by decide +kernel
theorem dX8_allowedFor_48 : decode cX8_allowedFor 48 = .ok (.iaload, 1) := by decide +kernel
theorem dX8_allowedFor_49 : decode cX8_allowedFor 49 = .ok (.iload_n 3, 1) := by decide +kernel
theorem dX8_allowedFor_50 : decode cX8_allowedFor 50 = .ok (.invokestatic 333, 3) := by decide +kernel
theorem dX8_allowedFor_53 : decode cX8_allowedFor 53 = .ok (.ireturn, 1) := by decide +kernel
theorem dX8_chosenOf_0 : decode cX8_chosenOf 0 = .ok (.aload_n 0, 1) := by decide +kernel
theorem dX8_chosenOf_1 : decode cX8_chosenOf 1 = .ok (.getfield 29, 3) := by decide +kernel
theorem dX8_chosenOf_4 : decode cX8_chosenOf 4 = .ok (.iload_n 1, 1) := by decide +kernel
theorem dX8_chosenOf_5 : decode cX8_chosenOf 5 = .ok (.iload_n 2, 1) := by decide +kernel
theorem dX8_chosenOf_6 : decode cX8_chosenOf 6 = .ok (.invokevirtual 338, 3) := by decide +kernel
theorem dX8_chosenOf_9 : decode cX8_chosenOf 9 = .ok (.istore_n 3, 1) := by decide +kernel
theorem dX8_chosenOf_10 : decode cX8_chosenOf 10 = .ok (.iload_n 3, 1) := by decide +kernel
theorem dX8_chosenOf_11 : decode cX8_chosenOf 11 = .ok (.iconst (-1), 1) := by decide +kernel
theorem dX8_chosenOf_12 : decode cX8_chosenOf 12 = .ok (.if_icmp .ne 5, 3) := by decide +kernel
theorem dX8_chosenOf_15 : decode cX8_chosenOf 15 = .ok (.iconst (-1), 1) := by decide +kernel
theorem dX8_chosenOf_16 : decode cX8_chosenOf 16 = .ok (.ireturn, 1) := by decide +kernel
theorem dX8_chosenOf_17 : decode cX8_chosenOf 17 = .ok (.aload_n 0, 1) := by decide +kernel
theorem dX8_chosenOf_18 : decode cX8_chosenOf 18 = .ok (.iload_n 3, 1) := by decide +kernel
theorem dX8_chosenOf_19 : decode cX8_chosenOf 19 = .ok (.invokevirtual 211, 3) := by decide +kernel
theorem dX8_chosenOf_22 : decode cX8_chosenOf 22 = .ok (.invokestatic 341, 3) := by decide +kernel
theorem dX8_chosenOf_25 : decode cX8_chosenOf 25 = .ok (.aload_n 0, 1) := by decide +kernel
theorem dX8_chosenOf_26 : decode cX8_chosenOf 26 = .ok (.iload_n 3, 1) := by decide +kernel
theorem dX8_chosenOf_27 : decode cX8_chosenOf 27 = .ok (.invokevirtual 205, 3) := by decide +kernel
theorem dX8_chosenOf_30 : decode cX8_chosenOf 30 = .ok (.if_icmp .gt 5, 3) := by decide +kernel
theorem dX8_chosenOf_33 : decode cX8_chosenOf 33 = .ok (.iload_n 3, 1) := by decide +kernel
theorem dX8_chosenOf_34 : decode cX8_chosenOf 34 = .ok (.ireturn, 1) := by decide +kernel
theorem dX8_chosenOf_35 : decode cX8_chosenOf 35 = .ok (.aload_n 0, 1) := by decide +kernel
theorem dX8_chosenOf_36 : decode cX8_chosenOf 36 = .ok (.getfield 29, 3) := by decide +kernel
theorem dX8_chosenOf_39 : decode cX8_chosenOf 39 = .ok (.iload_n 1, 1) := by decide +kernel
theorem dX8_chosenOf_40 : decode cX8_chosenOf 40 = .ok (.iload_n 2, 1) := by decide +kernel
theorem dX8_chosenOf_41 : decode cX8_chosenOf 41 = .ok (.sipush 1000, 3) := by decide +kernel
theorem dX8_chosenOf_44 : decode cX8_chosenOf 44 = .ok (.invokevirtual 267, 3) := by decide +kernel
theorem dX8_chosenOf_47 : decode cX8_chosenOf 47 = .ok (.istore 4, 2) := by decide +kernel
theorem dX8_chosenOf_49 : decode cX8_chosenOf 49 = .ok (.iload 4, 2) := by decide +kernel
theorem dX8_chosenOf_51 : decode cX8_chosenOf 51 = .ok (.iconst (-1), 1) := by decide +kernel
theorem dX8_chosenOf_52 : decode cX8_chosenOf 52 = .ok (.if_icmp .eq 9, 3) := by decide +kernel
theorem dX8_chosenOf_55 : decode cX8_chosenOf 55 = .ok (.iload 4, 2) := by decide +kernel
theorem dX8_chosenOf_57 : decode cX8_chosenOf 57 = .ok (.iload_n 3, 1) := by decide +kernel
theorem dX8_chosenOf_58 : decode cX8_chosenOf 58 = .ok (.if_icmp .ne 6, 3) := by decide +kernel
theorem dX8_chosenOf_61 : decode cX8_chosenOf 61 = .ok (.bipush (-2), 2) := by decide +kernel
theorem dX8_chosenOf_63 : decode cX8_chosenOf 63 = .ok (.ireturn, 1) := by decide +kernel
theorem dX8_chosenOf_64 : decode cX8_chosenOf 64 = .ok (.aload_n 0, 1) := by decide +kernel
theorem dX8_chosenOf_65 : decode cX8_chosenOf 65 = .ok (.getfield 29, 3) := by decide +kernel
theorem dX8_chosenOf_68 : decode cX8_chosenOf 68 = .ok (.iload_n 1, 1) := by decide +kernel
theorem dX8_chosenOf_69 : decode cX8_chosenOf 69 = .ok (.iload_n 2, 1) := by decide +kernel
theorem dX8_chosenOf_70 : decode cX8_chosenOf 70 = .ok (.aload_n 0, 1) := by decide +kernel
theorem dX8_chosenOf_71 : decode cX8_chosenOf 71 = .ok (.getfield 29, 3) := by decide +kernel
theorem dX8_chosenOf_74 : decode cX8_chosenOf 74 = .ok (.getfield 194, 3) := by decide +kernel
theorem dX8_chosenOf_77 : decode cX8_chosenOf 77 = .ok (.iload 4, 2) := by decide +kernel
theorem dX8_chosenOf_79 : decode cX8_chosenOf 79 = .ok (.iaload, 1) := by decide +kernel
theorem dX8_chosenOf_80 : decode cX8_chosenOf 80 = .ok (.invokevirtual 267, 3) := by decide +kernel
theorem dX8_chosenOf_83 : decode cX8_chosenOf 83 = .ok (.istore 5, 2) := by decide +kernel
theorem dX8_chosenOf_85 : decode cX8_chosenOf 85 = .ok (.iload 5, 2) := by decide +kernel
theorem dX8_chosenOf_87 : decode cX8_chosenOf 87 = .ok (.iconst (-1), 1) := by decide +kernel
theorem dX8_chosenOf_88 : decode cX8_chosenOf 88 = .ok (.if_icmp .eq 9, 3) := by decide +kernel
theorem dX8_chosenOf_91 : decode cX8_chosenOf 91 = .ok (.iload 5, 2) := by decide +kernel
theorem dX8_chosenOf_93 : decode cX8_chosenOf 93 = .ok (.iload_n 3, 1) := by decide +kernel
theorem dX8_chosenOf_94 : decode cX8_chosenOf 94 = .ok (.if_icmp .ne 39, 3) := by decide +kernel
theorem dX8_chosenOf_97 : decode cX8_chosenOf 97 = .ok (.aload_n 0, 1) := by decide +kernel
theorem dX8_chosenOf_98 : decode cX8_chosenOf 98 = .ok (.iload_n 3, 1) := by decide +kernel
theorem dX8_chosenOf_99 : decode cX8_chosenOf 99 = .ok (.invokevirtual 211, 3) := by decide +kernel
theorem dX8_chosenOf_102 : decode cX8_chosenOf 102 = .ok (.aload_n 0, 1) := by decide +kernel
theorem dX8_chosenOf_103 : decode cX8_chosenOf 103 = .ok (.iload 4, 2) := by decide +kernel
theorem dX8_chosenOf_105 : decode cX8_chosenOf 105 = .ok (.invokevirtual 211, 3) := by decide +kernel
theorem dX8_chosenOf_108 : decode cX8_chosenOf 108 = .ok (.isub, 1) := by decide +kernel
theorem dX8_chosenOf_109 : decode cX8_chosenOf 109 = .ok (.invokestatic 341, 3) := by decide +kernel
theorem dX8_chosenOf_112 : decode cX8_chosenOf 112 = .ok (.istore 6, 2) := by decide +kernel
theorem dX8_chosenOf_114 : decode cX8_chosenOf 114 = .ok (.iload 6, 2) := by decide +kernel
theorem dX8_chosenOf_116 : decode cX8_chosenOf 116 = .ok (.aload_n 0, 1) := by decide +kernel
theorem dX8_chosenOf_117 : decode cX8_chosenOf 117 = .ok (.iload 4, 2) := by decide +kernel
theorem dX8_chosenOf_119 : decode cX8_chosenOf 119 = .ok (.invokevirtual 205, 3) := by decide +kernel
theorem dX8_chosenOf_122 : decode cX8_chosenOf 122 = .ok (.if_icmp .gt 8, 3) := by decide +kernel
theorem dX8_chosenOf_125 : decode cX8_chosenOf 125 = .ok (.iload 4, 2) := by decide +kernel
theorem dX8_chosenOf_127 : decode cX8_chosenOf 127 = .ok (.goto 5, 3) := by decide +kernel
theorem dX8_chosenOf_130 : decode cX8_chosenOf 130 = .ok (.bipush (-2), 2) := by decide +kernel
theorem dX8_chosenOf_132 : decode cX8_chosenOf 132 = .ok (.ireturn, 1) := by decide +kernel
theorem dX8_chosenOf_133 : decode cX8_chosenOf 133 = .ok (.aload_n 0, 1) := by decide +kernel
theorem dX8_chosenOf_134 : decode cX8_chosenOf 134 = .ok (.getfield 29, 3) := by decide +kernel
theorem dX8_chosenOf_137 : decode cX8_chosenOf 137 = .ok (.iload_n 1, 1) := by decide +kernel
theorem dX8_chosenOf_138 : decode cX8_chosenOf 138 = .ok (.iload_n 2, 1) := by decide +kernel
theorem dX8_chosenOf_139 : decode cX8_chosenOf 139 = .ok (.aload_n 0, 1) := by decide +kernel
theorem dX8_chosenOf_140 : decode cX8_chosenOf 140 = .ok (.getfield 29, 3) := by decide +kernel
theorem dX8_chosenOf_143 : decode cX8_chosenOf 143 = .ok (.getfield 194, 3) := by decide +kernel
theorem dX8_chosenOf_146 : decode cX8_chosenOf 146 = .ok (.iload 5, 2) := by decide +kernel
theorem dX8_chosenOf_148 : decode cX8_chosenOf 148 = .ok (.iaload, 1) := by decide +kernel
theorem dX8_chosenOf_149 : decode cX8_chosenOf 149 = .ok (.invokevirtual 267, 3) := by decide +kernel
theorem dX8_chosenOf_152 : decode cX8_chosenOf 152 = .ok (.istore 6, 2) := by decide +kernel
theorem dX8_chosenOf_154 : decode cX8_chosenOf 154 = .ok (.iload 6, 2) := by decide +kernel
theorem dX8_chosenOf_156 : decode cX8_chosenOf 156 = .ok (.iconst (-1), 1) := by decide +kernel
theorem dX8_chosenOf_157 : decode cX8_chosenOf 157 = .ok (.if_icmp .ne 6, 3) := by decide +kernel
theorem dX8_chosenOf_160 : decode cX8_chosenOf 160 = .ok (.bipush (-2), 2) := by decide +kernel
theorem dX8_chosenOf_162 : decode cX8_chosenOf 162 = .ok (.ireturn, 1) := by decide +kernel
theorem dX8_chosenOf_163 : decode cX8_chosenOf 163 = .ok (.aload_n 0, 1) := by decide +kernel
theorem dX8_chosenOf_164 : decode cX8_chosenOf 164 = .ok (.iload 6, 2) := by decide +kernel
theorem dX8_chosenOf_166 : decode cX8_chosenOf 166 = .ok (.invokevirtual 211, 3) := by decide +kernel
theorem dX8_chosenOf_169 : decode cX8_chosenOf 169 = .ok (.istore 7, 2) := by decide +kernel
theorem dX8_chosenOf_171 : decode cX8_chosenOf 171 = .ok (.aload_n 0, 1) := by decide +kernel
theorem dX8_chosenOf_172 : decode cX8_chosenOf 172 = .ok (.iload 5, 2) := by decide +kernel
theorem dX8_chosenOf_174 : decode cX8_chosenOf 174 = .ok (.invokevirtual 211, 3) := by decide +kernel
theorem dX8_chosenOf_177 : decode cX8_chosenOf 177 = .ok (.istore 8, 2) := by decide +kernel
theorem dX8_chosenOf_179 : decode cX8_chosenOf 179 = .ok (.iload 7, 2) := by decide +kernel
theorem dX8_chosenOf_181 : decode cX8_chosenOf 181 = .ok (.iload 8, 2) := by decide +kernel
theorem dX8_chosenOf_183 : decode cX8_chosenOf 183 = .ok (.aload_n 0, 1) := by decide +kernel
theorem dX8_chosenOf_184 : decode cX8_chosenOf 184 = .ok (.iload 4, 2) := by decide +kernel
theorem dX8_chosenOf_186 : decode cX8_chosenOf 186 = .ok (.invokevirtual 211, 3) := by decide +kernel
theorem dX8_chosenOf_189 : decode cX8_chosenOf 189 = .ok (.invokestatic 344, 3) := by decide +kernel
theorem dX8_chosenOf_192 : decode cX8_chosenOf 192 = .ok (.istore 9, 2) := by decide +kernel
theorem dX8_chosenOf_194 : decode cX8_chosenOf 194 = .ok (.iload 7, 2) := by decide +kernel
theorem dX8_chosenOf_196 : decode cX8_chosenOf 196 = .ok (.iload 9, 2) := by decide +kernel
theorem dX8_chosenOf_198 : decode cX8_chosenOf 198 = .ok (.if_icmp .ne 6, 3) := by decide +kernel
theorem dX8_chosenOf_201 : decode cX8_chosenOf 201 = .ok (.iload 6, 2) := by decide +kernel
theorem dX8_chosenOf_203 : decode cX8_chosenOf 203 = .ok (.ireturn, 1) := by decide +kernel
theorem dX8_chosenOf_204 : decode cX8_chosenOf 204 = .ok (.iload 8, 2) := by decide +kernel
theorem dX8_chosenOf_206 : decode cX8_chosenOf 206 = .ok (.iload 9, 2) := by decide +kernel
theorem dX8_chosenOf_208 : decode cX8_chosenOf 208 = .ok (.if_icmp .ne 8, 3) := by decide +kernel
theorem dX8_chosenOf_211 : decode cX8_chosenOf 211 = .ok (.iload 5, 2) := by decide +kernel
theorem dX8_chosenOf_213 : decode cX8_chosenOf 213 = .ok (.goto 5, 3) := by decide +kernel
theorem dX8_chosenOf_216 : decode cX8_chosenOf 216 = .ok (.iload 4, 2) := by decide +kernel
theorem dX8_chosenOf_218 : decode cX8_chosenOf 218 = .ok (.ireturn, 1) := by decide +kernel
theorem dX8_middleOf_0 : decode cX8_middleOf 0 = .ok (.iload_n 0, 1) := by decide +kernel
theorem dX8_middleOf_1 : decode cX8_middleOf 1 = .ok (.iload_n 1, 1) := by decide +kernel
theorem dX8_middleOf_2 : decode cX8_middleOf 2 = .ok (.invokestatic 347, 3) := by decide +kernel
theorem dX8_middleOf_5 : decode cX8_middleOf 5 = .ok (.iload_n 0, 1) := by decide +kernel
theorem dX8_middleOf_6 : decode cX8_middleOf 6 = .ok (.iload_n 1, 1) := by decide +kernel
theorem dX8_middleOf_7 : decode cX8_middleOf 7 = .ok (.invokestatic 333, 3) := by decide +kernel
theorem dX8_middleOf_10 : decode cX8_middleOf 10 = .ok (.iload_n 2, 1) := by decide +kernel
theorem dX8_middleOf_11 : decode cX8_middleOf 11 = .ok (.invokestatic 347, 3) := by decide +kernel
theorem dX8_middleOf_14 : decode cX8_middleOf 14 = .ok (.invokestatic 333, 3) := by decide +kernel
theorem dX8_middleOf_17 : decode cX8_middleOf 17 = .ok (.ireturn, 1) := by decide +kernel
end
section
theorem dX9_thrown_0 : decode cX9_thrown 0 = .ok (.aload_n 0, 1) := by decide +kernel
theorem dX9_thrown_1 : decode cX9_thrown 1 = .ok (.getfield 1, 3) := by decide +kernel
theorem dX9_thrown_4 : decode cX9_thrown 4 = .ok (.ireturn, 1) := by decide +kernel
theorem dX9_refuse_0 : decode cX9_refuse 0 = .ok (.aload_n 0, 1) := by decide +kernel
theorem dX9_refuse_1 : decode cX9_refuse 1 = .ok (.iconst 1, 1) := by decide +kernel
theorem dX9_refuse_2 : decode cX9_refuse 2 = .ok (.putfield 1, 3) := by decide +kernel
theorem dX9_refuse_5 : decode cX9_refuse 5 = .ok (.iconst 0, 1) := by decide +kernel
theorem dX9_refuse_6 : decode cX9_refuse 6 = .ok (.ireturn, 1) := by decide +kernel
theorem dX9_isIn_0 : decode cX9_isIn 0 = .ok (.iload_n 0, 1) := by decide +kernel
theorem dX9_isIn_1 : decode cX9_isIn 1 = .ok (.iload_n 1, 1) := by decide +kernel
theorem dX9_isIn_2 : decode cX9_isIn 2 = .ok (.if_icmp .lt 12, 3) := by decide +kernel
theorem dX9_isIn_5 : decode cX9_isIn 5 = .ok (.iload_n 0, 1) := by decide +kernel
theorem dX9_isIn_6 : decode cX9_isIn 6 = .ok (.iload_n 2, 1) := by decide +kernel
theorem dX9_isIn_7 : decode cX9_isIn 7 = .ok (.if_icmp .gt 7, 3) := by decide +kernel
theorem dX9_isIn_10 : decode cX9_isIn 10 = .ok (.iconst 1, 1) := by decide +kernel
theorem dX9_isIn_11 : decode cX9_isIn 11 = .ok (.goto 4, 3) := by decide +kernel
theorem dX9_isIn_14 : decode cX9_isIn 14 = .ok (.iconst 0, 1) := by decide +kernel
theorem dX9_isIn_15 : decode cX9_isIn 15 = .ok (.ireturn, 1) := by decide +kernel
theorem dX9_lays_0 : decode cX9_lays 0 = .ok (.bipush 24, 2) := by decide +kernel
theorem dX9_lays_2 : decode cX9_lays 2 = .ok (.istore_n 2, 1) := by decide +kernel
theorem dX9_lays_3 : decode cX9_lays 3 = .ok (.iload_n 2, 1) := by decide +kernel
theorem dX9_lays_4 : decode cX9_lays 4 = .ok (.ifCond .lt 35, 3) := by decide +kernel
theorem dX9_lays_7 : decode cX9_lays 7 = .ok (.aload_n 0, 1) := by decide +kernel
theorem dX9_lays_8 : decode cX9_lays 8 = .ok (.getfield 7, 3) := by decide +kernel
theorem dX9_lays_11 : decode cX9_lays 11 = .ok (.aload_n 0, 1) := by decide +kernel
theorem dX9_lays_12 : decode cX9_lays 12 = .ok (.getfield 11, 3) := by decide +kernel
theorem dX9_lays_15 : decode cX9_lays 15 = .ok (.iload_n 1, 1) := by decide +kernel
theorem dX9_lays_16 : decode cX9_lays 16 = .ok (.iload_n 2, 1) := by decide +kernel
theorem dX9_lays_17 : decode cX9_lays 17 = .ok (.iushr, 1) := by decide +kernel
theorem dX9_lays_18 : decode cX9_lays 18 = .ok (.sipush 255, 3) := by decide +kernel
theorem dX9_lays_21 : decode cX9_lays 21 = .ok (.iand, 1) := by decide +kernel
theorem dX9_lays_22 : decode cX9_lays 22 = .ok (.iastore, 1) := by decide +kernel
theorem dX9_lays_23 : decode cX9_lays 23 = .ok (.aload_n 0, 1) := by decide +kernel
theorem dX9_lays_24 : decode cX9_lays 24 = .ok (.dup, 1) := by decide +kernel
theorem dX9_lays_25 : decode cX9_lays 25 = .ok (.getfield 11, 3) := by decide +kernel
theorem dX9_lays_28 : decode cX9_lays 28 = .ok (.iconst 1, 1) := by decide +kernel
theorem dX9_lays_29 : decode cX9_lays 29 = .ok (.iadd, 1) := by decide +kernel
theorem dX9_lays_30 : decode cX9_lays 30 = .ok (.putfield 11, 3) := by decide +kernel
theorem dX9_lays_33 : decode cX9_lays 33 = .ok (.iinc 2 (-8), 3) := by decide +kernel
theorem dX9_lays_36 : decode cX9_lays 36 = .ok (.goto (-33), 3) := by decide +kernel
theorem dX9_lays_39 : decode cX9_lays 39 = .ok (.return_, 1) := by decide +kernel
theorem dX9_feed_0 : decode cX9_feed 0 = .ok (.aload_n 0, 1) := by decide +kernel
theorem dX9_feed_1 : decode cX9_feed 1 = .ok (.iconst 0, 1) := by decide +kernel
theorem dX9_feed_2 : decode cX9_feed 2 = .ok (.putfield 1, 3) := by decide +kernel
theorem dX9_feed_5 : decode cX9_feed 5 = .ok (.aload_n 0, 1) := by decide +kernel
theorem dX9_feed_6 : decode cX9_feed 6 = .ok (.getfield 11, 3) := by decide +kernel
theorem dX9_feed_9 : decode cX9_feed 9 = .ok (.bipush 20, 2) := by decide +kernel
theorem dX9_feed_11 : decode cX9_feed 11 = .ok (.iadd, 1) := by decide +kernel
theorem dX9_feed_12 : decode cX9_feed 12 = .ok (.sipush 640, 3) := by decide +kernel
theorem dX9_feed_15 : decode cX9_feed 15 = .ok (.if_icmp .le 5, 3) := by decide +kernel
theorem dX9_feed_18 : decode cX9_feed 18 = .ok (.iconst (-1), 1) := by decide +kernel
theorem dX9_feed_19 : decode cX9_feed 19 = .ok (.ireturn, 1) := by decide +kernel
theorem dX9_feed_20 : decode cX9_feed 20 = .ok (.aload_n 0, 1) := by decide +kernel
theorem dX9_feed_21 : decode cX9_feed 21 = .ok (.iload_n 1, 1) := by decide +kernel
theorem dX9_feed_22 : decode cX9_feed 22 = .ok (.invokevirtual 14, 3) := by decide +kernel
theorem dX9_feed_25 : decode cX9_feed 25 = .ok (.aload_n 0, 1) := by decide +kernel
theorem dX9_feed_26 : decode cX9_feed 26 = .ok (.iload_n 2, 1) := by decide +kernel
theorem dX9_feed_27 : decode cX9_feed 27 = .ok (.invokevirtual 14, 3) := by decide +kernel
theorem dX9_feed_30 : decode cX9_feed 30 = .ok (.aload_n 0, 1) := by decide +kernel
theorem dX9_feed_31 : decode cX9_feed 31 = .ok (.iload_n 3, 1) := by decide +kernel
theorem dX9_feed_32 : decode cX9_feed 32 = .ok (.invokevirtual 14, 3) := by decide +kernel
theorem dX9_feed_35 : decode cX9_feed 35 = .ok (.aload_n 0, 1) := by decide +kernel
theorem dX9_feed_36 : decode cX9_feed 36 = .ok (.iload 4, 2) := by decide +kernel
theorem dX9_feed_38 : decode cX9_feed 38 = .ok (.invokevirtual 14, 3) := by decide +kernel
theorem dX9_feed_41 : decode cX9_feed 41 = .ok (.aload_n 0, 1) := by decide +kernel
theorem dX9_feed_42 : decode cX9_feed 42 = .ok (.iload 5, 2) := by decide +kernel
theorem dX9_feed_44 : decode cX9_feed 44 = .ok (.invokevirtual 14, 3) := by decide +kernel
theorem dX9_feed_47 : decode cX9_feed 47 = .ok (.aload_n 0, 1) := by decide +kernel
theorem dX9_feed_48 : decode cX9_feed 48 = .ok (.getfield 11, 3) := by decide +kernel
theorem dX9_feed_51 : decode cX9_feed 51 = .ok (.ireturn, 1) := by decide +kernel
theorem dX9_end_0 : decode cX9_end 0 = .ok (.aload_n 0, 1) := by decide +kernel
theorem dX9_end_1 : decode cX9_end 1 = .ok (.iconst 0, 1) := by decide +kernel
theorem dX9_end_2 : decode cX9_end 2 = .ok (.putfield 1, 3) := by decide +kernel
theorem dX9_end_5 : decode cX9_end 5 = .ok (.iload_n 1, 1) := by decide +kernel
theorem dX9_end_6 : decode cX9_end 6 = .ok (.ifCond .lt 11, 3) := by decide +kernel
theorem dX9_end_9 : decode cX9_end 9 = .ok (.iload_n 1, 1) := by decide +kernel
theorem dX9_end_10 : decode cX9_end 10 = .ok (.aload_n 0, 1) := by decide +kernel
theorem dX9_end_11 : decode cX9_end 11 = .ok (.getfield 11, 3) := by decide +kernel
theorem dX9_end_14 : decode cX9_end 14 = .ok (.if_icmp .le 5, 3) := by decide +kernel
theorem dX9_end_17 : decode cX9_end 17 = .ok (.iconst 0, 1) := by decide +kernel
theorem dX9_end_18 : decode cX9_end 18 = .ok (.ireturn, 1) := by decide +kernel
theorem dX9_end_19 : decode cX9_end 19 = .ok (.aload_n 0, 1) := by decide +kernel
theorem dX9_end_20 : decode cX9_end 20 = .ok (.iload_n 1, 1) := by decide +kernel
theorem dX9_end_21 : decode cX9_end 21 = .ok (.putfield 11, 3) := by decide +kernel
theorem dX9_end_24 : decode cX9_end 24 = .ok (.iconst 1, 1) := by decide +kernel
theorem dX9_end_25 : decode cX9_end 25 = .ok (.ireturn, 1) := by decide +kernel
theorem dX9_tapeAt_0 : decode cX9_tapeAt 0 = .ok (.iload_n 1, 1) := by decide +kernel
theorem dX9_tapeAt_1 : decode cX9_tapeAt 1 = .ok (.aload_n 0, 1) := by decide +kernel
theorem dX9_tapeAt_2 : decode cX9_tapeAt 2 = .ok (.getfield 18, 3) := by decide +kernel
theorem dX9_tapeAt_5 : decode cX9_tapeAt 5 = .ok (.if_icmp .ge 12, 3) := by decide +kernel
theorem dX9_tapeAt_8 : decode cX9_tapeAt 8 = .ok (.aload_n 0, 1) := by decide +kernel
theorem dX9_tapeAt_9 : decode cX9_tapeAt 9 = .ok (.getfield 7, 3) := by decide +kernel
theorem dX9_tapeAt_12 : decode cX9_tapeAt 12 = .ok (.iload_n 1, 1) := by decide +kernel
theorem dX9_tapeAt_13 : decode cX9_tapeAt 13 = .ok (.iaload, 1) := by decide +kernel
theorem dX9_tapeAt_14 : decode cX9_tapeAt 14 = .ok (.goto 4, 3) := by decide +kernel
theorem dX9_tapeAt_17 : decode cX9_tapeAt 17 = .ok (.iconst 0, 1) := by decide +kernel
theorem dX9_tapeAt_18 : decode cX9_tapeAt 18 = .ok (.ireturn, 1) := by decide +kernel
theorem dX9_isDigit_0 : decode cX9_isDigit 0 = .ok (.iload_n 0, 1) := by decide +kernel
theorem dX9_isDigit_1 : decode cX9_isDigit 1 = .ok (.bipush 48, 2) := by decide +kernel
theorem dX9_isDigit_3 : decode cX9_isDigit 3 = .ok (.if_icmp .lt 13, 3) := by decide +kernel
theorem dX9_isDigit_6 : decode cX9_isDigit 6 = .ok (.iload_n 0, 1) := by decide +kernel
theorem dX9_isDigit_7 : decode cX9_isDigit 7 = .ok (.bipush 57, 2) := by decide +kernel
theorem dX9_isDigit_9 : decode cX9_isDigit 9 = .ok (.if_icmp .gt 7, 3) := by decide +kernel
theorem dX9_isDigit_12 : decode cX9_isDigit 12 = .ok (.iconst 1, 1) := by decide +kernel
theorem dX9_isDigit_13 : decode cX9_isDigit 13 = .ok (.goto 4, 3) := by decide +kernel
theorem dX9_isDigit_16 : decode cX9_isDigit 16 = .ok (.iconst 0, 1) := by decide +kernel
theorem dX9_isDigit_17 : decode cX9_isDigit 17 = .ok (.ireturn, 1) := by decide +kernel
theorem dX9_isLetter_0 : decode cX9_isLetter 0 = .ok (.iload_n 0, 1) := by decide +kernel
theorem dX9_isLetter_1 : decode cX9_isLetter 1 = .ok (.bipush 97, 2) := by decide +kernel
theorem dX9_isLetter_3 : decode cX9_isLetter 3 = .ok (.if_icmp .lt 13, 3) := by decide +kernel
theorem dX9_isLetter_6 : decode cX9_isLetter 6 = .ok (.iload_n 0, 1) := by decide +kernel
theorem dX9_isLetter_7 : decode cX9_isLetter 7 = .ok (.bipush 122, 2) := by decide +kernel
theorem dX9_isLetter_9 : decode cX9_isLetter 9 = .ok (.if_icmp .gt 7, 3) := by decide +kernel
theorem dX9_isLetter_12 : decode cX9_isLetter 12 = .ok (.iconst 1, 1) := by decide +kernel
theorem dX9_isLetter_13 : decode cX9_isLetter 13 = .ok (.goto 4, 3) := by decide +kernel
theorem dX9_isLetter_16 : decode cX9_isLetter 16 = .ok (.iconst 0, 1) := by decide +kernel
theorem dX9_isLetter_17 : decode cX9_isLetter 17 = .ok (.ireturn, 1) := by decide +kernel
theorem dX9_go_0 : decode cX9_go 0 = .ok (.aload_n 0, 1) := by decide +kernel
theorem dX9_go_1 : decode cX9_go 1 = .ok (.getfield 21, 3) := by decide +kernel
theorem dX9_go_4 : decode cX9_go 4 = .ok (.aload_n 0, 1) := by decide +kernel
theorem dX9_go_5 : decode cX9_go 5 = .ok (.getfield 18, 3) := by decide +kernel
theorem dX9_go_8 : decode cX9_go 8 = .ok (.if_icmp .ge 44, 3) := by decide +kernel
theorem dX9_go_11 : decode cX9_go 11 = .ok (.aload_n 0, 1) := by decide +kernel
theorem dX9_go_12 : decode cX9_go 12 = .ok (.getfield 7, 3) := by decide +kernel
theorem dX9_go_15 : decode cX9_go 15 = .ok (.aload_n 0, 1) := by decide +kernel
theorem dX9_go_16 : decode cX9_go 16 = .ok (.getfield 21, 3) := by decide +kernel
theorem dX9_go_19 : decode cX9_go 19 = .ok (.iaload, 1) := by decide +kernel
theorem dX9_go_20 : decode cX9_go 20 = .ok (.bipush 32, 2) := by decide +kernel
theorem dX9_go_22 : decode cX9_go 22 = .ok (.if_icmp .eq 17, 3) := by decide +kernel
theorem dX9_go_25 : decode cX9_go 25 = .ok (.aload_n 0, 1) := by decide +kernel
theorem dX9_go_26 : decode cX9_go 26 = .ok (.getfield 7, 3) := by decide +kernel
theorem dX9_go_29 : decode cX9_go 29 = .ok (.aload_n 0, 1) := by decide +kernel
theorem dX9_go_30 : decode cX9_go 30 = .ok (.getfield 21, 3) := by decide +kernel
theorem dX9_go_33 : decode cX9_go 33 = .ok (.iaload, 1) := by decide +kernel
theorem dX9_go_34 : decode cX9_go 34 = .ok (.bipush 10, 2) := by decide +kernel
theorem dX9_go_36 : decode cX9_go 36 = .ok (.if_icmp .ne 16, 3) := by decide +kernel
theorem dX9_go_39 : decode cX9_go 39 = .ok (.aload_n 0, 1) := by decide +kernel
theorem dX9_go_40 : decode cX9_go 40 = .ok (.dup, 1) := by decide +kernel
theorem dX9_go_41 : decode cX9_go 41 = .ok (.getfield 21, 3) := by decide +kernel
theorem dX9_go_44 : decode cX9_go 44 = .ok (.iconst 1, 1) := by decide +kernel
theorem dX9_go_45 : decode cX9_go 45 = .ok (.iadd, 1) := by decide +kernel
theorem dX9_go_46 : decode cX9_go 46 = .ok (.putfield 21, 3) := by decide +kernel
theorem dX9_go_49 : decode cX9_go 49 = .ok (.goto (-49), 3) := by decide +kernel
theorem dX9_go_52 : decode cX9_go 52 = .ok (.aload_n 0, 1) := by decide +kernel
theorem dX9_go_53 : decode cX9_go 53 = .ok (.aload_n 0, 1) := by decide +kernel
theorem dX9_go_54 : decode cX9_go 54 = .ok (.getfield 21, 3) := by decide +kernel
theorem dX9_go_57 : decode cX9_go 57 = .ok (.putfield 24, 3) := by decide +kernel
theorem dX9_go_60 : decode cX9_go 60 = .ok (.aload_n 0, 1) := by decide +kernel
theorem dX9_go_61 : decode cX9_go 61 = .ok (.getfield 18, 3) := by decide +kernel
theorem dX9_go_64 : decode cX9_go 64 = .ok (.sipush 600, 3) := by decide +kernel
theorem dX9_go_67 : decode cX9_go 67 = .ok (.if_icmp .le 26, 3) := by decide +kernel
theorem dX9_go_70 : decode cX9_go 70 = .ok (.aload_n 0, 1) := by decide +kernel
theorem dX9_go_71 : decode cX9_go 71 = .ok (.getfield 24, 3) := by decide +kernel
theorem dX9_go_74 : decode cX9_go 74 = .ok (.sipush 600, 3) := by decide +kernel
theorem dX9_go_77 : decode cX9_go 77 = .ok (.if_icmp .lt 16, 3) := by decide +kernel
theorem dX9_go_80 : decode cX9_go 80 = .ok (.aload_n 0, 1) := by decide +kernel
theorem dX9_go_81 : decode cX9_go 81 = .ok (.sipush 600, 3) := by decide +kernel
theorem dX9_go_84 : decode cX9_go 84 = .ok (.putfield 24, 3) := by decide +kernel
theorem dX9_go_87 : decode cX9_go 87 = .ok (.aload_n 0, 1) := by decide +kernel
theorem dX9_go_88 : decode cX9_go 88 = .ok (.iconst 1, 1) := by decide +kernel
theorem dX9_go_89 : decode cX9_go 89 = .ok (.putfield 27, 3) := by decide +kernel
theorem dX9_go_92 : decode cX9_go 92 = .ok (.return_, 1) := by decide +kernel
theorem dX9_go_93 : decode cX9_go 93 = .ok (.aload_n 0, 1) := by decide +kernel
theorem dX9_go_94 : decode cX9_go 94 = .ok (.getfield 21, 3) := by decide +kernel
theorem dX9_go_97 : decode cX9_go 97 = .ok (.aload_n 0, 1) := by decide +kernel
theorem dX9_go_98 : decode cX9_go 98 = .ok (.getfield 18, 3) := by decide +kernel
theorem dX9_go_101 : decode cX9_go 101 = .ok (.if_icmp .lt 9, 3) := by decide +kernel
theorem dX9_go_104 : decode cX9_go 104 = .ok (.aload_n 0, 1) := by decide +kernel
theorem dX9_go_105 : decode cX9_go 105 = .ok (.iconst 0, 1) := by decide +kernel
theorem dX9_go_106 : decode cX9_go 106 = .ok (.putfield 27, 3) := by decide +kernel
theorem dX9_go_109 : decode cX9_go 109 = .ok (.return_, 1) := by decide +kernel
theorem dX9_go_110 : decode cX9_go 110 = .ok (.aload_n 0, 1) := by decide +kernel
theorem dX9_go_111 : decode cX9_go 111 = .ok (.getfield 7, 3) := by decide +kernel
theorem dX9_go_114 : decode cX9_go 114 = .ok (.aload_n 0, 1) := by decide +kernel
theorem dX9_go_115 : decode cX9_go 115 = .ok (.getfield 21, 3) := by decide +kernel
theorem dX9_go_118 : decode cX9_go 118 = .ok (.iaload, 1) := by decide +kernel
theorem dX9_go_119 : decode cX9_go 119 = .ok (.istore_n 1, 1) := by decide +kernel
theorem dX9_go_120 : decode cX9_go 120 = .ok (.iload_n 1, 1) := by decide +kernel
theorem dX9_go_121 : decode cX9_go 121 = .ok (.invokestatic 30, 3) := by decide +kernel
theorem dX9_go_124 : decode cX9_go 124 = .ok (.ifCond .ne 36, 3) := by decide +kernel
theorem dX9_go_127 : decode cX9_go 127 = .ok (.iload_n 1, 1) := by decide +kernel
theorem dX9_go_128 : decode cX9_go 128 = .ok (.invokestatic 34, 3) := by decide +kernel
theorem dX9_go_131 : decode cX9_go 131 = .ok (.ifCond .ne 29, 3) := by decide +kernel
theorem dX9_go_134 : decode cX9_go 134 = .ok (.aload_n 0, 1) := by decide +kernel
theorem dX9_go_135 : decode cX9_go 135 = .ok (.iload_n 1, 1) := by decide +kernel
theorem dX9_go_136 : decode cX9_go 136 = .ok (.bipush 59, 2) := by decide +kernel
theorem dX9_go_138 : decode cX9_go 138 = .ok (.if_icmp .ne 7, 3) := by decide +kernel
theorem dX9_go_141 : decode cX9_go 141 = .ok (.iconst 4, 1) := by decide +kernel
theorem dX9_go_142 : decode cX9_go 142 = .ok (.goto 4, 3) := by decide +kernel
theorem dX9_go_145 : decode cX9_go 145 = .ok (.iconst 1, 1) := by decide +kernel
theorem dX9_go_146 : decode cX9_go 146 = .ok (.putfield 27, 3) := by decide +kernel
theorem dX9_go_149 : decode cX9_go 149 = .ok (.aload_n 0, 1) := by decide +kernel
theorem dX9_go_150 : decode cX9_go 150 = .ok (.dup, 1) := by decide +kernel
theorem dX9_go_151 : decode cX9_go 151 = .ok (.getfield 21, 3) := by decide +kernel
theorem dX9_go_154 : decode cX9_go 154 = .ok (.iconst 1, 1) := by decide +kernel
theorem dX9_go_155 : decode cX9_go 155 = .ok (.iadd, 1) := by decide +kernel
theorem dX9_go_156 : decode cX9_go 156 = .ok (.putfield 21, 3) := by decide +kernel
theorem dX9_go_159 : decode cX9_go 159 = .ok (.return_, 1) := by decide +kernel
theorem dX9_go_160 : decode cX9_go 160 = .ok (.iload_n 1, 1) := by decide +kernel
theorem dX9_go_161 : decode cX9_go 161 = .ok (.invokestatic 30, 3) := by decide +kernel
theorem dX9_go_164 : decode cX9_go 164 = .ok (.istore_n 2, 1) := by decide +kernel
theorem dX9_go_165 : decode cX9_go 165 = .ok (.iconst 1, 1) := by decide +kernel
theorem dX9_go_166 : decode cX9_go 166 = .ok (.istore_n 3, 1) := by decide +kernel
theorem dX9_go_167 : decode cX9_go 167 = .ok (.aload_n 0, 1) := by decide +kernel
theorem dX9_go_168 : decode cX9_go 168 = .ok (.lconst 0, 1) := by decide +kernel
theorem dX9_go_169 : decode cX9_go 169 = .ok (.putfield 37, 3) := by decide +kernel
theorem dX9_go_172 : decode cX9_go 172 = .ok (.aload_n 0, 1) := by decide +kernel
theorem dX9_go_173 : decode cX9_go 173 = .ok (.iconst 0, 1) := by decide +kernel
theorem dX9_go_174 : decode cX9_go 174 = .ok (.putfield 41, 3) := by decide +kernel
theorem dX9_go_177 : decode cX9_go 177 = .ok (.aload_n 0, 1) := by decide +kernel
theorem dX9_go_178 : decode cX9_go 178 = .ok (.aload_n 0, 1) := by decide +kernel
theorem dX9_go_179 : decode cX9_go 179 = .ok (.getfield 21, 3) := by decide +kernel
theorem dX9_go_182 : decode cX9_go 182 = .ok (.invokevirtual 44, 3) := by decide +kernel
theorem dX9_go_185 : decode cX9_go 185 = .ok (.invokestatic 30, 3) := by decide +kernel
theorem dX9_go_188 : decode cX9_go 188 = .ok (.ifCond .ne 17, 3) := by decide +kernel
theorem dX9_go_191 : decode cX9_go 191 = .ok (.aload_n 0, 1) := by decide +kernel
theorem dX9_go_192 : decode cX9_go 192 = .ok (.aload_n 0, 1) := by decide +kernel
theorem dX9_go_193 : decode cX9_go 193 = .ok (.getfield 21, 3) := by decide +kernel
theorem dX9_go_196 : decode cX9_go 196 = .ok (.invokevirtual 44, 3) := by decide +kernel
theorem dX9_go_199 : decode cX9_go 199 = .ok (.invokestatic 34, 3) := by decide +kernel
theorem dX9_go_202 : decode cX9_go 202 = .ok (.ifCond .eq 110, 3) := by decide +kernel
theorem dX9_go_205 : decode cX9_go 205 = .ok (.aload_n 0, 1) := by decide +kernel
theorem dX9_go_206 : decode cX9_go 206 = .ok (.getfield 7, 3) := by decide +kernel
theorem dX9_go_209 : decode cX9_go 209 = .ok (.aload_n 0, 1) := by decide +kernel
theorem dX9_go_210 : decode cX9_go 210 = .ok (.getfield 21, 3) := by decide +kernel
theorem dX9_go_213 : decode cX9_go 213 = .ok (.iaload, 1) := by decide +kernel
theorem dX9_go_214 : decode cX9_go 214 = .ok (.istore 4, 2) := by decide +kernel
theorem dX9_go_216 : decode cX9_go 216 = .ok (.iload_n 3, 1) := by decide +kernel
theorem dX9_go_217 : decode cX9_go 217 = .ok (.ifCond .eq 16, 3) := by decide +kernel
theorem dX9_go_220 : decode cX9_go 220 = .ok (.iload 4, 2) := by decide +kernel
theorem dX9_go_222 : decode cX9_go 222 = .ok (.invokestatic 30, 3) := by decide +kernel
theorem dX9_go_225 : decode cX9_go 225 = .ok (.iload_n 2, 1) := by decide +kernel
theorem dX9_go_226 : decode cX9_go 226 = .ok (.if_icmp .ne 7, 3) := by decide +kernel
theorem dX9_go_229 : decode cX9_go 229 = .ok (.iconst 1, 1) := by decide +kernel
theorem dX9_go_230 : decode cX9_go 230 = .ok (.goto 4, 3) := by decide +kernel
theorem dX9_go_233 : decode cX9_go 233 = .ok (.iconst 0, 1) := by decide +kernel
theorem dX9_go_234 : decode cX9_go 234 = .ok (.istore_n 3, 1) := by decide +kernel
theorem dX9_go_235 : decode cX9_go 235 = .ok (.aload_n 0, 1) := by decide +kernel
theorem dX9_go_236 : decode cX9_go 236 = .ok (.getfield 21, 3) := by decide +kernel
theorem dX9_go_239 : decode cX9_go 239 = .ok (.aload_n 0, 1) := by decide +kernel
theorem dX9_go_240 : decode cX9_go 240 = .ok (.getfield 24, 3) := by decide +kernel
theorem dX9_go_243 : decode cX9_go 243 = .ok (.isub, 1) := by decide +kernel
theorem dX9_go_244 : decode cX9_go 244 = .ok (.bipush 8, 2) := by decide +kernel
theorem dX9_go_246 : decode cX9_go 246 = .ok (.if_icmp .ge 23, 3) := by decide +kernel
theorem dX9_go_249 : decode cX9_go 249 = .ok (.aload_n 0, 1) := by decide +kernel
theorem dX9_go_250 : decode cX9_go 250 = .ok (.ldc2_w 48, 3) := by decide +kernel
theorem dX9_go_253 : decode cX9_go 253 = .ok (.aload_n 0, 1) := by decide +kernel
theorem dX9_go_254 : decode cX9_go 254 = .ok (.getfield 37, 3) := by decide +kernel
theorem dX9_go_257 : decode cX9_go 257 = .ok (.lmul, 1) := by decide +kernel
theorem dX9_go_258 : decode cX9_go 258 = .ok (.iload 4, 2) := by decide +kernel
theorem dX9_go_260 : decode cX9_go 260 = .ok (.i2l, 1) := by decide +kernel
theorem dX9_go_261 : decode cX9_go 261 = .ok (.ladd, 1) := by decide +kernel
theorem dX9_go_262 : decode cX9_go 262 = .ok (.ldc2_w 50, 3) := by decide +kernel
theorem dX9_go_265 : decode cX9_go 265 = .ok (.lsub, 1) := by decide +kernel
theorem dX9_go_266 : decode cX9_go 266 = .ok (.putfield 37, 3) := by decide +kernel
theorem dX9_go_269 : decode cX9_go 269 = .ok (.aload_n 0, 1) := by decide +kernel
theorem dX9_go_270 : decode cX9_go 270 = .ok (.getfield 21, 3) := by decide +kernel
theorem dX9_go_273 : decode cX9_go 273 = .ok (.aload_n 0, 1) := by decide +kernel
theorem dX9_go_274 : decode cX9_go 274 = .ok (.getfield 24, 3) := by decide +kernel
theorem dX9_go_277 : decode cX9_go 277 = .ok (.isub, 1) := by decide +kernel
theorem dX9_go_278 : decode cX9_go 278 = .ok (.iconst 3, 1) := by decide +kernel
theorem dX9_go_279 : decode cX9_go 279 = .ok (.if_icmp .ge 20, 3) := by decide +kernel
theorem dX9_go_282 : decode cX9_go 282 = .ok (.aload_n 0, 1) := by decide +kernel
theorem dX9_go_283 : decode cX9_go 283 = .ok (.bipush 10, 2) := by decide +kernel
theorem dX9_go_285 : decode cX9_go 285 = .ok (.aload_n 0, 1) := by decide +kernel
theorem dX9_go_286 : decode cX9_go 286 = .ok (.getfield 41, 3) := by decide +kernel
theorem dX9_go_289 : decode cX9_go 289 = .ok (.imul, 1) := by decide +kernel
theorem dX9_go_290 : decode cX9_go 290 = .ok (.iload 4, 2) := by decide +kernel
theorem dX9_go_292 : decode cX9_go 292 = .ok (.iadd, 1) := by decide +kernel
theorem dX9_go_293 : decode cX9_go 293 = .ok (.bipush 48, 2) := by decide +kernel
theorem dX9_go_295 : decode cX9_go 295 = .ok (.isub, 1) := by decide +kernel
theorem dX9_go_296 : decode cX9_go 296 = .ok (.putfield 41, 3) := by decide +kernel
theorem dX9_go_299 : decode cX9_go 299 = .ok (.aload_n 0, 1) := by decide +kernel
theorem dX9_go_300 : decode cX9_go 300 = .ok (.dup, 1) := by decide +kernel
theorem dX9_go_301 : decode cX9_go 301 = .ok (.getfield 21, 3) := by decide +kernel
theorem dX9_go_304 : decode cX9_go 304 = .ok (.iconst 1, 1) := by decide +kernel
theorem dX9_go_305 : decode cX9_go 305 = .ok (.iadd, 1) := by decide +kernel
theorem dX9_go_306 : decode cX9_go 306 = .ok (.putfield 21, 3) := by decide +kernel
theorem dX9_go_309 : decode cX9_go 309 = .ok (.goto (-132), 3) := by decide +kernel
theorem dX9_go_312 : decode cX9_go 312 = .ok (.aload_n 0, 1) := by decide +kernel
theorem dX9_go_313 : decode cX9_go 313 = .ok (.iload_n 3, 1) := by decide +kernel
theorem dX9_go_314 : decode cX9_go 314 = .ok (.ifCond .eq 20, 3) := by decide +kernel
theorem dX9_go_317 : decode cX9_go 317 = .ok (.iload_n 2, 1) := by decide +kernel
theorem dX9_go_318 : decode cX9_go 318 = .ok (.ifCond .ne 20, 3) := by decide +kernel
theorem dX9_go_321 : decode cX9_go 321 = .ok (.aload_n 0, 1) := by decide +kernel
theorem dX9_go_322 : decode cX9_go 322 = .ok (.getfield 21, 3) := by decide +kernel
theorem dX9_go_325 : decode cX9_go 325 = .ok (.aload_n 0, 1) := by decide +kernel
theorem dX9_go_326 : decode cX9_go 326 = .ok (.getfield 24, 3) := by decide +kernel
theorem dX9_go_329 : decode cX9_go 329 = .ok (.isub, 1) := by decide +kernel
theorem dX9_go_330 : decode cX9_go 330 = .ok (.iconst 3, 1) := by decide +kernel
theorem dX9_go_331 : decode cX9_go 331 = .ok (.if_icmp .le 7, 3) := by decide +kernel
theorem dX9_go_334 : decode cX9_go 334 = .ok (.iconst 1, 1) := by decide +kernel
theorem dX9_go_335 : decode cX9_go 335 = .ok (.goto 12, 3) := by decide +kernel
theorem dX9_go_338 : decode cX9_go 338 = .ok (.iload_n 2, 1) := by decide +kernel
theorem dX9_go_339 : decode cX9_go 339 = .ok (.ifCond .eq 7, 3) := by decide +kernel
theorem dX9_go_342 : decode cX9_go 342 = .ok (.iconst 2, 1) := by decide +kernel
theorem dX9_go_343 : decode cX9_go 343 = .ok (.goto 4, 3) := by decide +kernel
theorem dX9_go_346 : decode cX9_go 346 = .ok (.iconst 3, 1) := by decide +kernel
theorem dX9_go_347 : decode cX9_go 347 = .ok (.putfield 27, 3) := by decide +kernel
theorem dX9_go_350 : decode cX9_go 350 = .ok (.return_, 1) := by decide +kernel
theorem dX9_two_0 : decode cX9_two 0 = .ok (.ldc2_w 48, 3) := by decide +kernel
theorem dX9_two_3 : decode cX9_two 3 = .ok (.iload_n 0, 1) := by decide +kernel
theorem dX9_two_4 : decode cX9_two 4 = .ok (.i2l, 1) := by decide +kernel
theorem dX9_two_5 : decode cX9_two 5 = .ok (.ldc2_w 50, 3) := by decide +kernel
theorem dX9_two_8 : decode cX9_two 8 = .ok (.lsub, 1) := by decide +kernel
theorem dX9_two_9 : decode cX9_two 9 = .ok (.lmul, 1) := by decide +kernel
theorem dX9_two_10 : decode cX9_two 10 = .ok (.iload_n 1, 1) := by decide +kernel
theorem dX9_two_11 : decode cX9_two 11 = .ok (.i2l, 1) := by decide +kernel
theorem dX9_two_12 : decode cX9_two 12 = .ok (.ladd, 1) := by decide +kernel
theorem dX9_two_13 : decode cX9_two 13 = .ok (.ldc2_w 50, 3) := by decide +kernel
theorem dX9_two_16 : decode cX9_two 16 = .ok (.lsub, 1) := by decide +kernel
theorem dX9_two_17 : decode cX9_two 17 = .ok (.lreturn, 1) := by decide +kernel
theorem dX9_four_0 : decode cX9_four 0 = .ok (.ldc2_w 52, 3) := by decide +kernel
theorem dX9_four_3 : decode cX9_four 3 = .ok (.iload_n 0, 1) := by decide +kernel
theorem dX9_four_4 : decode cX9_four 4 = .ok (.iload_n 1, 1) := by decide +kernel
theorem dX9_four_5 : decode cX9_four 5 = .ok (.invokestatic 54, 3) := by decide +kernel
theorem dX9_four_8 : decode cX9_four 8 = .ok (.lmul, 1) := by decide +kernel
theorem dX9_four_9 : decode cX9_four 9 = .ok (.iload_n 2, 1) := by decide +kernel
theorem dX9_four_10 : decode cX9_four 10 = .ok (.iload_n 3, 1) := by decide +kernel
theorem dX9_four_11 : decode cX9_four 11 = .ok (.invokestatic 54, 3) := by decide +kernel
theorem dX9_four_14 : decode cX9_four 14 = .ok (.ladd, 1) := by decide +kernel
theorem dX9_four_15 : decode cX9_four 15 = .ok (.lreturn, 1) := by decide +kernel
theorem dX9_seven_0 : decode cX9_seven 0 = .ok (.ldc2_w 48, 3) := by decide +kernel
theorem dX9_seven_3 : decode cX9_seven 3 = .ok (.ldc2_w 52, 3) := by decide +kernel
theorem dX9_seven_6 : decode cX9_seven 6 = .ok (.iload_n 0, 1) := by decide +kernel
theorem dX9_seven_7 : decode cX9_seven 7 = .ok (.iload_n 1, 1) := by decide +kernel
theorem dX9_seven_8 : decode cX9_seven 8 = .ok (.iload_n 2, 1) := by decide +kernel
theorem dX9_seven_9 : decode cX9_seven 9 = .ok (.iload_n 3, 1) := by decide +kernel
theorem dX9_seven_10 : decode cX9_seven 10 = .ok (.invokestatic 58, 3) := by decide +kernel
theorem dX9_seven_13 : decode cX9_seven 13 = .ok (.lmul, 1) := by decide +kernel
theorem dX9_seven_14 : decode cX9_seven 14 = .ok (.iload 4, 2) := by decide +kernel
theorem dX9_seven_16 : decode cX9_seven 16 = .ok (.iload 5, 2) := by decide +kernel
theorem dX9_seven_18 : decode cX9_seven 18 = .ok (.invokestatic 54, 3) := by decide +kernel
theorem dX9_seven_21 : decode cX9_seven 21 = .ok (.ladd, 1) := by decide +kernel
theorem dX9_seven_22 : decode cX9_seven 22 = .ok (.lmul, 1) := by decide +kernel
theorem dX9_seven_23 : decode cX9_seven 23 = .ok (.iload 6, 2) := by decide +kernel
theorem dX9_seven_25 : decode cX9_seven 25 = .ok (.i2l, 1) := by decide +kernel
theorem dX9_seven_26 : decode cX9_seven 26 = .ok (.ladd, 1) := by decide +kernel
theorem dX9_seven_27 : decode cX9_seven 27 = .ok (.ldc2_w 50, 3) := by decide +kernel
theorem dX9_seven_30 : decode cX9_seven 30 = .ok (.lsub, 1) := by decide +kernel
theorem dX9_seven_31 : decode cX9_seven 31 = .ok (.lreturn, 1) := by decide +kernel
theorem dX9_isWord_0 : decode cX9_isWord 0 = .ok (.aload_n 0, 1) := by decide +kernel
theorem dX9_isWord_1 : decode cX9_isWord 1 = .ok (.getfield 27, 3) := by decide +kernel
theorem dX9_isWord_4 : decode cX9_isWord 4 = .ok (.iconst 2, 1) := by decide +kernel
theorem dX9_isWord_5 : decode cX9_isWord 5 = .ok (.if_icmp .ne 16, 3) := by decide +kernel
theorem dX9_isWord_8 : decode cX9_isWord 8 = .ok (.aload_n 0, 1) := by decide +kernel
theorem dX9_isWord_9 : decode cX9_isWord 9 = .ok (.getfield 37, 3) := by decide +kernel
theorem dX9_isWord_12 : decode cX9_isWord 12 = .ok (.lload_n 1, 1) := by decide +kernel
theorem dX9_isWord_13 : decode cX9_isWord 13 = .ok (.lcmp, 1) := by decide +kernel
theorem dX9_isWord_14 : decode cX9_isWord 14 = .ok (.ifCond .ne 7, 3) := by decide +kernel
theorem dX9_isWord_17 : decode cX9_isWord 17 = .ok (.iconst 1, 1) := by decide +kernel
theorem dX9_isWord_18 : decode cX9_isWord 18 = .ok (.goto 4, 3) := by decide +kernel
theorem dX9_isWord_21 : decode cX9_isWord 21 = .ok (.iconst 0, 1) := by decide +kernel
theorem dX9_isWord_22 : decode cX9_isWord 22 = .ok (.ireturn, 1) := by decide +kernel
theorem dX9_bad_0 : decode cX9_bad 0 = .ok (.aload_n 0, 1) := by decide +kernel
theorem dX9_bad_1 : decode cX9_bad 1 = .ok (.aload_n 0, 1) := by decide +kernel
theorem dX9_bad_2 : decode cX9_bad 2 = .ok (.getfield 27, 3) := by decide +kernel
theorem dX9_bad_5 : decode cX9_bad 5 = .ok (.iconst 1, 1) := by decide +kernel
theorem dX9_bad_6 : decode cX9_bad 6 = .ok (.if_icmp .ne 7, 3) := by decide +kernel
theorem dX9_bad_9 : decode cX9_bad 9 = .ok (.iconst 1, 1) := by decide +kernel
theorem dX9_bad_10 : decode cX9_bad 10 = .ok (.goto 4, 3) := by decide +kernel
theorem dX9_bad_13 : decode cX9_bad 13 = .ok (.iload_n 1, 1) := by decide +kernel
theorem dX9_bad_14 : decode cX9_bad 14 = .ok (.putfield 62, 3) := by decide +kernel
theorem dX9_bad_17 : decode cX9_bad 17 = .ok (.aload_n 0, 1) := by decide +kernel
theorem dX9_bad_18 : decode cX9_bad 18 = .ok (.aload_n 0, 1) := by decide +kernel
theorem dX9_bad_19 : decode cX9_bad 19 = .ok (.getfield 24, 3) := by decide +kernel
theorem dX9_bad_22 : decode cX9_bad 22 = .ok (.putfield 65, 3) := by decide +kernel
theorem dX9_bad_25 : decode cX9_bad 25 = .ok (.iconst 0, 1) := by decide +kernel
theorem dX9_bad_26 : decode cX9_bad 26 = .ok (.ireturn, 1) := by decide +kernel
theorem dX9_init_0 : decode cX9_init 0 = .ok (.aload_n 0, 1) := by decide +kernel
theorem dX9_init_1 : decode cX9_init 1 = .ok (.invokespecial 68, 3) := by decide +kernel
theorem dX9_init_4 : decode cX9_init 4 = .ok (.aload_n 0, 1) := by decide +kernel
theorem dX9_init_5 : decode cX9_init 5 = .ok (.sipush 640, 3) := by decide +kernel
theorem dX9_init_8 : decode cX9_init 8 = .ok (.newarray .int, 2) := by decide +kernel
theorem dX9_init_10 : decode cX9_init 10 = .ok (.putfield 7, 3) := by decide +kernel
theorem dX9_init_13 : decode cX9_init 13 = .ok (.aload_n 0, 1) := by decide +kernel
theorem dX9_init_14 : decode cX9_init 14 = .ok (.sipush 845, 3) := by decide +kernel
theorem dX9_init_17 : decode cX9_init 17 = .ok (.newarray .int, 2) := by decide +kernel
theorem dX9_init_19 : decode cX9_init 19 = .ok (.putfield 74, 3) := by decide +kernel
theorem dX9_init_22 : decode cX9_init 22 = .ok (.aload_n 0, 1) := by decide +kernel
theorem dX9_init_23 : decode cX9_init 23 = .ok (.sipush 845, 3) := by decide +kernel
theorem dX9_init_26 : decode cX9_init 26 = .ok (.newarray .int, 2) := by decide +kernel
theorem dX9_init_28 : decode cX9_init 28 = .ok (.putfield 77, 3) := by decide +kernel
theorem dX9_init_31 : decode cX9_init 31 = .ok (.aload_n 0, 1) := by decide +kernel
theorem dX9_init_32 : decode cX9_init 32 = .ok (.sipush 8450, 3) := by decide +kernel
theorem dX9_init_35 : decode cX9_init 35 = .ok (.newarray .int, 2) := by decide +kernel
theorem dX9_init_37 : decode cX9_init 37 = .ok (.putfield 80, 3) := by decide +kernel
theorem dX9_init_40 : decode cX9_init 40 = .ok (.aload_n 0, 1) := by decide +kernel
theorem dX9_init_41 : decode cX9_init 41 = .ok (.bipush 40, 2) := by decide +kernel
theorem dX9_init_43 : decode cX9_init 43 = .ok (.newarray .int, 2) := by decide +kernel
theorem dX9_init_45 : decode cX9_init 45 = .ok (.putfield 83, 3) := by decide +kernel
theorem dX9_init_48 : decode cX9_init 48 = .ok (.aload_n 0, 1) := by decide +kernel
theorem dX9_init_49 : decode cX9_init 49 = .ok (.bipush 80, 2) := by decide +kernel
theorem dX9_init_51 : decode cX9_init 51 = .ok (.newarray .int, 2) := by decide +kernel
theorem dX9_init_53 : decode cX9_init 53 = .ok (.putfield 86, 3) := by decide +kernel
theorem dX9_init_56 : decode cX9_init 56 = .ok (.aload_n 0, 1) := by decide +kernel
theorem dX9_init_57 : decode cX9_init 57 = .ok (.getfield 74, 3) := by decide +kernel
theorem dX9_init_60 : decode cX9_init 60 = .ok (.iconst 0, 1) := by decide +kernel
theorem dX9_init_61 : decode cX9_init 61 = .ok (.iconst 1, 1) := by decide +kernel
theorem dX9_init_62 : decode cX9_init 62 = .ok (.iastore, 1) := by decide +kernel
theorem dX9_init_63 : decode cX9_init 63 = .ok (.return_, 1) := by decide +kernel
theorem dX9_told_0 : decode cX9_told 0 = .ok (.aload_n 0, 1) := by decide +kernel
theorem dX9_told_1 : decode cX9_told 1 = .ok (.getfield 27, 3) := by decide +kernel
theorem dX9_told_4 : decode cX9_told 4 = .ok (.iconst 3, 1) := by decide +kernel
theorem dX9_told_5 : decode cX9_told 5 = .ok (.if_icmp .eq 9, 3) := by decide +kernel
theorem dX9_told_8 : decode cX9_told 8 = .ok (.aload_n 0, 1) := by decide +kernel
theorem dX9_told_9 : decode cX9_told 9 = .ok (.iconst 1, 1) := by decide +kernel
theorem dX9_told_10 : decode cX9_told 10 = .ok (.invokevirtual 89, 3) := by decide +kernel
theorem dX9_told_13 : decode cX9_told 13 = .ok (.ireturn, 1) := by decide +kernel
theorem dX9_told_14 : decode cX9_told 14 = .ok (.aload_n 0, 1) := by decide +kernel
theorem dX9_told_15 : decode cX9_told 15 = .ok (.getfield 41, 3) := by decide +kernel
theorem dX9_told_18 : decode cX9_told 18 = .ok (.iload_n 2, 1) := by decide +kernel
theorem dX9_told_19 : decode cX9_told 19 = .ok (.iload_n 3, 1) := by decide +kernel
theorem dX9_told_20 : decode cX9_told 20 = .ok (.invokestatic 92, 3) := by decide +kernel
theorem dX9_told_23 : decode cX9_told 23 = .ok (.ifCond .ne 9, 3) := by decide +kernel
theorem dX9_told_26 : decode cX9_told 26 = .ok (.aload_n 0, 1) := by decide +kernel
theorem dX9_told_27 : decode cX9_told 27 = .ok (.iconst 2, 1) := by decide +kernel
theorem dX9_told_28 : decode cX9_told 28 = .ok (.invokevirtual 89, 3) := by decide +kernel
theorem dX9_told_31 : decode cX9_told 31 = .ok (.ireturn, 1) := by decide +kernel
theorem dX9_told_32 : decode cX9_told 32 = .ok (.aload_n 0, 1) := by decide +kernel
theorem dX9_told_33 : decode cX9_told 33 = .ok (.getfield 77, 3) := by decide +kernel
theorem dX9_told_36 : decode cX9_told 36 = .ok (.iload_n 1, 1) := by decide +kernel
theorem dX9_told_37 : decode cX9_told 37 = .ok (.aload_n 0, 1) := by decide +kernel
theorem dX9_told_38 : decode cX9_told 38 = .ok (.getfield 41, 3) := by decide +kernel
theorem dX9_told_41 : decode cX9_told 41 = .ok (.iastore, 1) := by decide +kernel
theorem dX9_told_42 : decode cX9_told 42 = .ok (.aload_n 0, 1) := by decide +kernel
theorem dX9_told_43 : decode cX9_told 43 = .ok (.invokevirtual 96, 3) := by decide +kernel
theorem dX9_told_46 : decode cX9_told 46 = .ok (.iconst 1, 1) := by decide +kernel
theorem dX9_told_47 : decode cX9_told 47 = .ok (.ireturn, 1) := by decide +kernel
theorem dX9_takes_0 : decode cX9_takes 0 = .ok (.aload_n 0, 1) := by decide +kernel
theorem dX9_takes_1 : decode cX9_takes 1 = .ok (.getfield 27, 3) := by decide +kernel
theorem dX9_takes_4 : decode cX9_takes 4 = .ok (.iconst 3, 1) := by decide +kernel
theorem dX9_takes_5 : decode cX9_takes 5 = .ok (.if_icmp .eq 9, 3) := by decide +kernel
theorem dX9_takes_8 : decode cX9_takes 8 = .ok (.aload_n 0, 1) := by decide +kernel
theorem dX9_takes_9 : decode cX9_takes 9 = .ok (.iconst 1, 1) := by decide +kernel
theorem dX9_takes_10 : decode cX9_takes 10 = .ok (.invokevirtual 89, 3) := by decide +kernel
theorem dX9_takes_13 : decode cX9_takes 13 = .ok (.ireturn, 1) := by decide +kernel
theorem dX9_takes_14 : decode cX9_takes 14 = .ok (.aload_n 0, 1) := by decide +kernel
theorem dX9_takes_15 : decode cX9_takes 15 = .ok (.getfield 41, 3) := by decide +kernel
theorem dX9_takes_18 : decode cX9_takes 18 = .ok (.iload_n 1, 1) := by decide +kernel
theorem dX9_takes_19 : decode cX9_takes 19 = .ok (.iload_n 2, 1) := by decide +kernel
theorem dX9_takes_20 : decode cX9_takes 20 = .ok (.invokestatic 92, 3) := by decide +kernel
theorem dX9_takes_23 : decode cX9_takes 23 = .ok (.ifCond .ne 9, 3) := by decide +kernel
theorem dX9_takes_26 : decode cX9_takes 26 = .ok (.aload_n 0, 1) := by decide +kernel
theorem dX9_takes_27 : decode cX9_takes 27 = .ok (.iconst 2, 1) := by decide +kernel
theorem dX9_takes_28 : decode cX9_takes 28 = .ok (.invokevirtual 89, 3) := by decide +kernel
theorem dX9_takes_31 : decode cX9_takes 31 = .ok (.ireturn, 1) := by decide +kernel
theorem dX9_takes_32 : decode cX9_takes 32 = .ok (.aload_n 0, 1) := by decide +kernel
theorem dX9_takes_33 : decode cX9_takes 33 = .ok (.aload_n 0, 1) := by decide +kernel
theorem dX9_takes_34 : decode cX9_takes 34 = .ok (.getfield 41, 3) := by decide +kernel
theorem dX9_takes_37 : decode cX9_takes 37 = .ok (.putfield 99, 3) := by decide +kernel
theorem dX9_takes_40 : decode cX9_takes 40 = .ok (.aload_n 0, 1) := by decide +kernel
theorem dX9_takes_41 : decode cX9_takes 41 = .ok (.invokevirtual 96, 3) := by decide +kernel
theorem dX9_takes_44 : decode cX9_takes 44 = .ok (.iconst 1, 1) := by decide +kernel
theorem dX9_takes_45 : decode cX9_takes 45 = .ok (.ireturn, 1) := by decide +kernel
theorem dX9_readEnd_0 : decode cX9_readEnd 0 = .ok (.aload_n 0, 1) := by decide +kernel
theorem dX9_readEnd_1 : decode cX9_readEnd 1 = .ok (.getfield 27, 3) := by decide +kernel
theorem dX9_readEnd_4 : decode cX9_readEnd 4 = .ok (.iconst 4, 1) := by decide +kernel
theorem dX9_readEnd_5 : decode cX9_readEnd 5 = .ok (.if_icmp .eq 9, 3) := by decide +kernel
theorem dX9_readEnd_8 : decode cX9_readEnd 8 = .ok (.aload_n 0, 1) := by decide +kernel
theorem dX9_readEnd_9 : decode cX9_readEnd 9 = .ok (.iconst 1, 1) := by decide +kernel
theorem dX9_readEnd_10 : decode cX9_readEnd 10 = .ok (.invokevirtual 89, 3) := by decide +kernel
theorem dX9_readEnd_13 : decode cX9_readEnd 13 = .ok (.ireturn, 1) := by decide +kernel
theorem dX9_readEnd_14 : decode cX9_readEnd 14 = .ok (.aload_n 0, 1) := by decide +kernel
theorem dX9_readEnd_15 : decode cX9_readEnd 15 = .ok (.invokevirtual 96, 3) := by decide +kernel
theorem dX9_readEnd_18 : decode cX9_readEnd 18 = .ok (.iconst 1, 1) := by decide +kernel
theorem dX9_readEnd_19 : decode cX9_readEnd 19 = .ok (.ireturn, 1) := by decide +kernel
theorem dX9_readShelves_0 : decode cX9_readShelves 0 = .ok (.aload_n 0, 1) := by decide +kernel
theorem dX9_readShelves_1 : decode cX9_readShelves 1 = .ok (.bipush 115, 2) := by decide +kernel
theorem dX9_readShelves_3 : decode cX9_readShelves 3 = .ok (.bipush 104, 2) := by decide +kernel
theorem dX9_readShelves_5 : decode cX9_readShelves 5 = .ok (.bipush 101, 2) := by decide +kernel
theorem dX9_readShelves_7 : decode cX9_readShelves 7 = .ok (.bipush 108, 2) := by decide +kernel
theorem dX9_readShelves_9 : decode cX9_readShelves 9 = .ok (.bipush 118, 2) := by decide +kernel
theorem dX9_readShelves_11 : decode cX9_readShelves 11 = .ok (.bipush 101, 2) := by decide +kernel
theorem dX9_readShelves_13 : decode cX9_readShelves 13 = .ok (.bipush 115, 2) := by decide +kernel
theorem dX9_readShelves_15 : decode cX9_readShelves 15 = .ok (.invokestatic 102, 3) := by decide +kernel
theorem dX9_readShelves_18 : decode cX9_readShelves 18 = .ok (.invokevirtual 106, 3) := by decide +kernel
theorem dX9_readShelves_21 : decode cX9_readShelves 21 = .ok (.ifCond .ne 9, 3) := by decide +kernel
theorem dX9_readShelves_24 : decode cX9_readShelves 24 = .ok (.aload_n 0, 1) := by decide +kernel
theorem dX9_readShelves_25 : decode cX9_readShelves 25 = .ok (.iconst 1, 1) := by decide +kernel
theorem dX9_readShelves_26 : decode cX9_readShelves 26 = .ok (.invokevirtual 89, 3) := by decide +kernel
theorem dX9_readShelves_29 : decode cX9_readShelves 29 = .ok (.ireturn, 1) := by decide +kernel
theorem dX9_readShelves_30 : decode cX9_readShelves 30 = .ok (.aload_n 0, 1) := by decide +kernel
theorem dX9_readShelves_31 : decode cX9_readShelves 31 = .ok (.invokevirtual 96, 3) := by decide +kernel
theorem dX9_readShelves_34 : decode cX9_readShelves 34 = .ok (.aload_n 0, 1) := by decide +kernel
theorem dX9_readShelves_35 : decode cX9_readShelves 35 = .ok (.iconst 0, 1) := by decide +kernel
theorem dX9_readShelves_36 : decode cX9_readShelves 36 = .ok (.iconst 1, 1) := by decide +kernel
theorem dX9_readShelves_37 : decode cX9_readShelves 37 = .ok (.bipush 6, 2) := by decide +kernel
theorem dX9_readShelves_39 : decode cX9_readShelves 39 = .ok (.invokevirtual 110, 3) := by decide +kernel
theorem dX9_readShelves_42 : decode cX9_readShelves 42 = .ok (.ifCond .eq 14, 3) := by decide +kernel
theorem dX9_readShelves_45 : decode cX9_readShelves 45 = .ok (.aload_n 0, 1) := by decide +kernel
theorem dX9_readShelves_46 : decode cX9_readShelves 46 = .ok (.invokevirtual 113, 3) := by decide +kernel
theorem dX9_readShelves_49 : decode cX9_readShelves 49 = .ok (.ifCond .eq 7, 3) := by decide +kernel
theorem dX9_readShelves_52 : decode cX9_readShelves 52 = .ok (.iconst 1, 1) := by decide +kernel
theorem dX9_readShelves_53 : decode cX9_readShelves 53 = .ok (.goto 4, 3) := by decide +kernel
theorem dX9_readShelves_56 : decode cX9_readShelves 56 = .ok (.iconst 0, 1) := by decide +kernel
theorem dX9_readShelves_57 : decode cX9_readShelves 57 = .ok (.ireturn, 1) := by decide +kernel
theorem dX9_readItem_0 : decode cX9_readItem 0 = .ok (.aload_n 0, 1) := by decide +kernel
theorem dX9_readItem_1 : decode cX9_readItem 1 = .ok (.getfield 77, 3) := by decide +kernel
theorem dX9_readItem_4 : decode cX9_readItem 4 = .ok (.iconst 1, 1) := by decide +kernel
theorem dX9_readItem_5 : decode cX9_readItem 5 = .ok (.iaload, 1) := by decide +kernel
theorem dX9_readItem_6 : decode cX9_readItem 6 = .ok (.iconst 5, 1) := by decide +kernel
theorem dX9_readItem_7 : decode cX9_readItem 7 = .ok (.if_icmp .ne 9, 3) := by decide +kernel
theorem dX9_readItem_10 : decode cX9_readItem 10 = .ok (.aload_n 0, 1) := by decide +kernel
theorem dX9_readItem_11 : decode cX9_readItem 11 = .ok (.iconst 3, 1) := by decide +kernel
theorem dX9_readItem_12 : decode cX9_readItem 12 = .ok (.invokevirtual 89, 3) := by decide +kernel
theorem dX9_readItem_15 : decode cX9_readItem 15 = .ok (.ireturn, 1) := by decide +kernel
theorem dX9_readItem_16 : decode cX9_readItem 16 = .ok (.aload_n 0, 1) := by decide +kernel
theorem dX9_readItem_17 : decode cX9_readItem 17 = .ok (.invokevirtual 96, 3) := by decide +kernel
theorem dX9_readItem_20 : decode cX9_readItem 20 = .ok (.iconst 5, 1) := by decide +kernel
theorem dX9_readItem_21 : decode cX9_readItem 21 = .ok (.iconst 2, 1) := by decide +kernel
theorem dX9_readItem_22 : decode cX9_readItem 22 = .ok (.aload_n 0, 1) := by decide +kernel
theorem dX9_readItem_23 : decode cX9_readItem 23 = .ok (.getfield 77, 3) := by decide +kernel
theorem dX9_readItem_26 : decode cX9_readItem 26 = .ok (.iconst 1, 1) := by decide +kernel
theorem dX9_readItem_27 : decode cX9_readItem 27 = .ok (.iaload, 1) := by decide +kernel
theorem dX9_readItem_28 : decode cX9_readItem 28 = .ok (.imul, 1) := by decide +kernel
theorem dX9_readItem_29 : decode cX9_readItem 29 = .ok (.iadd, 1) := by decide +kernel
theorem dX9_readItem_30 : decode cX9_readItem 30 = .ok (.istore_n 1, 1) := by decide +kernel
theorem dX9_readItem_31 : decode cX9_readItem 31 = .ok (.aload_n 0, 1) := by decide +kernel
theorem dX9_readItem_32 : decode cX9_readItem 32 = .ok (.iload_n 1, 1) := by decide +kernel
theorem dX9_readItem_33 : decode cX9_readItem 33 = .ok (.iconst 0, 1) := by decide +kernel
theorem dX9_readItem_34 : decode cX9_readItem 34 = .ok (.bipush 99, 2) := by decide +kernel
theorem dX9_readItem_36 : decode cX9_readItem 36 = .ok (.invokevirtual 110, 3) := by decide +kernel
theorem dX9_readItem_39 : decode cX9_readItem 39 = .ok (.ifCond .eq 16, 3) := by decide +kernel
theorem dX9_readItem_42 : decode cX9_readItem 42 = .ok (.aload_n 0, 1) := by decide +kernel
theorem dX9_readItem_43 : decode cX9_readItem 43 = .ok (.iload_n 1, 1) := by decide +kernel
theorem dX9_readItem_44 : decode cX9_readItem 44 = .ok (.iconst 1, 1) := by decide +kernel
theorem dX9_readItem_45 : decode cX9_readItem 45 = .ok (.iadd, 1) := by decide +kernel
theorem dX9_readItem_46 : decode cX9_readItem 46 = .ok (.iconst 0, 1) := by decide +kernel
theorem dX9_readItem_47 : decode cX9_readItem 47 = .ok (.bipush 99, 2) := by decide +kernel
theorem dX9_readItem_49 : decode cX9_readItem 49 = .ok (.invokevirtual 110, 3) := by decide +kernel
theorem dX9_readItem_52 : decode cX9_readItem 52 = .ok (.ifCond .ne 5, 3) := by decide +kernel
theorem dX9_readItem_55 : decode cX9_readItem 55 = .ok (.iconst 0, 1) := by decide +kernel
theorem dX9_readItem_56 : decode cX9_readItem 56 = .ok (.ireturn, 1) := by decide +kernel
theorem dX9_readItem_57 : decode cX9_readItem 57 = .ok (.aload_n 0, 1) := by decide +kernel
theorem dX9_readItem_58 : decode cX9_readItem 58 = .ok (.getfield 77, 3) := by decide +kernel
theorem dX9_readItem_61 : decode cX9_readItem 61 = .ok (.iconst 1, 1) := by decide +kernel
theorem dX9_readItem_62 : decode cX9_readItem 62 = .ok (.dup2, 1) := by decide +kernel
theorem dX9_readItem_63 : decode cX9_readItem 63 = .ok (.iaload, 1) := by decide +kernel
theorem dX9_readItem_64 : decode cX9_readItem 64 = .ok (.iconst 1, 1) := by decide +kernel
theorem dX9_readItem_65 : decode cX9_readItem 65 = .ok (.iadd, 1) := by decide +kernel
theorem dX9_readItem_66 : decode cX9_readItem 66 = .ok (.iastore, 1) := by decide +kernel
theorem dX9_readItem_67 : decode cX9_readItem 67 = .ok (.aload_n 0, 1) := by decide +kernel
theorem dX9_readItem_68 : decode cX9_readItem 68 = .ok (.invokevirtual 113, 3) := by decide +kernel
theorem dX9_readItem_71 : decode cX9_readItem 71 = .ok (.ireturn, 1) := by decide +kernel
theorem dX9_readStock_0 : decode cX9_readStock 0 = .ok (.aload_n 0, 1) := by decide +kernel
theorem dX9_readStock_1 : decode cX9_readStock 1 = .ok (.invokevirtual 96, 3) := by decide +kernel
theorem dX9_readStock_4 : decode cX9_readStock 4 = .ok (.aload_n 0, 1) := by decide +kernel
theorem dX9_readStock_5 : decode cX9_readStock 5 = .ok (.iconst 0, 1) := by decide +kernel
theorem dX9_readStock_6 : decode cX9_readStock 6 = .ok (.aload_n 0, 1) := by decide +kernel
theorem dX9_readStock_7 : decode cX9_readStock 7 = .ok (.getfield 77, 3) := by decide +kernel
theorem dX9_readStock_10 : decode cX9_readStock 10 = .ok (.iconst 0, 1) := by decide +kernel
theorem dX9_readStock_11 : decode cX9_readStock 11 = .ok (.iaload, 1) := by decide +kernel
theorem dX9_readStock_12 : decode cX9_readStock 12 = .ok (.iconst 1, 1) := by decide +kernel
theorem dX9_readStock_13 : decode cX9_readStock 13 = .ok (.isub, 1) := by decide +kernel
theorem dX9_readStock_14 : decode cX9_readStock 14 = .ok (.invokevirtual 117, 3) := by decide +kernel
theorem dX9_readStock_17 : decode cX9_readStock 17 = .ok (.ifCond .ne 5, 3) := by decide +kernel
theorem dX9_readStock_20 : decode cX9_readStock 20 = .ok (.iconst 0, 1) := by decide +kernel
theorem dX9_readStock_21 : decode cX9_readStock 21 = .ok (.ireturn, 1) := by decide +kernel
theorem dX9_readStock_22 : decode cX9_readStock 22 = .ok (.aload_n 0, 1) := by decide +kernel
theorem dX9_readStock_23 : decode cX9_readStock 23 = .ok (.getfield 99, 3) := by decide +kernel
theorem dX9_readStock_26 : decode cX9_readStock 26 = .ok (.istore_n 1, 1) := by decide +kernel
theorem dX9_readStock_27 : decode cX9_readStock 27 = .ok (.aload_n 0, 1) := by decide +kernel
theorem dX9_readStock_28 : decode cX9_readStock 28 = .ok (.getfield 27, 3) := by decide +kernel
theorem dX9_readStock_31 : decode cX9_readStock 31 = .ok (.iconst 3, 1) := by decide +kernel
theorem dX9_readStock_32 : decode cX9_readStock 32 = .ok (.if_icmp .eq 9, 3) := by decide +kernel
theorem dX9_readStock_35 : decode cX9_readStock 35 = .ok (.aload_n 0, 1) := by decide +kernel
theorem dX9_readStock_36 : decode cX9_readStock 36 = .ok (.iconst 1, 1) := by decide +kernel
theorem dX9_readStock_37 : decode cX9_readStock 37 = .ok (.invokevirtual 89, 3) := by decide +kernel
theorem dX9_readStock_40 : decode cX9_readStock 40 = .ok (.ireturn, 1) := by decide +kernel
theorem dX9_readStock_41 : decode cX9_readStock 41 = .ok (.aload_n 0, 1) := by decide +kernel
theorem dX9_readStock_42 : decode cX9_readStock 42 = .ok (.getfield 41, 3) := by decide +kernel
theorem dX9_readStock_45 : decode cX9_readStock 45 = .ok (.aload_n 0, 1) := by decide +kernel
theorem dX9_readStock_46 : decode cX9_readStock 46 = .ok (.getfield 77, 3) := by decide +kernel
theorem dX9_readStock_49 : decode cX9_readStock 49 = .ok (.iconst 1, 1) := by decide +kernel
theorem dX9_readStock_50 : decode cX9_readStock 50 = .ok (.iaload, 1) := by decide +kernel
theorem dX9_readStock_51 : decode cX9_readStock 51 = .ok (.if_icmp .ge 22, 3) := by decide +kernel
theorem dX9_readStock_54 : decode cX9_readStock 54 = .ok (.aload_n 0, 1) := by decide +kernel
theorem dX9_readStock_55 : decode cX9_readStock 55 = .ok (.getfield 121, 3) := by decide +kernel
theorem dX9_readStock_58 : decode cX9_readStock 58 = .ok (.iconst 5, 1) := by decide +kernel
theorem dX9_readStock_59 : decode cX9_readStock 59 = .ok (.iload_n 1, 1) := by decide +kernel
theorem dX9_readStock_60 : decode cX9_readStock 60 = .ok (.imul, 1) := by decide +kernel
theorem dX9_readStock_61 : decode cX9_readStock 61 = .ok (.aload_n 0, 1) := by decide +kernel
theorem dX9_readStock_62 : decode cX9_readStock 62 = .ok (.getfield 41, 3) := by decide +kernel
theorem dX9_readStock_65 : decode cX9_readStock 65 = .ok (.iadd, 1) := by decide +kernel
theorem dX9_readStock_66 : decode cX9_readStock 66 = .ok (.ishr, 1) := by decide +kernel
theorem dX9_readStock_67 : decode cX9_readStock 67 = .ok (.iconst 1, 1) := by decide +kernel
theorem dX9_readStock_68 : decode cX9_readStock 68 = .ok (.iand, 1) := by decide +kernel
theorem dX9_readStock_69 : decode cX9_readStock 69 = .ok (.iconst 1, 1) := by decide +kernel
theorem dX9_readStock_70 : decode cX9_readStock 70 = .ok (.if_icmp .ne 9, 3) := by decide +kernel
theorem dX9_readStock_73 : decode cX9_readStock 73 = .ok (.aload_n 0, 1) := by decide +kernel
theorem dX9_readStock_74 : decode cX9_readStock 74 = .ok (.iconst 2, 1) := by decide +kernel
theorem dX9_readStock_75 : decode cX9_readStock 75 = .ok (.invokevirtual 89, 3) := by decide +kernel
theorem dX9_readStock_78 : decode cX9_readStock 78 = .ok (.ireturn, 1) := by decide +kernel
theorem dX9_readStock_79 : decode cX9_readStock 79 = .ok (.iconst 5, 1) := by decide +kernel
theorem dX9_readStock_80 : decode cX9_readStock 80 = .ok (.iload_n 1, 1) := by decide +kernel
theorem dX9_readStock_81 : decode cX9_readStock 81 = .ok (.imul, 1) := by decide +kernel
theorem dX9_readStock_82 : decode cX9_readStock 82 = .ok (.aload_n 0, 1) := by decide +kernel
theorem dX9_readStock_83 : decode cX9_readStock 83 = .ok (.getfield 41, 3) := by decide +kernel
theorem dX9_readStock_86 : decode cX9_readStock 86 = .ok (.iadd, 1) := by decide +kernel
theorem dX9_readStock_87 : decode cX9_readStock 87 = .ok (.istore_n 2, 1) := by decide +kernel
theorem dX9_readStock_88 : decode cX9_readStock 88 = .ok (.aload_n 0, 1) := by decide +kernel
theorem dX9_readStock_89 : decode cX9_readStock 89 = .ok (.dup, 1) := by decide +kernel
theorem dX9_readStock_90 : decode cX9_readStock 90 = .ok (.getfield 121, 3) := by decide +kernel
theorem dX9_readStock_93 : decode cX9_readStock 93 = .ok (.iconst 1, 1) := by decide +kernel
theorem dX9_readStock_94 : decode cX9_readStock 94 = .ok (.iload_n 2, 1) := by decide +kernel
theorem dX9_readStock_95 : decode cX9_readStock 95 = .ok (.ishl, 1) := by decide +kernel
theorem dX9_readStock_96 : decode cX9_readStock 96 = .ok (.ior, 1) := by decide +kernel
theorem dX9_readStock_97 : decode cX9_readStock 97 = .ok (.putfield 121, 3) := by decide +kernel
theorem dX9_readStock_100 : decode cX9_readStock 100 = .ok (.aload_n 0, 1) := by decide +kernel
theorem dX9_readStock_101 : decode cX9_readStock 101 = .ok (.invokevirtual 96, 3) := by decide +kernel
theorem dX9_readStock_104 : decode cX9_readStock 104 = .ok (.aload_n 0, 1) := by decide +kernel
theorem dX9_readStock_105 : decode cX9_readStock 105 = .ok (.bipush 15, 2) := by decide +kernel
theorem dX9_readStock_107 : decode cX9_readStock 107 = .ok (.iload_n 2, 1) := by decide +kernel
theorem dX9_readStock_108 : decode cX9_readStock 108 = .ok (.iadd, 1) := by decide +kernel
theorem dX9_readStock_109 : decode cX9_readStock 109 = .ok (.iconst 0, 1) := by decide +kernel
theorem dX9_readStock_110 : decode cX9_readStock 110 = .ok (.sipush 999, 3) := by decide +kernel
theorem dX9_readStock_113 : decode cX9_readStock 113 = .ok (.invokevirtual 110, 3) := by decide +kernel
theorem dX9_readStock_116 : decode cX9_readStock 116 = .ok (.ifCond .eq 14, 3) := by decide +kernel
theorem dX9_readStock_119 : decode cX9_readStock 119 = .ok (.aload_n 0, 1) := by decide +kernel
theorem dX9_readStock_120 : decode cX9_readStock 120 = .ok (.invokevirtual 113, 3) := by decide +kernel
theorem dX9_readStock_123 : decode cX9_readStock 123 = .ok (.ifCond .eq 7, 3) := by decide +kernel
theorem dX9_readStock_126 : decode cX9_readStock 126 = .ok (.iconst 1, 1) := by decide +kernel
theorem dX9_readStock_127 : decode cX9_readStock 127 = .ok (.goto 4, 3) := by decide +kernel
theorem dX9_readStock_130 : decode cX9_readStock 130 = .ok (.iconst 0, 1) := by decide +kernel
theorem dX9_readStock_131 : decode cX9_readStock 131 = .ok (.ireturn, 1) := by decide +kernel
theorem dX9_readLeg_0 : decode cX9_readLeg 0 = .ok (.aload_n 0, 1) := by decide +kernel
theorem dX9_readLeg_1 : decode cX9_readLeg 1 = .ok (.invokevirtual 96, 3) := by decide +kernel
theorem dX9_readLeg_4 : decode cX9_readLeg 4 = .ok (.aload_n 0, 1) := by decide +kernel
theorem dX9_readLeg_5 : decode cX9_readLeg 5 = .ok (.iload_n 1, 1) := by decide +kernel
theorem dX9_readLeg_6 : decode cX9_readLeg 6 = .ok (.iconst 1, 1) := by decide +kernel
theorem dX9_readLeg_7 : decode cX9_readLeg 7 = .ok (.iadd, 1) := by decide +kernel
theorem dX9_readLeg_8 : decode cX9_readLeg 8 = .ok (.iconst 0, 1) := by decide +kernel
theorem dX9_readLeg_9 : decode cX9_readLeg 9 = .ok (.aload_n 0, 1) := by decide +kernel
theorem dX9_readLeg_10 : decode cX9_readLeg 10 = .ok (.getfield 77, 3) := by decide +kernel
theorem dX9_readLeg_13 : decode cX9_readLeg 13 = .ok (.iconst 0, 1) := by decide +kernel
theorem dX9_readLeg_14 : decode cX9_readLeg 14 = .ok (.iaload, 1) := by decide +kernel
theorem dX9_readLeg_15 : decode cX9_readLeg 15 = .ok (.iconst 1, 1) := by decide +kernel
theorem dX9_readLeg_16 : decode cX9_readLeg 16 = .ok (.isub, 1) := by decide +kernel
theorem dX9_readLeg_17 : decode cX9_readLeg 17 = .ok (.invokevirtual 110, 3) := by decide +kernel
theorem dX9_readLeg_20 : decode cX9_readLeg 20 = .ok (.ifCond .eq 38, 3) := by decide +kernel
theorem dX9_readLeg_23 : decode cX9_readLeg 23 = .ok (.aload_n 0, 1) := by decide +kernel
theorem dX9_readLeg_24 : decode cX9_readLeg 24 = .ok (.iload_n 1, 1) := by decide +kernel
theorem dX9_readLeg_25 : decode cX9_readLeg 25 = .ok (.iconst 2, 1) := by decide +kernel
theorem dX9_readLeg_26 : decode cX9_readLeg 26 = .ok (.iadd, 1) := by decide +kernel
theorem dX9_readLeg_27 : decode cX9_readLeg 27 = .ok (.iconst 0, 1) := by decide +kernel
theorem dX9_readLeg_28 : decode cX9_readLeg 28 = .ok (.sipush 999, 3) := by decide +kernel
theorem dX9_readLeg_31 : decode cX9_readLeg 31 = .ok (.invokevirtual 110, 3) := by decide +kernel
theorem dX9_readLeg_34 : decode cX9_readLeg 34 = .ok (.ifCond .eq 24, 3) := by decide +kernel
theorem dX9_readLeg_37 : decode cX9_readLeg 37 = .ok (.aload_n 0, 1) := by decide +kernel
theorem dX9_readLeg_38 : decode cX9_readLeg 38 = .ok (.iload_n 1, 1) := by decide +kernel
theorem dX9_readLeg_39 : decode cX9_readLeg 39 = .ok (.iconst 3, 1) := by decide +kernel
theorem dX9_readLeg_40 : decode cX9_readLeg 40 = .ok (.iadd, 1) := by decide +kernel
theorem dX9_readLeg_41 : decode cX9_readLeg 41 = .ok (.aload_n 0, 1) := by decide +kernel
theorem dX9_readLeg_42 : decode cX9_readLeg 42 = .ok (.getfield 77, 3) := by decide +kernel
theorem dX9_readLeg_45 : decode cX9_readLeg 45 = .ok (.iload_n 1, 1) := by decide +kernel
theorem dX9_readLeg_46 : decode cX9_readLeg 46 = .ok (.iconst 2, 1) := by decide +kernel
theorem dX9_readLeg_47 : decode cX9_readLeg 47 = .ok (.iadd, 1) := by decide +kernel
theorem dX9_readLeg_48 : decode cX9_readLeg 48 = .ok (.iaload, 1) := by decide +kernel
theorem dX9_readLeg_49 : decode cX9_readLeg 49 = .ok (.sipush 999, 3) := by decide +kernel
theorem dX9_readLeg_52 : decode cX9_readLeg 52 = .ok (.invokevirtual 110, 3) := by decide +kernel
theorem dX9_readLeg_55 : decode cX9_readLeg 55 = .ok (.ifCond .ne 5, 3) := by decide +kernel
theorem dX9_readLeg_58 : decode cX9_readLeg 58 = .ok (.iconst 0, 1) := by decide +kernel
theorem dX9_readLeg_59 : decode cX9_readLeg 59 = .ok (.ireturn, 1) := by decide +kernel
theorem dX9_readLeg_60 : decode cX9_readLeg 60 = .ok (.aload_n 0, 1) := by decide +kernel
theorem dX9_readLeg_61 : decode cX9_readLeg 61 = .ok (.getfield 77, 3) := by decide +kernel
theorem dX9_readLeg_64 : decode cX9_readLeg 64 = .ok (.iload_n 1, 1) := by decide +kernel
theorem dX9_readLeg_65 : decode cX9_readLeg 65 = .ok (.iconst 0, 1) := by decide +kernel
theorem dX9_readLeg_66 : decode cX9_readLeg 66 = .ok (.iadd, 1) := by decide +kernel
theorem dX9_readLeg_67 : decode cX9_readLeg 67 = .ok (.iconst 1, 1) := by decide +kernel
theorem dX9_readLeg_68 : decode cX9_readLeg 68 = .ok (.iastore, 1) := by decide +kernel
theorem dX9_readLeg_69 : decode cX9_readLeg 69 = .ok (.iconst 1, 1) := by decide +kernel
theorem dX9_readLeg_70 : decode cX9_readLeg 70 = .ok (.ireturn, 1) := by decide +kernel
theorem dX9_readMove_0 : decode cX9_readMove 0 = .ok (.aload_n 0, 1) := by decide +kernel
theorem dX9_readMove_1 : decode cX9_readMove 1 = .ok (.getfield 77, 3) := by decide +kernel
theorem dX9_readMove_4 : decode cX9_readMove 4 = .ok (.iconst 2, 1) := by decide +kernel
theorem dX9_readMove_5 : decode cX9_readMove 5 = .ok (.iaload, 1) := by decide +kernel
theorem dX9_readMove_6 : decode cX9_readMove 6 = .ok (.bipush 16, 2) := by decide +kernel
theorem dX9_readMove_8 : decode cX9_readMove 8 = .ok (.if_icmp .ne 9, 3) := by decide +kernel
theorem dX9_readMove_11 : decode cX9_readMove 11 = .ok (.aload_n 0, 1) := by decide +kernel
theorem dX9_readMove_12 : decode cX9_readMove 12 = .ok (.iconst 3, 1) := by decide +kernel
theorem dX9_readMove_13 : decode cX9_readMove 13 = .ok (.invokevirtual 89, 3) := by decide +kernel
theorem dX9_readMove_16 : decode cX9_readMove 16 = .ok (.ireturn, 1) := by decide +kernel
theorem dX9_readMove_17 : decode cX9_readMove 17 = .ok (.aload_n 0, 1) := by decide +kernel
theorem dX9_readMove_18 : decode cX9_readMove 18 = .ok (.invokevirtual 96, 3) := by decide +kernel
theorem dX9_readMove_21 : decode cX9_readMove 21 = .ok (.bipush 45, 2) := by decide +kernel
theorem dX9_readMove_23 : decode cX9_readMove 23 = .ok (.bipush 10, 2) := by decide +kernel
theorem dX9_readMove_25 : decode cX9_readMove 25 = .ok (.aload_n 0, 1) := by decide +kernel
theorem dX9_readMove_26 : decode cX9_readMove 26 = .ok (.getfield 77, 3) := by decide +kernel
theorem dX9_readMove_29 : decode cX9_readMove 29 = .ok (.iconst 2, 1) := by decide +kernel
theorem dX9_readMove_30 : decode cX9_readMove 30 = .ok (.iaload, 1) := by decide +kernel
theorem dX9_readMove_31 : decode cX9_readMove 31 = .ok (.imul, 1) := by decide +kernel
theorem dX9_readMove_32 : decode cX9_readMove 32 = .ok (.iadd, 1) := by decide +kernel
theorem dX9_readMove_33 : decode cX9_readMove 33 = .ok (.istore_n 1, 1) := by decide +kernel
theorem dX9_readMove_34 : decode cX9_readMove 34 = .ok (.aload_n 0, 1) := by decide +kernel
theorem dX9_readMove_35 : decode cX9_readMove 35 = .ok (.iload_n 1, 1) := by decide +kernel
theorem dX9_readMove_36 : decode cX9_readMove 36 = .ok (.iconst 0, 1) := by decide +kernel
theorem dX9_readMove_37 : decode cX9_readMove 37 = .ok (.iadd, 1) := by decide +kernel
theorem dX9_readMove_38 : decode cX9_readMove 38 = .ok (.iconst 0, 1) := by decide +kernel
theorem dX9_readMove_39 : decode cX9_readMove 39 = .ok (.aload_n 0, 1) := by decide +kernel
theorem dX9_readMove_40 : decode cX9_readMove 40 = .ok (.getfield 77, 3) := by decide +kernel
theorem dX9_readMove_43 : decode cX9_readMove 43 = .ok (.iconst 1, 1) := by decide +kernel
theorem dX9_readMove_44 : decode cX9_readMove 44 = .ok (.iaload, 1) := by decide +kernel
theorem dX9_readMove_45 : decode cX9_readMove 45 = .ok (.iconst 1, 1) := by decide +kernel
theorem dX9_readMove_46 : decode cX9_readMove 46 = .ok (.isub, 1) := by decide +kernel
theorem dX9_readMove_47 : decode cX9_readMove 47 = .ok (.invokevirtual 110, 3) := by decide +kernel
theorem dX9_readMove_50 : decode cX9_readMove 50 = .ok (.ifCond .eq 16, 3) := by decide +kernel
theorem dX9_readMove_53 : decode cX9_readMove 53 = .ok (.aload_n 0, 1) := by decide +kernel
theorem dX9_readMove_54 : decode cX9_readMove 54 = .ok (.iload_n 1, 1) := by decide +kernel
theorem dX9_readMove_55 : decode cX9_readMove 55 = .ok (.iconst 1, 1) := by decide +kernel
theorem dX9_readMove_56 : decode cX9_readMove 56 = .ok (.iadd, 1) := by decide +kernel
theorem dX9_readMove_57 : decode cX9_readMove 57 = .ok (.iconst 1, 1) := by decide +kernel
theorem dX9_readMove_58 : decode cX9_readMove 58 = .ok (.bipush 99, 2) := by decide +kernel
theorem dX9_readMove_60 : decode cX9_readMove 60 = .ok (.invokevirtual 110, 3) := by decide +kernel
theorem dX9_readMove_63 : decode cX9_readMove 63 = .ok (.ifCond .ne 5, 3) := by decide +kernel
theorem dX9_readMove_66 : decode cX9_readMove 66 = .ok (.iconst 0, 1) := by decide +kernel
theorem dX9_readMove_67 : decode cX9_readMove 67 = .ok (.ireturn, 1) := by decide +kernel
theorem dX9_readMove_68 : decode cX9_readMove 68 = .ok (.aload_n 0, 1) := by decide +kernel
theorem dX9_readMove_69 : decode cX9_readMove 69 = .ok (.bipush 102, 2) := by decide +kernel
theorem dX9_readMove_71 : decode cX9_readMove 71 = .ok (.bipush 114, 2) := by decide +kernel
theorem dX9_readMove_73 : decode cX9_readMove 73 = .ok (.bipush 111, 2) := by decide +kernel
theorem dX9_readMove_75 : decode cX9_readMove 75 = .ok (.bipush 109, 2) := by decide +kernel
theorem dX9_readMove_77 : decode cX9_readMove 77 = .ok (.invokestatic 58, 3) := by decide +kernel
theorem dX9_readMove_80 : decode cX9_readMove 80 = .ok (.invokevirtual 106, 3) := by decide +kernel
theorem dX9_readMove_83 : decode cX9_readMove 83 = .ok (.ifCond .eq 15, 3) := by decide +kernel
theorem dX9_readMove_86 : decode cX9_readMove 86 = .ok (.aload_n 0, 1) := by decide +kernel
theorem dX9_readMove_87 : decode cX9_readMove 87 = .ok (.iload_n 1, 1) := by decide +kernel
theorem dX9_readMove_88 : decode cX9_readMove 88 = .ok (.iconst 2, 1) := by decide +kernel
theorem dX9_readMove_89 : decode cX9_readMove 89 = .ok (.iadd, 1) := by decide +kernel
theorem dX9_readMove_90 : decode cX9_readMove 90 = .ok (.invokevirtual 124, 3) := by decide +kernel
theorem dX9_readMove_93 : decode cX9_readMove 93 = .ok (.ifCond .ne 5, 3) := by decide +kernel
theorem dX9_readMove_96 : decode cX9_readMove 96 = .ok (.iconst 0, 1) := by decide +kernel
theorem dX9_readMove_97 : decode cX9_readMove 97 = .ok (.ireturn, 1) := by decide +kernel
theorem dX9_readMove_98 : decode cX9_readMove 98 = .ok (.aload_n 0, 1) := by decide +kernel
theorem dX9_readMove_99 : decode cX9_readMove 99 = .ok (.bipush 116, 2) := by decide +kernel
theorem dX9_readMove_101 : decode cX9_readMove 101 = .ok (.bipush 111, 2) := by decide +kernel
theorem dX9_readMove_103 : decode cX9_readMove 103 = .ok (.invokestatic 54, 3) := by decide +kernel
theorem dX9_readMove_106 : decode cX9_readMove 106 = .ok (.invokevirtual 106, 3) := by decide +kernel
theorem dX9_readMove_109 : decode cX9_readMove 109 = .ok (.ifCond .eq 17, 3) := by decide +kernel
theorem dX9_readMove_112 : decode cX9_readMove 112 = .ok (.aload_n 0, 1) := by decide +kernel
theorem dX9_readMove_113 : decode cX9_readMove 113 = .ok (.iload_n 1, 1) := by decide +kernel
theorem dX9_readMove_114 : decode cX9_readMove 114 = .ok (.iconst 2, 1) := by decide +kernel
theorem dX9_readMove_115 : decode cX9_readMove 115 = .ok (.iadd, 1) := by decide +kernel
theorem dX9_readMove_116 : decode cX9_readMove 116 = .ok (.iconst 4, 1) := by decide +kernel
theorem dX9_readMove_117 : decode cX9_readMove 117 = .ok (.iadd, 1) := by decide +kernel
theorem dX9_readMove_118 : decode cX9_readMove 118 = .ok (.invokevirtual 124, 3) := by decide +kernel
theorem dX9_readMove_121 : decode cX9_readMove 121 = .ok (.ifCond .ne 5, 3) := by decide +kernel
theorem dX9_readMove_124 : decode cX9_readMove 124 = .ok (.iconst 0, 1) := by decide +kernel
theorem dX9_readMove_125 : decode cX9_readMove 125 = .ok (.ireturn, 1) := by decide +kernel
theorem dX9_readMove_126 : decode cX9_readMove 126 = .ok (.aload_n 0, 1) := by decide +kernel
theorem dX9_readMove_127 : decode cX9_readMove 127 = .ok (.getfield 77, 3) := by decide +kernel
theorem dX9_readMove_130 : decode cX9_readMove 130 = .ok (.iconst 2, 1) := by decide +kernel
theorem dX9_readMove_131 : decode cX9_readMove 131 = .ok (.dup2, 1) := by decide +kernel
theorem dX9_readMove_132 : decode cX9_readMove 132 = .ok (.iaload, 1) := by decide +kernel
theorem dX9_readMove_133 : decode cX9_readMove 133 = .ok (.iconst 1, 1) := by decide +kernel
theorem dX9_readMove_134 : decode cX9_readMove 134 = .ok (.iadd, 1) := by decide +kernel
theorem dX9_readMove_135 : decode cX9_readMove 135 = .ok (.iastore, 1) := by decide +kernel
theorem dX9_readMove_136 : decode cX9_readMove 136 = .ok (.aload_n 0, 1) := by decide +kernel
theorem dX9_readMove_137 : decode cX9_readMove 137 = .ok (.invokevirtual 113, 3) := by decide +kernel
theorem dX9_readMove_140 : decode cX9_readMove 140 = .ok (.ireturn, 1) := by decide +kernel
theorem dX9_isSort_0 : decode cX9_isSort 0 = .ok (.aload_n 0, 1) := by decide +kernel
theorem dX9_isSort_1 : decode cX9_isSort 1 = .ok (.iload_n 1, 1) := by decide +kernel
theorem dX9_isSort_2 : decode cX9_isSort 2 = .ok (.ifCond .ne 17, 3) := by decide +kernel
theorem dX9_isSort_5 : decode cX9_isSort 5 = .ok (.bipush 105, 2) := by decide +kernel
theorem dX9_isSort_7 : decode cX9_isSort 7 = .ok (.bipush 116, 2) := by decide +kernel
theorem dX9_isSort_9 : decode cX9_isSort 9 = .ok (.bipush 101, 2) := by decide +kernel
theorem dX9_isSort_11 : decode cX9_isSort 11 = .ok (.bipush 109, 2) := by decide +kernel
theorem dX9_isSort_13 : decode cX9_isSort 13 = .ok (.invokestatic 58, 3) := by decide +kernel
theorem dX9_isSort_16 : decode cX9_isSort 16 = .ok (.goto 41, 3) := by decide +kernel
theorem dX9_isSort_19 : decode cX9_isSort 19 = .ok (.iload_n 1, 1) := by decide +kernel
theorem dX9_isSort_20 : decode cX9_isSort 20 = .ok (.iconst 1, 1) := by decide +kernel
theorem dX9_isSort_21 : decode cX9_isSort 21 = .ok (.if_icmp .ne 25, 3) := by decide +kernel
theorem dX9_isSort_24 : decode cX9_isSort 24 = .ok (.ldc2_w 48, 3) := by decide +kernel
theorem dX9_isSort_27 : decode cX9_isSort 27 = .ok (.bipush 115, 2) := by decide +kernel
theorem dX9_isSort_29 : decode cX9_isSort 29 = .ok (.bipush 116, 2) := by decide +kernel
theorem dX9_isSort_31 : decode cX9_isSort 31 = .ok (.bipush 111, 2) := by decide +kernel
theorem dX9_isSort_33 : decode cX9_isSort 33 = .ok (.bipush 99, 2) := by decide +kernel
theorem dX9_isSort_35 : decode cX9_isSort 35 = .ok (.invokestatic 58, 3) := by decide +kernel
theorem dX9_isSort_38 : decode cX9_isSort 38 = .ok (.lmul, 1) := by decide +kernel
theorem dX9_isSort_39 : decode cX9_isSort 39 = .ok (.ldc2_w 127, 3) := by decide +kernel
theorem dX9_isSort_42 : decode cX9_isSort 42 = .ok (.ladd, 1) := by decide +kernel
theorem dX9_isSort_43 : decode cX9_isSort 43 = .ok (.goto 14, 3) := by decide +kernel
theorem dX9_isSort_46 : decode cX9_isSort 46 = .ok (.bipush 109, 2) := by decide +kernel
theorem dX9_isSort_48 : decode cX9_isSort 48 = .ok (.bipush 111, 2) := by decide +kernel
theorem dX9_isSort_50 : decode cX9_isSort 50 = .ok (.bipush 118, 2) := by decide +kernel
theorem dX9_isSort_52 : decode cX9_isSort 52 = .ok (.bipush 101, 2) := by decide +kernel
theorem dX9_isSort_54 : decode cX9_isSort 54 = .ok (.invokestatic 58, 3) := by decide +kernel
theorem dX9_isSort_57 : decode cX9_isSort 57 = .ok (.invokevirtual 106, 3) := by decide +kernel
theorem dX9_isSort_60 : decode cX9_isSort 60 = .ok (.ireturn, 1) := by decide +kernel
theorem dX9_readAll_0 : decode cX9_readAll 0 = .ok (.aload_n 0, 1) := by decide +kernel
theorem dX9_readAll_1 : decode cX9_readAll 1 = .ok (.iload_n 1, 1) := by decide +kernel
theorem dX9_readAll_2 : decode cX9_readAll 2 = .ok (.invokevirtual 129, 3) := by decide +kernel
theorem dX9_readAll_5 : decode cX9_readAll 5 = .ok (.ifCond .eq 54, 3) := by decide +kernel
theorem dX9_readAll_8 : decode cX9_readAll 8 = .ok (.iload_n 1, 1) := by decide +kernel
theorem dX9_readAll_9 : decode cX9_readAll 9 = .ok (.ifCond .ne 13, 3) := by decide +kernel
theorem dX9_readAll_12 : decode cX9_readAll 12 = .ok (.aload_n 0, 1) := by decide +kernel
theorem dX9_readAll_13 : decode cX9_readAll 13 = .ok (.invokevirtual 132, 3) := by decide +kernel
theorem dX9_readAll_16 : decode cX9_readAll 16 = .ok (.ifCond .eq 28, 3) := by decide +kernel
theorem dX9_readAll_19 : decode cX9_readAll 19 = .ok (.goto 27, 3) := by decide +kernel
theorem dX9_readAll_22 : decode cX9_readAll 22 = .ok (.iload_n 1, 1) := by decide +kernel
theorem dX9_readAll_23 : decode cX9_readAll 23 = .ok (.iconst 1, 1) := by decide +kernel
theorem dX9_readAll_24 : decode cX9_readAll 24 = .ok (.if_icmp .ne 13, 3) := by decide +kernel
theorem dX9_readAll_27 : decode cX9_readAll 27 = .ok (.aload_n 0, 1) := by decide +kernel
theorem dX9_readAll_28 : decode cX9_readAll 28 = .ok (.invokevirtual 135, 3) := by decide +kernel
theorem dX9_readAll_31 : decode cX9_readAll 31 = .ok (.ifCond .eq 13, 3) := by decide +kernel
theorem dX9_readAll_34 : decode cX9_readAll 34 = .ok (.goto 12, 3) := by decide +kernel
theorem dX9_readAll_37 : decode cX9_readAll 37 = .ok (.aload_n 0, 1) := by decide +kernel
theorem dX9_readAll_38 : decode cX9_readAll 38 = .ok (.invokevirtual 138, 3) := by decide +kernel
theorem dX9_readAll_41 : decode cX9_readAll 41 = .ok (.ifCond .ne 5, 3) := by decide +kernel
theorem dX9_readAll_44 : decode cX9_readAll 44 = .ok (.iconst 0, 1) := by decide +kernel
theorem dX9_readAll_45 : decode cX9_readAll 45 = .ok (.ireturn, 1) := by decide +kernel
theorem dX9_readAll_46 : decode cX9_readAll 46 = .ok (.aload_n 0, 1) := by decide +kernel
theorem dX9_readAll_47 : decode cX9_readAll 47 = .ok (.dup, 1) := by decide +kernel
theorem dX9_readAll_48 : decode cX9_readAll 48 = .ok (.getfield 141, 3) := by decide +kernel
theorem dX9_readAll_51 : decode cX9_readAll 51 = .ok (.iconst 1, 1) := by decide +kernel
theorem dX9_readAll_52 : decode cX9_readAll 52 = .ok (.iadd, 1) := by decide +kernel
theorem dX9_readAll_53 : decode cX9_readAll 53 = .ok (.putfield 141, 3) := by decide +kernel
theorem dX9_readAll_56 : decode cX9_readAll 56 = .ok (.goto (-56), 3) := by decide +kernel
theorem dX9_readAll_59 : decode cX9_readAll 59 = .ok (.iconst 1, 1) := by decide +kernel
theorem dX9_readAll_60 : decode cX9_readAll 60 = .ok (.ireturn, 1) := by decide +kernel
theorem dX9_readWhole_0 : decode cX9_readWhole 0 = .ok (.aload_n 0, 1) := by decide +kernel
theorem dX9_readWhole_1 : decode cX9_readWhole 1 = .ok (.invokevirtual 144, 3) := by decide +kernel
theorem dX9_readWhole_4 : decode cX9_readWhole 4 = .ok (.ifCond .ne 5, 3) := by decide +kernel
theorem dX9_readWhole_7 : decode cX9_readWhole 7 = .ok (.iconst 0, 1) := by decide +kernel
theorem dX9_readWhole_8 : decode cX9_readWhole 8 = .ok (.ireturn, 1) := by decide +kernel
theorem dX9_readWhole_9 : decode cX9_readWhole 9 = .ok (.aload_n 0, 1) := by decide +kernel
theorem dX9_readWhole_10 : decode cX9_readWhole 10 = .ok (.dup, 1) := by decide +kernel
theorem dX9_readWhole_11 : decode cX9_readWhole 11 = .ok (.getfield 141, 3) := by decide +kernel
theorem dX9_readWhole_14 : decode cX9_readWhole 14 = .ok (.iconst 1, 1) := by decide +kernel
theorem dX9_readWhole_15 : decode cX9_readWhole 15 = .ok (.iadd, 1) := by decide +kernel
theorem dX9_readWhole_16 : decode cX9_readWhole 16 = .ok (.putfield 141, 3) := by decide +kernel
theorem dX9_readWhole_19 : decode cX9_readWhole 19 = .ok (.aload_n 0, 1) := by decide +kernel
theorem dX9_readWhole_20 : decode cX9_readWhole 20 = .ok (.iconst 0, 1) := by decide +kernel
theorem dX9_readWhole_21 : decode cX9_readWhole 21 = .ok (.invokevirtual 147, 3) := by decide +kernel
theorem dX9_readWhole_24 : decode cX9_readWhole 24 = .ok (.ifCond .eq 38, 3) := by decide +kernel
theorem dX9_readWhole_27 : decode cX9_readWhole 27 = .ok (.aload_n 0, 1) := by decide +kernel
theorem dX9_readWhole_28 : decode cX9_readWhole 28 = .ok (.iconst 1, 1) := by decide +kernel
theorem dX9_readWhole_29 : decode cX9_readWhole 29 = .ok (.invokevirtual 147, 3) := by decide +kernel
theorem dX9_readWhole_32 : decode cX9_readWhole 32 = .ok (.ifCond .eq 30, 3) := by decide +kernel
theorem dX9_readWhole_35 : decode cX9_readWhole 35 = .ok (.aload_n 0, 1) := by decide +kernel
theorem dX9_readWhole_36 : decode cX9_readWhole 36 = .ok (.iconst 2, 1) := by decide +kernel
theorem dX9_readWhole_37 : decode cX9_readWhole 37 = .ok (.invokevirtual 147, 3) := by decide +kernel
theorem dX9_readWhole_40 : decode cX9_readWhole 40 = .ok (.ifCond .eq 22, 3) := by decide +kernel
theorem dX9_readWhole_43 : decode cX9_readWhole 43 = .ok (.aload_n 0, 1) := by decide +kernel
theorem dX9_readWhole_44 : decode cX9_readWhole 44 = .ok (.getfield 27, 3) := by decide +kernel
theorem dX9_readWhole_47 : decode cX9_readWhole 47 = .ok (.ifCond .eq 11, 3) := by decide +kernel
theorem dX9_readWhole_50 : decode cX9_readWhole 50 = .ok (.aload_n 0, 1) := by decide +kernel
theorem dX9_readWhole_51 : decode cX9_readWhole 51 = .ok (.iconst 1, 1) := by decide +kernel
theorem dX9_readWhole_52 : decode cX9_readWhole 52 = .ok (.invokevirtual 89, 3) := by decide +kernel
theorem dX9_readWhole_55 : decode cX9_readWhole 55 = .ok (.ifCond .eq 7, 3) := by decide +kernel
theorem dX9_readWhole_58 : decode cX9_readWhole 58 = .ok (.iconst 1, 1) := by decide +kernel
theorem dX9_readWhole_59 : decode cX9_readWhole 59 = .ok (.goto 4, 3) := by decide +kernel
theorem dX9_readWhole_62 : decode cX9_readWhole 62 = .ok (.iconst 0, 1) := by decide +kernel
theorem dX9_readWhole_63 : decode cX9_readWhole 63 = .ok (.ireturn, 1) := by decide +kernel
theorem dX9_text_0 : decode cX9_text 0 = .ok (.aload_n 0, 1) := by decide +kernel
theorem dX9_text_1 : decode cX9_text 1 = .ok (.iconst 0, 1) := by decide +kernel
theorem dX9_text_2 : decode cX9_text 2 = .ok (.putfield 1, 3) := by decide +kernel
theorem dX9_text_5 : decode cX9_text 5 = .ok (.aload_n 0, 1) := by decide +kernel
theorem dX9_text_6 : decode cX9_text 6 = .ok (.aload_n 0, 1) := by decide +kernel
theorem dX9_text_7 : decode cX9_text 7 = .ok (.getfield 11, 3) := by decide +kernel
theorem dX9_text_10 : decode cX9_text 10 = .ok (.putfield 18, 3) := by decide +kernel
theorem dX9_text_13 : decode cX9_text 13 = .ok (.aload_n 0, 1) := by decide +kernel
theorem dX9_text_14 : decode cX9_text 14 = .ok (.iconst 0, 1) := by decide +kernel
theorem dX9_text_15 : decode cX9_text 15 = .ok (.putfield 11, 3) := by decide +kernel
theorem dX9_text_18 : decode cX9_text 18 = .ok (.aload_n 0, 1) := by decide +kernel
theorem dX9_text_19 : decode cX9_text 19 = .ok (.iconst 0, 1) := by decide +kernel
theorem dX9_text_20 : decode cX9_text 20 = .ok (.putfield 62, 3) := by decide +kernel
theorem dX9_text_23 : decode cX9_text 23 = .ok (.aload_n 0, 1) := by decide +kernel
theorem dX9_text_24 : decode cX9_text 24 = .ok (.iconst 0, 1) := by decide +kernel
theorem dX9_text_25 : decode cX9_text 25 = .ok (.putfield 21, 3) := by decide +kernel
theorem dX9_text_28 : decode cX9_text 28 = .ok (.aload_n 0, 1) := by decide +kernel
theorem dX9_text_29 : decode cX9_text 29 = .ok (.iconst 0, 1) := by decide +kernel
theorem dX9_text_30 : decode cX9_text 30 = .ok (.putfield 141, 3) := by decide +kernel
theorem dX9_text_33 : decode cX9_text 33 = .ok (.aload_n 0, 1) := by decide +kernel
theorem dX9_text_34 : decode cX9_text 34 = .ok (.iconst 0, 1) := by decide +kernel
theorem dX9_text_35 : decode cX9_text 35 = .ok (.putfield 121, 3) := by decide +kernel
theorem dX9_text_38 : decode cX9_text 38 = .ok (.iconst 0, 1) := by decide +kernel
theorem dX9_text_39 : decode cX9_text 39 = .ok (.istore_n 1, 1) := by decide +kernel
theorem dX9_text_40 : decode cX9_text 40 = .ok (.iload_n 1, 1) := by decide +kernel
theorem dX9_text_41 : decode cX9_text 41 = .ok (.sipush 845, 3) := by decide +kernel
theorem dX9_text_44 : decode cX9_text 44 = .ok (.if_icmp .ge 16, 3) := by decide +kernel
theorem dX9_text_47 : decode cX9_text 47 = .ok (.aload_n 0, 1) := by decide +kernel
theorem dX9_text_48 : decode cX9_text 48 = .ok (.getfield 77, 3) := by decide +kernel
theorem dX9_text_51 : decode cX9_text 51 = .ok (.iload_n 1, 1) := by decide +kernel
theorem dX9_text_52 : decode cX9_text 52 = .ok (.iconst 0, 1) := by decide +kernel
theorem dX9_text_53 : decode cX9_text 53 = .ok (.iastore, 1) := by decide +kernel
theorem dX9_text_54 : decode cX9_text 54 = .ok (.iinc 1 1, 3) := by decide +kernel
theorem dX9_text_57 : decode cX9_text 57 = .ok (.goto (-17), 3) := by decide +kernel
theorem dX9_text_60 : decode cX9_text 60 = .ok (.aload_n 0, 1) := by decide +kernel
theorem dX9_text_61 : decode cX9_text 61 = .ok (.invokevirtual 96, 3) := by decide +kernel
theorem dX9_text_64 : decode cX9_text 64 = .ok (.aload_n 0, 1) := by decide +kernel
theorem dX9_text_65 : decode cX9_text 65 = .ok (.invokevirtual 150, 3) := by decide +kernel
theorem dX9_text_68 : decode cX9_text 68 = .ok (.ifCond .ne 10, 3) := by decide +kernel
theorem dX9_text_71 : decode cX9_text 71 = .ok (.iconst (-1), 1) := by decide +kernel
theorem dX9_text_72 : decode cX9_text 72 = .ok (.aload_n 0, 1) := by decide +kernel
theorem dX9_text_73 : decode cX9_text 73 = .ok (.getfield 65, 3) := by decide +kernel
theorem dX9_text_76 : decode cX9_text 76 = .ok (.isub, 1) := by decide +kernel
theorem dX9_text_77 : decode cX9_text 77 = .ok (.ireturn, 1) := by decide +kernel
theorem dX9_text_78 : decode cX9_text 78 = .ok (.iconst 0, 1) := by decide +kernel
theorem dX9_text_79 : decode cX9_text 79 = .ok (.istore_n 1, 1) := by decide +kernel
theorem dX9_text_80 : decode cX9_text 80 = .ok (.iload_n 1, 1) := by decide +kernel
theorem dX9_text_81 : decode cX9_text 81 = .ok (.sipush 845, 3) := by decide +kernel
theorem dX9_text_84 : decode cX9_text 84 = .ok (.if_icmp .ge 21, 3) := by decide +kernel
theorem dX9_text_87 : decode cX9_text 87 = .ok (.aload_n 0, 1) := by decide +kernel
theorem dX9_text_88 : decode cX9_text 88 = .ok (.getfield 74, 3) := by decide +kernel
theorem dX9_text_91 : decode cX9_text 91 = .ok (.iload_n 1, 1) := by decide +kernel
theorem dX9_text_92 : decode cX9_text 92 = .ok (.aload_n 0, 1) := by decide +kernel
theorem dX9_text_93 : decode cX9_text 93 = .ok (.getfield 77, 3) := by decide +kernel
theorem dX9_text_96 : decode cX9_text 96 = .ok (.iload_n 1, 1) := by decide +kernel
theorem dX9_text_97 : decode cX9_text 97 = .ok (.iaload, 1) := by decide +kernel
theorem dX9_text_98 : decode cX9_text 98 = .ok (.iastore, 1) := by decide +kernel
theorem dX9_text_99 : decode cX9_text 99 = .ok (.iinc 1 1, 3) := by decide +kernel
theorem dX9_text_102 : decode cX9_text 102 = .ok (.goto (-22), 3) := by decide +kernel
theorem dX9_text_105 : decode cX9_text 105 = .ok (.aload_n 0, 1) := by decide +kernel
theorem dX9_text_106 : decode cX9_text 106 = .ok (.iconst 0, 1) := by decide +kernel
theorem dX9_text_107 : decode cX9_text 107 = .ok (.putfield 153, 3) := by decide +kernel
theorem dX9_text_110 : decode cX9_text 110 = .ok (.aload_n 0, 1) := by decide +kernel
theorem dX9_text_111 : decode cX9_text 111 = .ok (.getfield 141, 3) := by decide +kernel
theorem dX9_text_114 : decode cX9_text 114 = .ok (.ireturn, 1) := by decide +kernel
theorem dX9_fault_0 : decode cX9_fault 0 = .ok (.aload_n 0, 1) := by decide +kernel
theorem dX9_fault_1 : decode cX9_fault 1 = .ok (.iconst 0, 1) := by decide +kernel
theorem dX9_fault_2 : decode cX9_fault 2 = .ok (.putfield 1, 3) := by decide +kernel
theorem dX9_fault_5 : decode cX9_fault 5 = .ok (.aload_n 0, 1) := by decide +kernel
theorem dX9_fault_6 : decode cX9_fault 6 = .ok (.getfield 62, 3) := by decide +kernel
theorem dX9_fault_9 : decode cX9_fault 9 = .ok (.ireturn, 1) := by decide +kernel
theorem dX9_isShelf_0 : decode cX9_isShelf 0 = .ok (.iload_n 1, 1) := by decide +kernel
theorem dX9_isShelf_1 : decode cX9_isShelf 1 = .ok (.iconst 0, 1) := by decide +kernel
theorem dX9_isShelf_2 : decode cX9_isShelf 2 = .ok (.aload_n 0, 1) := by decide +kernel
theorem dX9_isShelf_3 : decode cX9_isShelf 3 = .ok (.getfield 74, 3) := by decide +kernel
theorem dX9_isShelf_6 : decode cX9_isShelf 6 = .ok (.iconst 0, 1) := by decide +kernel
theorem dX9_isShelf_7 : decode cX9_isShelf 7 = .ok (.iaload, 1) := by decide +kernel
theorem dX9_isShelf_8 : decode cX9_isShelf 8 = .ok (.iconst 1, 1) := by decide +kernel
theorem dX9_isShelf_9 : decode cX9_isShelf 9 = .ok (.isub, 1) := by decide +kernel
theorem dX9_isShelf_10 : decode cX9_isShelf 10 = .ok (.invokestatic 92, 3) := by decide +kernel
theorem dX9_isShelf_13 : decode cX9_isShelf 13 = .ok (.ireturn, 1) := by decide +kernel
theorem dX9_isItem_0 : decode cX9_isItem 0 = .ok (.iload_n 1, 1) := by decide +kernel
theorem dX9_isItem_1 : decode cX9_isItem 1 = .ok (.iconst 0, 1) := by decide +kernel
theorem dX9_isItem_2 : decode cX9_isItem 2 = .ok (.aload_n 0, 1) := by decide +kernel
theorem dX9_isItem_3 : decode cX9_isItem 3 = .ok (.getfield 74, 3) := by decide +kernel
theorem dX9_isItem_6 : decode cX9_isItem 6 = .ok (.iconst 1, 1) := by decide +kernel
theorem dX9_isItem_7 : decode cX9_isItem 7 = .ok (.iaload, 1) := by decide +kernel
theorem dX9_isItem_8 : decode cX9_isItem 8 = .ok (.iconst 1, 1) := by decide +kernel
theorem dX9_isItem_9 : decode cX9_isItem 9 = .ok (.isub, 1) := by decide +kernel
theorem dX9_isItem_10 : decode cX9_isItem 10 = .ok (.invokestatic 92, 3) := by decide +kernel
theorem dX9_isItem_13 : decode cX9_isItem 13 = .ok (.ireturn, 1) := by decide +kernel
theorem dX9_isMove_0 : decode cX9_isMove 0 = .ok (.iload_n 1, 1) := by decide +kernel
theorem dX9_isMove_1 : decode cX9_isMove 1 = .ok (.iconst 0, 1) := by decide +kernel
theorem dX9_isMove_2 : decode cX9_isMove 2 = .ok (.aload_n 0, 1) := by decide +kernel
theorem dX9_isMove_3 : decode cX9_isMove 3 = .ok (.getfield 74, 3) := by decide +kernel
theorem dX9_isMove_6 : decode cX9_isMove 6 = .ok (.iconst 2, 1) := by decide +kernel
theorem dX9_isMove_7 : decode cX9_isMove 7 = .ok (.iaload, 1) := by decide +kernel
theorem dX9_isMove_8 : decode cX9_isMove 8 = .ok (.iconst 1, 1) := by decide +kernel
theorem dX9_isMove_9 : decode cX9_isMove 9 = .ok (.isub, 1) := by decide +kernel
theorem dX9_isMove_10 : decode cX9_isMove 10 = .ok (.invokestatic 92, 3) := by decide +kernel
theorem dX9_isMove_13 : decode cX9_isMove 13 = .ok (.ireturn, 1) := by decide +kernel
theorem dX9_isCount_0 : decode cX9_isCount 0 = .ok (.iload_n 1, 1) := by decide +kernel
theorem dX9_isCount_1 : decode cX9_isCount 1 = .ok (.iconst 0, 1) := by decide +kernel
theorem dX9_isCount_2 : decode cX9_isCount 2 = .ok (.aload_n 0, 1) := by decide +kernel
theorem dX9_isCount_3 : decode cX9_isCount 3 = .ok (.getfield 74, 3) := by decide +kernel
theorem dX9_isCount_6 : decode cX9_isCount 6 = .ok (.iconst 3, 1) := by decide +kernel
theorem dX9_isCount_7 : decode cX9_isCount 7 = .ok (.iaload, 1) := by decide +kernel
theorem dX9_isCount_8 : decode cX9_isCount 8 = .ok (.iconst 1, 1) := by decide +kernel
theorem dX9_isCount_9 : decode cX9_isCount 9 = .ok (.isub, 1) := by decide +kernel
theorem dX9_isCount_10 : decode cX9_isCount 10 = .ok (.invokestatic 92, 3) := by decide +kernel
theorem dX9_isCount_13 : decode cX9_isCount 13 = .ok (.ireturn, 1) := by decide +kernel
theorem dX9_isInstant_0 : decode cX9_isInstant 0 = .ok (.iload_n 0, 1) := by decide +kernel
theorem dX9_isInstant_1 : decode cX9_isInstant 1 = .ok (.iconst 0, 1) := by decide +kernel
theorem dX9_isInstant_2 : decode cX9_isInstant 2 = .ok (.sipush 999, 3) := by decide +kernel
theorem dX9_isInstant_5 : decode cX9_isInstant 5 = .ok (.invokestatic 92, 3) := by decide +kernel
theorem dX9_isInstant_8 : decode cX9_isInstant 8 = .ok (.ireturn, 1) := by decide +kernel
theorem dX9_moved_0 : decode cX9_moved 0 = .ok (.aload_n 0, 1) := by decide +kernel
theorem dX9_moved_1 : decode cX9_moved 1 = .ok (.getfield 74, 3) := by decide +kernel
theorem dX9_moved_4 : decode cX9_moved 4 = .ok (.bipush 45, 2) := by decide +kernel
theorem dX9_moved_6 : decode cX9_moved 6 = .ok (.bipush 10, 2) := by decide +kernel
theorem dX9_moved_8 : decode cX9_moved 8 = .ok (.iload_n 1, 1) := by decide +kernel
theorem dX9_moved_9 : decode cX9_moved 9 = .ok (.imul, 1) := by decide +kernel
theorem dX9_moved_10 : decode cX9_moved 10 = .ok (.iadd, 1) := by decide +kernel
theorem dX9_moved_11 : decode cX9_moved 11 = .ok (.iload_n 2, 1) := by decide +kernel
theorem dX9_moved_12 : decode cX9_moved 12 = .ok (.iadd, 1) := by decide +kernel
theorem dX9_moved_13 : decode cX9_moved 13 = .ok (.iaload, 1) := by decide +kernel
theorem dX9_moved_14 : decode cX9_moved 14 = .ok (.ireturn, 1) := by decide +kernel
theorem dX9_leg_0 : decode cX9_leg 0 = .ok (.aload_n 0, 1) := by decide +kernel
theorem dX9_leg_1 : decode cX9_leg 1 = .ok (.getfield 74, 3) := by decide +kernel
theorem dX9_leg_4 : decode cX9_leg 4 = .ok (.bipush 45, 2) := by decide +kernel
theorem dX9_leg_6 : decode cX9_leg 6 = .ok (.bipush 10, 2) := by decide +kernel
theorem dX9_leg_8 : decode cX9_leg 8 = .ok (.iload_n 1, 1) := by decide +kernel
theorem dX9_leg_9 : decode cX9_leg 9 = .ok (.imul, 1) := by decide +kernel
theorem dX9_leg_10 : decode cX9_leg 10 = .ok (.iadd, 1) := by decide +kernel
theorem dX9_leg_11 : decode cX9_leg 11 = .ok (.iconst 2, 1) := by decide +kernel
theorem dX9_leg_12 : decode cX9_leg 12 = .ok (.iadd, 1) := by decide +kernel
theorem dX9_leg_13 : decode cX9_leg 13 = .ok (.iconst 4, 1) := by decide +kernel
theorem dX9_leg_14 : decode cX9_leg 14 = .ok (.iload_n 2, 1) := by decide +kernel
theorem dX9_leg_15 : decode cX9_leg 15 = .ok (.imul, 1) := by decide +kernel
theorem dX9_leg_16 : decode cX9_leg 16 = .ok (.iadd, 1) := by decide +kernel
theorem dX9_leg_17 : decode cX9_leg 17 = .ok (.iload_n 3, 1) := by decide +kernel
theorem dX9_leg_18 : decode cX9_leg 18 = .ok (.iadd, 1) := by decide +kernel
theorem dX9_leg_19 : decode cX9_leg 19 = .ok (.iaload, 1) := by decide +kernel
theorem dX9_leg_20 : decode cX9_leg 20 = .ok (.ireturn, 1) := by decide +kernel
theorem dX9_isThere_0 : decode cX9_isThere 0 = .ok (.aload_n 0, 1) := by decide +kernel
theorem dX9_isThere_1 : decode cX9_isThere 1 = .ok (.iload_n 1, 1) := by decide +kernel
theorem dX9_isThere_2 : decode cX9_isThere 2 = .ok (.iload_n 2, 1) := by decide +kernel
theorem dX9_isThere_3 : decode cX9_isThere 3 = .ok (.iconst 0, 1) := by decide +kernel
theorem dX9_isThere_4 : decode cX9_isThere 4 = .ok (.invokevirtual 156, 3) := by decide +kernel
theorem dX9_isThere_7 : decode cX9_isThere 7 = .ok (.iconst 1, 1) := by decide +kernel
theorem dX9_isThere_8 : decode cX9_isThere 8 = .ok (.if_icmp .ne 7, 3) := by decide +kernel
theorem dX9_isThere_11 : decode cX9_isThere 11 = .ok (.iconst 1, 1) := by decide +kernel
theorem dX9_isThere_12 : decode cX9_isThere 12 = .ok (.goto 4, 3) := by decide +kernel
theorem dX9_isThere_15 : decode cX9_isThere 15 = .ok (.iconst 0, 1) := by decide +kernel
theorem dX9_isThere_16 : decode cX9_isThere 16 = .ok (.ireturn, 1) := by decide +kernel
theorem dX9_isAt_0 : decode cX9_isAt 0 = .ok (.aload_n 0, 1) := by decide +kernel
theorem dX9_isAt_1 : decode cX9_isAt 1 = .ok (.iload_n 1, 1) := by decide +kernel
theorem dX9_isAt_2 : decode cX9_isAt 2 = .ok (.iload_n 2, 1) := by decide +kernel
theorem dX9_isAt_3 : decode cX9_isAt 3 = .ok (.invokevirtual 160, 3) := by decide +kernel
theorem dX9_isAt_6 : decode cX9_isAt 6 = .ok (.ifCond .eq 29, 3) := by decide +kernel
theorem dX9_isAt_9 : decode cX9_isAt 9 = .ok (.aload_n 0, 1) := by decide +kernel
theorem dX9_isAt_10 : decode cX9_isAt 10 = .ok (.iload_n 1, 1) := by decide +kernel
theorem dX9_isAt_11 : decode cX9_isAt 11 = .ok (.iload_n 2, 1) := by decide +kernel
theorem dX9_isAt_12 : decode cX9_isAt 12 = .ok (.iconst 1, 1) := by decide +kernel
theorem dX9_isAt_13 : decode cX9_isAt 13 = .ok (.invokevirtual 156, 3) := by decide +kernel
theorem dX9_isAt_16 : decode cX9_isAt 16 = .ok (.iload_n 3, 1) := by decide +kernel
theorem dX9_isAt_17 : decode cX9_isAt 17 = .ok (.if_icmp .ne 18, 3) := by decide +kernel
theorem dX9_isAt_20 : decode cX9_isAt 20 = .ok (.aload_n 0, 1) := by decide +kernel
theorem dX9_isAt_21 : decode cX9_isAt 21 = .ok (.iload_n 1, 1) := by decide +kernel
theorem dX9_isAt_22 : decode cX9_isAt 22 = .ok (.iconst 0, 1) := by decide +kernel
theorem dX9_isAt_23 : decode cX9_isAt 23 = .ok (.invokevirtual 163, 3) := by decide +kernel
theorem dX9_isAt_26 : decode cX9_isAt 26 = .ok (.iload 4, 2) := by decide +kernel
theorem dX9_isAt_28 : decode cX9_isAt 28 = .ok (.if_icmp .ne 7, 3) := by decide +kernel
theorem dX9_isAt_31 : decode cX9_isAt 31 = .ok (.iconst 1, 1) := by decide +kernel
theorem dX9_isAt_32 : decode cX9_isAt 32 = .ok (.goto 4, 3) := by decide +kernel
theorem dX9_isAt_35 : decode cX9_isAt 35 = .ok (.iconst 0, 1) := by decide +kernel
theorem dX9_isAt_36 : decode cX9_isAt 36 = .ok (.ireturn, 1) := by decide +kernel
theorem dX9_isOver_0 : decode cX9_isOver 0 = .ok (.aload_n 0, 1) := by decide +kernel
theorem dX9_isOver_1 : decode cX9_isOver 1 = .ok (.iload_n 1, 1) := by decide +kernel
theorem dX9_isOver_2 : decode cX9_isOver 2 = .ok (.iload_n 2, 1) := by decide +kernel
theorem dX9_isOver_3 : decode cX9_isOver 3 = .ok (.iconst 3, 1) := by decide +kernel
theorem dX9_isOver_4 : decode cX9_isOver 4 = .ok (.invokevirtual 156, 3) := by decide +kernel
theorem dX9_isOver_7 : decode cX9_isOver 7 = .ok (.iload_n 3, 1) := by decide +kernel
theorem dX9_isOver_8 : decode cX9_isOver 8 = .ok (.if_icmp .gt 7, 3) := by decide +kernel
theorem dX9_isOver_11 : decode cX9_isOver 11 = .ok (.iconst 1, 1) := by decide +kernel
theorem dX9_isOver_12 : decode cX9_isOver 12 = .ok (.goto 4, 3) := by decide +kernel
theorem dX9_isOver_15 : decode cX9_isOver 15 = .ok (.iconst 0, 1) := by decide +kernel
theorem dX9_isOver_16 : decode cX9_isOver 16 = .ok (.ireturn, 1) := by decide +kernel
theorem dX9_isToCome_0 : decode cX9_isToCome 0 = .ok (.aload_n 0, 1) := by decide +kernel
theorem dX9_isToCome_1 : decode cX9_isToCome 1 = .ok (.iload_n 1, 1) := by decide +kernel
theorem dX9_isToCome_2 : decode cX9_isToCome 2 = .ok (.iload_n 2, 1) := by decide +kernel
theorem dX9_isToCome_3 : decode cX9_isToCome 3 = .ok (.iconst 2, 1) := by decide +kernel
theorem dX9_isToCome_4 : decode cX9_isToCome 4 = .ok (.invokevirtual 156, 3) := by decide +kernel
theorem dX9_isToCome_7 : decode cX9_isToCome 7 = .ok (.iload_n 3, 1) := by decide +kernel
theorem dX9_isToCome_8 : decode cX9_isToCome 8 = .ok (.if_icmp .le 7, 3) := by decide +kernel
theorem dX9_isToCome_11 : decode cX9_isToCome 11 = .ok (.iconst 1, 1) := by decide +kernel
theorem dX9_isToCome_12 : decode cX9_isToCome 12 = .ok (.goto 4, 3) := by decide +kernel
theorem dX9_isToCome_15 : decode cX9_isToCome 15 = .ok (.iconst 0, 1) := by decide +kernel
theorem dX9_isToCome_16 : decode cX9_isToCome 16 = .ok (.ireturn, 1) := by decide +kernel
theorem dX9_isDoubtful_0 : decode cX9_isDoubtful 0 = .ok (.aload_n 0, 1) := by decide +kernel
theorem dX9_isDoubtful_1 : decode cX9_isDoubtful 1 = .ok (.iload_n 1, 1) := by decide +kernel
theorem dX9_isDoubtful_2 : decode cX9_isDoubtful 2 = .ok (.iload_n 2, 1) := by decide +kernel
theorem dX9_isDoubtful_3 : decode cX9_isDoubtful 3 = .ok (.iload_n 3, 1) := by decide +kernel
theorem dX9_isDoubtful_4 : decode cX9_isDoubtful 4 = .ok (.invokevirtual 167, 3) := by decide +kernel
theorem dX9_isDoubtful_7 : decode cX9_isDoubtful 7 = .ok (.ifCond .ne 17, 3) := by decide +kernel
theorem dX9_isDoubtful_10 : decode cX9_isDoubtful 10 = .ok (.aload_n 0, 1) := by decide +kernel
theorem dX9_isDoubtful_11 : decode cX9_isDoubtful 11 = .ok (.iload_n 1, 1) := by decide +kernel
theorem dX9_isDoubtful_12 : decode cX9_isDoubtful 12 = .ok (.iload_n 2, 1) := by decide +kernel
theorem dX9_isDoubtful_13 : decode cX9_isDoubtful 13 = .ok (.iload_n 3, 1) := by decide +kernel
theorem dX9_isDoubtful_14 : decode cX9_isDoubtful 14 = .ok (.invokevirtual 170, 3) := by decide +kernel
theorem dX9_isDoubtful_17 : decode cX9_isDoubtful 17 = .ok (.ifCond .ne 7, 3) := by decide +kernel
theorem dX9_isDoubtful_20 : decode cX9_isDoubtful 20 = .ok (.iconst 1, 1) := by decide +kernel
theorem dX9_isDoubtful_21 : decode cX9_isDoubtful 21 = .ok (.goto 4, 3) := by decide +kernel
theorem dX9_isDoubtful_24 : decode cX9_isDoubtful 24 = .ok (.iconst 0, 1) := by decide +kernel
theorem dX9_isDoubtful_25 : decode cX9_isDoubtful 25 = .ok (.ireturn, 1) := by decide +kernel
theorem dX9_sure_0 : decode cX9_sure 0 = .ok (.aload_n 0, 1) := by decide +kernel
theorem dX9_sure_1 : decode cX9_sure 1 = .ok (.getfield 74, 3) := by decide +kernel
theorem dX9_sure_4 : decode cX9_sure 4 = .ok (.bipush 15, 2) := by decide +kernel
theorem dX9_sure_6 : decode cX9_sure 6 = .ok (.iconst 5, 1) := by decide +kernel
theorem dX9_sure_7 : decode cX9_sure 7 = .ok (.iload_n 1, 1) := by decide +kernel
theorem dX9_sure_8 : decode cX9_sure 8 = .ok (.imul, 1) := by decide +kernel
theorem dX9_sure_9 : decode cX9_sure 9 = .ok (.iadd, 1) := by decide +kernel
theorem dX9_sure_10 : decode cX9_sure 10 = .ok (.iload_n 2, 1) := by decide +kernel
theorem dX9_sure_11 : decode cX9_sure 11 = .ok (.iadd, 1) := by decide +kernel
theorem dX9_sure_12 : decode cX9_sure 12 = .ok (.iaload, 1) := by decide +kernel
theorem dX9_sure_13 : decode cX9_sure 13 = .ok (.istore 4, 2) := by decide +kernel
theorem dX9_sure_15 : decode cX9_sure 15 = .ok (.iconst 0, 1) := by decide +kernel
theorem dX9_sure_16 : decode cX9_sure 16 = .ok (.istore 5, 2) := by decide +kernel
theorem dX9_sure_18 : decode cX9_sure 18 = .ok (.iload 5, 2) := by decide +kernel
theorem dX9_sure_20 : decode cX9_sure 20 = .ok (.iconst 2, 1) := by decide +kernel
theorem dX9_sure_21 : decode cX9_sure 21 = .ok (.aload_n 0, 1) := by decide +kernel
theorem dX9_sure_22 : decode cX9_sure 22 = .ok (.getfield 74, 3) := by decide +kernel
theorem dX9_sure_25 : decode cX9_sure 25 = .ok (.iconst 2, 1) := by decide +kernel
theorem dX9_sure_26 : decode cX9_sure 26 = .ok (.iaload, 1) := by decide +kernel
theorem dX9_sure_27 : decode cX9_sure 27 = .ok (.imul, 1) := by decide +kernel
theorem dX9_sure_28 : decode cX9_sure 28 = .ok (.if_icmp .ge 76, 3) := by decide +kernel
theorem dX9_sure_31 : decode cX9_sure 31 = .ok (.aload_n 0, 1) := by decide +kernel
theorem dX9_sure_32 : decode cX9_sure 32 = .ok (.iload 5, 2) := by decide +kernel
theorem dX9_sure_34 : decode cX9_sure 34 = .ok (.iconst 2, 1) := by decide +kernel
theorem dX9_sure_35 : decode cX9_sure 35 = .ok (.idiv, 1) := by decide +kernel
theorem dX9_sure_36 : decode cX9_sure 36 = .ok (.iload 5, 2) := by decide +kernel
theorem dX9_sure_38 : decode cX9_sure 38 = .ok (.iconst 2, 1) := by decide +kernel
theorem dX9_sure_39 : decode cX9_sure 39 = .ok (.irem, 1) := by decide +kernel
theorem dX9_sure_40 : decode cX9_sure 40 = .ok (.iload_n 1, 1) := by decide +kernel
theorem dX9_sure_41 : decode cX9_sure 41 = .ok (.iload_n 2, 1) := by decide +kernel
theorem dX9_sure_42 : decode cX9_sure 42 = .ok (.invokevirtual 173, 3) := by decide +kernel
theorem dX9_sure_45 : decode cX9_sure 45 = .ok (.ifCond .eq 53, 3) := by decide +kernel
theorem dX9_sure_48 : decode cX9_sure 48 = .ok (.aload_n 0, 1) := by decide +kernel
theorem dX9_sure_49 : decode cX9_sure 49 = .ok (.iload 5, 2) := by decide +kernel
theorem dX9_sure_51 : decode cX9_sure 51 = .ok (.iconst 2, 1) := by decide +kernel
theorem dX9_sure_52 : decode cX9_sure 52 = .ok (.idiv, 1) := by decide +kernel
theorem dX9_sure_53 : decode cX9_sure 53 = .ok (.iload 5, 2) := by decide +kernel
theorem dX9_sure_55 : decode cX9_sure 55 = .ok (.iconst 2, 1) := by decide +kernel
theorem dX9_sure_56 : decode cX9_sure 56 = .ok (.irem, 1) := by decide +kernel
theorem dX9_sure_57 : decode cX9_sure 57 = .ok (.iload_n 3, 1) := by decide +kernel
theorem dX9_sure_58 : decode cX9_sure 58 = .ok (.invokevirtual 167, 3) := by decide +kernel
theorem dX9_sure_61 : decode cX9_sure 61 = .ok (.ifCond .eq 37, 3) := by decide +kernel
theorem dX9_sure_64 : decode cX9_sure 64 = .ok (.iload 4, 2) := by decide +kernel
theorem dX9_sure_66 : decode cX9_sure 66 = .ok (.iload 5, 2) := by decide +kernel
theorem dX9_sure_68 : decode cX9_sure 68 = .ok (.iconst 2, 1) := by decide +kernel
theorem dX9_sure_69 : decode cX9_sure 69 = .ok (.irem, 1) := by decide +kernel
theorem dX9_sure_70 : decode cX9_sure 70 = .ok (.ifCond .ne 16, 3) := by decide +kernel
theorem dX9_sure_73 : decode cX9_sure 73 = .ok (.aload_n 0, 1) := by decide +kernel
theorem dX9_sure_74 : decode cX9_sure 74 = .ok (.iload 5, 2) := by decide +kernel
theorem dX9_sure_76 : decode cX9_sure 76 = .ok (.iconst 2, 1) := by decide +kernel
theorem dX9_sure_77 : decode cX9_sure 77 = .ok (.idiv, 1) := by decide +kernel
theorem dX9_sure_78 : decode cX9_sure 78 = .ok (.iconst 1, 1) := by decide +kernel
theorem dX9_sure_79 : decode cX9_sure 79 = .ok (.invokevirtual 163, 3) := by decide +kernel
theorem dX9_sure_82 : decode cX9_sure 82 = .ok (.ineg, 1) := by decide +kernel
theorem dX9_sure_83 : decode cX9_sure 83 = .ok (.goto 12, 3) := by decide +kernel
theorem dX9_sure_86 : decode cX9_sure 86 = .ok (.aload_n 0, 1) := by decide +kernel
theorem dX9_sure_87 : decode cX9_sure 87 = .ok (.iload 5, 2) := by decide +kernel
theorem dX9_sure_89 : decode cX9_sure 89 = .ok (.iconst 2, 1) := by decide +kernel
theorem dX9_sure_90 : decode cX9_sure 90 = .ok (.idiv, 1) := by decide +kernel
theorem dX9_sure_91 : decode cX9_sure 91 = .ok (.iconst 1, 1) := by decide +kernel
theorem dX9_sure_92 : decode cX9_sure 92 = .ok (.invokevirtual 163, 3) := by decide +kernel
theorem dX9_sure_95 : decode cX9_sure 95 = .ok (.iadd, 1) := by decide +kernel
theorem dX9_sure_96 : decode cX9_sure 96 = .ok (.istore 4, 2) := by decide +kernel
theorem dX9_sure_98 : decode cX9_sure 98 = .ok (.iinc 5 1, 3) := by decide +kernel
theorem dX9_sure_101 : decode cX9_sure 101 = .ok (.goto (-83), 3) := by decide +kernel
theorem dX9_sure_104 : decode cX9_sure 104 = .ok (.iconst 0, 1) := by decide +kernel
theorem dX9_sure_105 : decode cX9_sure 105 = .ok (.istore 5, 2) := by decide +kernel
theorem dX9_sure_107 : decode cX9_sure 107 = .ok (.iload 5, 2) := by decide +kernel
theorem dX9_sure_109 : decode cX9_sure 109 = .ok (.aload_n 0, 1) := by decide +kernel
theorem dX9_sure_110 : decode cX9_sure 110 = .ok (.getfield 74, 3) := by decide +kernel
theorem dX9_sure_113 : decode cX9_sure 113 = .ok (.iconst 4, 1) := by decide +kernel
theorem dX9_sure_114 : decode cX9_sure 114 = .ok (.iaload, 1) := by decide +kernel
theorem dX9_sure_115 : decode cX9_sure 115 = .ok (.if_icmp .ge 70, 3) := by decide +kernel
theorem dX9_sure_118 : decode cX9_sure 118 = .ok (.sipush 685, 3) := by decide +kernel
theorem dX9_sure_121 : decode cX9_sure 121 = .ok (.iconst 4, 1) := by decide +kernel
theorem dX9_sure_122 : decode cX9_sure 122 = .ok (.iload 5, 2) := by decide +kernel
theorem dX9_sure_124 : decode cX9_sure 124 = .ok (.imul, 1) := by decide +kernel
theorem dX9_sure_125 : decode cX9_sure 125 = .ok (.iadd, 1) := by decide +kernel
theorem dX9_sure_126 : decode cX9_sure 126 = .ok (.istore 6, 2) := by decide +kernel
theorem dX9_sure_128 : decode cX9_sure 128 = .ok (.aload_n 0, 1) := by decide +kernel
theorem dX9_sure_129 : decode cX9_sure 129 = .ok (.getfield 74, 3) := by decide +kernel
theorem dX9_sure_132 : decode cX9_sure 132 = .ok (.iload 6, 2) := by decide +kernel
theorem dX9_sure_134 : decode cX9_sure 134 = .ok (.iaload, 1) := by decide +kernel
theorem dX9_sure_135 : decode cX9_sure 135 = .ok (.iload_n 1, 1) := by decide +kernel
theorem dX9_sure_136 : decode cX9_sure 136 = .ok (.if_icmp .ne 43, 3) := by decide +kernel
theorem dX9_sure_139 : decode cX9_sure 139 = .ok (.aload_n 0, 1) := by decide +kernel
theorem dX9_sure_140 : decode cX9_sure 140 = .ok (.getfield 74, 3) := by decide +kernel
theorem dX9_sure_143 : decode cX9_sure 143 = .ok (.iload 6, 2) := by decide +kernel
theorem dX9_sure_145 : decode cX9_sure 145 = .ok (.iconst 1, 1) := by decide +kernel
theorem dX9_sure_146 : decode cX9_sure 146 = .ok (.iadd, 1) := by decide +kernel
theorem dX9_sure_147 : decode cX9_sure 147 = .ok (.iaload, 1) := by decide +kernel
theorem dX9_sure_148 : decode cX9_sure 148 = .ok (.iload_n 2, 1) := by decide +kernel
theorem dX9_sure_149 : decode cX9_sure 149 = .ok (.if_icmp .ne 30, 3) := by decide +kernel
theorem dX9_sure_152 : decode cX9_sure 152 = .ok (.aload_n 0, 1) := by decide +kernel
theorem dX9_sure_153 : decode cX9_sure 153 = .ok (.getfield 74, 3) := by decide +kernel
theorem dX9_sure_156 : decode cX9_sure 156 = .ok (.iload 6, 2) := by decide +kernel
theorem dX9_sure_158 : decode cX9_sure 158 = .ok (.iconst 2, 1) := by decide +kernel
theorem dX9_sure_159 : decode cX9_sure 159 = .ok (.iadd, 1) := by decide +kernel
theorem dX9_sure_160 : decode cX9_sure 160 = .ok (.iaload, 1) := by decide +kernel
theorem dX9_sure_161 : decode cX9_sure 161 = .ok (.iload_n 3, 1) := by decide +kernel
theorem dX9_sure_162 : decode cX9_sure 162 = .ok (.if_icmp .gt 17, 3) := by decide +kernel
theorem dX9_sure_165 : decode cX9_sure 165 = .ok (.iload 4, 2) := by decide +kernel
theorem dX9_sure_167 : decode cX9_sure 167 = .ok (.aload_n 0, 1) := by decide +kernel
theorem dX9_sure_168 : decode cX9_sure 168 = .ok (.getfield 74, 3) := by decide +kernel
theorem dX9_sure_171 : decode cX9_sure 171 = .ok (.iload 6, 2) := by decide +kernel
theorem dX9_sure_173 : decode cX9_sure 173 = .ok (.iconst 3, 1) := by decide +kernel
theorem dX9_sure_174 : decode cX9_sure 174 = .ok (.iadd, 1) := by decide +kernel
theorem dX9_sure_175 : decode cX9_sure 175 = .ok (.iaload, 1) := by decide +kernel
theorem dX9_sure_176 : decode cX9_sure 176 = .ok (.iadd, 1) := by decide +kernel
theorem dX9_sure_177 : decode cX9_sure 177 = .ok (.istore 4, 2) := by decide +kernel
theorem dX9_sure_179 : decode cX9_sure 179 = .ok (.iinc 5 1, 3) := by decide +kernel
theorem dX9_sure_182 : decode cX9_sure 182 = .ok (.goto (-75), 3) := by decide +kernel
theorem dX9_sure_185 : decode cX9_sure 185 = .ok (.iload 4, 2) := by decide +kernel
theorem dX9_sure_187 : decode cX9_sure 187 = .ok (.ireturn, 1) := by decide +kernel
theorem dX9_doubtful_0 : decode cX9_doubtful 0 = .ok (.iconst 0, 1) := by decide +kernel
theorem dX9_doubtful_1 : decode cX9_doubtful 1 = .ok (.istore 5, 2) := by decide +kernel
theorem dX9_doubtful_3 : decode cX9_doubtful 3 = .ok (.iconst 0, 1) := by decide +kernel
theorem dX9_doubtful_4 : decode cX9_doubtful 4 = .ok (.istore 6, 2) := by decide +kernel
theorem dX9_doubtful_6 : decode cX9_doubtful 6 = .ok (.iload 6, 2) := by decide +kernel
theorem dX9_doubtful_8 : decode cX9_doubtful 8 = .ok (.iconst 2, 1) := by decide +kernel
theorem dX9_doubtful_9 : decode cX9_doubtful 9 = .ok (.aload_n 0, 1) := by decide +kernel
theorem dX9_doubtful_10 : decode cX9_doubtful 10 = .ok (.getfield 74, 3) := by decide +kernel
theorem dX9_doubtful_13 : decode cX9_doubtful 13 = .ok (.iconst 2, 1) := by decide +kernel
theorem dX9_doubtful_14 : decode cX9_doubtful 14 = .ok (.iaload, 1) := by decide +kernel
theorem dX9_doubtful_15 : decode cX9_doubtful 15 = .ok (.imul, 1) := by decide +kernel
theorem dX9_doubtful_16 : decode cX9_doubtful 16 = .ok (.if_icmp .ge 82, 3) := by decide +kernel
theorem dX9_doubtful_19 : decode cX9_doubtful 19 = .ok (.aload_n 0, 1) := by decide +kernel
theorem dX9_doubtful_20 : decode cX9_doubtful 20 = .ok (.iload 6, 2) := by decide +kernel
theorem dX9_doubtful_22 : decode cX9_doubtful 22 = .ok (.iconst 2, 1) := by decide +kernel
theorem dX9_doubtful_23 : decode cX9_doubtful 23 = .ok (.idiv, 1) := by decide +kernel
theorem dX9_doubtful_24 : decode cX9_doubtful 24 = .ok (.iload 6, 2) := by decide +kernel
theorem dX9_doubtful_26 : decode cX9_doubtful 26 = .ok (.iconst 2, 1) := by decide +kernel
theorem dX9_doubtful_27 : decode cX9_doubtful 27 = .ok (.irem, 1) := by decide +kernel
theorem dX9_doubtful_28 : decode cX9_doubtful 28 = .ok (.iload_n 1, 1) := by decide +kernel
theorem dX9_doubtful_29 : decode cX9_doubtful 29 = .ok (.iload_n 2, 1) := by decide +kernel
theorem dX9_doubtful_30 : decode cX9_doubtful 30 = .ok (.invokevirtual 173, 3) := by decide +kernel
theorem dX9_doubtful_33 : decode cX9_doubtful 33 = .ok (.ifCond .eq 59, 3) := by decide +kernel
theorem dX9_doubtful_36 : decode cX9_doubtful 36 = .ok (.aload_n 0, 1) := by decide +kernel
theorem dX9_doubtful_37 : decode cX9_doubtful 37 = .ok (.iload 6, 2) := by decide +kernel
theorem dX9_doubtful_39 : decode cX9_doubtful 39 = .ok (.iconst 2, 1) := by decide +kernel
theorem dX9_doubtful_40 : decode cX9_doubtful 40 = .ok (.idiv, 1) := by decide +kernel
theorem dX9_doubtful_41 : decode cX9_doubtful 41 = .ok (.iload 6, 2) := by decide +kernel
theorem dX9_doubtful_43 : decode cX9_doubtful 43 = .ok (.iconst 2, 1) := by decide +kernel
theorem dX9_doubtful_44 : decode cX9_doubtful 44 = .ok (.irem, 1) := by decide +kernel
theorem dX9_doubtful_45 : decode cX9_doubtful 45 = .ok (.iload_n 3, 1) := by decide +kernel
theorem dX9_doubtful_46 : decode cX9_doubtful 46 = .ok (.invokevirtual 177, 3) := by decide +kernel
theorem dX9_doubtful_49 : decode cX9_doubtful 49 = .ok (.ifCond .ne 6, 3) := by decide +kernel
theorem dX9_doubtful_52 : decode cX9_doubtful 52 = .ok (.goto 40, 3) := by decide +kernel
theorem dX9_doubtful_55 : decode cX9_doubtful 55 = .ok (.iload 5, 2) := by decide +kernel
theorem dX9_doubtful_57 : decode cX9_doubtful 57 = .ok (.iload 4, 2) := by decide +kernel
theorem dX9_doubtful_59 : decode cX9_doubtful 59 = .ok (.iconst 2, 1) := by decide +kernel
theorem dX9_doubtful_60 : decode cX9_doubtful 60 = .ok (.if_icmp .ne 7, 3) := by decide +kernel
theorem dX9_doubtful_63 : decode cX9_doubtful 63 = .ok (.iconst 1, 1) := by decide +kernel
theorem dX9_doubtful_64 : decode cX9_doubtful 64 = .ok (.goto 25, 3) := by decide +kernel
theorem dX9_doubtful_67 : decode cX9_doubtful 67 = .ok (.iload 6, 2) := by decide +kernel
theorem dX9_doubtful_69 : decode cX9_doubtful 69 = .ok (.iconst 2, 1) := by decide +kernel
theorem dX9_doubtful_70 : decode cX9_doubtful 70 = .ok (.irem, 1) := by decide +kernel
theorem dX9_doubtful_71 : decode cX9_doubtful 71 = .ok (.iload 4, 2) := by decide +kernel
theorem dX9_doubtful_73 : decode cX9_doubtful 73 = .ok (.if_icmp .ne 15, 3) := by decide +kernel
theorem dX9_doubtful_76 : decode cX9_doubtful 76 = .ok (.aload_n 0, 1) := by decide +kernel
theorem dX9_doubtful_77 : decode cX9_doubtful 77 = .ok (.iload 6, 2) := by decide +kernel
theorem dX9_doubtful_79 : decode cX9_doubtful 79 = .ok (.iconst 2, 1) := by decide +kernel
theorem dX9_doubtful_80 : decode cX9_doubtful 80 = .ok (.idiv, 1) := by decide +kernel
theorem dX9_doubtful_81 : decode cX9_doubtful 81 = .ok (.iconst 1, 1) := by decide +kernel
theorem dX9_doubtful_82 : decode cX9_doubtful 82 = .ok (.invokevirtual 163, 3) := by decide +kernel
theorem dX9_doubtful_85 : decode cX9_doubtful 85 = .ok (.goto 4, 3) := by decide +kernel
theorem dX9_doubtful_88 : decode cX9_doubtful 88 = .ok (.iconst 0, 1) := by decide +kernel
theorem dX9_doubtful_89 : decode cX9_doubtful 89 = .ok (.iadd, 1) := by decide +kernel
theorem dX9_doubtful_90 : decode cX9_doubtful 90 = .ok (.istore 5, 2) := by decide +kernel
theorem dX9_doubtful_92 : decode cX9_doubtful 92 = .ok (.iinc 6 1, 3) := by decide +kernel
theorem dX9_doubtful_95 : decode cX9_doubtful 95 = .ok (.goto (-89), 3) := by decide +kernel
theorem dX9_doubtful_98 : decode cX9_doubtful 98 = .ok (.iload 5, 2) := by decide +kernel
theorem dX9_doubtful_100 : decode cX9_doubtful 100 = .ok (.ireturn, 1) := by decide +kernel
theorem dX9_least_0 : decode cX9_least 0 = .ok (.aload_n 0, 1) := by decide +kernel
theorem dX9_least_1 : decode cX9_least 1 = .ok (.iload_n 1, 1) := by decide +kernel
theorem dX9_least_2 : decode cX9_least 2 = .ok (.iload_n 2, 1) := by decide +kernel
theorem dX9_least_3 : decode cX9_least 3 = .ok (.iload_n 3, 1) := by decide +kernel
theorem dX9_least_4 : decode cX9_least 4 = .ok (.invokevirtual 180, 3) := by decide +kernel
theorem dX9_least_7 : decode cX9_least 7 = .ok (.aload_n 0, 1) := by decide +kernel
theorem dX9_least_8 : decode cX9_least 8 = .ok (.iload_n 1, 1) := by decide +kernel
theorem dX9_least_9 : decode cX9_least 9 = .ok (.iload_n 2, 1) := by decide +kernel
theorem dX9_least_10 : decode cX9_least 10 = .ok (.iload_n 3, 1) := by decide +kernel
theorem dX9_least_11 : decode cX9_least 11 = .ok (.iconst 0, 1) := by decide +kernel
theorem dX9_least_12 : decode cX9_least 12 = .ok (.invokevirtual 183, 3) := by decide +kernel
theorem dX9_least_15 : decode cX9_least 15 = .ok (.isub, 1) := by decide +kernel
theorem dX9_least_16 : decode cX9_least 16 = .ok (.ireturn, 1) := by decide +kernel
theorem dX9_most_0 : decode cX9_most 0 = .ok (.aload_n 0, 1) := by decide +kernel
theorem dX9_most_1 : decode cX9_most 1 = .ok (.iload_n 1, 1) := by decide +kernel
theorem dX9_most_2 : decode cX9_most 2 = .ok (.iload_n 2, 1) := by decide +kernel
theorem dX9_most_3 : decode cX9_most 3 = .ok (.iload_n 3, 1) := by decide +kernel
theorem dX9_most_4 : decode cX9_most 4 = .ok (.invokevirtual 180, 3) := by decide +kernel
theorem dX9_most_7 : decode cX9_most 7 = .ok (.aload_n 0, 1) := by decide +kernel
theorem dX9_most_8 : decode cX9_most 8 = .ok (.iload_n 1, 1) := by decide +kernel
theorem dX9_most_9 : decode cX9_most 9 = .ok (.iload_n 2, 1) := by decide +kernel
theorem dX9_most_10 : decode cX9_most 10 = .ok (.iload_n 3, 1) := by decide +kernel
theorem dX9_most_11 : decode cX9_most 11 = .ok (.iconst 1, 1) := by decide +kernel
theorem dX9_most_12 : decode cX9_most 12 = .ok (.invokevirtual 183, 3) := by decide +kernel
theorem dX9_most_15 : decode cX9_most 15 = .ok (.iadd, 1) := by decide +kernel
theorem dX9_most_16 : decode cX9_most 16 = .ok (.ireturn, 1) := by decide +kernel
theorem dX9_now_0 : decode cX9_now 0 = .ok (.aload_n 0, 1) := by decide +kernel
theorem dX9_now_1 : decode cX9_now 1 = .ok (.iconst 0, 1) := by decide +kernel
theorem dX9_now_2 : decode cX9_now 2 = .ok (.putfield 1, 3) := by decide +kernel
theorem dX9_now_5 : decode cX9_now 5 = .ok (.iload_n 1, 1) := by decide +kernel
theorem dX9_now_6 : decode cX9_now 6 = .ok (.tableswitch 96 0 7 #[46, 53, 60, 67, 74, 79, 86, 91], 46) := by decide +kernel
theorem dX9_now_52 : decode cX9_now 52 = .ok (.aload_n 0, 1) := by decide +kernel
theorem dX9_now_53 : decode cX9_now 53 = .ok (.getfield 74, 3) := by decide +kernel
theorem dX9_now_56 : decode cX9_now 56 = .ok (.iconst 0, 1) := by decide +kernel
theorem dX9_now_57 : decode cX9_now 57 = .ok (.iaload, 1) := by decide +kernel
theorem dX9_now_58 : decode cX9_now 58 = .ok (.ireturn, 1) := by decide +kernel
theorem dX9_now_59 : decode cX9_now 59 = .ok (.aload_n 0, 1) := by decide +kernel
theorem dX9_now_60 : decode cX9_now 60 = .ok (.getfield 74, 3) := by decide +kernel
theorem dX9_now_63 : decode cX9_now 63 = .ok (.iconst 1, 1) := by decide +kernel
theorem dX9_now_64 : decode cX9_now 64 = .ok (.iaload, 1) := by decide +kernel
theorem dX9_now_65 : decode cX9_now 65 = .ok (.ireturn, 1) := by decide +kernel
theorem dX9_now_66 : decode cX9_now 66 = .ok (.aload_n 0, 1) := by decide +kernel
theorem dX9_now_67 : decode cX9_now 67 = .ok (.getfield 74, 3) := by decide +kernel
theorem dX9_now_70 : decode cX9_now 70 = .ok (.iconst 2, 1) := by decide +kernel
theorem dX9_now_71 : decode cX9_now 71 = .ok (.iaload, 1) := by decide +kernel
theorem dX9_now_72 : decode cX9_now 72 = .ok (.ireturn, 1) := by decide +kernel
theorem dX9_now_73 : decode cX9_now 73 = .ok (.aload_n 0, 1) := by decide +kernel
theorem dX9_now_74 : decode cX9_now 74 = .ok (.getfield 74, 3) := by decide +kernel
theorem dX9_now_77 : decode cX9_now 77 = .ok (.iconst 3, 1) := by decide +kernel
theorem dX9_now_78 : decode cX9_now 78 = .ok (.iaload, 1) := by decide +kernel
theorem dX9_now_79 : decode cX9_now 79 = .ok (.ireturn, 1) := by decide +kernel
theorem dX9_now_80 : decode cX9_now 80 = .ok (.aload_n 0, 1) := by decide +kernel
theorem dX9_now_81 : decode cX9_now 81 = .ok (.invokevirtual 187, 3) := by decide +kernel
theorem dX9_now_84 : decode cX9_now 84 = .ok (.ireturn, 1) := by decide +kernel
theorem dX9_now_85 : decode cX9_now 85 = .ok (.aload_n 0, 1) := by decide +kernel
theorem dX9_now_86 : decode cX9_now 86 = .ok (.getfield 74, 3) := by decide +kernel
theorem dX9_now_89 : decode cX9_now 89 = .ok (.iconst 4, 1) := by decide +kernel
theorem dX9_now_90 : decode cX9_now 90 = .ok (.iaload, 1) := by decide +kernel
theorem dX9_now_91 : decode cX9_now 91 = .ok (.ireturn, 1) := by decide +kernel
theorem dX9_now_92 : decode cX9_now 92 = .ok (.aload_n 0, 1) := by decide +kernel
theorem dX9_now_93 : decode cX9_now 93 = .ok (.getfield 153, 3) := by decide +kernel
theorem dX9_now_96 : decode cX9_now 96 = .ok (.ireturn, 1) := by decide +kernel
theorem dX9_now_97 : decode cX9_now 97 = .ok (.aload_n 0, 1) := by decide +kernel
theorem dX9_now_98 : decode cX9_now 98 = .ok (.getfield 11, 3) := by decide +kernel
theorem dX9_now_101 : decode cX9_now 101 = .ok (.ireturn, 1) := by decide +kernel
theorem dX9_now_102 : decode cX9_now 102 = .ok (.iconst (-1), 1) := by decide +kernel
theorem dX9_now_103 : decode cX9_now 103 = .ok (.ireturn, 1) := by decide +kernel
theorem dX9_item_0 : decode cX9_item 0 = .ok (.aload_n 0, 1) := by decide +kernel
theorem dX9_item_1 : decode cX9_item 1 = .ok (.iconst 0, 1) := by decide +kernel
theorem dX9_item_2 : decode cX9_item 2 = .ok (.putfield 1, 3) := by decide +kernel
theorem dX9_item_5 : decode cX9_item 5 = .ok (.aload_n 0, 1) := by decide +kernel
theorem dX9_item_6 : decode cX9_item 6 = .ok (.iload_n 1, 1) := by decide +kernel
theorem dX9_item_7 : decode cX9_item 7 = .ok (.invokevirtual 191, 3) := by decide +kernel
theorem dX9_item_10 : decode cX9_item 10 = .ok (.ifCond .eq 27, 3) := by decide +kernel
theorem dX9_item_13 : decode cX9_item 13 = .ok (.iload_n 2, 1) := by decide +kernel
theorem dX9_item_14 : decode cX9_item 14 = .ok (.iconst 0, 1) := by decide +kernel
theorem dX9_item_15 : decode cX9_item 15 = .ok (.iconst 1, 1) := by decide +kernel
theorem dX9_item_16 : decode cX9_item 16 = .ok (.invokestatic 92, 3) := by decide +kernel
theorem dX9_item_19 : decode cX9_item 19 = .ok (.ifCond .eq 18, 3) := by decide +kernel
theorem dX9_item_22 : decode cX9_item 22 = .ok (.aload_n 0, 1) := by decide +kernel
theorem dX9_item_23 : decode cX9_item 23 = .ok (.getfield 74, 3) := by decide +kernel
theorem dX9_item_26 : decode cX9_item 26 = .ok (.iconst 5, 1) := by decide +kernel
theorem dX9_item_27 : decode cX9_item 27 = .ok (.iconst 2, 1) := by decide +kernel
theorem dX9_item_28 : decode cX9_item 28 = .ok (.iload_n 1, 1) := by decide +kernel
theorem dX9_item_29 : decode cX9_item 29 = .ok (.imul, 1) := by decide +kernel
theorem dX9_item_30 : decode cX9_item 30 = .ok (.iadd, 1) := by decide +kernel
theorem dX9_item_31 : decode cX9_item 31 = .ok (.iload_n 2, 1) := by decide +kernel
theorem dX9_item_32 : decode cX9_item 32 = .ok (.iadd, 1) := by decide +kernel
theorem dX9_item_33 : decode cX9_item 33 = .ok (.iaload, 1) := by decide +kernel
theorem dX9_item_34 : decode cX9_item 34 = .ok (.goto 4, 3) := by decide +kernel
theorem dX9_item_37 : decode cX9_item 37 = .ok (.iconst (-1), 1) := by decide +kernel
theorem dX9_item_38 : decode cX9_item 38 = .ok (.ireturn, 1) := by decide +kernel
theorem dX9_move_0 : decode cX9_move 0 = .ok (.aload_n 0, 1) := by decide +kernel
theorem dX9_move_1 : decode cX9_move 1 = .ok (.iconst 0, 1) := by decide +kernel
theorem dX9_move_2 : decode cX9_move 2 = .ok (.putfield 1, 3) := by decide +kernel
theorem dX9_move_5 : decode cX9_move 5 = .ok (.iload_n 2, 1) := by decide +kernel
theorem dX9_move_6 : decode cX9_move 6 = .ok (.bipush 10, 2) := by decide +kernel
theorem dX9_move_8 : decode cX9_move 8 = .ok (.bipush 12, 2) := by decide +kernel
theorem dX9_move_10 : decode cX9_move 10 = .ok (.invokestatic 92, 3) := by decide +kernel
theorem dX9_move_13 : decode cX9_move 13 = .ok (.ifCond .ne 14, 3) := by decide +kernel
theorem dX9_move_16 : decode cX9_move 16 = .ok (.iload_n 2, 1) := by decide +kernel
theorem dX9_move_17 : decode cX9_move 17 = .ok (.bipush 20, 2) := by decide +kernel
theorem dX9_move_19 : decode cX9_move 19 = .ok (.bipush 22, 2) := by decide +kernel
theorem dX9_move_21 : decode cX9_move 21 = .ok (.invokestatic 92, 3) := by decide +kernel
theorem dX9_move_24 : decode cX9_move 24 = .ok (.ifCond .eq 7, 3) := by decide +kernel
theorem dX9_move_27 : decode cX9_move 27 = .ok (.iconst 1, 1) := by decide +kernel
theorem dX9_move_28 : decode cX9_move 28 = .ok (.goto 4, 3) := by decide +kernel
theorem dX9_move_31 : decode cX9_move 31 = .ok (.iconst 0, 1) := by decide +kernel
theorem dX9_move_32 : decode cX9_move 32 = .ok (.istore_n 3, 1) := by decide +kernel
theorem dX9_move_33 : decode cX9_move 33 = .ok (.aload_n 0, 1) := by decide +kernel
theorem dX9_move_34 : decode cX9_move 34 = .ok (.iload_n 1, 1) := by decide +kernel
theorem dX9_move_35 : decode cX9_move 35 = .ok (.invokevirtual 194, 3) := by decide +kernel
theorem dX9_move_38 : decode cX9_move 38 = .ok (.ifCond .eq 16, 3) := by decide +kernel
theorem dX9_move_41 : decode cX9_move 41 = .ok (.iload_n 2, 1) := by decide +kernel
theorem dX9_move_42 : decode cX9_move 42 = .ok (.iconst 0, 1) := by decide +kernel
theorem dX9_move_43 : decode cX9_move 43 = .ok (.iconst 1, 1) := by decide +kernel
theorem dX9_move_44 : decode cX9_move 44 = .ok (.invokestatic 92, 3) := by decide +kernel
theorem dX9_move_47 : decode cX9_move 47 = .ok (.ifCond .ne 12, 3) := by decide +kernel
theorem dX9_move_50 : decode cX9_move 50 = .ok (.iload_n 3, 1) := by decide +kernel
theorem dX9_move_51 : decode cX9_move 51 = .ok (.ifCond .ne 8, 3) := by decide +kernel
theorem dX9_move_54 : decode cX9_move 54 = .ok (.aload_n 0, 1) := by decide +kernel
theorem dX9_move_55 : decode cX9_move 55 = .ok (.invokevirtual 197, 3) := by decide +kernel
theorem dX9_move_58 : decode cX9_move 58 = .ok (.ireturn, 1) := by decide +kernel
theorem dX9_move_59 : decode cX9_move 59 = .ok (.iload_n 3, 1) := by decide +kernel
theorem dX9_move_60 : decode cX9_move 60 = .ok (.ifCond .ne 10, 3) := by decide +kernel
theorem dX9_move_63 : decode cX9_move 63 = .ok (.aload_n 0, 1) := by decide +kernel
theorem dX9_move_64 : decode cX9_move 64 = .ok (.iload_n 1, 1) := by decide +kernel
theorem dX9_move_65 : decode cX9_move 65 = .ok (.iload_n 2, 1) := by decide +kernel
theorem dX9_move_66 : decode cX9_move 66 = .ok (.invokevirtual 163, 3) := by decide +kernel
theorem dX9_move_69 : decode cX9_move 69 = .ok (.ireturn, 1) := by decide +kernel
theorem dX9_move_70 : decode cX9_move 70 = .ok (.iload_n 2, 1) := by decide +kernel
theorem dX9_move_71 : decode cX9_move 71 = .ok (.bipush 10, 2) := by decide +kernel
theorem dX9_move_73 : decode cX9_move 73 = .ok (.idiv, 1) := by decide +kernel
theorem dX9_move_74 : decode cX9_move 74 = .ok (.iconst 1, 1) := by decide +kernel
theorem dX9_move_75 : decode cX9_move 75 = .ok (.isub, 1) := by decide +kernel
theorem dX9_move_76 : decode cX9_move 76 = .ok (.istore 4, 2) := by decide +kernel
theorem dX9_move_78 : decode cX9_move 78 = .ok (.aload_n 0, 1) := by decide +kernel
theorem dX9_move_79 : decode cX9_move 79 = .ok (.iload_n 1, 1) := by decide +kernel
theorem dX9_move_80 : decode cX9_move 80 = .ok (.iload 4, 2) := by decide +kernel
theorem dX9_move_82 : decode cX9_move 82 = .ok (.invokevirtual 160, 3) := by decide +kernel
theorem dX9_move_85 : decode cX9_move 85 = .ok (.ifCond .eq 19, 3) := by decide +kernel
theorem dX9_move_88 : decode cX9_move 88 = .ok (.aload_n 0, 1) := by decide +kernel
theorem dX9_move_89 : decode cX9_move 89 = .ok (.iload_n 1, 1) := by decide +kernel
theorem dX9_move_90 : decode cX9_move 90 = .ok (.iload 4, 2) := by decide +kernel
theorem dX9_move_92 : decode cX9_move 92 = .ok (.iconst 1, 1) := by decide +kernel
theorem dX9_move_93 : decode cX9_move 93 = .ok (.iload_n 2, 1) := by decide +kernel
theorem dX9_move_94 : decode cX9_move 94 = .ok (.bipush 10, 2) := by decide +kernel
theorem dX9_move_96 : decode cX9_move 96 = .ok (.irem, 1) := by decide +kernel
theorem dX9_move_97 : decode cX9_move 97 = .ok (.iadd, 1) := by decide +kernel
theorem dX9_move_98 : decode cX9_move 98 = .ok (.invokevirtual 156, 3) := by decide +kernel
theorem dX9_move_101 : decode cX9_move 101 = .ok (.goto 4, 3) := by decide +kernel
theorem dX9_move_104 : decode cX9_move 104 = .ok (.iconst (-1), 1) := by decide +kernel
theorem dX9_move_105 : decode cX9_move 105 = .ok (.ireturn, 1) := by decide +kernel
theorem dX9_book_0 : decode cX9_book 0 = .ok (.aload_n 0, 1) := by decide +kernel
theorem dX9_book_1 : decode cX9_book 1 = .ok (.iconst 0, 1) := by decide +kernel
theorem dX9_book_2 : decode cX9_book 2 = .ok (.putfield 1, 3) := by decide +kernel
theorem dX9_book_5 : decode cX9_book 5 = .ok (.aload_n 0, 1) := by decide +kernel
theorem dX9_book_6 : decode cX9_book 6 = .ok (.iload_n 1, 1) := by decide +kernel
theorem dX9_book_7 : decode cX9_book 7 = .ok (.invokevirtual 200, 3) := by decide +kernel
theorem dX9_book_10 : decode cX9_book 10 = .ok (.ifCond .eq 28, 3) := by decide +kernel
theorem dX9_book_13 : decode cX9_book 13 = .ok (.aload_n 0, 1) := by decide +kernel
theorem dX9_book_14 : decode cX9_book 14 = .ok (.iload_n 2, 1) := by decide +kernel
theorem dX9_book_15 : decode cX9_book 15 = .ok (.invokevirtual 191, 3) := by decide +kernel
theorem dX9_book_18 : decode cX9_book 18 = .ok (.ifCond .eq 20, 3) := by decide +kernel
theorem dX9_book_21 : decode cX9_book 21 = .ok (.iload_n 3, 1) := by decide +kernel
theorem dX9_book_22 : decode cX9_book 22 = .ok (.invokestatic 203, 3) := by decide +kernel
theorem dX9_book_25 : decode cX9_book 25 = .ok (.ifCond .eq 13, 3) := by decide +kernel
theorem dX9_book_28 : decode cX9_book 28 = .ok (.iload 4, 2) := by decide +kernel
theorem dX9_book_30 : decode cX9_book 30 = .ok (.iconst 0, 1) := by decide +kernel
theorem dX9_book_31 : decode cX9_book 31 = .ok (.iconst 3, 1) := by decide +kernel
theorem dX9_book_32 : decode cX9_book 32 = .ok (.invokestatic 92, 3) := by decide +kernel
theorem dX9_book_35 : decode cX9_book 35 = .ok (.ifCond .ne 6, 3) := by decide +kernel
theorem dX9_book_38 : decode cX9_book 38 = .ok (.ldc 206, 2) := by decide +kernel
theorem dX9_book_40 : decode cX9_book 40 = .ok (.ireturn, 1) := by decide +kernel
theorem dX9_book_41 : decode cX9_book 41 = .ok (.iload 4, 2) := by decide +kernel
theorem dX9_book_43 : decode cX9_book 43 = .ok (.ifCond .ne 13, 3) := by decide +kernel
theorem dX9_book_46 : decode cX9_book 46 = .ok (.aload_n 0, 1) := by decide +kernel
theorem dX9_book_47 : decode cX9_book 47 = .ok (.iload_n 1, 1) := by decide +kernel
theorem dX9_book_48 : decode cX9_book 48 = .ok (.iload_n 2, 1) := by decide +kernel
theorem dX9_book_49 : decode cX9_book 49 = .ok (.iload_n 3, 1) := by decide +kernel
theorem dX9_book_50 : decode cX9_book 50 = .ok (.invokevirtual 180, 3) := by decide +kernel
theorem dX9_book_53 : decode cX9_book 53 = .ok (.goto 43, 3) := by decide +kernel
theorem dX9_book_56 : decode cX9_book 56 = .ok (.iload 4, 2) := by decide +kernel
theorem dX9_book_58 : decode cX9_book 58 = .ok (.iconst 1, 1) := by decide +kernel
theorem dX9_book_59 : decode cX9_book 59 = .ok (.if_icmp .ne 13, 3) := by decide +kernel
theorem dX9_book_62 : decode cX9_book 62 = .ok (.aload_n 0, 1) := by decide +kernel
theorem dX9_book_63 : decode cX9_book 63 = .ok (.iload_n 1, 1) := by decide +kernel
theorem dX9_book_64 : decode cX9_book 64 = .ok (.iload_n 2, 1) := by decide +kernel
theorem dX9_book_65 : decode cX9_book 65 = .ok (.iload_n 3, 1) := by decide +kernel
theorem dX9_book_66 : decode cX9_book 66 = .ok (.invokevirtual 207, 3) := by decide +kernel
theorem dX9_book_69 : decode cX9_book 69 = .ok (.goto 27, 3) := by decide +kernel
theorem dX9_book_72 : decode cX9_book 72 = .ok (.iload 4, 2) := by decide +kernel
theorem dX9_book_74 : decode cX9_book 74 = .ok (.iconst 2, 1) := by decide +kernel
theorem dX9_book_75 : decode cX9_book 75 = .ok (.if_icmp .ne 13, 3) := by decide +kernel
theorem dX9_book_78 : decode cX9_book 78 = .ok (.aload_n 0, 1) := by decide +kernel
theorem dX9_book_79 : decode cX9_book 79 = .ok (.iload_n 1, 1) := by decide +kernel
theorem dX9_book_80 : decode cX9_book 80 = .ok (.iload_n 2, 1) := by decide +kernel
theorem dX9_book_81 : decode cX9_book 81 = .ok (.iload_n 3, 1) := by decide +kernel
theorem dX9_book_82 : decode cX9_book 82 = .ok (.invokevirtual 210, 3) := by decide +kernel
theorem dX9_book_85 : decode cX9_book 85 = .ok (.goto 11, 3) := by decide +kernel
theorem dX9_book_88 : decode cX9_book 88 = .ok (.aload_n 0, 1) := by decide +kernel
theorem dX9_book_89 : decode cX9_book 89 = .ok (.iload_n 1, 1) := by decide +kernel
theorem dX9_book_90 : decode cX9_book 90 = .ok (.iload_n 2, 1) := by decide +kernel
theorem dX9_book_91 : decode cX9_book 91 = .ok (.iload_n 3, 1) := by decide +kernel
theorem dX9_book_92 : decode cX9_book 92 = .ok (.iconst 2, 1) := by decide +kernel
theorem dX9_book_93 : decode cX9_book 93 = .ok (.invokevirtual 183, 3) := by decide +kernel
theorem dX9_book_96 : decode cX9_book 96 = .ok (.ireturn, 1) := by decide +kernel
theorem dX9_transit_0 : decode cX9_transit 0 = .ok (.aload_n 0, 1) := by decide +kernel
theorem dX9_transit_1 : decode cX9_transit 1 = .ok (.iconst 0, 1) := by decide +kernel
theorem dX9_transit_2 : decode cX9_transit 2 = .ok (.putfield 1, 3) := by decide +kernel
theorem dX9_transit_5 : decode cX9_transit 5 = .ok (.aload_n 0, 1) := by decide +kernel
theorem dX9_transit_6 : decode cX9_transit 6 = .ok (.iload_n 1, 1) := by decide +kernel
theorem dX9_transit_7 : decode cX9_transit 7 = .ok (.invokevirtual 191, 3) := by decide +kernel
theorem dX9_transit_10 : decode cX9_transit 10 = .ok (.ifCond .eq 19, 3) := by decide +kernel
theorem dX9_transit_13 : decode cX9_transit 13 = .ok (.iload_n 2, 1) := by decide +kernel
theorem dX9_transit_14 : decode cX9_transit 14 = .ok (.invokestatic 203, 3) := by decide +kernel
theorem dX9_transit_17 : decode cX9_transit 17 = .ok (.ifCond .eq 12, 3) := by decide +kernel
theorem dX9_transit_20 : decode cX9_transit 20 = .ok (.iload_n 3, 1) := by decide +kernel
theorem dX9_transit_21 : decode cX9_transit 21 = .ok (.iconst 0, 1) := by decide +kernel
theorem dX9_transit_22 : decode cX9_transit 22 = .ok (.iconst 1, 1) := by decide +kernel
theorem dX9_transit_23 : decode cX9_transit 23 = .ok (.invokestatic 92, 3) := by decide +kernel
theorem dX9_transit_26 : decode cX9_transit 26 = .ok (.ifCond .ne 5, 3) := by decide +kernel
theorem dX9_transit_29 : decode cX9_transit 29 = .ok (.iconst (-1), 1) := by decide +kernel
theorem dX9_transit_30 : decode cX9_transit 30 = .ok (.ireturn, 1) := by decide +kernel
theorem dX9_transit_31 : decode cX9_transit 31 = .ok (.iconst 0, 1) := by decide +kernel
theorem dX9_transit_32 : decode cX9_transit 32 = .ok (.istore 4, 2) := by decide +kernel
theorem dX9_transit_34 : decode cX9_transit 34 = .ok (.iconst 0, 1) := by decide +kernel
theorem dX9_transit_35 : decode cX9_transit 35 = .ok (.istore 5, 2) := by decide +kernel
theorem dX9_transit_37 : decode cX9_transit 37 = .ok (.iload 5, 2) := by decide +kernel
theorem dX9_transit_39 : decode cX9_transit 39 = .ok (.aload_n 0, 1) := by decide +kernel
theorem dX9_transit_40 : decode cX9_transit 40 = .ok (.getfield 74, 3) := by decide +kernel
theorem dX9_transit_43 : decode cX9_transit 43 = .ok (.iconst 2, 1) := by decide +kernel
theorem dX9_transit_44 : decode cX9_transit 44 = .ok (.iaload, 1) := by decide +kernel
theorem dX9_transit_45 : decode cX9_transit 45 = .ok (.if_icmp .ge 95, 3) := by decide +kernel
theorem dX9_transit_48 : decode cX9_transit 48 = .ok (.aload_n 0, 1) := by decide +kernel
theorem dX9_transit_49 : decode cX9_transit 49 = .ok (.iload 5, 2) := by decide +kernel
theorem dX9_transit_51 : decode cX9_transit 51 = .ok (.iconst 0, 1) := by decide +kernel
theorem dX9_transit_52 : decode cX9_transit 52 = .ok (.invokevirtual 163, 3) := by decide +kernel
theorem dX9_transit_55 : decode cX9_transit 55 = .ok (.iload_n 1, 1) := by decide +kernel
theorem dX9_transit_56 : decode cX9_transit 56 = .ok (.if_icmp .ne 78, 3) := by decide +kernel
theorem dX9_transit_59 : decode cX9_transit 59 = .ok (.aload_n 0, 1) := by decide +kernel
theorem dX9_transit_60 : decode cX9_transit 60 = .ok (.iload 5, 2) := by decide +kernel
theorem dX9_transit_62 : decode cX9_transit 62 = .ok (.iconst 0, 1) := by decide +kernel
theorem dX9_transit_63 : decode cX9_transit 63 = .ok (.invokevirtual 160, 3) := by decide +kernel
theorem dX9_transit_66 : decode cX9_transit 66 = .ok (.ifCond .eq 68, 3) := by decide +kernel
theorem dX9_transit_69 : decode cX9_transit 69 = .ok (.aload_n 0, 1) := by decide +kernel
theorem dX9_transit_70 : decode cX9_transit 70 = .ok (.iload 5, 2) := by decide +kernel
theorem dX9_transit_72 : decode cX9_transit 72 = .ok (.iconst 1, 1) := by decide +kernel
theorem dX9_transit_73 : decode cX9_transit 73 = .ok (.invokevirtual 160, 3) := by decide +kernel
theorem dX9_transit_76 : decode cX9_transit 76 = .ok (.ifCond .eq 58, 3) := by decide +kernel
theorem dX9_transit_79 : decode cX9_transit 79 = .ok (.aload_n 0, 1) := by decide +kernel
theorem dX9_transit_80 : decode cX9_transit 80 = .ok (.iload 5, 2) := by decide +kernel
theorem dX9_transit_82 : decode cX9_transit 82 = .ok (.iconst 0, 1) := by decide +kernel
theorem dX9_transit_83 : decode cX9_transit 83 = .ok (.iload_n 2, 1) := by decide +kernel
theorem dX9_transit_84 : decode cX9_transit 84 = .ok (.invokevirtual 167, 3) := by decide +kernel
theorem dX9_transit_87 : decode cX9_transit 87 = .ok (.ifCond .ne 6, 3) := by decide +kernel
theorem dX9_transit_90 : decode cX9_transit 90 = .ok (.goto 44, 3) := by decide +kernel
theorem dX9_transit_93 : decode cX9_transit 93 = .ok (.iload_n 3, 1) := by decide +kernel
theorem dX9_transit_94 : decode cX9_transit 94 = .ok (.ifCond .ne 17, 3) := by decide +kernel
theorem dX9_transit_97 : decode cX9_transit 97 = .ok (.aload_n 0, 1) := by decide +kernel
theorem dX9_transit_98 : decode cX9_transit 98 = .ok (.iload 5, 2) := by decide +kernel
theorem dX9_transit_100 : decode cX9_transit 100 = .ok (.iconst 1, 1) := by decide +kernel
theorem dX9_transit_101 : decode cX9_transit 101 = .ok (.iload_n 2, 1) := by decide +kernel
theorem dX9_transit_102 : decode cX9_transit 102 = .ok (.invokevirtual 170, 3) := by decide +kernel
theorem dX9_transit_105 : decode cX9_transit 105 = .ok (.ifCond .eq 29, 3) := by decide +kernel
theorem dX9_transit_108 : decode cX9_transit 108 = .ok (.goto 14, 3) := by decide +kernel
theorem dX9_transit_111 : decode cX9_transit 111 = .ok (.aload_n 0, 1) := by decide +kernel
theorem dX9_transit_112 : decode cX9_transit 112 = .ok (.iload 5, 2) := by decide +kernel
theorem dX9_transit_114 : decode cX9_transit 114 = .ok (.iconst 1, 1) := by decide +kernel
theorem dX9_transit_115 : decode cX9_transit 115 = .ok (.iload_n 2, 1) := by decide +kernel
theorem dX9_transit_116 : decode cX9_transit 116 = .ok (.invokevirtual 177, 3) := by decide +kernel
theorem dX9_transit_119 : decode cX9_transit 119 = .ok (.ifCond .eq 15, 3) := by decide +kernel
theorem dX9_transit_122 : decode cX9_transit 122 = .ok (.iload 4, 2) := by decide +kernel
theorem dX9_transit_124 : decode cX9_transit 124 = .ok (.aload_n 0, 1) := by decide +kernel
theorem dX9_transit_125 : decode cX9_transit 125 = .ok (.iload 5, 2) := by decide +kernel
theorem dX9_transit_127 : decode cX9_transit 127 = .ok (.iconst 1, 1) := by decide +kernel
theorem dX9_transit_128 : decode cX9_transit 128 = .ok (.invokevirtual 163, 3) := by decide +kernel
theorem dX9_transit_131 : decode cX9_transit 131 = .ok (.iadd, 1) := by decide +kernel
theorem dX9_transit_132 : decode cX9_transit 132 = .ok (.istore 4, 2) := by decide +kernel
theorem dX9_transit_134 : decode cX9_transit 134 = .ok (.iinc 5 1, 3) := by decide +kernel
theorem dX9_transit_137 : decode cX9_transit 137 = .ok (.goto (-100), 3) := by decide +kernel
theorem dX9_transit_140 : decode cX9_transit 140 = .ok (.iload 4, 2) := by decide +kernel
theorem dX9_transit_142 : decode cX9_transit 142 = .ok (.ireturn, 1) := by decide +kernel
theorem dX9_below_0 : decode cX9_below 0 = .ok (.aload_n 0, 1) := by decide +kernel
theorem dX9_below_1 : decode cX9_below 1 = .ok (.iconst 0, 1) := by decide +kernel
theorem dX9_below_2 : decode cX9_below 2 = .ok (.putfield 1, 3) := by decide +kernel
theorem dX9_below_5 : decode cX9_below 5 = .ok (.aload_n 0, 1) := by decide +kernel
theorem dX9_below_6 : decode cX9_below 6 = .ok (.iload_n 1, 1) := by decide +kernel
theorem dX9_below_7 : decode cX9_below 7 = .ok (.invokevirtual 200, 3) := by decide +kernel
theorem dX9_below_10 : decode cX9_below 10 = .ok (.ifCond .eq 11, 3) := by decide +kernel
theorem dX9_below_13 : decode cX9_below 13 = .ok (.aload_n 0, 1) := by decide +kernel
theorem dX9_below_14 : decode cX9_below 14 = .ok (.iload_n 2, 1) := by decide +kernel
theorem dX9_below_15 : decode cX9_below 15 = .ok (.invokevirtual 191, 3) := by decide +kernel
theorem dX9_below_18 : decode cX9_below 18 = .ok (.ifCond .ne 5, 3) := by decide +kernel
theorem dX9_below_21 : decode cX9_below 21 = .ok (.iconst (-1), 1) := by decide +kernel
theorem dX9_below_22 : decode cX9_below 22 = .ok (.ireturn, 1) := by decide +kernel
theorem dX9_below_23 : decode cX9_below 23 = .ok (.iconst 0, 1) := by decide +kernel
theorem dX9_below_24 : decode cX9_below 24 = .ok (.istore_n 3, 1) := by decide +kernel
theorem dX9_below_25 : decode cX9_below 25 = .ok (.iload_n 3, 1) := by decide +kernel
theorem dX9_below_26 : decode cX9_below 26 = .ok (.sipush 999, 3) := by decide +kernel
theorem dX9_below_29 : decode cX9_below 29 = .ok (.if_icmp .gt 21, 3) := by decide +kernel
theorem dX9_below_32 : decode cX9_below 32 = .ok (.aload_n 0, 1) := by decide +kernel
theorem dX9_below_33 : decode cX9_below 33 = .ok (.iload_n 1, 1) := by decide +kernel
theorem dX9_below_34 : decode cX9_below 34 = .ok (.iload_n 2, 1) := by decide +kernel
theorem dX9_below_35 : decode cX9_below 35 = .ok (.iload_n 3, 1) := by decide +kernel
theorem dX9_below_36 : decode cX9_below 36 = .ok (.invokevirtual 210, 3) := by decide +kernel
theorem dX9_below_39 : decode cX9_below 39 = .ok (.ifCond .ge 5, 3) := by decide +kernel
theorem dX9_below_42 : decode cX9_below 42 = .ok (.iload_n 3, 1) := by decide +kernel
theorem dX9_below_43 : decode cX9_below 43 = .ok (.ireturn, 1) := by decide +kernel
theorem dX9_below_44 : decode cX9_below 44 = .ok (.iinc 3 1, 3) := by decide +kernel
theorem dX9_below_47 : decode cX9_below 47 = .ok (.goto (-22), 3) := by decide +kernel
theorem dX9_below_50 : decode cX9_below 50 = .ok (.iconst (-1), 1) := by decide +kernel
theorem dX9_below_51 : decode cX9_below 51 = .ok (.ireturn, 1) := by decide +kernel
theorem dX9_counted_0 : decode cX9_counted 0 = .ok (.aload_n 0, 1) := by decide +kernel
theorem dX9_counted_1 : decode cX9_counted 1 = .ok (.getfield 74, 3) := by decide +kernel
theorem dX9_counted_4 : decode cX9_counted 4 = .ok (.sipush 445, 3) := by decide +kernel
theorem dX9_counted_7 : decode cX9_counted 7 = .ok (.bipush 6, 2) := by decide +kernel
theorem dX9_counted_9 : decode cX9_counted 9 = .ok (.iload_n 1, 1) := by decide +kernel
theorem dX9_counted_10 : decode cX9_counted 10 = .ok (.imul, 1) := by decide +kernel
theorem dX9_counted_11 : decode cX9_counted 11 = .ok (.iadd, 1) := by decide +kernel
theorem dX9_counted_12 : decode cX9_counted 12 = .ok (.iload_n 2, 1) := by decide +kernel
theorem dX9_counted_13 : decode cX9_counted 13 = .ok (.iadd, 1) := by decide +kernel
theorem dX9_counted_14 : decode cX9_counted 14 = .ok (.iaload, 1) := by decide +kernel
theorem dX9_counted_15 : decode cX9_counted 15 = .ok (.ireturn, 1) := by decide +kernel
theorem dX9_sureOf_0 : decode cX9_sureOf 0 = .ok (.aload_n 0, 1) := by decide +kernel
theorem dX9_sureOf_1 : decode cX9_sureOf 1 = .ok (.aload_n 0, 1) := by decide +kernel
theorem dX9_sureOf_2 : decode cX9_sureOf 2 = .ok (.iload_n 1, 1) := by decide +kernel
theorem dX9_sureOf_3 : decode cX9_sureOf 3 = .ok (.iconst 0, 1) := by decide +kernel
theorem dX9_sureOf_4 : decode cX9_sureOf 4 = .ok (.invokevirtual 213, 3) := by decide +kernel
theorem dX9_sureOf_7 : decode cX9_sureOf 7 = .ok (.aload_n 0, 1) := by decide +kernel
theorem dX9_sureOf_8 : decode cX9_sureOf 8 = .ok (.iload_n 1, 1) := by decide +kernel
theorem dX9_sureOf_9 : decode cX9_sureOf 9 = .ok (.iconst 1, 1) := by decide +kernel
theorem dX9_sureOf_10 : decode cX9_sureOf 10 = .ok (.invokevirtual 213, 3) := by decide +kernel
theorem dX9_sureOf_13 : decode cX9_sureOf 13 = .ok (.aload_n 0, 1) := by decide +kernel
theorem dX9_sureOf_14 : decode cX9_sureOf 14 = .ok (.iload_n 1, 1) := by decide +kernel
theorem dX9_sureOf_15 : decode cX9_sureOf 15 = .ok (.iconst 2, 1) := by decide +kernel
theorem dX9_sureOf_16 : decode cX9_sureOf 16 = .ok (.invokevirtual 213, 3) := by decide +kernel
theorem dX9_sureOf_19 : decode cX9_sureOf 19 = .ok (.invokevirtual 180, 3) := by decide +kernel
theorem dX9_sureOf_22 : decode cX9_sureOf 22 = .ok (.ireturn, 1) := by decide +kernel
theorem dX9_differenceOf_0 : decode cX9_differenceOf 0 = .ok (.aload_n 0, 1) := by decide +kernel
theorem dX9_differenceOf_1 : decode cX9_differenceOf 1 = .ok (.aload_n 0, 1) := by decide +kernel
theorem dX9_differenceOf_2 : decode cX9_differenceOf 2 = .ok (.iload_n 1, 1) := by decide +kernel
theorem dX9_differenceOf_3 : decode cX9_differenceOf 3 = .ok (.iconst 0, 1) := by decide +kernel
theorem dX9_differenceOf_4 : decode cX9_differenceOf 4 = .ok (.invokevirtual 213, 3) := by decide +kernel
theorem dX9_differenceOf_7 : decode cX9_differenceOf 7 = .ok (.aload_n 0, 1) := by decide +kernel
theorem dX9_differenceOf_8 : decode cX9_differenceOf 8 = .ok (.iload_n 1, 1) := by decide +kernel
theorem dX9_differenceOf_9 : decode cX9_differenceOf 9 = .ok (.iconst 1, 1) := by decide +kernel
theorem dX9_differenceOf_10 : decode cX9_differenceOf 10 = .ok (.invokevirtual 213, 3) := by decide +kernel
theorem dX9_differenceOf_13 : decode cX9_differenceOf 13 = .ok (.aload_n 0, 1) := by decide +kernel
theorem dX9_differenceOf_14 : decode cX9_differenceOf 14 = .ok (.iload_n 1, 1) := by decide +kernel
theorem dX9_differenceOf_15 : decode cX9_differenceOf 15 = .ok (.iconst 2, 1) := by decide +kernel
theorem dX9_differenceOf_16 : decode cX9_differenceOf 16 = .ok (.invokevirtual 213, 3) := by decide +kernel
theorem dX9_differenceOf_19 : decode cX9_differenceOf 19 = .ok (.invokevirtual 207, 3) := by decide +kernel
theorem dX9_differenceOf_22 : decode cX9_differenceOf 22 = .ok (.istore_n 2, 1) := by decide +kernel
theorem dX9_differenceOf_23 : decode cX9_differenceOf 23 = .ok (.aload_n 0, 1) := by decide +kernel
theorem dX9_differenceOf_24 : decode cX9_differenceOf 24 = .ok (.aload_n 0, 1) := by decide +kernel
theorem dX9_differenceOf_25 : decode cX9_differenceOf 25 = .ok (.iload_n 1, 1) := by decide +kernel
theorem dX9_differenceOf_26 : decode cX9_differenceOf 26 = .ok (.iconst 0, 1) := by decide +kernel
theorem dX9_differenceOf_27 : decode cX9_differenceOf 27 = .ok (.invokevirtual 213, 3) := by decide +kernel
theorem dX9_differenceOf_30 : decode cX9_differenceOf 30 = .ok (.aload_n 0, 1) := by decide +kernel
theorem dX9_differenceOf_31 : decode cX9_differenceOf 31 = .ok (.iload_n 1, 1) := by decide +kernel
theorem dX9_differenceOf_32 : decode cX9_differenceOf 32 = .ok (.iconst 1, 1) := by decide +kernel
theorem dX9_differenceOf_33 : decode cX9_differenceOf 33 = .ok (.invokevirtual 213, 3) := by decide +kernel
theorem dX9_differenceOf_36 : decode cX9_differenceOf 36 = .ok (.aload_n 0, 1) := by decide +kernel
theorem dX9_differenceOf_37 : decode cX9_differenceOf 37 = .ok (.iload_n 1, 1) := by decide +kernel
theorem dX9_differenceOf_38 : decode cX9_differenceOf 38 = .ok (.iconst 2, 1) := by decide +kernel
theorem dX9_differenceOf_39 : decode cX9_differenceOf 39 = .ok (.invokevirtual 213, 3) := by decide +kernel
theorem dX9_differenceOf_42 : decode cX9_differenceOf 42 = .ok (.invokevirtual 210, 3) := by decide +kernel
theorem dX9_differenceOf_45 : decode cX9_differenceOf 45 = .ok (.istore_n 3, 1) := by decide +kernel
theorem dX9_differenceOf_46 : decode cX9_differenceOf 46 = .ok (.aload_n 0, 1) := by decide +kernel
theorem dX9_differenceOf_47 : decode cX9_differenceOf 47 = .ok (.iload_n 1, 1) := by decide +kernel
theorem dX9_differenceOf_48 : decode cX9_differenceOf 48 = .ok (.iconst 3, 1) := by decide +kernel
theorem dX9_differenceOf_49 : decode cX9_differenceOf 49 = .ok (.invokevirtual 213, 3) := by decide +kernel
theorem dX9_differenceOf_52 : decode cX9_differenceOf 52 = .ok (.istore 4, 2) := by decide +kernel
theorem dX9_differenceOf_54 : decode cX9_differenceOf 54 = .ok (.iload 4, 2) := by decide +kernel
theorem dX9_differenceOf_56 : decode cX9_differenceOf 56 = .ok (.iload_n 3, 1) := by decide +kernel
theorem dX9_differenceOf_57 : decode cX9_differenceOf 57 = .ok (.if_icmp .le 10, 3) := by decide +kernel
theorem dX9_differenceOf_60 : decode cX9_differenceOf 60 = .ok (.iload 4, 2) := by decide +kernel
theorem dX9_differenceOf_62 : decode cX9_differenceOf 62 = .ok (.iload_n 3, 1) := by decide +kernel
theorem dX9_differenceOf_63 : decode cX9_differenceOf 63 = .ok (.isub, 1) := by decide +kernel
theorem dX9_differenceOf_64 : decode cX9_differenceOf 64 = .ok (.goto 17, 3) := by decide +kernel
theorem dX9_differenceOf_67 : decode cX9_differenceOf 67 = .ok (.iload 4, 2) := by decide +kernel
theorem dX9_differenceOf_69 : decode cX9_differenceOf 69 = .ok (.iload_n 2, 1) := by decide +kernel
theorem dX9_differenceOf_70 : decode cX9_differenceOf 70 = .ok (.if_icmp .ge 10, 3) := by decide +kernel
theorem dX9_differenceOf_73 : decode cX9_differenceOf 73 = .ok (.iload 4, 2) := by decide +kernel
theorem dX9_differenceOf_75 : decode cX9_differenceOf 75 = .ok (.iload_n 2, 1) := by decide +kernel
theorem dX9_differenceOf_76 : decode cX9_differenceOf 76 = .ok (.isub, 1) := by decide +kernel
theorem dX9_differenceOf_77 : decode cX9_differenceOf 77 = .ok (.goto 4, 3) := by decide +kernel
theorem dX9_differenceOf_80 : decode cX9_differenceOf 80 = .ok (.iconst 0, 1) := by decide +kernel
theorem dX9_differenceOf_81 : decode cX9_differenceOf 81 = .ok (.ireturn, 1) := by decide +kernel
theorem dX9_allowed_0 : decode cX9_allowed 0 = .ok (.iconst 5, 1) := by decide +kernel
theorem dX9_allowed_1 : decode cX9_allowed 1 = .ok (.iconst 2, 1) := by decide +kernel
theorem dX9_allowed_2 : decode cX9_allowed 2 = .ok (.aload_n 0, 1) := by decide +kernel
theorem dX9_allowed_3 : decode cX9_allowed 3 = .ok (.iload_n 1, 1) := by decide +kernel
theorem dX9_allowed_4 : decode cX9_allowed 4 = .ok (.iconst 1, 1) := by decide +kernel
theorem dX9_allowed_5 : decode cX9_allowed 5 = .ok (.invokevirtual 213, 3) := by decide +kernel
theorem dX9_allowed_8 : decode cX9_allowed 8 = .ok (.imul, 1) := by decide +kernel
theorem dX9_allowed_9 : decode cX9_allowed 9 = .ok (.iadd, 1) := by decide +kernel
theorem dX9_allowed_10 : decode cX9_allowed 10 = .ok (.istore_n 2, 1) := by decide +kernel
theorem dX9_allowed_11 : decode cX9_allowed 11 = .ok (.aload_n 0, 1) := by decide +kernel
theorem dX9_allowed_12 : decode cX9_allowed 12 = .ok (.iload_n 1, 1) := by decide +kernel
theorem dX9_allowed_13 : decode cX9_allowed 13 = .ok (.invokevirtual 216, 3) := by decide +kernel
theorem dX9_allowed_16 : decode cX9_allowed 16 = .ok (.istore_n 3, 1) := by decide +kernel
theorem dX9_allowed_17 : decode cX9_allowed 17 = .ok (.iload_n 3, 1) := by decide +kernel
theorem dX9_allowed_18 : decode cX9_allowed 18 = .ok (.ifCond .ge 7, 3) := by decide +kernel
theorem dX9_allowed_21 : decode cX9_allowed 21 = .ok (.iconst 0, 1) := by decide +kernel
theorem dX9_allowed_22 : decode cX9_allowed 22 = .ok (.goto 16, 3) := by decide +kernel
theorem dX9_allowed_25 : decode cX9_allowed 25 = .ok (.aload_n 0, 1) := by decide +kernel
theorem dX9_allowed_26 : decode cX9_allowed 26 = .ok (.getfield 74, 3) := by decide +kernel
theorem dX9_allowed_29 : decode cX9_allowed 29 = .ok (.iload_n 2, 1) := by decide +kernel
theorem dX9_allowed_30 : decode cX9_allowed 30 = .ok (.iconst 1, 1) := by decide +kernel
theorem dX9_allowed_31 : decode cX9_allowed 31 = .ok (.iadd, 1) := by decide +kernel
theorem dX9_allowed_32 : decode cX9_allowed 32 = .ok (.iaload, 1) := by decide +kernel
theorem dX9_allowed_33 : decode cX9_allowed 33 = .ok (.iload_n 3, 1) := by decide +kernel
theorem dX9_allowed_34 : decode cX9_allowed 34 = .ok (.imul, 1) := by decide +kernel
theorem dX9_allowed_35 : decode cX9_allowed 35 = .ok (.bipush 100, 2) := by decide +kernel
theorem dX9_allowed_37 : decode cX9_allowed 37 = .ok (.idiv, 1) := by decide +kernel
theorem dX9_allowed_38 : decode cX9_allowed 38 = .ok (.istore 4, 2) := by decide +kernel
theorem dX9_allowed_40 : decode cX9_allowed 40 = .ok (.iload 4, 2) := by decide +kernel
theorem dX9_allowed_42 : decode cX9_allowed 42 = .ok (.aload_n 0, 1) := by decide +kernel
theorem dX9_allowed_43 : decode cX9_allowed 43 = .ok (.getfield 74, 3) := by decide +kernel
theorem dX9_allowed_46 : decode cX9_allowed 46 = .ok (.iload_n 2, 1) := by decide +kernel
theorem dX9_allowed_47 : decode cX9_allowed 47 = .ok (.iaload, 1) := by decide +kernel
theorem dX9_allowed_48 : decode cX9_allowed 48 = .ok (.if_icmp .le 8, 3) := by decide +kernel
theorem dX9_allowed_51 : decode cX9_allowed 51 = .ok (.iload 4, 2) := by decide +kernel
theorem dX9_allowed_53 : decode cX9_allowed 53 = .ok (.goto 9, 3) := by decide +kernel
theorem dX9_allowed_56 : decode cX9_allowed 56 = .ok (.aload_n 0, 1) := by decide +kernel
theorem dX9_allowed_57 : decode cX9_allowed 57 = .ok (.getfield 74, 3) := by decide +kernel
theorem dX9_allowed_60 : decode cX9_allowed 60 = .ok (.iload_n 2, 1) := by decide +kernel
theorem dX9_allowed_61 : decode cX9_allowed 61 = .ok (.iaload, 1) := by decide +kernel
theorem dX9_allowed_62 : decode cX9_allowed 62 = .ok (.ireturn, 1) := by decide +kernel
theorem dX9_isOpenAt_0 : decode cX9_isOpenAt 0 = .ok (.aload_n 0, 1) := by decide +kernel
theorem dX9_isOpenAt_1 : decode cX9_isOpenAt 1 = .ok (.iload_n 1, 1) := by decide +kernel
theorem dX9_isOpenAt_2 : decode cX9_isOpenAt 2 = .ok (.iconst 0, 1) := by decide +kernel
theorem dX9_isOpenAt_3 : decode cX9_isOpenAt 3 = .ok (.invokevirtual 213, 3) := by decide +kernel
theorem dX9_isOpenAt_6 : decode cX9_isOpenAt 6 = .ok (.iload_n 2, 1) := by decide +kernel
theorem dX9_isOpenAt_7 : decode cX9_isOpenAt 7 = .ok (.if_icmp .ne 26, 3) := by decide +kernel
theorem dX9_isOpenAt_10 : decode cX9_isOpenAt 10 = .ok (.aload_n 0, 1) := by decide +kernel
theorem dX9_isOpenAt_11 : decode cX9_isOpenAt 11 = .ok (.iload_n 1, 1) := by decide +kernel
theorem dX9_isOpenAt_12 : decode cX9_isOpenAt 12 = .ok (.iconst 1, 1) := by decide +kernel
theorem dX9_isOpenAt_13 : decode cX9_isOpenAt 13 = .ok (.invokevirtual 213, 3) := by decide +kernel
theorem dX9_isOpenAt_16 : decode cX9_isOpenAt 16 = .ok (.iload_n 3, 1) := by decide +kernel
theorem dX9_isOpenAt_17 : decode cX9_isOpenAt 17 = .ok (.if_icmp .ne 16, 3) := by decide +kernel
theorem dX9_isOpenAt_20 : decode cX9_isOpenAt 20 = .ok (.aload_n 0, 1) := by decide +kernel
theorem dX9_isOpenAt_21 : decode cX9_isOpenAt 21 = .ok (.iload_n 1, 1) := by decide +kernel
theorem dX9_isOpenAt_22 : decode cX9_isOpenAt 22 = .ok (.iconst 5, 1) := by decide +kernel
theorem dX9_isOpenAt_23 : decode cX9_isOpenAt 23 = .ok (.invokevirtual 213, 3) := by decide +kernel
theorem dX9_isOpenAt_26 : decode cX9_isOpenAt 26 = .ok (.ifCond .ne 7, 3) := by decide +kernel
theorem dX9_isOpenAt_29 : decode cX9_isOpenAt 29 = .ok (.iconst 1, 1) := by decide +kernel
theorem dX9_isOpenAt_30 : decode cX9_isOpenAt 30 = .ok (.goto 4, 3) := by decide +kernel
theorem dX9_isOpenAt_33 : decode cX9_isOpenAt 33 = .ok (.iconst 0, 1) := by decide +kernel
theorem dX9_isOpenAt_34 : decode cX9_isOpenAt 34 = .ok (.ireturn, 1) := by decide +kernel
theorem dX9_openMany_0 : decode cX9_openMany 0 = .ok (.iconst 0, 1) := by decide +kernel
theorem dX9_openMany_1 : decode cX9_openMany 1 = .ok (.istore_n 1, 1) := by decide +kernel
theorem dX9_openMany_2 : decode cX9_openMany 2 = .ok (.iconst 0, 1) := by decide +kernel
theorem dX9_openMany_3 : decode cX9_openMany 3 = .ok (.istore_n 2, 1) := by decide +kernel
theorem dX9_openMany_4 : decode cX9_openMany 4 = .ok (.iload_n 2, 1) := by decide +kernel
theorem dX9_openMany_5 : decode cX9_openMany 5 = .ok (.aload_n 0, 1) := by decide +kernel
theorem dX9_openMany_6 : decode cX9_openMany 6 = .ok (.getfield 74, 3) := by decide +kernel
theorem dX9_openMany_9 : decode cX9_openMany 9 = .ok (.iconst 3, 1) := by decide +kernel
theorem dX9_openMany_10 : decode cX9_openMany 10 = .ok (.iaload, 1) := by decide +kernel
theorem dX9_openMany_11 : decode cX9_openMany 11 = .ok (.if_icmp .ge 21, 3) := by decide +kernel
theorem dX9_openMany_14 : decode cX9_openMany 14 = .ok (.aload_n 0, 1) := by decide +kernel
theorem dX9_openMany_15 : decode cX9_openMany 15 = .ok (.iload_n 2, 1) := by decide +kernel
theorem dX9_openMany_16 : decode cX9_openMany 16 = .ok (.iconst 5, 1) := by decide +kernel
theorem dX9_openMany_17 : decode cX9_openMany 17 = .ok (.invokevirtual 213, 3) := by decide +kernel
theorem dX9_openMany_20 : decode cX9_openMany 20 = .ok (.ifCond .ne 6, 3) := by decide +kernel
theorem dX9_openMany_23 : decode cX9_openMany 23 = .ok (.iinc 1 1, 3) := by decide +kernel
theorem dX9_openMany_26 : decode cX9_openMany 26 = .ok (.iinc 2 1, 3) := by decide +kernel
theorem dX9_openMany_29 : decode cX9_openMany 29 = .ok (.goto (-25), 3) := by decide +kernel
theorem dX9_openMany_32 : decode cX9_openMany 32 = .ok (.iload_n 1, 1) := by decide +kernel
theorem dX9_openMany_33 : decode cX9_openMany 33 = .ok (.ireturn, 1) := by decide +kernel
theorem dX9_count_0 : decode cX9_count 0 = .ok (.aload_n 0, 1) := by decide +kernel
theorem dX9_count_1 : decode cX9_count 1 = .ok (.iconst 0, 1) := by decide +kernel
theorem dX9_count_2 : decode cX9_count 2 = .ok (.putfield 1, 3) := by decide +kernel
theorem dX9_count_5 : decode cX9_count 5 = .ok (.aload_n 0, 1) := by decide +kernel
theorem dX9_count_6 : decode cX9_count 6 = .ok (.iload_n 1, 1) := by decide +kernel
theorem dX9_count_7 : decode cX9_count 7 = .ok (.invokevirtual 219, 3) := by decide +kernel
theorem dX9_count_10 : decode cX9_count 10 = .ok (.ifCond .eq 13, 3) := by decide +kernel
theorem dX9_count_13 : decode cX9_count 13 = .ok (.iload_n 2, 1) := by decide +kernel
theorem dX9_count_14 : decode cX9_count 14 = .ok (.iconst 0, 1) := by decide +kernel
theorem dX9_count_15 : decode cX9_count 15 = .ok (.bipush 6, 2) := by decide +kernel
theorem dX9_count_17 : decode cX9_count 17 = .ok (.invokestatic 92, 3) := by decide +kernel
theorem dX9_count_20 : decode cX9_count 20 = .ok (.ifCond .ne 8, 3) := by decide +kernel
theorem dX9_count_23 : decode cX9_count 23 = .ok (.aload_n 0, 1) := by decide +kernel
theorem dX9_count_24 : decode cX9_count 24 = .ok (.invokevirtual 197, 3) := by decide +kernel
theorem dX9_count_27 : decode cX9_count 27 = .ok (.ireturn, 1) := by decide +kernel
theorem dX9_count_28 : decode cX9_count 28 = .ok (.iload_n 2, 1) := by decide +kernel
theorem dX9_count_29 : decode cX9_count 29 = .ok (.bipush 6, 2) := by decide +kernel
theorem dX9_count_31 : decode cX9_count 31 = .ok (.if_icmp .ge 12, 3) := by decide +kernel
theorem dX9_count_34 : decode cX9_count 34 = .ok (.aload_n 0, 1) := by decide +kernel
theorem dX9_count_35 : decode cX9_count 35 = .ok (.iload_n 1, 1) := by decide +kernel
theorem dX9_count_36 : decode cX9_count 36 = .ok (.iload_n 2, 1) := by decide +kernel
theorem dX9_count_37 : decode cX9_count 37 = .ok (.invokevirtual 213, 3) := by decide +kernel
theorem dX9_count_40 : decode cX9_count 40 = .ok (.goto 8, 3) := by decide +kernel
theorem dX9_count_43 : decode cX9_count 43 = .ok (.aload_n 0, 1) := by decide +kernel
theorem dX9_count_44 : decode cX9_count 44 = .ok (.iload_n 1, 1) := by decide +kernel
theorem dX9_count_45 : decode cX9_count 45 = .ok (.invokevirtual 222, 3) := by decide +kernel
theorem dX9_count_48 : decode cX9_count 48 = .ok (.ireturn, 1) := by decide +kernel
theorem dX9_difference_0 : decode cX9_difference 0 = .ok (.aload_n 0, 1) := by decide +kernel
theorem dX9_difference_1 : decode cX9_difference 1 = .ok (.iconst 0, 1) := by decide +kernel
theorem dX9_difference_2 : decode cX9_difference 2 = .ok (.putfield 1, 3) := by decide +kernel
theorem dX9_difference_5 : decode cX9_difference 5 = .ok (.aload_n 0, 1) := by decide +kernel
theorem dX9_difference_6 : decode cX9_difference 6 = .ok (.iload_n 1, 1) := by decide +kernel
theorem dX9_difference_7 : decode cX9_difference 7 = .ok (.invokevirtual 219, 3) := by decide +kernel
theorem dX9_difference_10 : decode cX9_difference 10 = .ok (.ifCond .eq 11, 3) := by decide +kernel
theorem dX9_difference_13 : decode cX9_difference 13 = .ok (.aload_n 0, 1) := by decide +kernel
theorem dX9_difference_14 : decode cX9_difference 14 = .ok (.iload_n 1, 1) := by decide +kernel
theorem dX9_difference_15 : decode cX9_difference 15 = .ok (.invokevirtual 225, 3) := by decide +kernel
theorem dX9_difference_18 : decode cX9_difference 18 = .ok (.goto 5, 3) := by decide +kernel
theorem dX9_difference_21 : decode cX9_difference 21 = .ok (.ldc 206, 2) := by decide +kernel
theorem dX9_difference_23 : decode cX9_difference 23 = .ok (.ireturn, 1) := by decide +kernel
theorem dX9_share_0 : decode cX9_share 0 = .ok (.aload_n 0, 1) := by decide +kernel
theorem dX9_share_1 : decode cX9_share 1 = .ok (.iconst 0, 1) := by decide +kernel
theorem dX9_share_2 : decode cX9_share 2 = .ok (.putfield 1, 3) := by decide +kernel
theorem dX9_share_5 : decode cX9_share 5 = .ok (.aload_n 0, 1) := by decide +kernel
theorem dX9_share_6 : decode cX9_share 6 = .ok (.iload_n 1, 1) := by decide +kernel
theorem dX9_share_7 : decode cX9_share 7 = .ok (.invokevirtual 219, 3) := by decide +kernel
theorem dX9_share_10 : decode cX9_share 10 = .ok (.ifCond .ne 6, 3) := by decide +kernel
theorem dX9_share_13 : decode cX9_share 13 = .ok (.ldc 206, 2) := by decide +kernel
theorem dX9_share_15 : decode cX9_share 15 = .ok (.ireturn, 1) := by decide +kernel
theorem dX9_share_16 : decode cX9_share 16 = .ok (.aload_n 0, 1) := by decide +kernel
theorem dX9_share_17 : decode cX9_share 17 = .ok (.iload_n 1, 1) := by decide +kernel
theorem dX9_share_18 : decode cX9_share 18 = .ok (.invokevirtual 216, 3) := by decide +kernel
theorem dX9_share_21 : decode cX9_share 21 = .ok (.istore_n 2, 1) := by decide +kernel
theorem dX9_share_22 : decode cX9_share 22 = .ok (.iload_n 2, 1) := by decide +kernel
theorem dX9_share_23 : decode cX9_share 23 = .ok (.ifCond .ne 7, 3) := by decide +kernel
theorem dX9_share_26 : decode cX9_share 26 = .ok (.iconst 0, 1) := by decide +kernel
theorem dX9_share_27 : decode cX9_share 27 = .ok (.goto 16, 3) := by decide +kernel
theorem dX9_share_30 : decode cX9_share 30 = .ok (.ldc 228, 2) := by decide +kernel
theorem dX9_share_32 : decode cX9_share 32 = .ok (.aload_n 0, 1) := by decide +kernel
theorem dX9_share_33 : decode cX9_share 33 = .ok (.iload_n 1, 1) := by decide +kernel
theorem dX9_share_34 : decode cX9_share 34 = .ok (.invokevirtual 225, 3) := by decide +kernel
theorem dX9_share_37 : decode cX9_share 37 = .ok (.i2f, 1) := by decide +kernel
theorem dX9_share_38 : decode cX9_share 38 = .ok (.fmul, 1) := by decide +kernel
theorem dX9_share_39 : decode cX9_share 39 = .ok (.iload_n 2, 1) := by decide +kernel
theorem dX9_share_40 : decode cX9_share 40 = .ok (.i2f, 1) := by decide +kernel
theorem dX9_share_41 : decode cX9_share 41 = .ok (.fdiv, 1) := by decide +kernel
theorem dX9_share_42 : decode cX9_share 42 = .ok (.f2i, 1) := by decide +kernel
theorem dX9_share_43 : decode cX9_share 43 = .ok (.ireturn, 1) := by decide +kernel
theorem dX9_laysOpen_0 : decode cX9_laysOpen 0 = .ok (.aload_n 0, 1) := by decide +kernel
theorem dX9_laysOpen_1 : decode cX9_laysOpen 1 = .ok (.iconst 0, 1) := by decide +kernel
theorem dX9_laysOpen_2 : decode cX9_laysOpen 2 = .ok (.putfield 229, 3) := by decide +kernel
theorem dX9_laysOpen_5 : decode cX9_laysOpen 5 = .ok (.iconst 0, 1) := by decide +kernel
theorem dX9_laysOpen_6 : decode cX9_laysOpen 6 = .ok (.istore_n 3, 1) := by decide +kernel
theorem dX9_laysOpen_7 : decode cX9_laysOpen 7 = .ok (.iload_n 3, 1) := by decide +kernel
theorem dX9_laysOpen_8 : decode cX9_laysOpen 8 = .ok (.aload_n 0, 1) := by decide +kernel
theorem dX9_laysOpen_9 : decode cX9_laysOpen 9 = .ok (.getfield 74, 3) := by decide +kernel
theorem dX9_laysOpen_12 : decode cX9_laysOpen 12 = .ok (.iconst 3, 1) := by decide +kernel
theorem dX9_laysOpen_13 : decode cX9_laysOpen 13 = .ok (.iaload, 1) := by decide +kernel
theorem dX9_laysOpen_14 : decode cX9_laysOpen 14 = .ok (.if_icmp .ge 96, 3) := by decide +kernel
theorem dX9_laysOpen_17 : decode cX9_laysOpen 17 = .ok (.aload_n 0, 1) := by decide +kernel
theorem dX9_laysOpen_18 : decode cX9_laysOpen 18 = .ok (.iload_n 3, 1) := by decide +kernel
theorem dX9_laysOpen_19 : decode cX9_laysOpen 19 = .ok (.iload_n 1, 1) := by decide +kernel
theorem dX9_laysOpen_20 : decode cX9_laysOpen 20 = .ok (.iload_n 2, 1) := by decide +kernel
theorem dX9_laysOpen_21 : decode cX9_laysOpen 21 = .ok (.invokevirtual 232, 3) := by decide +kernel
theorem dX9_laysOpen_24 : decode cX9_laysOpen 24 = .ok (.ifCond .ne 6, 3) := by decide +kernel
theorem dX9_laysOpen_27 : decode cX9_laysOpen 27 = .ok (.goto 77, 3) := by decide +kernel
theorem dX9_laysOpen_30 : decode cX9_laysOpen 30 = .ok (.aload_n 0, 1) := by decide +kernel
theorem dX9_laysOpen_31 : decode cX9_laysOpen 31 = .ok (.getfield 229, 3) := by decide +kernel
theorem dX9_laysOpen_34 : decode cX9_laysOpen 34 = .ok (.istore 4, 2) := by decide +kernel
theorem dX9_laysOpen_36 : decode cX9_laysOpen 36 = .ok (.iload 4, 2) := by decide +kernel
theorem dX9_laysOpen_38 : decode cX9_laysOpen 38 = .ok (.ifCond .le 48, 3) := by decide +kernel
theorem dX9_laysOpen_41 : decode cX9_laysOpen 41 = .ok (.aload_n 0, 1) := by decide +kernel
theorem dX9_laysOpen_42 : decode cX9_laysOpen 42 = .ok (.aload_n 0, 1) := by decide +kernel
theorem dX9_laysOpen_43 : decode cX9_laysOpen 43 = .ok (.getfield 83, 3) := by decide +kernel
theorem dX9_laysOpen_46 : decode cX9_laysOpen 46 = .ok (.iload 4, 2) := by decide +kernel
theorem dX9_laysOpen_48 : decode cX9_laysOpen 48 = .ok (.iconst 1, 1) := by decide +kernel
theorem dX9_laysOpen_49 : decode cX9_laysOpen 49 = .ok (.isub, 1) := by decide +kernel
theorem dX9_laysOpen_50 : decode cX9_laysOpen 50 = .ok (.iaload, 1) := by decide +kernel
theorem dX9_laysOpen_51 : decode cX9_laysOpen 51 = .ok (.iconst 2, 1) := by decide +kernel
theorem dX9_laysOpen_52 : decode cX9_laysOpen 52 = .ok (.invokevirtual 213, 3) := by decide +kernel
theorem dX9_laysOpen_55 : decode cX9_laysOpen 55 = .ok (.aload_n 0, 1) := by decide +kernel
theorem dX9_laysOpen_56 : decode cX9_laysOpen 56 = .ok (.iload_n 3, 1) := by decide +kernel
theorem dX9_laysOpen_57 : decode cX9_laysOpen 57 = .ok (.iconst 2, 1) := by decide +kernel
theorem dX9_laysOpen_58 : decode cX9_laysOpen 58 = .ok (.invokevirtual 213, 3) := by decide +kernel
theorem dX9_laysOpen_61 : decode cX9_laysOpen 61 = .ok (.if_icmp .le 25, 3) := by decide +kernel
theorem dX9_laysOpen_64 : decode cX9_laysOpen 64 = .ok (.aload_n 0, 1) := by decide +kernel
theorem dX9_laysOpen_65 : decode cX9_laysOpen 65 = .ok (.getfield 83, 3) := by decide +kernel
theorem dX9_laysOpen_68 : decode cX9_laysOpen 68 = .ok (.iload 4, 2) := by decide +kernel
theorem dX9_laysOpen_70 : decode cX9_laysOpen 70 = .ok (.aload_n 0, 1) := by decide +kernel
theorem dX9_laysOpen_71 : decode cX9_laysOpen 71 = .ok (.getfield 83, 3) := by decide +kernel
theorem dX9_laysOpen_74 : decode cX9_laysOpen 74 = .ok (.iload 4, 2) := by decide +kernel
theorem dX9_laysOpen_76 : decode cX9_laysOpen 76 = .ok (.iconst 1, 1) := by decide +kernel
theorem dX9_laysOpen_77 : decode cX9_laysOpen 77 = .ok (.isub, 1) := by decide +kernel
theorem dX9_laysOpen_78 : decode cX9_laysOpen 78 = .ok (.iaload, 1) := by decide +kernel
theorem dX9_laysOpen_79 : decode cX9_laysOpen 79 = .ok (.iastore, 1) := by decide +kernel
theorem dX9_laysOpen_80 : decode cX9_laysOpen 80 = .ok (.iinc 4 (-1), 3) := by decide +kernel
theorem dX9_laysOpen_83 : decode cX9_laysOpen 83 = .ok (.goto (-47), 3) := by decide +kernel
theorem dX9_laysOpen_86 : decode cX9_laysOpen 86 = .ok (.aload_n 0, 1) := by decide +kernel
theorem dX9_laysOpen_87 : decode cX9_laysOpen 87 = .ok (.getfield 83, 3) := by decide +kernel
theorem dX9_laysOpen_90 : decode cX9_laysOpen 90 = .ok (.iload 4, 2) := by decide +kernel
theorem dX9_laysOpen_92 : decode cX9_laysOpen 92 = .ok (.iload_n 3, 1) := by decide +kernel
theorem dX9_laysOpen_93 : decode cX9_laysOpen 93 = .ok (.iastore, 1) := by decide +kernel
theorem dX9_laysOpen_94 : decode cX9_laysOpen 94 = .ok (.aload_n 0, 1) := by decide +kernel
theorem dX9_laysOpen_95 : decode cX9_laysOpen 95 = .ok (.dup, 1) := by decide +kernel
theorem dX9_laysOpen_96 : decode cX9_laysOpen 96 = .ok (.getfield 229, 3) := by decide +kernel
theorem dX9_laysOpen_99 : decode cX9_laysOpen 99 = .ok (.iconst 1, 1) := by decide +kernel
theorem dX9_laysOpen_100 : decode cX9_laysOpen 100 = .ok (.iadd, 1) := by decide +kernel
theorem dX9_laysOpen_101 : decode cX9_laysOpen 101 = .ok (.putfield 229, 3) := by decide +kernel
theorem dX9_laysOpen_104 : decode cX9_laysOpen 104 = .ok (.iinc 3 1, 3) := by decide +kernel
theorem dX9_laysOpen_107 : decode cX9_laysOpen 107 = .ok (.goto (-100), 3) := by decide +kernel
theorem dX9_laysOpen_110 : decode cX9_laysOpen 110 = .ok (.return_, 1) := by decide +kernel
theorem dX9_far_0 : decode cX9_far 0 = .ok (.iload_n 0, 1) := by decide +kernel
theorem dX9_far_1 : decode cX9_far 1 = .ok (.iload_n 1, 1) := by decide +kernel
theorem dX9_far_2 : decode cX9_far 2 = .ok (.if_icmp .ge 9, 3) := by decide +kernel
theorem dX9_far_5 : decode cX9_far 5 = .ok (.iload_n 1, 1) := by decide +kernel
theorem dX9_far_6 : decode cX9_far 6 = .ok (.iload_n 0, 1) := by decide +kernel
theorem dX9_far_7 : decode cX9_far 7 = .ok (.isub, 1) := by decide +kernel
theorem dX9_far_8 : decode cX9_far 8 = .ok (.goto 6, 3) := by decide +kernel
theorem dX9_far_11 : decode cX9_far 11 = .ok (.iload_n 0, 1) := by decide +kernel
theorem dX9_far_12 : decode cX9_far 12 = .ok (.iload_n 1, 1) := by decide +kernel
theorem dX9_far_13 : decode cX9_far 13 = .ok (.isub, 1) := by decide +kernel
theorem dX9_far_14 : decode cX9_far 14 = .ok (.ireturn, 1) := by decide +kernel
theorem dX9_choose_0 : decode cX9_choose 0 = .ok (.aload_n 0, 1) := by decide +kernel
theorem dX9_choose_1 : decode cX9_choose 1 = .ok (.iload_n 1, 1) := by decide +kernel
theorem dX9_choose_2 : decode cX9_choose 2 = .ok (.iload_n 2, 1) := by decide +kernel
theorem dX9_choose_3 : decode cX9_choose 3 = .ok (.invokevirtual 235, 3) := by decide +kernel
theorem dX9_choose_6 : decode cX9_choose 6 = .ok (.aload_n 0, 1) := by decide +kernel
theorem dX9_choose_7 : decode cX9_choose 7 = .ok (.getfield 229, 3) := by decide +kernel
theorem dX9_choose_10 : decode cX9_choose 10 = .ok (.ifCond .ne 5, 3) := by decide +kernel
theorem dX9_choose_13 : decode cX9_choose 13 = .ok (.iconst (-1), 1) := by decide +kernel
theorem dX9_choose_14 : decode cX9_choose 14 = .ok (.ireturn, 1) := by decide +kernel
theorem dX9_choose_15 : decode cX9_choose 15 = .ok (.aload_n 0, 1) := by decide +kernel
theorem dX9_choose_16 : decode cX9_choose 16 = .ok (.aload_n 0, 1) := by decide +kernel
theorem dX9_choose_17 : decode cX9_choose 17 = .ok (.getfield 83, 3) := by decide +kernel
theorem dX9_choose_20 : decode cX9_choose 20 = .ok (.iconst 0, 1) := by decide +kernel
theorem dX9_choose_21 : decode cX9_choose 21 = .ok (.iaload, 1) := by decide +kernel
theorem dX9_choose_22 : decode cX9_choose 22 = .ok (.invokevirtual 225, 3) := by decide +kernel
theorem dX9_choose_25 : decode cX9_choose 25 = .ok (.iconst 0, 1) := by decide +kernel
theorem dX9_choose_26 : decode cX9_choose 26 = .ok (.invokestatic 239, 3) := by decide +kernel
theorem dX9_choose_29 : decode cX9_choose 29 = .ok (.aload_n 0, 1) := by decide +kernel
theorem dX9_choose_30 : decode cX9_choose 30 = .ok (.aload_n 0, 1) := by decide +kernel
theorem dX9_choose_31 : decode cX9_choose 31 = .ok (.getfield 83, 3) := by decide +kernel
theorem dX9_choose_34 : decode cX9_choose 34 = .ok (.iconst 0, 1) := by decide +kernel
theorem dX9_choose_35 : decode cX9_choose 35 = .ok (.iaload, 1) := by decide +kernel
theorem dX9_choose_36 : decode cX9_choose 36 = .ok (.invokevirtual 222, 3) := by decide +kernel
theorem dX9_choose_39 : decode cX9_choose 39 = .ok (.if_icmp .gt 10, 3) := by decide +kernel
theorem dX9_choose_42 : decode cX9_choose 42 = .ok (.aload_n 0, 1) := by decide +kernel
theorem dX9_choose_43 : decode cX9_choose 43 = .ok (.getfield 83, 3) := by decide +kernel
theorem dX9_choose_46 : decode cX9_choose 46 = .ok (.iconst 0, 1) := by decide +kernel
theorem dX9_choose_47 : decode cX9_choose 47 = .ok (.iaload, 1) := by decide +kernel
theorem dX9_choose_48 : decode cX9_choose 48 = .ok (.ireturn, 1) := by decide +kernel
theorem dX9_choose_49 : decode cX9_choose 49 = .ok (.aload_n 0, 1) := by decide +kernel
theorem dX9_choose_50 : decode cX9_choose 50 = .ok (.getfield 229, 3) := by decide +kernel
theorem dX9_choose_53 : decode cX9_choose 53 = .ok (.iconst 1, 1) := by decide +kernel
theorem dX9_choose_54 : decode cX9_choose 54 = .ok (.if_icmp .ne 6, 3) := by decide +kernel
theorem dX9_choose_57 : decode cX9_choose 57 = .ok (.bipush (-2), 2) := by decide +kernel
theorem dX9_choose_59 : decode cX9_choose 59 = .ok (.ireturn, 1) := by decide +kernel
theorem dX9_choose_60 : decode cX9_choose 60 = .ok (.aload_n 0, 1) := by decide +kernel
theorem dX9_choose_61 : decode cX9_choose 61 = .ok (.getfield 229, 3) := by decide +kernel
theorem dX9_choose_64 : decode cX9_choose 64 = .ok (.iconst 2, 1) := by decide +kernel
theorem dX9_choose_65 : decode cX9_choose 65 = .ok (.if_icmp .ne 51, 3) := by decide +kernel
theorem dX9_choose_68 : decode cX9_choose 68 = .ok (.aload_n 0, 1) := by decide +kernel
theorem dX9_choose_69 : decode cX9_choose 69 = .ok (.aload_n 0, 1) := by decide +kernel
theorem dX9_choose_70 : decode cX9_choose 70 = .ok (.getfield 83, 3) := by decide +kernel
theorem dX9_choose_73 : decode cX9_choose 73 = .ok (.iconst 0, 1) := by decide +kernel
theorem dX9_choose_74 : decode cX9_choose 74 = .ok (.iaload, 1) := by decide +kernel
theorem dX9_choose_75 : decode cX9_choose 75 = .ok (.invokevirtual 225, 3) := by decide +kernel
theorem dX9_choose_78 : decode cX9_choose 78 = .ok (.aload_n 0, 1) := by decide +kernel
theorem dX9_choose_79 : decode cX9_choose 79 = .ok (.aload_n 0, 1) := by decide +kernel
theorem dX9_choose_80 : decode cX9_choose 80 = .ok (.getfield 83, 3) := by decide +kernel
theorem dX9_choose_83 : decode cX9_choose 83 = .ok (.iconst 1, 1) := by decide +kernel
theorem dX9_choose_84 : decode cX9_choose 84 = .ok (.iaload, 1) := by decide +kernel
theorem dX9_choose_85 : decode cX9_choose 85 = .ok (.invokevirtual 225, 3) := by decide +kernel
theorem dX9_choose_88 : decode cX9_choose 88 = .ok (.invokestatic 239, 3) := by decide +kernel
theorem dX9_choose_91 : decode cX9_choose 91 = .ok (.aload_n 0, 1) := by decide +kernel
theorem dX9_choose_92 : decode cX9_choose 92 = .ok (.aload_n 0, 1) := by decide +kernel
theorem dX9_choose_93 : decode cX9_choose 93 = .ok (.getfield 83, 3) := by decide +kernel
theorem dX9_choose_96 : decode cX9_choose 96 = .ok (.iconst 1, 1) := by decide +kernel
theorem dX9_choose_97 : decode cX9_choose 97 = .ok (.iaload, 1) := by decide +kernel
theorem dX9_choose_98 : decode cX9_choose 98 = .ok (.invokevirtual 222, 3) := by decide +kernel
theorem dX9_choose_101 : decode cX9_choose 101 = .ok (.if_icmp .gt 12, 3) := by decide +kernel
theorem dX9_choose_104 : decode cX9_choose 104 = .ok (.aload_n 0, 1) := by decide +kernel
theorem dX9_choose_105 : decode cX9_choose 105 = .ok (.getfield 83, 3) := by decide +kernel
theorem dX9_choose_108 : decode cX9_choose 108 = .ok (.iconst 1, 1) := by decide +kernel
theorem dX9_choose_109 : decode cX9_choose 109 = .ok (.iaload, 1) := by decide +kernel
theorem dX9_choose_110 : decode cX9_choose 110 = .ok (.goto 5, 3) := by decide +kernel
theorem dX9_choose_113 : decode cX9_choose 113 = .ok (.bipush (-2), 2) := by decide +kernel
theorem dX9_choose_115 : decode cX9_choose 115 = .ok (.ireturn, 1) := by decide +kernel
theorem dX9_choose_116 : decode cX9_choose 116 = .ok (.aload_n 0, 1) := by decide +kernel
theorem dX9_choose_117 : decode cX9_choose 117 = .ok (.aload_n 0, 1) := by decide +kernel
theorem dX9_choose_118 : decode cX9_choose 118 = .ok (.getfield 83, 3) := by decide +kernel
theorem dX9_choose_121 : decode cX9_choose 121 = .ok (.aload_n 0, 1) := by decide +kernel
theorem dX9_choose_122 : decode cX9_choose 122 = .ok (.getfield 229, 3) := by decide +kernel
theorem dX9_choose_125 : decode cX9_choose 125 = .ok (.iconst 3, 1) := by decide +kernel
theorem dX9_choose_126 : decode cX9_choose 126 = .ok (.isub, 1) := by decide +kernel
theorem dX9_choose_127 : decode cX9_choose 127 = .ok (.iaload, 1) := by decide +kernel
theorem dX9_choose_128 : decode cX9_choose 128 = .ok (.invokevirtual 225, 3) := by decide +kernel
theorem dX9_choose_131 : decode cX9_choose 131 = .ok (.istore_n 3, 1) := by decide +kernel
theorem dX9_choose_132 : decode cX9_choose 132 = .ok (.aload_n 0, 1) := by decide +kernel
theorem dX9_choose_133 : decode cX9_choose 133 = .ok (.aload_n 0, 1) := by decide +kernel
theorem dX9_choose_134 : decode cX9_choose 134 = .ok (.getfield 83, 3) := by decide +kernel
theorem dX9_choose_137 : decode cX9_choose 137 = .ok (.aload_n 0, 1) := by decide +kernel
theorem dX9_choose_138 : decode cX9_choose 138 = .ok (.getfield 229, 3) := by decide +kernel
theorem dX9_choose_141 : decode cX9_choose 141 = .ok (.iconst 2, 1) := by decide +kernel
theorem dX9_choose_142 : decode cX9_choose 142 = .ok (.isub, 1) := by decide +kernel
theorem dX9_choose_143 : decode cX9_choose 143 = .ok (.iaload, 1) := by decide +kernel
theorem dX9_choose_144 : decode cX9_choose 144 = .ok (.invokevirtual 225, 3) := by decide +kernel
theorem dX9_choose_147 : decode cX9_choose 147 = .ok (.istore 4, 2) := by decide +kernel
theorem dX9_choose_149 : decode cX9_choose 149 = .ok (.aload_n 0, 1) := by decide +kernel
theorem dX9_choose_150 : decode cX9_choose 150 = .ok (.aload_n 0, 1) := by decide +kernel
theorem dX9_choose_151 : decode cX9_choose 151 = .ok (.getfield 83, 3) := by decide +kernel
theorem dX9_choose_154 : decode cX9_choose 154 = .ok (.aload_n 0, 1) := by decide +kernel
theorem dX9_choose_155 : decode cX9_choose 155 = .ok (.getfield 229, 3) := by decide +kernel
theorem dX9_choose_158 : decode cX9_choose 158 = .ok (.iconst 1, 1) := by decide +kernel
theorem dX9_choose_159 : decode cX9_choose 159 = .ok (.isub, 1) := by decide +kernel
theorem dX9_choose_160 : decode cX9_choose 160 = .ok (.iaload, 1) := by decide +kernel
theorem dX9_choose_161 : decode cX9_choose 161 = .ok (.invokevirtual 225, 3) := by decide +kernel
theorem dX9_choose_164 : decode cX9_choose 164 = .ok (.istore 5, 2) := by decide +kernel
theorem dX9_choose_166 : decode cX9_choose 166 = .ok (.iload_n 3, 1) := by decide +kernel
theorem dX9_choose_167 : decode cX9_choose 167 = .ok (.iload 4, 2) := by decide +kernel
theorem dX9_choose_169 : decode cX9_choose 169 = .ok (.if_icmp .gt 9, 3) := by decide +kernel
theorem dX9_choose_172 : decode cX9_choose 172 = .ok (.iload_n 3, 1) := by decide +kernel
theorem dX9_choose_173 : decode cX9_choose 173 = .ok (.iload 5, 2) := by decide +kernel
theorem dX9_choose_175 : decode cX9_choose 175 = .ok (.if_icmp .ge 15, 3) := by decide +kernel
theorem dX9_choose_178 : decode cX9_choose 178 = .ok (.iload_n 3, 1) := by decide +kernel
theorem dX9_choose_179 : decode cX9_choose 179 = .ok (.iload 4, 2) := by decide +kernel
theorem dX9_choose_181 : decode cX9_choose 181 = .ok (.if_icmp .lt 21, 3) := by decide +kernel
theorem dX9_choose_184 : decode cX9_choose 184 = .ok (.iload_n 3, 1) := by decide +kernel
theorem dX9_choose_185 : decode cX9_choose 185 = .ok (.iload 5, 2) := by decide +kernel
theorem dX9_choose_187 : decode cX9_choose 187 = .ok (.if_icmp .gt 15, 3) := by decide +kernel
theorem dX9_choose_190 : decode cX9_choose 190 = .ok (.aload_n 0, 1) := by decide +kernel
theorem dX9_choose_191 : decode cX9_choose 191 = .ok (.getfield 83, 3) := by decide +kernel
theorem dX9_choose_194 : decode cX9_choose 194 = .ok (.aload_n 0, 1) := by decide +kernel
theorem dX9_choose_195 : decode cX9_choose 195 = .ok (.getfield 229, 3) := by decide +kernel
theorem dX9_choose_198 : decode cX9_choose 198 = .ok (.iconst 3, 1) := by decide +kernel
theorem dX9_choose_199 : decode cX9_choose 199 = .ok (.isub, 1) := by decide +kernel
theorem dX9_choose_200 : decode cX9_choose 200 = .ok (.iaload, 1) := by decide +kernel
theorem dX9_choose_201 : decode cX9_choose 201 = .ok (.ireturn, 1) := by decide +kernel
theorem dX9_choose_202 : decode cX9_choose 202 = .ok (.iload 4, 2) := by decide +kernel
theorem dX9_choose_204 : decode cX9_choose 204 = .ok (.iload_n 3, 1) := by decide +kernel
theorem dX9_choose_205 : decode cX9_choose 205 = .ok (.if_icmp .gt 10, 3) := by decide +kernel
theorem dX9_choose_208 : decode cX9_choose 208 = .ok (.iload 4, 2) := by decide +kernel
theorem dX9_choose_210 : decode cX9_choose 210 = .ok (.iload 5, 2) := by decide +kernel
theorem dX9_choose_212 : decode cX9_choose 212 = .ok (.if_icmp .ge 16, 3) := by decide +kernel
theorem dX9_choose_215 : decode cX9_choose 215 = .ok (.iload 4, 2) := by decide +kernel
theorem dX9_choose_217 : decode cX9_choose 217 = .ok (.iload_n 3, 1) := by decide +kernel
theorem dX9_choose_218 : decode cX9_choose 218 = .ok (.if_icmp .lt 24, 3) := by decide +kernel
theorem dX9_choose_221 : decode cX9_choose 221 = .ok (.iload 4, 2) := by decide +kernel
theorem dX9_choose_223 : decode cX9_choose 223 = .ok (.iload 5, 2) := by decide +kernel
theorem dX9_choose_225 : decode cX9_choose 225 = .ok (.if_icmp .gt 17, 3) := by decide +kernel
theorem dX9_choose_228 : decode cX9_choose 228 = .ok (.aload_n 0, 1) := by decide +kernel
theorem dX9_choose_229 : decode cX9_choose 229 = .ok (.getfield 83, 3) := by decide +kernel
theorem dX9_choose_232 : decode cX9_choose 232 = .ok (.aload_n 0, 1) := by decide +kernel
theorem dX9_choose_233 : decode cX9_choose 233 = .ok (.getfield 229, 3) := by decide +kernel
theorem dX9_choose_236 : decode cX9_choose 236 = .ok (.iconst 2, 1) := by decide +kernel
theorem dX9_choose_237 : decode cX9_choose 237 = .ok (.isub, 1) := by decide +kernel
theorem dX9_choose_238 : decode cX9_choose 238 = .ok (.iaload, 1) := by decide +kernel
theorem dX9_choose_239 : decode cX9_choose 239 = .ok (.goto 14, 3) := by decide +kernel
theorem dX9_choose_242 : decode cX9_choose 242 = .ok (.aload_n 0, 1) := by decide +kernel
theorem dX9_choose_243 : decode cX9_choose 243 = .ok (.getfield 83, 3) := by decide +kernel
theorem dX9_choose_246 : decode cX9_choose 246 = .ok (.aload_n 0, 1) := by decide +kernel
theorem dX9_choose_247 : decode cX9_choose 247 = .ok (.getfield 229, 3) := by decide +kernel
theorem dX9_choose_250 : decode cX9_choose 250 = .ok (.iconst 1, 1) := by decide +kernel
theorem dX9_choose_251 : decode cX9_choose 251 = .ok (.isub, 1) := by decide +kernel
theorem dX9_choose_252 : decode cX9_choose 252 = .ok (.iaload, 1) := by decide +kernel
theorem dX9_choose_253 : decode cX9_choose 253 = .ok (.ireturn, 1) := by decide +kernel
theorem dX9_chosen_0 : decode cX9_chosen 0 = .ok (.aload_n 0, 1) := by decide +kernel
theorem dX9_chosen_1 : decode cX9_chosen 1 = .ok (.iconst 0, 1) := by decide +kernel
theorem dX9_chosen_2 : decode cX9_chosen 2 = .ok (.putfield 1, 3) := by decide +kernel
theorem dX9_chosen_5 : decode cX9_chosen 5 = .ok (.aload_n 0, 1) := by decide +kernel
theorem dX9_chosen_6 : decode cX9_chosen 6 = .ok (.iload_n 1, 1) := by decide +kernel
theorem dX9_chosen_7 : decode cX9_chosen 7 = .ok (.invokevirtual 200, 3) := by decide +kernel
theorem dX9_chosen_10 : decode cX9_chosen 10 = .ok (.ifCond .eq 20, 3) := by decide +kernel
theorem dX9_chosen_13 : decode cX9_chosen 13 = .ok (.aload_n 0, 1) := by decide +kernel
theorem dX9_chosen_14 : decode cX9_chosen 14 = .ok (.iload_n 2, 1) := by decide +kernel
theorem dX9_chosen_15 : decode cX9_chosen 15 = .ok (.invokevirtual 191, 3) := by decide +kernel
theorem dX9_chosen_18 : decode cX9_chosen 18 = .ok (.ifCond .eq 12, 3) := by decide +kernel
theorem dX9_chosen_21 : decode cX9_chosen 21 = .ok (.aload_n 0, 1) := by decide +kernel
theorem dX9_chosen_22 : decode cX9_chosen 22 = .ok (.iload_n 1, 1) := by decide +kernel
theorem dX9_chosen_23 : decode cX9_chosen 23 = .ok (.iload_n 2, 1) := by decide +kernel
theorem dX9_chosen_24 : decode cX9_chosen 24 = .ok (.invokevirtual 242, 3) := by decide +kernel
theorem dX9_chosen_27 : decode cX9_chosen 27 = .ok (.goto 4, 3) := by decide +kernel
theorem dX9_chosen_30 : decode cX9_chosen 30 = .ok (.iconst (-1), 1) := by decide +kernel
theorem dX9_chosen_31 : decode cX9_chosen 31 = .ok (.ireturn, 1) := by decide +kernel
theorem dX9_due_0 : decode cX9_due 0 = .ok (.aload_n 0, 1) := by decide +kernel
theorem dX9_due_1 : decode cX9_due 1 = .ok (.iconst 0, 1) := by decide +kernel
theorem dX9_due_2 : decode cX9_due 2 = .ok (.putfield 1, 3) := by decide +kernel
theorem dX9_due_5 : decode cX9_due 5 = .ok (.iconst 0, 1) := by decide +kernel
theorem dX9_due_6 : decode cX9_due 6 = .ok (.istore_n 1, 1) := by decide +kernel
theorem dX9_due_7 : decode cX9_due 7 = .ok (.iconst 0, 1) := by decide +kernel
theorem dX9_due_8 : decode cX9_due 8 = .ok (.istore_n 2, 1) := by decide +kernel
theorem dX9_due_9 : decode cX9_due 9 = .ok (.iload_n 2, 1) := by decide +kernel
theorem dX9_due_10 : decode cX9_due 10 = .ok (.aload_n 0, 1) := by decide +kernel
theorem dX9_due_11 : decode cX9_due 11 = .ok (.getfield 74, 3) := by decide +kernel
theorem dX9_due_14 : decode cX9_due 14 = .ok (.iconst 0, 1) := by decide +kernel
theorem dX9_due_15 : decode cX9_due 15 = .ok (.iaload, 1) := by decide +kernel
theorem dX9_due_16 : decode cX9_due 16 = .ok (.aload_n 0, 1) := by decide +kernel
theorem dX9_due_17 : decode cX9_due 17 = .ok (.getfield 74, 3) := by decide +kernel
theorem dX9_due_20 : decode cX9_due 20 = .ok (.iconst 1, 1) := by decide +kernel
theorem dX9_due_21 : decode cX9_due 21 = .ok (.iaload, 1) := by decide +kernel
theorem dX9_due_22 : decode cX9_due 22 = .ok (.imul, 1) := by decide +kernel
theorem dX9_due_23 : decode cX9_due 23 = .ok (.if_icmp .ge 37, 3) := by decide +kernel
theorem dX9_due_26 : decode cX9_due 26 = .ok (.aload_n 0, 1) := by decide +kernel
theorem dX9_due_27 : decode cX9_due 27 = .ok (.iload_n 2, 1) := by decide +kernel
theorem dX9_due_28 : decode cX9_due 28 = .ok (.aload_n 0, 1) := by decide +kernel
theorem dX9_due_29 : decode cX9_due 29 = .ok (.getfield 74, 3) := by decide +kernel
theorem dX9_due_32 : decode cX9_due 32 = .ok (.iconst 1, 1) := by decide +kernel
theorem dX9_due_33 : decode cX9_due 33 = .ok (.iaload, 1) := by decide +kernel
theorem dX9_due_34 : decode cX9_due 34 = .ok (.idiv, 1) := by decide +kernel
theorem dX9_due_35 : decode cX9_due 35 = .ok (.iload_n 2, 1) := by decide +kernel
theorem dX9_due_36 : decode cX9_due 36 = .ok (.aload_n 0, 1) := by decide +kernel
theorem dX9_due_37 : decode cX9_due 37 = .ok (.getfield 74, 3) := by decide +kernel
theorem dX9_due_40 : decode cX9_due 40 = .ok (.iconst 1, 1) := by decide +kernel
theorem dX9_due_41 : decode cX9_due 41 = .ok (.iaload, 1) := by decide +kernel
theorem dX9_due_42 : decode cX9_due 42 = .ok (.irem, 1) := by decide +kernel
theorem dX9_due_43 : decode cX9_due 43 = .ok (.invokevirtual 242, 3) := by decide +kernel
theorem dX9_due_46 : decode cX9_due 46 = .ok (.bipush (-2), 2) := by decide +kernel
theorem dX9_due_48 : decode cX9_due 48 = .ok (.if_icmp .ne 6, 3) := by decide +kernel
theorem dX9_due_51 : decode cX9_due 51 = .ok (.iinc 1 1, 3) := by decide +kernel
theorem dX9_due_54 : decode cX9_due 54 = .ok (.iinc 2 1, 3) := by decide +kernel
theorem dX9_due_57 : decode cX9_due 57 = .ok (.goto (-48), 3) := by decide +kernel
theorem dX9_due_60 : decode cX9_due 60 = .ok (.iload_n 1, 1) := by decide +kernel
theorem dX9_due_61 : decode cX9_due 61 = .ok (.ireturn, 1) := by decide +kernel
theorem dX9_explained_0 : decode cX9_explained 0 = .ok (.aload_n 0, 1) := by decide +kernel
theorem dX9_explained_1 : decode cX9_explained 1 = .ok (.iconst 0, 1) := by decide +kernel
theorem dX9_explained_2 : decode cX9_explained 2 = .ok (.putfield 1, 3) := by decide +kernel
theorem dX9_explained_5 : decode cX9_explained 5 = .ok (.aload_n 0, 1) := by decide +kernel
theorem dX9_explained_6 : decode cX9_explained 6 = .ok (.iload_n 1, 1) := by decide +kernel
theorem dX9_explained_7 : decode cX9_explained 7 = .ok (.invokevirtual 219, 3) := by decide +kernel
theorem dX9_explained_10 : decode cX9_explained 10 = .ok (.ifCond .ne 5, 3) := by decide +kernel
theorem dX9_explained_13 : decode cX9_explained 13 = .ok (.iconst (-1), 1) := by decide +kernel
theorem dX9_explained_14 : decode cX9_explained 14 = .ok (.ireturn, 1) := by decide +kernel
theorem dX9_explained_15 : decode cX9_explained 15 = .ok (.iconst 0, 1) := by decide +kernel
theorem dX9_explained_16 : decode cX9_explained 16 = .ok (.istore_n 3, 1) := by decide +kernel
theorem dX9_explained_17 : decode cX9_explained 17 = .ok (.iconst 0, 1) := by decide +kernel
theorem dX9_explained_18 : decode cX9_explained 18 = .ok (.istore 4, 2) := by decide +kernel
theorem dX9_explained_20 : decode cX9_explained 20 = .ok (.iload 4, 2) := by decide +kernel
theorem dX9_explained_22 : decode cX9_explained 22 = .ok (.iconst 2, 1) := by decide +kernel
theorem dX9_explained_23 : decode cX9_explained 23 = .ok (.aload_n 0, 1) := by decide +kernel
theorem dX9_explained_24 : decode cX9_explained 24 = .ok (.getfield 74, 3) := by decide +kernel
theorem dX9_explained_27 : decode cX9_explained 27 = .ok (.iconst 2, 1) := by decide +kernel
theorem dX9_explained_28 : decode cX9_explained 28 = .ok (.iaload, 1) := by decide +kernel
theorem dX9_explained_29 : decode cX9_explained 29 = .ok (.imul, 1) := by decide +kernel
theorem dX9_explained_30 : decode cX9_explained 30 = .ok (.if_icmp .ge 98, 3) := by decide +kernel
theorem dX9_explained_33 : decode cX9_explained 33 = .ok (.aload_n 0, 1) := by decide +kernel
theorem dX9_explained_34 : decode cX9_explained 34 = .ok (.iload 4, 2) := by decide +kernel
theorem dX9_explained_36 : decode cX9_explained 36 = .ok (.iconst 2, 1) := by decide +kernel
theorem dX9_explained_37 : decode cX9_explained 37 = .ok (.idiv, 1) := by decide +kernel
theorem dX9_explained_38 : decode cX9_explained 38 = .ok (.iload 4, 2) := by decide +kernel
theorem dX9_explained_40 : decode cX9_explained 40 = .ok (.iconst 2, 1) := by decide +kernel
theorem dX9_explained_41 : decode cX9_explained 41 = .ok (.irem, 1) := by decide +kernel
theorem dX9_explained_42 : decode cX9_explained 42 = .ok (.aload_n 0, 1) := by decide +kernel
theorem dX9_explained_43 : decode cX9_explained 43 = .ok (.iload_n 1, 1) := by decide +kernel
theorem dX9_explained_44 : decode cX9_explained 44 = .ok (.iconst 0, 1) := by decide +kernel
theorem dX9_explained_45 : decode cX9_explained 45 = .ok (.invokevirtual 213, 3) := by decide +kernel
theorem dX9_explained_48 : decode cX9_explained 48 = .ok (.aload_n 0, 1) := by decide +kernel
theorem dX9_explained_49 : decode cX9_explained 49 = .ok (.iload_n 1, 1) := by decide +kernel
theorem dX9_explained_50 : decode cX9_explained 50 = .ok (.iconst 1, 1) := by decide +kernel
theorem dX9_explained_51 : decode cX9_explained 51 = .ok (.invokevirtual 213, 3) := by decide +kernel
theorem dX9_explained_54 : decode cX9_explained 54 = .ok (.invokevirtual 173, 3) := by decide +kernel
theorem dX9_explained_57 : decode cX9_explained 57 = .ok (.ifCond .eq 65, 3) := by decide +kernel
theorem dX9_explained_60 : decode cX9_explained 60 = .ok (.aload_n 0, 1) := by decide +kernel
theorem dX9_explained_61 : decode cX9_explained 61 = .ok (.iload 4, 2) := by decide +kernel
theorem dX9_explained_63 : decode cX9_explained 63 = .ok (.iconst 2, 1) := by decide +kernel
theorem dX9_explained_64 : decode cX9_explained 64 = .ok (.idiv, 1) := by decide +kernel
theorem dX9_explained_65 : decode cX9_explained 65 = .ok (.iload 4, 2) := by decide +kernel
theorem dX9_explained_67 : decode cX9_explained 67 = .ok (.iconst 2, 1) := by decide +kernel
theorem dX9_explained_68 : decode cX9_explained 68 = .ok (.irem, 1) := by decide +kernel
theorem dX9_explained_69 : decode cX9_explained 69 = .ok (.aload_n 0, 1) := by decide +kernel
theorem dX9_explained_70 : decode cX9_explained 70 = .ok (.iload_n 1, 1) := by decide +kernel
theorem dX9_explained_71 : decode cX9_explained 71 = .ok (.iconst 2, 1) := by decide +kernel
theorem dX9_explained_72 : decode cX9_explained 72 = .ok (.invokevirtual 213, 3) := by decide +kernel
theorem dX9_explained_75 : decode cX9_explained 75 = .ok (.invokevirtual 177, 3) := by decide +kernel
theorem dX9_explained_78 : decode cX9_explained 78 = .ok (.ifCond .ne 6, 3) := by decide +kernel
theorem dX9_explained_81 : decode cX9_explained 81 = .ok (.goto 41, 3) := by decide +kernel
theorem dX9_explained_84 : decode cX9_explained 84 = .ok (.aload_n 0, 1) := by decide +kernel
theorem dX9_explained_85 : decode cX9_explained 85 = .ok (.getfield 86, 3) := by decide +kernel
theorem dX9_explained_88 : decode cX9_explained 88 = .ok (.iload_n 3, 1) := by decide +kernel
theorem dX9_explained_89 : decode cX9_explained 89 = .ok (.iload 4, 2) := by decide +kernel
theorem dX9_explained_91 : decode cX9_explained 91 = .ok (.iconst 2, 1) := by decide +kernel
theorem dX9_explained_92 : decode cX9_explained 92 = .ok (.irem, 1) := by decide +kernel
theorem dX9_explained_93 : decode cX9_explained 93 = .ok (.ifCond .ne 16, 3) := by decide +kernel
theorem dX9_explained_96 : decode cX9_explained 96 = .ok (.aload_n 0, 1) := by decide +kernel
theorem dX9_explained_97 : decode cX9_explained 97 = .ok (.iload 4, 2) := by decide +kernel
theorem dX9_explained_99 : decode cX9_explained 99 = .ok (.iconst 2, 1) := by decide +kernel
theorem dX9_explained_100 : decode cX9_explained 100 = .ok (.idiv, 1) := by decide +kernel
theorem dX9_explained_101 : decode cX9_explained 101 = .ok (.iconst 1, 1) := by decide +kernel
theorem dX9_explained_102 : decode cX9_explained 102 = .ok (.invokevirtual 163, 3) := by decide +kernel
theorem dX9_explained_105 : decode cX9_explained 105 = .ok (.ineg, 1) := by decide +kernel
theorem dX9_explained_106 : decode cX9_explained 106 = .ok (.goto 12, 3) := by decide +kernel
theorem dX9_explained_109 : decode cX9_explained 109 = .ok (.aload_n 0, 1) := by decide +kernel
theorem dX9_explained_110 : decode cX9_explained 110 = .ok (.iload 4, 2) := by decide +kernel
theorem dX9_explained_112 : decode cX9_explained 112 = .ok (.iconst 2, 1) := by decide +kernel
theorem dX9_explained_113 : decode cX9_explained 113 = .ok (.idiv, 1) := by decide +kernel
theorem dX9_explained_114 : decode cX9_explained 114 = .ok (.iconst 1, 1) := by decide +kernel
theorem dX9_explained_115 : decode cX9_explained 115 = .ok (.invokevirtual 163, 3) := by decide +kernel
theorem dX9_explained_118 : decode cX9_explained 118 = .ok (.iastore, 1) := by decide +kernel
theorem dX9_explained_119 : decode cX9_explained 119 = .ok (.iinc 3 1, 3) := by decide +kernel
theorem dX9_explained_122 : decode cX9_explained 122 = .ok (.iinc 4 1, 3) := by decide +kernel
theorem dX9_explained_125 : decode cX9_explained 125 = .ok (.goto (-105), 3) := by decide +kernel
theorem dX9_explained_128 : decode cX9_explained 128 = .ok (.iload_n 3, 1) := by decide +kernel
theorem dX9_explained_129 : decode cX9_explained 129 = .ok (.bipush 10, 2) := by decide +kernel
theorem dX9_explained_131 : decode cX9_explained 131 = .ok (.if_icmp .le 6, 3) := by decide +kernel
theorem dX9_explained_134 : decode cX9_explained 134 = .ok (.bipush (-2), 2) := by decide +kernel
theorem dX9_explained_136 : decode cX9_explained 136 = .ok (.ireturn, 1) := by decide +kernel
theorem dX9_explained_137 : decode cX9_explained 137 = .ok (.iconst 0, 1) := by decide +kernel
theorem dX9_explained_138 : decode cX9_explained 138 = .ok (.istore 4, 2) := by decide +kernel
theorem dX9_explained_140 : decode cX9_explained 140 = .ok (.aload_n 0, 1) := by decide +kernel
theorem dX9_explained_141 : decode cX9_explained 141 = .ok (.iload_n 1, 1) := by decide +kernel
theorem dX9_explained_142 : decode cX9_explained 142 = .ok (.iconst 3, 1) := by decide +kernel
theorem dX9_explained_143 : decode cX9_explained 143 = .ok (.invokevirtual 213, 3) := by decide +kernel
theorem dX9_explained_146 : decode cX9_explained 146 = .ok (.aload_n 0, 1) := by decide +kernel
theorem dX9_explained_147 : decode cX9_explained 147 = .ok (.iload_n 1, 1) := by decide +kernel
theorem dX9_explained_148 : decode cX9_explained 148 = .ok (.invokevirtual 216, 3) := by decide +kernel
theorem dX9_explained_151 : decode cX9_explained 151 = .ok (.isub, 1) := by decide +kernel
theorem dX9_explained_152 : decode cX9_explained 152 = .ok (.istore 5, 2) := by decide +kernel
theorem dX9_explained_154 : decode cX9_explained 154 = .ok (.iconst 0, 1) := by decide +kernel
theorem dX9_explained_155 : decode cX9_explained 155 = .ok (.istore 6, 2) := by decide +kernel
theorem dX9_explained_157 : decode cX9_explained 157 = .ok (.iload 6, 2) := by decide +kernel
theorem dX9_explained_159 : decode cX9_explained 159 = .ok (.iconst 1, 1) := by decide +kernel
theorem dX9_explained_160 : decode cX9_explained 160 = .ok (.iload_n 3, 1) := by decide +kernel
theorem dX9_explained_161 : decode cX9_explained 161 = .ok (.ishl, 1) := by decide +kernel
theorem dX9_explained_162 : decode cX9_explained 162 = .ok (.if_icmp .ge 72, 3) := by decide +kernel
theorem dX9_explained_165 : decode cX9_explained 165 = .ok (.iconst 0, 1) := by decide +kernel
theorem dX9_explained_166 : decode cX9_explained 166 = .ok (.istore 7, 2) := by decide +kernel
theorem dX9_explained_168 : decode cX9_explained 168 = .ok (.iconst 0, 1) := by decide +kernel
theorem dX9_explained_169 : decode cX9_explained 169 = .ok (.istore 8, 2) := by decide +kernel
theorem dX9_explained_171 : decode cX9_explained 171 = .ok (.iload 8, 2) := by decide +kernel
theorem dX9_explained_173 : decode cX9_explained 173 = .ok (.iload_n 3, 1) := by decide +kernel
theorem dX9_explained_174 : decode cX9_explained 174 = .ok (.if_icmp .ge 32, 3) := by decide +kernel
theorem dX9_explained_177 : decode cX9_explained 177 = .ok (.iload 6, 2) := by decide +kernel
theorem dX9_explained_179 : decode cX9_explained 179 = .ok (.iload 8, 2) := by decide +kernel
theorem dX9_explained_181 : decode cX9_explained 181 = .ok (.ishr, 1) := by decide +kernel
theorem dX9_explained_182 : decode cX9_explained 182 = .ok (.iconst 1, 1) := by decide +kernel
theorem dX9_explained_183 : decode cX9_explained 183 = .ok (.iand, 1) := by decide +kernel
theorem dX9_explained_184 : decode cX9_explained 184 = .ok (.iconst 1, 1) := by decide +kernel
theorem dX9_explained_185 : decode cX9_explained 185 = .ok (.if_icmp .ne 15, 3) := by decide +kernel
theorem dX9_explained_188 : decode cX9_explained 188 = .ok (.iload 7, 2) := by decide +kernel
theorem dX9_explained_190 : decode cX9_explained 190 = .ok (.aload_n 0, 1) := by decide +kernel
theorem dX9_explained_191 : decode cX9_explained 191 = .ok (.getfield 86, 3) := by decide +kernel
theorem dX9_explained_194 : decode cX9_explained 194 = .ok (.iload 8, 2) := by decide +kernel
theorem dX9_explained_196 : decode cX9_explained 196 = .ok (.iaload, 1) := by decide +kernel
theorem dX9_explained_197 : decode cX9_explained 197 = .ok (.iadd, 1) := by decide +kernel
theorem dX9_explained_198 : decode cX9_explained 198 = .ok (.istore 7, 2) := by decide +kernel
theorem dX9_explained_200 : decode cX9_explained 200 = .ok (.iinc 8 1, 3) := by decide +kernel
theorem dX9_explained_203 : decode cX9_explained 203 = .ok (.goto (-32), 3) := by decide +kernel
theorem dX9_explained_206 : decode cX9_explained 206 = .ok (.iload 7, 2) := by decide +kernel
theorem dX9_explained_208 : decode cX9_explained 208 = .ok (.iload 5, 2) := by decide +kernel
theorem dX9_explained_210 : decode cX9_explained 210 = .ok (.if_icmp .eq 6, 3) := by decide +kernel
theorem dX9_explained_213 : decode cX9_explained 213 = .ok (.goto 15, 3) := by decide +kernel
theorem dX9_explained_216 : decode cX9_explained 216 = .ok (.iload 4, 2) := by decide +kernel
theorem dX9_explained_218 : decode cX9_explained 218 = .ok (.iload_n 2, 1) := by decide +kernel
theorem dX9_explained_219 : decode cX9_explained 219 = .ok (.if_icmp .ne 6, 3) := by decide +kernel
theorem dX9_explained_222 : decode cX9_explained 222 = .ok (.iload 6, 2) := by decide +kernel
theorem dX9_explained_224 : decode cX9_explained 224 = .ok (.ireturn, 1) := by decide +kernel
theorem dX9_explained_225 : decode cX9_explained 225 = .ok (.iinc 4 1, 3) := by decide +kernel
theorem dX9_explained_228 : decode cX9_explained 228 = .ok (.iinc 6 1, 3) := by decide +kernel
theorem dX9_explained_231 : decode cX9_explained 231 = .ok (.goto (-74), 3) := by decide +kernel
theorem dX9_explained_234 : decode cX9_explained 234 = .ok (.iload_n 2, 1) := by decide +kernel
theorem dX9_explained_235 : decode cX9_explained 235 = .ok (.iconst (-1), 1) := by decide +kernel
theorem dX9_explained_236 : decode cX9_explained 236 = .ok (.if_icmp .ne 8, 3) := by decide +kernel
theorem dX9_explained_239 : decode cX9_explained 239 = .ok (.iload 4, 2) := by decide +kernel
theorem dX9_explained_241 : decode cX9_explained 241 = .ok (.goto 4, 3) := by decide +kernel
theorem dX9_explained_244 : decode cX9_explained 244 = .ok (.iconst (-1), 1) := by decide +kernel
theorem dX9_explained_245 : decode cX9_explained 245 = .ok (.ireturn, 1) := by decide +kernel
theorem dX9_adjusted_0 : decode cX9_adjusted 0 = .ok (.aload_n 0, 1) := by decide +kernel
theorem dX9_adjusted_1 : decode cX9_adjusted 1 = .ok (.iconst 0, 1) := by decide +kernel
theorem dX9_adjusted_2 : decode cX9_adjusted 2 = .ok (.putfield 1, 3) := by decide +kernel
theorem dX9_adjusted_5 : decode cX9_adjusted 5 = .ok (.iload_n 1, 1) := by decide +kernel
theorem dX9_adjusted_6 : decode cX9_adjusted 6 = .ok (.iconst 0, 1) := by decide +kernel
theorem dX9_adjusted_7 : decode cX9_adjusted 7 = .ok (.aload_n 0, 1) := by decide +kernel
theorem dX9_adjusted_8 : decode cX9_adjusted 8 = .ok (.getfield 74, 3) := by decide +kernel
theorem dX9_adjusted_11 : decode cX9_adjusted 11 = .ok (.iconst 4, 1) := by decide +kernel
theorem dX9_adjusted_12 : decode cX9_adjusted 12 = .ok (.iaload, 1) := by decide +kernel
theorem dX9_adjusted_13 : decode cX9_adjusted 13 = .ok (.iconst 1, 1) := by decide +kernel
theorem dX9_adjusted_14 : decode cX9_adjusted 14 = .ok (.isub, 1) := by decide +kernel
theorem dX9_adjusted_15 : decode cX9_adjusted 15 = .ok (.invokestatic 92, 3) := by decide +kernel
theorem dX9_adjusted_18 : decode cX9_adjusted 18 = .ok (.ifCond .eq 29, 3) := by decide +kernel
theorem dX9_adjusted_21 : decode cX9_adjusted 21 = .ok (.iload_n 2, 1) := by decide +kernel
theorem dX9_adjusted_22 : decode cX9_adjusted 22 = .ok (.iconst 0, 1) := by decide +kernel
theorem dX9_adjusted_23 : decode cX9_adjusted 23 = .ok (.iconst 3, 1) := by decide +kernel
theorem dX9_adjusted_24 : decode cX9_adjusted 24 = .ok (.invokestatic 92, 3) := by decide +kernel
theorem dX9_adjusted_27 : decode cX9_adjusted 27 = .ok (.ifCond .eq 20, 3) := by decide +kernel
theorem dX9_adjusted_30 : decode cX9_adjusted 30 = .ok (.aload_n 0, 1) := by decide +kernel
theorem dX9_adjusted_31 : decode cX9_adjusted 31 = .ok (.getfield 74, 3) := by decide +kernel
theorem dX9_adjusted_34 : decode cX9_adjusted 34 = .ok (.sipush 685, 3) := by decide +kernel
theorem dX9_adjusted_37 : decode cX9_adjusted 37 = .ok (.iconst 4, 1) := by decide +kernel
theorem dX9_adjusted_38 : decode cX9_adjusted 38 = .ok (.iload_n 1, 1) := by decide +kernel
theorem dX9_adjusted_39 : decode cX9_adjusted 39 = .ok (.imul, 1) := by decide +kernel
theorem dX9_adjusted_40 : decode cX9_adjusted 40 = .ok (.iadd, 1) := by decide +kernel
theorem dX9_adjusted_41 : decode cX9_adjusted 41 = .ok (.iload_n 2, 1) := by decide +kernel
theorem dX9_adjusted_42 : decode cX9_adjusted 42 = .ok (.iadd, 1) := by decide +kernel
theorem dX9_adjusted_43 : decode cX9_adjusted 43 = .ok (.iaload, 1) := by decide +kernel
theorem dX9_adjusted_44 : decode cX9_adjusted 44 = .ok (.goto 5, 3) := by decide +kernel
theorem dX9_adjusted_47 : decode cX9_adjusted 47 = .ok (.ldc 206, 2) := by decide +kernel
theorem dX9_adjusted_49 : decode cX9_adjusted 49 = .ok (.ireturn, 1) := by decide +kernel
theorem dX9_snap_0 : decode cX9_snap 0 = .ok (.aload_n 0, 1) := by decide +kernel
theorem dX9_snap_1 : decode cX9_snap 1 = .ok (.getfield 153, 3) := by decide +kernel
theorem dX9_snap_4 : decode cX9_snap 4 = .ok (.bipush 10, 2) := by decide +kernel
theorem dX9_snap_6 : decode cX9_snap 6 = .ok (.if_icmp .ne 44, 3) := by decide +kernel
theorem dX9_snap_9 : decode cX9_snap 9 = .ok (.iconst 0, 1) := by decide +kernel
theorem dX9_snap_10 : decode cX9_snap 10 = .ok (.istore_n 1, 1) := by decide +kernel
theorem dX9_snap_11 : decode cX9_snap 11 = .ok (.iload_n 1, 1) := by decide +kernel
theorem dX9_snap_12 : decode cX9_snap 12 = .ok (.sipush 7605, 3) := by decide +kernel
theorem dX9_snap_15 : decode cX9_snap 15 = .ok (.if_icmp .ge 25, 3) := by decide +kernel
theorem dX9_snap_18 : decode cX9_snap 18 = .ok (.aload_n 0, 1) := by decide +kernel
theorem dX9_snap_19 : decode cX9_snap 19 = .ok (.getfield 80, 3) := by decide +kernel
theorem dX9_snap_22 : decode cX9_snap 22 = .ok (.iload_n 1, 1) := by decide +kernel
theorem dX9_snap_23 : decode cX9_snap 23 = .ok (.aload_n 0, 1) := by decide +kernel
theorem dX9_snap_24 : decode cX9_snap 24 = .ok (.getfield 80, 3) := by decide +kernel
theorem dX9_snap_27 : decode cX9_snap 27 = .ok (.iload_n 1, 1) := by decide +kernel
theorem dX9_snap_28 : decode cX9_snap 28 = .ok (.sipush 845, 3) := by decide +kernel
theorem dX9_snap_31 : decode cX9_snap 31 = .ok (.iadd, 1) := by decide +kernel
theorem dX9_snap_32 : decode cX9_snap 32 = .ok (.iaload, 1) := by decide +kernel
theorem dX9_snap_33 : decode cX9_snap 33 = .ok (.iastore, 1) := by decide +kernel
theorem dX9_snap_34 : decode cX9_snap 34 = .ok (.iinc 1 1, 3) := by decide +kernel
theorem dX9_snap_37 : decode cX9_snap 37 = .ok (.goto (-26), 3) := by decide +kernel
theorem dX9_snap_40 : decode cX9_snap 40 = .ok (.aload_n 0, 1) := by decide +kernel
theorem dX9_snap_41 : decode cX9_snap 41 = .ok (.dup, 1) := by decide +kernel
theorem dX9_snap_42 : decode cX9_snap 42 = .ok (.getfield 153, 3) := by decide +kernel
theorem dX9_snap_45 : decode cX9_snap 45 = .ok (.iconst 1, 1) := by decide +kernel
theorem dX9_snap_46 : decode cX9_snap 46 = .ok (.isub, 1) := by decide +kernel
theorem dX9_snap_47 : decode cX9_snap 47 = .ok (.putfield 153, 3) := by decide +kernel
theorem dX9_snap_50 : decode cX9_snap 50 = .ok (.iconst 0, 1) := by decide +kernel
theorem dX9_snap_51 : decode cX9_snap 51 = .ok (.istore_n 1, 1) := by decide +kernel
theorem dX9_snap_52 : decode cX9_snap 52 = .ok (.iload_n 1, 1) := by decide +kernel
theorem dX9_snap_53 : decode cX9_snap 53 = .ok (.sipush 845, 3) := by decide +kernel
theorem dX9_snap_56 : decode cX9_snap 56 = .ok (.if_icmp .ge 30, 3) := by decide +kernel
theorem dX9_snap_59 : decode cX9_snap 59 = .ok (.aload_n 0, 1) := by decide +kernel
theorem dX9_snap_60 : decode cX9_snap 60 = .ok (.getfield 80, 3) := by decide +kernel
theorem dX9_snap_63 : decode cX9_snap 63 = .ok (.sipush 845, 3) := by decide +kernel
theorem dX9_snap_66 : decode cX9_snap 66 = .ok (.aload_n 0, 1) := by decide +kernel
theorem dX9_snap_67 : decode cX9_snap 67 = .ok (.getfield 153, 3) := by decide +kernel
theorem dX9_snap_70 : decode cX9_snap 70 = .ok (.imul, 1) := by decide +kernel
theorem dX9_snap_71 : decode cX9_snap 71 = .ok (.iload_n 1, 1) := by decide +kernel
theorem dX9_snap_72 : decode cX9_snap 72 = .ok (.iadd, 1) := by decide +kernel
theorem dX9_snap_73 : decode cX9_snap 73 = .ok (.aload_n 0, 1) := by decide +kernel
theorem dX9_snap_74 : decode cX9_snap 74 = .ok (.getfield 74, 3) := by decide +kernel
theorem dX9_snap_77 : decode cX9_snap 77 = .ok (.iload_n 1, 1) := by decide +kernel
theorem dX9_snap_78 : decode cX9_snap 78 = .ok (.iaload, 1) := by decide +kernel
theorem dX9_snap_79 : decode cX9_snap 79 = .ok (.iastore, 1) := by decide +kernel
theorem dX9_snap_80 : decode cX9_snap 80 = .ok (.iinc 1 1, 3) := by decide +kernel
theorem dX9_snap_83 : decode cX9_snap 83 = .ok (.goto (-31), 3) := by decide +kernel
theorem dX9_snap_86 : decode cX9_snap 86 = .ok (.aload_n 0, 1) := by decide +kernel
theorem dX9_snap_87 : decode cX9_snap 87 = .ok (.dup, 1) := by decide +kernel
theorem dX9_snap_88 : decode cX9_snap 88 = .ok (.getfield 153, 3) := by decide +kernel
theorem dX9_snap_91 : decode cX9_snap 91 = .ok (.iconst 1, 1) := by decide +kernel
theorem dX9_snap_92 : decode cX9_snap 92 = .ok (.iadd, 1) := by decide +kernel
theorem dX9_snap_93 : decode cX9_snap 93 = .ok (.putfield 153, 3) := by decide +kernel
theorem dX9_snap_96 : decode cX9_snap 96 = .ok (.return_, 1) := by decide +kernel
theorem dX9_moves_0 : decode cX9_moves 0 = .ok (.aload_n 0, 1) := by decide +kernel
theorem dX9_moves_1 : decode cX9_moves 1 = .ok (.iconst 0, 1) := by decide +kernel
theorem dX9_moves_2 : decode cX9_moves 2 = .ok (.putfield 1, 3) := by decide +kernel
theorem dX9_moves_5 : decode cX9_moves 5 = .ok (.aload_n 0, 1) := by decide +kernel
theorem dX9_moves_6 : decode cX9_moves 6 = .ok (.iload_n 1, 1) := by decide +kernel
theorem dX9_moves_7 : decode cX9_moves 7 = .ok (.invokevirtual 191, 3) := by decide +kernel
theorem dX9_moves_10 : decode cX9_moves 10 = .ok (.ifCond .eq 13, 3) := by decide +kernel
theorem dX9_moves_13 : decode cX9_moves 13 = .ok (.iload_n 2, 1) := by decide +kernel
theorem dX9_moves_14 : decode cX9_moves 14 = .ok (.iconst 1, 1) := by decide +kernel
theorem dX9_moves_15 : decode cX9_moves 15 = .ok (.bipush 99, 2) := by decide +kernel
theorem dX9_moves_17 : decode cX9_moves 17 = .ok (.invokestatic 92, 3) := by decide +kernel
theorem dX9_moves_20 : decode cX9_moves 20 = .ok (.ifCond .ne 5, 3) := by decide +kernel
theorem dX9_moves_23 : decode cX9_moves 23 = .ok (.iconst (-1), 1) := by decide +kernel
theorem dX9_moves_24 : decode cX9_moves 24 = .ok (.ireturn, 1) := by decide +kernel
theorem dX9_moves_25 : decode cX9_moves 25 = .ok (.aload_n 0, 1) := by decide +kernel
theorem dX9_moves_26 : decode cX9_moves 26 = .ok (.getfield 74, 3) := by decide +kernel
theorem dX9_moves_29 : decode cX9_moves 29 = .ok (.iconst 2, 1) := by decide +kernel
theorem dX9_moves_30 : decode cX9_moves 30 = .ok (.iaload, 1) := by decide +kernel
theorem dX9_moves_31 : decode cX9_moves 31 = .ok (.bipush 40, 2) := by decide +kernel
theorem dX9_moves_33 : decode cX9_moves 33 = .ok (.if_icmp .ne 6, 3) := by decide +kernel
theorem dX9_moves_36 : decode cX9_moves 36 = .ok (.bipush (-2), 2) := by decide +kernel
theorem dX9_moves_38 : decode cX9_moves 38 = .ok (.ireturn, 1) := by decide +kernel
theorem dX9_moves_39 : decode cX9_moves 39 = .ok (.aload_n 0, 1) := by decide +kernel
theorem dX9_moves_40 : decode cX9_moves 40 = .ok (.invokevirtual 245, 3) := by decide +kernel
theorem dX9_moves_43 : decode cX9_moves 43 = .ok (.bipush 45, 2) := by decide +kernel
theorem dX9_moves_45 : decode cX9_moves 45 = .ok (.bipush 10, 2) := by decide +kernel
theorem dX9_moves_47 : decode cX9_moves 47 = .ok (.aload_n 0, 1) := by decide +kernel
theorem dX9_moves_48 : decode cX9_moves 48 = .ok (.getfield 74, 3) := by decide +kernel
theorem dX9_moves_51 : decode cX9_moves 51 = .ok (.iconst 2, 1) := by decide +kernel
theorem dX9_moves_52 : decode cX9_moves 52 = .ok (.iaload, 1) := by decide +kernel
theorem dX9_moves_53 : decode cX9_moves 53 = .ok (.imul, 1) := by decide +kernel
theorem dX9_moves_54 : decode cX9_moves 54 = .ok (.iadd, 1) := by decide +kernel
theorem dX9_moves_55 : decode cX9_moves 55 = .ok (.istore_n 3, 1) := by decide +kernel
theorem dX9_moves_56 : decode cX9_moves 56 = .ok (.iconst 0, 1) := by decide +kernel
theorem dX9_moves_57 : decode cX9_moves 57 = .ok (.istore 4, 2) := by decide +kernel
theorem dX9_moves_59 : decode cX9_moves 59 = .ok (.iload 4, 2) := by decide +kernel
theorem dX9_moves_61 : decode cX9_moves 61 = .ok (.bipush 10, 2) := by decide +kernel
theorem dX9_moves_63 : decode cX9_moves 63 = .ok (.if_icmp .ge 19, 3) := by decide +kernel
theorem dX9_moves_66 : decode cX9_moves 66 = .ok (.aload_n 0, 1) := by decide +kernel
theorem dX9_moves_67 : decode cX9_moves 67 = .ok (.getfield 74, 3) := by decide +kernel
theorem dX9_moves_70 : decode cX9_moves 70 = .ok (.iload_n 3, 1) := by decide +kernel
theorem dX9_moves_71 : decode cX9_moves 71 = .ok (.iload 4, 2) := by decide +kernel
theorem dX9_moves_73 : decode cX9_moves 73 = .ok (.iadd, 1) := by decide +kernel
theorem dX9_moves_74 : decode cX9_moves 74 = .ok (.iconst 0, 1) := by decide +kernel
theorem dX9_moves_75 : decode cX9_moves 75 = .ok (.iastore, 1) := by decide +kernel
theorem dX9_moves_76 : decode cX9_moves 76 = .ok (.iinc 4 1, 3) := by decide +kernel
theorem dX9_moves_79 : decode cX9_moves 79 = .ok (.goto (-20), 3) := by decide +kernel
theorem dX9_moves_82 : decode cX9_moves 82 = .ok (.aload_n 0, 1) := by decide +kernel
theorem dX9_moves_83 : decode cX9_moves 83 = .ok (.getfield 74, 3) := by decide +kernel
theorem dX9_moves_86 : decode cX9_moves 86 = .ok (.iload_n 3, 1) := by decide +kernel
theorem dX9_moves_87 : decode cX9_moves 87 = .ok (.iconst 0, 1) := by decide +kernel
theorem dX9_moves_88 : decode cX9_moves 88 = .ok (.iadd, 1) := by decide +kernel
theorem dX9_moves_89 : decode cX9_moves 89 = .ok (.iload_n 1, 1) := by decide +kernel
theorem dX9_moves_90 : decode cX9_moves 90 = .ok (.iastore, 1) := by decide +kernel
theorem dX9_moves_91 : decode cX9_moves 91 = .ok (.aload_n 0, 1) := by decide +kernel
theorem dX9_moves_92 : decode cX9_moves 92 = .ok (.getfield 74, 3) := by decide +kernel
theorem dX9_moves_95 : decode cX9_moves 95 = .ok (.iload_n 3, 1) := by decide +kernel
theorem dX9_moves_96 : decode cX9_moves 96 = .ok (.iconst 1, 1) := by decide +kernel
theorem dX9_moves_97 : decode cX9_moves 97 = .ok (.iadd, 1) := by decide +kernel
theorem dX9_moves_98 : decode cX9_moves 98 = .ok (.iload_n 2, 1) := by decide +kernel
theorem dX9_moves_99 : decode cX9_moves 99 = .ok (.iastore, 1) := by decide +kernel
theorem dX9_moves_100 : decode cX9_moves 100 = .ok (.aload_n 0, 1) := by decide +kernel
theorem dX9_moves_101 : decode cX9_moves 101 = .ok (.getfield 74, 3) := by decide +kernel
theorem dX9_moves_104 : decode cX9_moves 104 = .ok (.iconst 2, 1) := by decide +kernel
theorem dX9_moves_105 : decode cX9_moves 105 = .ok (.dup2, 1) := by decide +kernel
theorem dX9_moves_106 : decode cX9_moves 106 = .ok (.iaload, 1) := by decide +kernel
theorem dX9_moves_107 : decode cX9_moves 107 = .ok (.iconst 1, 1) := by decide +kernel
theorem dX9_moves_108 : decode cX9_moves 108 = .ok (.iadd, 1) := by decide +kernel
theorem dX9_moves_109 : decode cX9_moves 109 = .ok (.iastore, 1) := by decide +kernel
theorem dX9_moves_110 : decode cX9_moves 110 = .ok (.aload_n 0, 1) := by decide +kernel
theorem dX9_moves_111 : decode cX9_moves 111 = .ok (.getfield 74, 3) := by decide +kernel
theorem dX9_moves_114 : decode cX9_moves 114 = .ok (.iconst 2, 1) := by decide +kernel
theorem dX9_moves_115 : decode cX9_moves 115 = .ok (.iaload, 1) := by decide +kernel
theorem dX9_moves_116 : decode cX9_moves 116 = .ok (.iconst 1, 1) := by decide +kernel
theorem dX9_moves_117 : decode cX9_moves 117 = .ok (.isub, 1) := by decide +kernel
theorem dX9_moves_118 : decode cX9_moves 118 = .ok (.ireturn, 1) := by decide +kernel
theorem dX9_isSpan_0 : decode cX9_isSpan 0 = .ok (.iload_n 0, 1) := by decide +kernel
theorem dX9_isSpan_1 : decode cX9_isSpan 1 = .ok (.invokestatic 203, 3) := by decide +kernel
theorem dX9_isSpan_4 : decode cX9_isSpan 4 = .ok (.ifCond .eq 19, 3) := by decide +kernel
theorem dX9_isSpan_7 : decode cX9_isSpan 7 = .ok (.iload_n 1, 1) := by decide +kernel
theorem dX9_isSpan_8 : decode cX9_isSpan 8 = .ok (.invokestatic 203, 3) := by decide +kernel
theorem dX9_isSpan_11 : decode cX9_isSpan 11 = .ok (.ifCond .eq 12, 3) := by decide +kernel
theorem dX9_isSpan_14 : decode cX9_isSpan 14 = .ok (.iload_n 0, 1) := by decide +kernel
theorem dX9_isSpan_15 : decode cX9_isSpan 15 = .ok (.iload_n 1, 1) := by decide +kernel
theorem dX9_isSpan_16 : decode cX9_isSpan 16 = .ok (.if_icmp .gt 7, 3) := by decide +kernel
theorem dX9_isSpan_19 : decode cX9_isSpan 19 = .ok (.iconst 1, 1) := by decide +kernel
theorem dX9_isSpan_20 : decode cX9_isSpan 20 = .ok (.goto 4, 3) := by decide +kernel
theorem dX9_isSpan_23 : decode cX9_isSpan 23 = .ok (.iconst 0, 1) := by decide +kernel
theorem dX9_isSpan_24 : decode cX9_isSpan 24 = .ok (.ireturn, 1) := by decide +kernel
theorem dX9_leg__0 : decode cX9_leg_ 0 = .ok (.aload_n 0, 1) := by decide +kernel
theorem dX9_leg__1 : decode cX9_leg_ 1 = .ok (.iconst 0, 1) := by decide +kernel
theorem dX9_leg__2 : decode cX9_leg_ 2 = .ok (.putfield 1, 3) := by decide +kernel
theorem dX9_leg__5 : decode cX9_leg_ 5 = .ok (.aload_n 0, 1) := by decide +kernel
theorem dX9_leg__6 : decode cX9_leg_ 6 = .ok (.iload_n 1, 1) := by decide +kernel
theorem dX9_leg__7 : decode cX9_leg_ 7 = .ok (.invokevirtual 194, 3) := by decide +kernel
theorem dX9_leg__10 : decode cX9_leg_ 10 = .ok (.ifCond .eq 39, 3) := by decide +kernel
theorem dX9_leg__13 : decode cX9_leg_ 13 = .ok (.iload_n 2, 1) := by decide +kernel
theorem dX9_leg__14 : decode cX9_leg_ 14 = .ok (.iconst 0, 1) := by decide +kernel
theorem dX9_leg__15 : decode cX9_leg_ 15 = .ok (.iconst 1, 1) := by decide +kernel
theorem dX9_leg__16 : decode cX9_leg_ 16 = .ok (.invokestatic 92, 3) := by decide +kernel
theorem dX9_leg__19 : decode cX9_leg_ 19 = .ok (.ifCond .eq 30, 3) := by decide +kernel
theorem dX9_leg__22 : decode cX9_leg_ 22 = .ok (.aload_n 0, 1) := by decide +kernel
theorem dX9_leg__23 : decode cX9_leg_ 23 = .ok (.iload_n 1, 1) := by decide +kernel
theorem dX9_leg__24 : decode cX9_leg_ 24 = .ok (.iload_n 2, 1) := by decide +kernel
theorem dX9_leg__25 : decode cX9_leg_ 25 = .ok (.invokevirtual 160, 3) := by decide +kernel
theorem dX9_leg__28 : decode cX9_leg_ 28 = .ok (.ifCond .ne 21, 3) := by decide +kernel
theorem dX9_leg__31 : decode cX9_leg_ 31 = .ok (.aload_n 0, 1) := by decide +kernel
theorem dX9_leg__32 : decode cX9_leg_ 32 = .ok (.iload_n 3, 1) := by decide +kernel
theorem dX9_leg__33 : decode cX9_leg_ 33 = .ok (.invokevirtual 200, 3) := by decide +kernel
theorem dX9_leg__36 : decode cX9_leg_ 36 = .ok (.ifCond .eq 13, 3) := by decide +kernel
theorem dX9_leg__39 : decode cX9_leg_ 39 = .ok (.iload 4, 2) := by decide +kernel
theorem dX9_leg__41 : decode cX9_leg_ 41 = .ok (.iload 5, 2) := by decide +kernel
theorem dX9_leg__43 : decode cX9_leg_ 43 = .ok (.invokestatic 248, 3) := by decide +kernel
theorem dX9_leg__46 : decode cX9_leg_ 46 = .ok (.ifCond .ne 5, 3) := by decide +kernel
theorem dX9_leg__49 : decode cX9_leg_ 49 = .ok (.iconst 0, 1) := by decide +kernel
theorem dX9_leg__50 : decode cX9_leg_ 50 = .ok (.ireturn, 1) := by decide +kernel
theorem dX9_leg__51 : decode cX9_leg_ 51 = .ok (.aload_n 0, 1) := by decide +kernel
theorem dX9_leg__52 : decode cX9_leg_ 52 = .ok (.invokevirtual 245, 3) := by decide +kernel
theorem dX9_leg__55 : decode cX9_leg_ 55 = .ok (.bipush 45, 2) := by decide +kernel
theorem dX9_leg__57 : decode cX9_leg_ 57 = .ok (.bipush 10, 2) := by decide +kernel
theorem dX9_leg__59 : decode cX9_leg_ 59 = .ok (.iload_n 1, 1) := by decide +kernel
theorem dX9_leg__60 : decode cX9_leg_ 60 = .ok (.imul, 1) := by decide +kernel
theorem dX9_leg__61 : decode cX9_leg_ 61 = .ok (.iadd, 1) := by decide +kernel
theorem dX9_leg__62 : decode cX9_leg_ 62 = .ok (.iconst 2, 1) := by decide +kernel
theorem dX9_leg__63 : decode cX9_leg_ 63 = .ok (.iadd, 1) := by decide +kernel
theorem dX9_leg__64 : decode cX9_leg_ 64 = .ok (.iconst 4, 1) := by decide +kernel
theorem dX9_leg__65 : decode cX9_leg_ 65 = .ok (.iload_n 2, 1) := by decide +kernel
theorem dX9_leg__66 : decode cX9_leg_ 66 = .ok (.imul, 1) := by decide +kernel
theorem dX9_leg__67 : decode cX9_leg_ 67 = .ok (.iadd, 1) := by decide +kernel
theorem dX9_leg__68 : decode cX9_leg_ 68 = .ok (.istore 6, 2) := by decide +kernel
theorem dX9_leg__70 : decode cX9_leg_ 70 = .ok (.aload_n 0, 1) := by decide +kernel
theorem dX9_leg__71 : decode cX9_leg_ 71 = .ok (.getfield 74, 3) := by decide +kernel
theorem dX9_leg__74 : decode cX9_leg_ 74 = .ok (.iload 6, 2) := by decide +kernel
theorem dX9_leg__76 : decode cX9_leg_ 76 = .ok (.iconst 0, 1) := by decide +kernel
theorem dX9_leg__77 : decode cX9_leg_ 77 = .ok (.iadd, 1) := by decide +kernel
theorem dX9_leg__78 : decode cX9_leg_ 78 = .ok (.iconst 1, 1) := by decide +kernel
theorem dX9_leg__79 : decode cX9_leg_ 79 = .ok (.iastore, 1) := by decide +kernel
theorem dX9_leg__80 : decode cX9_leg_ 80 = .ok (.aload_n 0, 1) := by decide +kernel
theorem dX9_leg__81 : decode cX9_leg_ 81 = .ok (.getfield 74, 3) := by decide +kernel
theorem dX9_leg__84 : decode cX9_leg_ 84 = .ok (.iload 6, 2) := by decide +kernel
theorem dX9_leg__86 : decode cX9_leg_ 86 = .ok (.iconst 1, 1) := by decide +kernel
theorem dX9_leg__87 : decode cX9_leg_ 87 = .ok (.iadd, 1) := by decide +kernel
theorem dX9_leg__88 : decode cX9_leg_ 88 = .ok (.iload_n 3, 1) := by decide +kernel
theorem dX9_leg__89 : decode cX9_leg_ 89 = .ok (.iastore, 1) := by decide +kernel
theorem dX9_leg__90 : decode cX9_leg_ 90 = .ok (.aload_n 0, 1) := by decide +kernel
theorem dX9_leg__91 : decode cX9_leg_ 91 = .ok (.getfield 74, 3) := by decide +kernel
theorem dX9_leg__94 : decode cX9_leg_ 94 = .ok (.iload 6, 2) := by decide +kernel
theorem dX9_leg__96 : decode cX9_leg_ 96 = .ok (.iconst 2, 1) := by decide +kernel
theorem dX9_leg__97 : decode cX9_leg_ 97 = .ok (.iadd, 1) := by decide +kernel
theorem dX9_leg__98 : decode cX9_leg_ 98 = .ok (.iload 4, 2) := by decide +kernel
theorem dX9_leg__100 : decode cX9_leg_ 100 = .ok (.iastore, 1) := by decide +kernel
theorem dX9_leg__101 : decode cX9_leg_ 101 = .ok (.aload_n 0, 1) := by decide +kernel
theorem dX9_leg__102 : decode cX9_leg_ 102 = .ok (.getfield 74, 3) := by decide +kernel
theorem dX9_leg__105 : decode cX9_leg_ 105 = .ok (.iload 6, 2) := by decide +kernel
theorem dX9_leg__107 : decode cX9_leg_ 107 = .ok (.iconst 3, 1) := by decide +kernel
theorem dX9_leg__108 : decode cX9_leg_ 108 = .ok (.iadd, 1) := by decide +kernel
theorem dX9_leg__109 : decode cX9_leg_ 109 = .ok (.iload 5, 2) := by decide +kernel
theorem dX9_leg__111 : decode cX9_leg_ 111 = .ok (.iastore, 1) := by decide +kernel
theorem dX9_leg__112 : decode cX9_leg_ 112 = .ok (.iconst 1, 1) := by decide +kernel
theorem dX9_leg__113 : decode cX9_leg_ 113 = .ok (.ireturn, 1) := by decide +kernel
theorem dX9_narrow_0 : decode cX9_narrow 0 = .ok (.aload_n 0, 1) := by decide +kernel
theorem dX9_narrow_1 : decode cX9_narrow 1 = .ok (.iconst 0, 1) := by decide +kernel
theorem dX9_narrow_2 : decode cX9_narrow 2 = .ok (.putfield 1, 3) := by decide +kernel
theorem dX9_narrow_5 : decode cX9_narrow 5 = .ok (.aload_n 0, 1) := by decide +kernel
theorem dX9_narrow_6 : decode cX9_narrow 6 = .ok (.iload_n 1, 1) := by decide +kernel
theorem dX9_narrow_7 : decode cX9_narrow 7 = .ok (.invokevirtual 194, 3) := by decide +kernel
theorem dX9_narrow_10 : decode cX9_narrow 10 = .ok (.ifCond .eq 53, 3) := by decide +kernel
theorem dX9_narrow_13 : decode cX9_narrow 13 = .ok (.iload_n 2, 1) := by decide +kernel
theorem dX9_narrow_14 : decode cX9_narrow 14 = .ok (.iconst 0, 1) := by decide +kernel
theorem dX9_narrow_15 : decode cX9_narrow 15 = .ok (.iconst 1, 1) := by decide +kernel
theorem dX9_narrow_16 : decode cX9_narrow 16 = .ok (.invokestatic 92, 3) := by decide +kernel
theorem dX9_narrow_19 : decode cX9_narrow 19 = .ok (.ifCond .eq 44, 3) := by decide +kernel
theorem dX9_narrow_22 : decode cX9_narrow 22 = .ok (.aload_n 0, 1) := by decide +kernel
theorem dX9_narrow_23 : decode cX9_narrow 23 = .ok (.iload_n 1, 1) := by decide +kernel
theorem dX9_narrow_24 : decode cX9_narrow 24 = .ok (.iload_n 2, 1) := by decide +kernel
theorem dX9_narrow_25 : decode cX9_narrow 25 = .ok (.invokevirtual 160, 3) := by decide +kernel
theorem dX9_narrow_28 : decode cX9_narrow 28 = .ok (.ifCond .eq 35, 3) := by decide +kernel
theorem dX9_narrow_31 : decode cX9_narrow 31 = .ok (.iload_n 3, 1) := by decide +kernel
theorem dX9_narrow_32 : decode cX9_narrow 32 = .ok (.iload 4, 2) := by decide +kernel
theorem dX9_narrow_34 : decode cX9_narrow 34 = .ok (.invokestatic 248, 3) := by decide +kernel
theorem dX9_narrow_37 : decode cX9_narrow 37 = .ok (.ifCond .eq 26, 3) := by decide +kernel
theorem dX9_narrow_40 : decode cX9_narrow 40 = .ok (.iload_n 3, 1) := by decide +kernel
theorem dX9_narrow_41 : decode cX9_narrow 41 = .ok (.aload_n 0, 1) := by decide +kernel
theorem dX9_narrow_42 : decode cX9_narrow 42 = .ok (.iload_n 1, 1) := by decide +kernel
theorem dX9_narrow_43 : decode cX9_narrow 43 = .ok (.iload_n 2, 1) := by decide +kernel
theorem dX9_narrow_44 : decode cX9_narrow 44 = .ok (.iconst 2, 1) := by decide +kernel
theorem dX9_narrow_45 : decode cX9_narrow 45 = .ok (.invokevirtual 156, 3) := by decide +kernel
theorem dX9_narrow_48 : decode cX9_narrow 48 = .ok (.if_icmp .lt 15, 3) := by decide +kernel
theorem dX9_narrow_51 : decode cX9_narrow 51 = .ok (.iload 4, 2) := by decide +kernel
theorem dX9_narrow_53 : decode cX9_narrow 53 = .ok (.aload_n 0, 1) := by decide +kernel
theorem dX9_narrow_54 : decode cX9_narrow 54 = .ok (.iload_n 1, 1) := by decide +kernel
theorem dX9_narrow_55 : decode cX9_narrow 55 = .ok (.iload_n 2, 1) := by decide +kernel
theorem dX9_narrow_56 : decode cX9_narrow 56 = .ok (.iconst 3, 1) := by decide +kernel
theorem dX9_narrow_57 : decode cX9_narrow 57 = .ok (.invokevirtual 156, 3) := by decide +kernel
theorem dX9_narrow_60 : decode cX9_narrow 60 = .ok (.if_icmp .le 5, 3) := by decide +kernel
theorem dX9_narrow_63 : decode cX9_narrow 63 = .ok (.iconst (-1), 1) := by decide +kernel
theorem dX9_narrow_64 : decode cX9_narrow 64 = .ok (.ireturn, 1) := by decide +kernel
theorem dX9_narrow_65 : decode cX9_narrow 65 = .ok (.aload_n 0, 1) := by decide +kernel
theorem dX9_narrow_66 : decode cX9_narrow 66 = .ok (.invokevirtual 245, 3) := by decide +kernel
theorem dX9_narrow_69 : decode cX9_narrow 69 = .ok (.bipush 45, 2) := by decide +kernel
theorem dX9_narrow_71 : decode cX9_narrow 71 = .ok (.bipush 10, 2) := by decide +kernel
theorem dX9_narrow_73 : decode cX9_narrow 73 = .ok (.iload_n 1, 1) := by decide +kernel
theorem dX9_narrow_74 : decode cX9_narrow 74 = .ok (.imul, 1) := by decide +kernel
theorem dX9_narrow_75 : decode cX9_narrow 75 = .ok (.iadd, 1) := by decide +kernel
theorem dX9_narrow_76 : decode cX9_narrow 76 = .ok (.iconst 2, 1) := by decide +kernel
theorem dX9_narrow_77 : decode cX9_narrow 77 = .ok (.iadd, 1) := by decide +kernel
theorem dX9_narrow_78 : decode cX9_narrow 78 = .ok (.iconst 4, 1) := by decide +kernel
theorem dX9_narrow_79 : decode cX9_narrow 79 = .ok (.iload_n 2, 1) := by decide +kernel
theorem dX9_narrow_80 : decode cX9_narrow 80 = .ok (.imul, 1) := by decide +kernel
theorem dX9_narrow_81 : decode cX9_narrow 81 = .ok (.iadd, 1) := by decide +kernel
theorem dX9_narrow_82 : decode cX9_narrow 82 = .ok (.istore 5, 2) := by decide +kernel
theorem dX9_narrow_84 : decode cX9_narrow 84 = .ok (.aload_n 0, 1) := by decide +kernel
theorem dX9_narrow_85 : decode cX9_narrow 85 = .ok (.getfield 74, 3) := by decide +kernel
theorem dX9_narrow_88 : decode cX9_narrow 88 = .ok (.iload 5, 2) := by decide +kernel
theorem dX9_narrow_90 : decode cX9_narrow 90 = .ok (.iconst 3, 1) := by decide +kernel
theorem dX9_narrow_91 : decode cX9_narrow 91 = .ok (.iadd, 1) := by decide +kernel
theorem dX9_narrow_92 : decode cX9_narrow 92 = .ok (.iaload, 1) := by decide +kernel
theorem dX9_narrow_93 : decode cX9_narrow 93 = .ok (.aload_n 0, 1) := by decide +kernel
theorem dX9_narrow_94 : decode cX9_narrow 94 = .ok (.getfield 74, 3) := by decide +kernel
theorem dX9_narrow_97 : decode cX9_narrow 97 = .ok (.iload 5, 2) := by decide +kernel
theorem dX9_narrow_99 : decode cX9_narrow 99 = .ok (.iconst 2, 1) := by decide +kernel
theorem dX9_narrow_100 : decode cX9_narrow 100 = .ok (.iadd, 1) := by decide +kernel
theorem dX9_narrow_101 : decode cX9_narrow 101 = .ok (.iaload, 1) := by decide +kernel
theorem dX9_narrow_102 : decode cX9_narrow 102 = .ok (.isub, 1) := by decide +kernel
theorem dX9_narrow_103 : decode cX9_narrow 103 = .ok (.iload 4, 2) := by decide +kernel
theorem dX9_narrow_105 : decode cX9_narrow 105 = .ok (.isub, 1) := by decide +kernel
theorem dX9_narrow_106 : decode cX9_narrow 106 = .ok (.iload_n 3, 1) := by decide +kernel
theorem dX9_narrow_107 : decode cX9_narrow 107 = .ok (.iadd, 1) := by decide +kernel
theorem dX9_narrow_108 : decode cX9_narrow 108 = .ok (.istore 6, 2) := by decide +kernel
theorem dX9_narrow_110 : decode cX9_narrow 110 = .ok (.aload_n 0, 1) := by decide +kernel
theorem dX9_narrow_111 : decode cX9_narrow 111 = .ok (.getfield 74, 3) := by decide +kernel
theorem dX9_narrow_114 : decode cX9_narrow 114 = .ok (.iload 5, 2) := by decide +kernel
theorem dX9_narrow_116 : decode cX9_narrow 116 = .ok (.iconst 2, 1) := by decide +kernel
theorem dX9_narrow_117 : decode cX9_narrow 117 = .ok (.iadd, 1) := by decide +kernel
theorem dX9_narrow_118 : decode cX9_narrow 118 = .ok (.iload_n 3, 1) := by decide +kernel
theorem dX9_narrow_119 : decode cX9_narrow 119 = .ok (.iastore, 1) := by decide +kernel
theorem dX9_narrow_120 : decode cX9_narrow 120 = .ok (.aload_n 0, 1) := by decide +kernel
theorem dX9_narrow_121 : decode cX9_narrow 121 = .ok (.getfield 74, 3) := by decide +kernel
theorem dX9_narrow_124 : decode cX9_narrow 124 = .ok (.iload 5, 2) := by decide +kernel
theorem dX9_narrow_126 : decode cX9_narrow 126 = .ok (.iconst 3, 1) := by decide +kernel
theorem dX9_narrow_127 : decode cX9_narrow 127 = .ok (.iadd, 1) := by decide +kernel
theorem dX9_narrow_128 : decode cX9_narrow 128 = .ok (.iload 4, 2) := by decide +kernel
theorem dX9_narrow_130 : decode cX9_narrow 130 = .ok (.iastore, 1) := by decide +kernel
theorem dX9_narrow_131 : decode cX9_narrow 131 = .ok (.iload 6, 2) := by decide +kernel
theorem dX9_narrow_133 : decode cX9_narrow 133 = .ok (.ireturn, 1) := by decide +kernel
theorem dX9_whyNot_0 : decode cX9_whyNot 0 = .ok (.iconst (-1), 1) := by decide +kernel
theorem dX9_whyNot_1 : decode cX9_whyNot 1 = .ok (.istore 5, 2) := by decide +kernel
theorem dX9_whyNot_3 : decode cX9_whyNot 3 = .ok (.iconst 0, 1) := by decide +kernel
theorem dX9_whyNot_4 : decode cX9_whyNot 4 = .ok (.istore 6, 2) := by decide +kernel
theorem dX9_whyNot_6 : decode cX9_whyNot 6 = .ok (.iconst 0, 1) := by decide +kernel
theorem dX9_whyNot_7 : decode cX9_whyNot 7 = .ok (.istore 7, 2) := by decide +kernel
theorem dX9_whyNot_9 : decode cX9_whyNot 9 = .ok (.iload 7, 2) := by decide +kernel
theorem dX9_whyNot_11 : decode cX9_whyNot 11 = .ok (.aload_n 0, 1) := by decide +kernel
theorem dX9_whyNot_12 : decode cX9_whyNot 12 = .ok (.getfield 74, 3) := by decide +kernel
theorem dX9_whyNot_15 : decode cX9_whyNot 15 = .ok (.iconst 3, 1) := by decide +kernel
theorem dX9_whyNot_16 : decode cX9_whyNot 16 = .ok (.iaload, 1) := by decide +kernel
theorem dX9_whyNot_17 : decode cX9_whyNot 17 = .ok (.if_icmp .ge 123, 3) := by decide +kernel
theorem dX9_whyNot_20 : decode cX9_whyNot 20 = .ok (.aload_n 0, 1) := by decide +kernel
theorem dX9_whyNot_21 : decode cX9_whyNot 21 = .ok (.iload 7, 2) := by decide +kernel
theorem dX9_whyNot_23 : decode cX9_whyNot 23 = .ok (.iconst 0, 1) := by decide +kernel
theorem dX9_whyNot_24 : decode cX9_whyNot 24 = .ok (.invokevirtual 213, 3) := by decide +kernel
theorem dX9_whyNot_27 : decode cX9_whyNot 27 = .ok (.iload_n 1, 1) := by decide +kernel
theorem dX9_whyNot_28 : decode cX9_whyNot 28 = .ok (.if_icmp .ne 106, 3) := by decide +kernel
theorem dX9_whyNot_31 : decode cX9_whyNot 31 = .ok (.aload_n 0, 1) := by decide +kernel
theorem dX9_whyNot_32 : decode cX9_whyNot 32 = .ok (.iload 7, 2) := by decide +kernel
theorem dX9_whyNot_34 : decode cX9_whyNot 34 = .ok (.iconst 1, 1) := by decide +kernel
theorem dX9_whyNot_35 : decode cX9_whyNot 35 = .ok (.invokevirtual 213, 3) := by decide +kernel
theorem dX9_whyNot_38 : decode cX9_whyNot 38 = .ok (.iload_n 2, 1) := by decide +kernel
theorem dX9_whyNot_39 : decode cX9_whyNot 39 = .ok (.if_icmp .eq 6, 3) := by decide +kernel
theorem dX9_whyNot_42 : decode cX9_whyNot 42 = .ok (.goto 92, 3) := by decide +kernel
theorem dX9_whyNot_45 : decode cX9_whyNot 45 = .ok (.aload_n 0, 1) := by decide +kernel
theorem dX9_whyNot_46 : decode cX9_whyNot 46 = .ok (.iload 7, 2) := by decide +kernel
theorem dX9_whyNot_48 : decode cX9_whyNot 48 = .ok (.iconst 2, 1) := by decide +kernel
theorem dX9_whyNot_49 : decode cX9_whyNot 49 = .ok (.invokevirtual 213, 3) := by decide +kernel
theorem dX9_whyNot_52 : decode cX9_whyNot 52 = .ok (.iload_n 3, 1) := by decide +kernel
theorem dX9_whyNot_53 : decode cX9_whyNot 53 = .ok (.if_icmp .ne 6, 3) := by decide +kernel
theorem dX9_whyNot_56 : decode cX9_whyNot 56 = .ok (.bipush (-2), 2) := by decide +kernel
theorem dX9_whyNot_58 : decode cX9_whyNot 58 = .ok (.ireturn, 1) := by decide +kernel
theorem dX9_whyNot_59 : decode cX9_whyNot 59 = .ok (.aload_n 0, 1) := by decide +kernel
theorem dX9_whyNot_60 : decode cX9_whyNot 60 = .ok (.iload 7, 2) := by decide +kernel
theorem dX9_whyNot_62 : decode cX9_whyNot 62 = .ok (.iconst 5, 1) := by decide +kernel
theorem dX9_whyNot_63 : decode cX9_whyNot 63 = .ok (.invokevirtual 213, 3) := by decide +kernel
theorem dX9_whyNot_66 : decode cX9_whyNot 66 = .ok (.iconst 1, 1) := by decide +kernel
theorem dX9_whyNot_67 : decode cX9_whyNot 67 = .ok (.if_icmp .ne 29, 3) := by decide +kernel
theorem dX9_whyNot_70 : decode cX9_whyNot 70 = .ok (.iload 6, 2) := by decide +kernel
theorem dX9_whyNot_72 : decode cX9_whyNot 72 = .ok (.ifCond .ne 14, 3) := by decide +kernel
theorem dX9_whyNot_75 : decode cX9_whyNot 75 = .ok (.aload_n 0, 1) := by decide +kernel
theorem dX9_whyNot_76 : decode cX9_whyNot 76 = .ok (.iload 7, 2) := by decide +kernel
theorem dX9_whyNot_78 : decode cX9_whyNot 78 = .ok (.iconst 2, 1) := by decide +kernel
theorem dX9_whyNot_79 : decode cX9_whyNot 79 = .ok (.invokevirtual 213, 3) := by decide +kernel
theorem dX9_whyNot_82 : decode cX9_whyNot 82 = .ok (.iload_n 3, 1) := by decide +kernel
theorem dX9_whyNot_83 : decode cX9_whyNot 83 = .ok (.if_icmp .le 7, 3) := by decide +kernel
theorem dX9_whyNot_86 : decode cX9_whyNot 86 = .ok (.iconst 1, 1) := by decide +kernel
theorem dX9_whyNot_87 : decode cX9_whyNot 87 = .ok (.goto 4, 3) := by decide +kernel
theorem dX9_whyNot_90 : decode cX9_whyNot 90 = .ok (.iconst 0, 1) := by decide +kernel
theorem dX9_whyNot_91 : decode cX9_whyNot 91 = .ok (.istore 6, 2) := by decide +kernel
theorem dX9_whyNot_93 : decode cX9_whyNot 93 = .ok (.goto 41, 3) := by decide +kernel
theorem dX9_whyNot_96 : decode cX9_whyNot 96 = .ok (.aload_n 0, 1) := by decide +kernel
theorem dX9_whyNot_97 : decode cX9_whyNot 97 = .ok (.iload 7, 2) := by decide +kernel
theorem dX9_whyNot_99 : decode cX9_whyNot 99 = .ok (.iconst 2, 1) := by decide +kernel
theorem dX9_whyNot_100 : decode cX9_whyNot 100 = .ok (.invokevirtual 213, 3) := by decide +kernel
theorem dX9_whyNot_103 : decode cX9_whyNot 103 = .ok (.iload_n 3, 1) := by decide +kernel
theorem dX9_whyNot_104 : decode cX9_whyNot 104 = .ok (.if_icmp .ge 30, 3) := by decide +kernel
theorem dX9_whyNot_107 : decode cX9_whyNot 107 = .ok (.iload 5, 2) := by decide +kernel
theorem dX9_whyNot_109 : decode cX9_whyNot 109 = .ok (.iconst (-1), 1) := by decide +kernel
theorem dX9_whyNot_110 : decode cX9_whyNot 110 = .ok (.if_icmp .eq 20, 3) := by decide +kernel
theorem dX9_whyNot_113 : decode cX9_whyNot 113 = .ok (.aload_n 0, 1) := by decide +kernel
theorem dX9_whyNot_114 : decode cX9_whyNot 114 = .ok (.iload 7, 2) := by decide +kernel
theorem dX9_whyNot_116 : decode cX9_whyNot 116 = .ok (.iconst 2, 1) := by decide +kernel
theorem dX9_whyNot_117 : decode cX9_whyNot 117 = .ok (.invokevirtual 213, 3) := by decide +kernel
theorem dX9_whyNot_120 : decode cX9_whyNot 120 = .ok (.aload_n 0, 1) := by decide +kernel
theorem dX9_whyNot_121 : decode cX9_whyNot 121 = .ok (.iload 5, 2) := by decide +kernel
theorem dX9_whyNot_123 : decode cX9_whyNot 123 = .ok (.iconst 2, 1) := by decide +kernel
theorem dX9_whyNot_124 : decode cX9_whyNot 124 = .ok (.invokevirtual 213, 3) := by decide +kernel
theorem dX9_whyNot_127 : decode cX9_whyNot 127 = .ok (.if_icmp .le 7, 3) := by decide +kernel
theorem dX9_whyNot_130 : decode cX9_whyNot 130 = .ok (.iload 7, 2) := by decide +kernel
theorem dX9_whyNot_132 : decode cX9_whyNot 132 = .ok (.istore 5, 2) := by decide +kernel
theorem dX9_whyNot_134 : decode cX9_whyNot 134 = .ok (.iinc 7 1, 3) := by decide +kernel
theorem dX9_whyNot_137 : decode cX9_whyNot 137 = .ok (.goto (-128), 3) := by decide +kernel
theorem dX9_whyNot_140 : decode cX9_whyNot 140 = .ok (.iload 5, 2) := by decide +kernel
theorem dX9_whyNot_142 : decode cX9_whyNot 142 = .ok (.iconst (-1), 1) := by decide +kernel
theorem dX9_whyNot_143 : decode cX9_whyNot 143 = .ok (.if_icmp .eq 18, 3) := by decide +kernel
theorem dX9_whyNot_146 : decode cX9_whyNot 146 = .ok (.aload_n 0, 1) := by decide +kernel
theorem dX9_whyNot_147 : decode cX9_whyNot 147 = .ok (.iload 5, 2) := by decide +kernel
theorem dX9_whyNot_149 : decode cX9_whyNot 149 = .ok (.iconst 4, 1) := by decide +kernel
theorem dX9_whyNot_150 : decode cX9_whyNot 150 = .ok (.invokevirtual 213, 3) := by decide +kernel
theorem dX9_whyNot_153 : decode cX9_whyNot 153 = .ok (.iload 4, 2) := by decide +kernel
theorem dX9_whyNot_155 : decode cX9_whyNot 155 = .ok (.if_icmp .ne 6, 3) := by decide +kernel
theorem dX9_whyNot_158 : decode cX9_whyNot 158 = .ok (.bipush (-3), 2) := by decide +kernel
theorem dX9_whyNot_160 : decode cX9_whyNot 160 = .ok (.ireturn, 1) := by decide +kernel
theorem dX9_whyNot_161 : decode cX9_whyNot 161 = .ok (.iload 6, 2) := by decide +kernel
theorem dX9_whyNot_163 : decode cX9_whyNot 163 = .ok (.ifCond .eq 6, 3) := by decide +kernel
theorem dX9_whyNot_166 : decode cX9_whyNot 166 = .ok (.bipush (-4), 2) := by decide +kernel
theorem dX9_whyNot_168 : decode cX9_whyNot 168 = .ok (.ireturn, 1) := by decide +kernel
theorem dX9_whyNot_169 : decode cX9_whyNot 169 = .ok (.aload_n 0, 1) := by decide +kernel
theorem dX9_whyNot_170 : decode cX9_whyNot 170 = .ok (.getfield 74, 3) := by decide +kernel
theorem dX9_whyNot_173 : decode cX9_whyNot 173 = .ok (.iconst 3, 1) := by decide +kernel
theorem dX9_whyNot_174 : decode cX9_whyNot 174 = .ok (.iaload, 1) := by decide +kernel
theorem dX9_whyNot_175 : decode cX9_whyNot 175 = .ok (.bipush 40, 2) := by decide +kernel
theorem dX9_whyNot_177 : decode cX9_whyNot 177 = .ok (.if_icmp .ne 8, 3) := by decide +kernel
theorem dX9_whyNot_180 : decode cX9_whyNot 180 = .ok (.bipush (-5), 2) := by decide +kernel
theorem dX9_whyNot_182 : decode cX9_whyNot 182 = .ok (.goto 4, 3) := by decide +kernel
theorem dX9_whyNot_185 : decode cX9_whyNot 185 = .ok (.iconst 0, 1) := by decide +kernel
theorem dX9_whyNot_186 : decode cX9_whyNot 186 = .ok (.ireturn, 1) := by decide +kernel
theorem dX9_counts_0 : decode cX9_counts 0 = .ok (.aload_n 0, 1) := by decide +kernel
theorem dX9_counts_1 : decode cX9_counts 1 = .ok (.iconst 0, 1) := by decide +kernel
theorem dX9_counts_2 : decode cX9_counts 2 = .ok (.putfield 1, 3) := by decide +kernel
theorem dX9_counts_5 : decode cX9_counts 5 = .ok (.aload_n 0, 1) := by decide +kernel
theorem dX9_counts_6 : decode cX9_counts 6 = .ok (.iload_n 1, 1) := by decide +kernel
theorem dX9_counts_7 : decode cX9_counts 7 = .ok (.invokevirtual 200, 3) := by decide +kernel
theorem dX9_counts_10 : decode cX9_counts 10 = .ok (.ifCond .eq 40, 3) := by decide +kernel
theorem dX9_counts_13 : decode cX9_counts 13 = .ok (.aload_n 0, 1) := by decide +kernel
theorem dX9_counts_14 : decode cX9_counts 14 = .ok (.iload_n 2, 1) := by decide +kernel
theorem dX9_counts_15 : decode cX9_counts 15 = .ok (.invokevirtual 191, 3) := by decide +kernel
theorem dX9_counts_18 : decode cX9_counts 18 = .ok (.ifCond .eq 32, 3) := by decide +kernel
theorem dX9_counts_21 : decode cX9_counts 21 = .ok (.iload_n 3, 1) := by decide +kernel
theorem dX9_counts_22 : decode cX9_counts 22 = .ok (.invokestatic 203, 3) := by decide +kernel
theorem dX9_counts_25 : decode cX9_counts 25 = .ok (.ifCond .eq 25, 3) := by decide +kernel
theorem dX9_counts_28 : decode cX9_counts 28 = .ok (.iload 4, 2) := by decide +kernel
theorem dX9_counts_30 : decode cX9_counts 30 = .ok (.iconst 0, 1) := by decide +kernel
theorem dX9_counts_31 : decode cX9_counts 31 = .ok (.sipush 9999, 3) := by decide +kernel
theorem dX9_counts_34 : decode cX9_counts 34 = .ok (.invokestatic 92, 3) := by decide +kernel
theorem dX9_counts_37 : decode cX9_counts 37 = .ok (.ifCond .eq 13, 3) := by decide +kernel
theorem dX9_counts_40 : decode cX9_counts 40 = .ok (.iload 5, 2) := by decide +kernel
theorem dX9_counts_42 : decode cX9_counts 42 = .ok (.iconst 0, 1) := by decide +kernel
theorem dX9_counts_43 : decode cX9_counts 43 = .ok (.iconst 3, 1) := by decide +kernel
theorem dX9_counts_44 : decode cX9_counts 44 = .ok (.invokestatic 92, 3) := by decide +kernel
theorem dX9_counts_47 : decode cX9_counts 47 = .ok (.ifCond .ne 5, 3) := by decide +kernel
theorem dX9_counts_50 : decode cX9_counts 50 = .ok (.iconst (-1), 1) := by decide +kernel
theorem dX9_counts_51 : decode cX9_counts 51 = .ok (.ireturn, 1) := by decide +kernel
theorem dX9_counts_52 : decode cX9_counts 52 = .ok (.aload_n 0, 1) := by decide +kernel
theorem dX9_counts_53 : decode cX9_counts 53 = .ok (.iload_n 1, 1) := by decide +kernel
theorem dX9_counts_54 : decode cX9_counts 54 = .ok (.iload_n 2, 1) := by decide +kernel
theorem dX9_counts_55 : decode cX9_counts 55 = .ok (.iload_n 3, 1) := by decide +kernel
theorem dX9_counts_56 : decode cX9_counts 56 = .ok (.iload 5, 2) := by decide +kernel
theorem dX9_counts_58 : decode cX9_counts 58 = .ok (.invokevirtual 251, 3) := by decide +kernel
theorem dX9_counts_61 : decode cX9_counts 61 = .ok (.istore 6, 2) := by decide +kernel
theorem dX9_counts_63 : decode cX9_counts 63 = .ok (.iload 6, 2) := by decide +kernel
theorem dX9_counts_65 : decode cX9_counts 65 = .ok (.ifCond .ge 6, 3) := by decide +kernel
theorem dX9_counts_68 : decode cX9_counts 68 = .ok (.iload 6, 2) := by decide +kernel
theorem dX9_counts_70 : decode cX9_counts 70 = .ok (.ireturn, 1) := by decide +kernel
theorem dX9_counts_71 : decode cX9_counts 71 = .ok (.aload_n 0, 1) := by decide +kernel
theorem dX9_counts_72 : decode cX9_counts 72 = .ok (.invokevirtual 245, 3) := by decide +kernel
theorem dX9_counts_75 : decode cX9_counts 75 = .ok (.sipush 445, 3) := by decide +kernel
theorem dX9_counts_78 : decode cX9_counts 78 = .ok (.bipush 6, 2) := by decide +kernel
theorem dX9_counts_80 : decode cX9_counts 80 = .ok (.aload_n 0, 1) := by decide +kernel
theorem dX9_counts_81 : decode cX9_counts 81 = .ok (.getfield 74, 3) := by decide +kernel
theorem dX9_counts_84 : decode cX9_counts 84 = .ok (.iconst 3, 1) := by decide +kernel
theorem dX9_counts_85 : decode cX9_counts 85 = .ok (.iaload, 1) := by decide +kernel
theorem dX9_counts_86 : decode cX9_counts 86 = .ok (.imul, 1) := by decide +kernel
theorem dX9_counts_87 : decode cX9_counts 87 = .ok (.iadd, 1) := by decide +kernel
theorem dX9_counts_88 : decode cX9_counts 88 = .ok (.istore 7, 2) := by decide +kernel
theorem dX9_counts_90 : decode cX9_counts 90 = .ok (.aload_n 0, 1) := by decide +kernel
theorem dX9_counts_91 : decode cX9_counts 91 = .ok (.getfield 74, 3) := by decide +kernel
theorem dX9_counts_94 : decode cX9_counts 94 = .ok (.iload 7, 2) := by decide +kernel
theorem dX9_counts_96 : decode cX9_counts 96 = .ok (.iconst 0, 1) := by decide +kernel
theorem dX9_counts_97 : decode cX9_counts 97 = .ok (.iadd, 1) := by decide +kernel
theorem dX9_counts_98 : decode cX9_counts 98 = .ok (.iload_n 1, 1) := by decide +kernel
theorem dX9_counts_99 : decode cX9_counts 99 = .ok (.iastore, 1) := by decide +kernel
theorem dX9_counts_100 : decode cX9_counts 100 = .ok (.aload_n 0, 1) := by decide +kernel
theorem dX9_counts_101 : decode cX9_counts 101 = .ok (.getfield 74, 3) := by decide +kernel
theorem dX9_counts_104 : decode cX9_counts 104 = .ok (.iload 7, 2) := by decide +kernel
theorem dX9_counts_106 : decode cX9_counts 106 = .ok (.iconst 1, 1) := by decide +kernel
theorem dX9_counts_107 : decode cX9_counts 107 = .ok (.iadd, 1) := by decide +kernel
theorem dX9_counts_108 : decode cX9_counts 108 = .ok (.iload_n 2, 1) := by decide +kernel
theorem dX9_counts_109 : decode cX9_counts 109 = .ok (.iastore, 1) := by decide +kernel
theorem dX9_counts_110 : decode cX9_counts 110 = .ok (.aload_n 0, 1) := by decide +kernel
theorem dX9_counts_111 : decode cX9_counts 111 = .ok (.getfield 74, 3) := by decide +kernel
theorem dX9_counts_114 : decode cX9_counts 114 = .ok (.iload 7, 2) := by decide +kernel
theorem dX9_counts_116 : decode cX9_counts 116 = .ok (.iconst 2, 1) := by decide +kernel
theorem dX9_counts_117 : decode cX9_counts 117 = .ok (.iadd, 1) := by decide +kernel
theorem dX9_counts_118 : decode cX9_counts 118 = .ok (.iload_n 3, 1) := by decide +kernel
theorem dX9_counts_119 : decode cX9_counts 119 = .ok (.iastore, 1) := by decide +kernel
theorem dX9_counts_120 : decode cX9_counts 120 = .ok (.aload_n 0, 1) := by decide +kernel
theorem dX9_counts_121 : decode cX9_counts 121 = .ok (.getfield 74, 3) := by decide +kernel
theorem dX9_counts_124 : decode cX9_counts 124 = .ok (.iload 7, 2) := by decide +kernel
theorem dX9_counts_126 : decode cX9_counts 126 = .ok (.iconst 3, 1) := by decide +kernel
theorem dX9_counts_127 : decode cX9_counts 127 = .ok (.iadd, 1) := by decide +kernel
theorem dX9_counts_128 : decode cX9_counts 128 = .ok (.iload 4, 2) := by decide +kernel
theorem dX9_counts_130 : decode cX9_counts 130 = .ok (.iastore, 1) := by decide +kernel
theorem dX9_counts_131 : decode cX9_counts 131 = .ok (.aload_n 0, 1) := by decide +kernel
theorem dX9_counts_132 : decode cX9_counts 132 = .ok (.getfield 74, 3) := by decide +kernel
theorem dX9_counts_135 : decode cX9_counts 135 = .ok (.iload 7, 2) := by decide +kernel
theorem dX9_counts_137 : decode cX9_counts 137 = .ok (.iconst 4, 1) := by decide +kernel
theorem dX9_counts_138 : decode cX9_counts 138 = .ok (.iadd, 1) := by decide +kernel
theorem dX9_counts_139 : decode cX9_counts 139 = .ok (.iload 5, 2) := by decide +kernel
theorem dX9_counts_141 : decode cX9_counts 141 = .ok (.iastore, 1) := by decide +kernel
theorem dX9_counts_142 : decode cX9_counts 142 = .ok (.aload_n 0, 1) := by decide +kernel
theorem dX9_counts_143 : decode cX9_counts 143 = .ok (.getfield 74, 3) := by decide +kernel
theorem dX9_counts_146 : decode cX9_counts 146 = .ok (.iload 7, 2) := by decide +kernel
theorem dX9_counts_148 : decode cX9_counts 148 = .ok (.iconst 5, 1) := by decide +kernel
theorem dX9_counts_149 : decode cX9_counts 149 = .ok (.iadd, 1) := by decide +kernel
theorem dX9_counts_150 : decode cX9_counts 150 = .ok (.iconst 0, 1) := by decide +kernel
theorem dX9_counts_151 : decode cX9_counts 151 = .ok (.iastore, 1) := by decide +kernel
theorem dX9_counts_152 : decode cX9_counts 152 = .ok (.aload_n 0, 1) := by decide +kernel
theorem dX9_counts_153 : decode cX9_counts 153 = .ok (.getfield 74, 3) := by decide +kernel
theorem dX9_counts_156 : decode cX9_counts 156 = .ok (.iconst 3, 1) := by decide +kernel
theorem dX9_counts_157 : decode cX9_counts 157 = .ok (.dup2, 1) := by decide +kernel
theorem dX9_counts_158 : decode cX9_counts 158 = .ok (.iaload, 1) := by decide +kernel
theorem dX9_counts_159 : decode cX9_counts 159 = .ok (.iconst 1, 1) := by decide +kernel
theorem dX9_counts_160 : decode cX9_counts 160 = .ok (.iadd, 1) := by decide +kernel
theorem dX9_counts_161 : decode cX9_counts 161 = .ok (.iastore, 1) := by decide +kernel
theorem dX9_counts_162 : decode cX9_counts 162 = .ok (.aload_n 0, 1) := by decide +kernel
theorem dX9_counts_163 : decode cX9_counts 163 = .ok (.getfield 74, 3) := by decide +kernel
theorem dX9_counts_166 : decode cX9_counts 166 = .ok (.iconst 3, 1) := by decide +kernel
theorem dX9_counts_167 : decode cX9_counts 167 = .ok (.iaload, 1) := by decide +kernel
theorem dX9_counts_168 : decode cX9_counts 168 = .ok (.iconst 1, 1) := by decide +kernel
theorem dX9_counts_169 : decode cX9_counts 169 = .ok (.isub, 1) := by decide +kernel
theorem dX9_counts_170 : decode cX9_counts 170 = .ok (.ireturn, 1) := by decide +kernel
theorem dX9_post_0 : decode cX9_post 0 = .ok (.aload_n 0, 1) := by decide +kernel
theorem dX9_post_1 : decode cX9_post 1 = .ok (.iconst 0, 1) := by decide +kernel
theorem dX9_post_2 : decode cX9_post 2 = .ok (.putfield 1, 3) := by decide +kernel
theorem dX9_post_5 : decode cX9_post 5 = .ok (.aload_n 0, 1) := by decide +kernel
theorem dX9_post_6 : decode cX9_post 6 = .ok (.iload_n 1, 1) := by decide +kernel
theorem dX9_post_7 : decode cX9_post 7 = .ok (.invokevirtual 200, 3) := by decide +kernel
theorem dX9_post_10 : decode cX9_post 10 = .ok (.ifCond .eq 20, 3) := by decide +kernel
theorem dX9_post_13 : decode cX9_post 13 = .ok (.aload_n 0, 1) := by decide +kernel
theorem dX9_post_14 : decode cX9_post 14 = .ok (.iload_n 2, 1) := by decide +kernel
theorem dX9_post_15 : decode cX9_post 15 = .ok (.invokevirtual 191, 3) := by decide +kernel
theorem dX9_post_18 : decode cX9_post 18 = .ok (.ifCond .eq 12, 3) := by decide +kernel
theorem dX9_post_21 : decode cX9_post 21 = .ok (.aload_n 0, 1) := by decide +kernel
theorem dX9_post_22 : decode cX9_post 22 = .ok (.iload_n 1, 1) := by decide +kernel
theorem dX9_post_23 : decode cX9_post 23 = .ok (.iload_n 2, 1) := by decide +kernel
theorem dX9_post_24 : decode cX9_post 24 = .ok (.invokevirtual 242, 3) := by decide +kernel
theorem dX9_post_27 : decode cX9_post 27 = .ok (.goto 4, 3) := by decide +kernel
theorem dX9_post_30 : decode cX9_post 30 = .ok (.iconst (-1), 1) := by decide +kernel
theorem dX9_post_31 : decode cX9_post 31 = .ok (.istore_n 3, 1) := by decide +kernel
theorem dX9_post_32 : decode cX9_post 32 = .ok (.iload_n 3, 1) := by decide +kernel
theorem dX9_post_33 : decode cX9_post 33 = .ok (.ifCond .ge 6, 3) := by decide +kernel
theorem dX9_post_36 : decode cX9_post 36 = .ok (.ldc 206, 2) := by decide +kernel
theorem dX9_post_38 : decode cX9_post 38 = .ok (.ireturn, 1) := by decide +kernel
theorem dX9_post_39 : decode cX9_post 39 = .ok (.aload_n 0, 1) := by decide +kernel
theorem dX9_post_40 : decode cX9_post 40 = .ok (.invokevirtual 245, 3) := by decide +kernel
theorem dX9_post_43 : decode cX9_post 43 = .ok (.aload_n 0, 1) := by decide +kernel
theorem dX9_post_44 : decode cX9_post 44 = .ok (.iload_n 3, 1) := by decide +kernel
theorem dX9_post_45 : decode cX9_post 45 = .ok (.invokevirtual 225, 3) := by decide +kernel
theorem dX9_post_48 : decode cX9_post 48 = .ok (.istore 4, 2) := by decide +kernel
theorem dX9_post_50 : decode cX9_post 50 = .ok (.sipush 685, 3) := by decide +kernel
theorem dX9_post_53 : decode cX9_post 53 = .ok (.iconst 4, 1) := by decide +kernel
theorem dX9_post_54 : decode cX9_post 54 = .ok (.aload_n 0, 1) := by decide +kernel
theorem dX9_post_55 : decode cX9_post 55 = .ok (.getfield 74, 3) := by decide +kernel
theorem dX9_post_58 : decode cX9_post 58 = .ok (.iconst 4, 1) := by decide +kernel
theorem dX9_post_59 : decode cX9_post 59 = .ok (.iaload, 1) := by decide +kernel
theorem dX9_post_60 : decode cX9_post 60 = .ok (.imul, 1) := by decide +kernel
theorem dX9_post_61 : decode cX9_post 61 = .ok (.iadd, 1) := by decide +kernel
theorem dX9_post_62 : decode cX9_post 62 = .ok (.istore 5, 2) := by decide +kernel
theorem dX9_post_64 : decode cX9_post 64 = .ok (.aload_n 0, 1) := by decide +kernel
theorem dX9_post_65 : decode cX9_post 65 = .ok (.getfield 74, 3) := by decide +kernel
theorem dX9_post_68 : decode cX9_post 68 = .ok (.iload 5, 2) := by decide +kernel
theorem dX9_post_70 : decode cX9_post 70 = .ok (.iload_n 1, 1) := by decide +kernel
theorem dX9_post_71 : decode cX9_post 71 = .ok (.iastore, 1) := by decide +kernel
theorem dX9_post_72 : decode cX9_post 72 = .ok (.aload_n 0, 1) := by decide +kernel
theorem dX9_post_73 : decode cX9_post 73 = .ok (.getfield 74, 3) := by decide +kernel
theorem dX9_post_76 : decode cX9_post 76 = .ok (.iload 5, 2) := by decide +kernel
theorem dX9_post_78 : decode cX9_post 78 = .ok (.iconst 1, 1) := by decide +kernel
theorem dX9_post_79 : decode cX9_post 79 = .ok (.iadd, 1) := by decide +kernel
theorem dX9_post_80 : decode cX9_post 80 = .ok (.iload_n 2, 1) := by decide +kernel
theorem dX9_post_81 : decode cX9_post 81 = .ok (.iastore, 1) := by decide +kernel
theorem dX9_post_82 : decode cX9_post 82 = .ok (.aload_n 0, 1) := by decide +kernel
theorem dX9_post_83 : decode cX9_post 83 = .ok (.getfield 74, 3) := by decide +kernel
theorem dX9_post_86 : decode cX9_post 86 = .ok (.iload 5, 2) := by decide +kernel
theorem dX9_post_88 : decode cX9_post 88 = .ok (.iconst 2, 1) := by decide +kernel
theorem dX9_post_89 : decode cX9_post 89 = .ok (.iadd, 1) := by decide +kernel
theorem dX9_post_90 : decode cX9_post 90 = .ok (.aload_n 0, 1) := by decide +kernel
theorem dX9_post_91 : decode cX9_post 91 = .ok (.iload_n 3, 1) := by decide +kernel
theorem dX9_post_92 : decode cX9_post 92 = .ok (.iconst 2, 1) := by decide +kernel
theorem dX9_post_93 : decode cX9_post 93 = .ok (.invokevirtual 213, 3) := by decide +kernel
theorem dX9_post_96 : decode cX9_post 96 = .ok (.iastore, 1) := by decide +kernel
theorem dX9_post_97 : decode cX9_post 97 = .ok (.aload_n 0, 1) := by decide +kernel
theorem dX9_post_98 : decode cX9_post 98 = .ok (.getfield 74, 3) := by decide +kernel
theorem dX9_post_101 : decode cX9_post 101 = .ok (.iload 5, 2) := by decide +kernel
theorem dX9_post_103 : decode cX9_post 103 = .ok (.iconst 3, 1) := by decide +kernel
theorem dX9_post_104 : decode cX9_post 104 = .ok (.iadd, 1) := by decide +kernel
theorem dX9_post_105 : decode cX9_post 105 = .ok (.iload 4, 2) := by decide +kernel
theorem dX9_post_107 : decode cX9_post 107 = .ok (.iastore, 1) := by decide +kernel
theorem dX9_post_108 : decode cX9_post 108 = .ok (.aload_n 0, 1) := by decide +kernel
theorem dX9_post_109 : decode cX9_post 109 = .ok (.getfield 74, 3) := by decide +kernel
theorem dX9_post_112 : decode cX9_post 112 = .ok (.iconst 4, 1) := by decide +kernel
theorem dX9_post_113 : decode cX9_post 113 = .ok (.dup2, 1) := by decide +kernel
theorem dX9_post_114 : decode cX9_post 114 = .ok (.iaload, 1) := by decide +kernel
theorem dX9_post_115 : decode cX9_post 115 = .ok (.iconst 1, 1) := by decide +kernel
theorem dX9_post_116 : decode cX9_post 116 = .ok (.iadd, 1) := by decide +kernel
theorem dX9_post_117 : decode cX9_post 117 = .ok (.iastore, 1) := by decide +kernel
theorem dX9_post_118 : decode cX9_post 118 = .ok (.iconst 0, 1) := by decide +kernel
theorem dX9_post_119 : decode cX9_post 119 = .ok (.istore 6, 2) := by decide +kernel
theorem dX9_post_121 : decode cX9_post 121 = .ok (.iload 6, 2) := by decide +kernel
theorem dX9_post_123 : decode cX9_post 123 = .ok (.aload_n 0, 1) := by decide +kernel
theorem dX9_post_124 : decode cX9_post 124 = .ok (.getfield 74, 3) := by decide +kernel
theorem dX9_post_127 : decode cX9_post 127 = .ok (.iconst 3, 1) := by decide +kernel
theorem dX9_post_128 : decode cX9_post 128 = .ok (.iaload, 1) := by decide +kernel
theorem dX9_post_129 : decode cX9_post 129 = .ok (.if_icmp .ge 53, 3) := by decide +kernel
theorem dX9_post_132 : decode cX9_post 132 = .ok (.aload_n 0, 1) := by decide +kernel
theorem dX9_post_133 : decode cX9_post 133 = .ok (.iload 6, 2) := by decide +kernel
theorem dX9_post_135 : decode cX9_post 135 = .ok (.iload_n 1, 1) := by decide +kernel
theorem dX9_post_136 : decode cX9_post 136 = .ok (.iload_n 2, 1) := by decide +kernel
theorem dX9_post_137 : decode cX9_post 137 = .ok (.invokevirtual 232, 3) := by decide +kernel
theorem dX9_post_140 : decode cX9_post 140 = .ok (.ifCond .eq 36, 3) := by decide +kernel
theorem dX9_post_143 : decode cX9_post 143 = .ok (.aload_n 0, 1) := by decide +kernel
theorem dX9_post_144 : decode cX9_post 144 = .ok (.iload 6, 2) := by decide +kernel
theorem dX9_post_146 : decode cX9_post 146 = .ok (.iconst 2, 1) := by decide +kernel
theorem dX9_post_147 : decode cX9_post 147 = .ok (.invokevirtual 213, 3) := by decide +kernel
theorem dX9_post_150 : decode cX9_post 150 = .ok (.aload_n 0, 1) := by decide +kernel
theorem dX9_post_151 : decode cX9_post 151 = .ok (.iload_n 3, 1) := by decide +kernel
theorem dX9_post_152 : decode cX9_post 152 = .ok (.iconst 2, 1) := by decide +kernel
theorem dX9_post_153 : decode cX9_post 153 = .ok (.invokevirtual 213, 3) := by decide +kernel
theorem dX9_post_156 : decode cX9_post 156 = .ok (.if_icmp .gt 20, 3) := by decide +kernel
theorem dX9_post_159 : decode cX9_post 159 = .ok (.aload_n 0, 1) := by decide +kernel
theorem dX9_post_160 : decode cX9_post 160 = .ok (.getfield 74, 3) := by decide +kernel
theorem dX9_post_163 : decode cX9_post 163 = .ok (.sipush 445, 3) := by decide +kernel
theorem dX9_post_166 : decode cX9_post 166 = .ok (.bipush 6, 2) := by decide +kernel
theorem dX9_post_168 : decode cX9_post 168 = .ok (.iload 6, 2) := by decide +kernel
theorem dX9_post_170 : decode cX9_post 170 = .ok (.imul, 1) := by decide +kernel
theorem dX9_post_171 : decode cX9_post 171 = .ok (.iadd, 1) := by decide +kernel
theorem dX9_post_172 : decode cX9_post 172 = .ok (.iconst 5, 1) := by decide +kernel
theorem dX9_post_173 : decode cX9_post 173 = .ok (.iadd, 1) := by decide +kernel
theorem dX9_post_174 : decode cX9_post 174 = .ok (.iconst 1, 1) := by decide +kernel
theorem dX9_post_175 : decode cX9_post 175 = .ok (.iastore, 1) := by decide +kernel
theorem dX9_post_176 : decode cX9_post 176 = .ok (.iinc 6 1, 3) := by decide +kernel
theorem dX9_post_179 : decode cX9_post 179 = .ok (.goto (-58), 3) := by decide +kernel
theorem dX9_post_182 : decode cX9_post 182 = .ok (.iload 4, 2) := by decide +kernel
theorem dX9_post_184 : decode cX9_post 184 = .ok (.ireturn, 1) := by decide +kernel
theorem dX9_drop_0 : decode cX9_drop 0 = .ok (.aload_n 0, 1) := by decide +kernel
theorem dX9_drop_1 : decode cX9_drop 1 = .ok (.iconst 0, 1) := by decide +kernel
theorem dX9_drop_2 : decode cX9_drop 2 = .ok (.putfield 1, 3) := by decide +kernel
theorem dX9_drop_5 : decode cX9_drop 5 = .ok (.aload_n 0, 1) := by decide +kernel
theorem dX9_drop_6 : decode cX9_drop 6 = .ok (.iload_n 1, 1) := by decide +kernel
theorem dX9_drop_7 : decode cX9_drop 7 = .ok (.invokevirtual 219, 3) := by decide +kernel
theorem dX9_drop_10 : decode cX9_drop 10 = .ok (.ifCond .eq 13, 3) := by decide +kernel
theorem dX9_drop_13 : decode cX9_drop 13 = .ok (.aload_n 0, 1) := by decide +kernel
theorem dX9_drop_14 : decode cX9_drop 14 = .ok (.iload_n 1, 1) := by decide +kernel
theorem dX9_drop_15 : decode cX9_drop 15 = .ok (.iconst 5, 1) := by decide +kernel
theorem dX9_drop_16 : decode cX9_drop 16 = .ok (.invokevirtual 213, 3) := by decide +kernel
theorem dX9_drop_19 : decode cX9_drop 19 = .ok (.iconst 1, 1) := by decide +kernel
theorem dX9_drop_20 : decode cX9_drop 20 = .ok (.if_icmp .ne 5, 3) := by decide +kernel
theorem dX9_drop_23 : decode cX9_drop 23 = .ok (.iconst 0, 1) := by decide +kernel
theorem dX9_drop_24 : decode cX9_drop 24 = .ok (.ireturn, 1) := by decide +kernel
theorem dX9_drop_25 : decode cX9_drop 25 = .ok (.aload_n 0, 1) := by decide +kernel
theorem dX9_drop_26 : decode cX9_drop 26 = .ok (.invokevirtual 245, 3) := by decide +kernel
theorem dX9_drop_29 : decode cX9_drop 29 = .ok (.sipush 445, 3) := by decide +kernel
theorem dX9_drop_32 : decode cX9_drop 32 = .ok (.bipush 6, 2) := by decide +kernel
theorem dX9_drop_34 : decode cX9_drop 34 = .ok (.iload_n 1, 1) := by decide +kernel
theorem dX9_drop_35 : decode cX9_drop 35 = .ok (.imul, 1) := by decide +kernel
theorem dX9_drop_36 : decode cX9_drop 36 = .ok (.iadd, 1) := by decide +kernel
theorem dX9_drop_37 : decode cX9_drop 37 = .ok (.istore_n 2, 1) := by decide +kernel
theorem dX9_drop_38 : decode cX9_drop 38 = .ok (.iload_n 2, 1) := by decide +kernel
theorem dX9_drop_39 : decode cX9_drop 39 = .ok (.sipush 445, 3) := by decide +kernel
theorem dX9_drop_42 : decode cX9_drop 42 = .ok (.bipush 6, 2) := by decide +kernel
theorem dX9_drop_44 : decode cX9_drop 44 = .ok (.aload_n 0, 1) := by decide +kernel
theorem dX9_drop_45 : decode cX9_drop 45 = .ok (.getfield 74, 3) := by decide +kernel
theorem dX9_drop_48 : decode cX9_drop 48 = .ok (.iconst 3, 1) := by decide +kernel
theorem dX9_drop_49 : decode cX9_drop 49 = .ok (.iaload, 1) := by decide +kernel
theorem dX9_drop_50 : decode cX9_drop 50 = .ok (.iconst 1, 1) := by decide +kernel
theorem dX9_drop_51 : decode cX9_drop 51 = .ok (.isub, 1) := by decide +kernel
theorem dX9_drop_52 : decode cX9_drop 52 = .ok (.imul, 1) := by decide +kernel
theorem dX9_drop_53 : decode cX9_drop 53 = .ok (.iadd, 1) := by decide +kernel
theorem dX9_drop_54 : decode cX9_drop 54 = .ok (.if_icmp .ge 24, 3) := by decide +kernel
theorem dX9_drop_57 : decode cX9_drop 57 = .ok (.aload_n 0, 1) := by decide +kernel
theorem dX9_drop_58 : decode cX9_drop 58 = .ok (.getfield 74, 3) := by decide +kernel
theorem dX9_drop_61 : decode cX9_drop 61 = .ok (.iload_n 2, 1) := by decide +kernel
theorem dX9_drop_62 : decode cX9_drop 62 = .ok (.aload_n 0, 1) := by decide +kernel
theorem dX9_drop_63 : decode cX9_drop 63 = .ok (.getfield 74, 3) := by decide +kernel
theorem dX9_drop_66 : decode cX9_drop 66 = .ok (.iload_n 2, 1) := by decide +kernel
theorem dX9_drop_67 : decode cX9_drop 67 = .ok (.bipush 6, 2) := by decide +kernel
theorem dX9_drop_69 : decode cX9_drop 69 = .ok (.iadd, 1) := by decide +kernel
theorem dX9_drop_70 : decode cX9_drop 70 = .ok (.iaload, 1) := by decide +kernel
theorem dX9_drop_71 : decode cX9_drop 71 = .ok (.iastore, 1) := by decide +kernel
theorem dX9_drop_72 : decode cX9_drop 72 = .ok (.iinc 2 1, 3) := by decide +kernel
theorem dX9_drop_75 : decode cX9_drop 75 = .ok (.goto (-37), 3) := by decide +kernel
theorem dX9_drop_78 : decode cX9_drop 78 = .ok (.aload_n 0, 1) := by decide +kernel
theorem dX9_drop_79 : decode cX9_drop 79 = .ok (.getfield 74, 3) := by decide +kernel
theorem dX9_drop_82 : decode cX9_drop 82 = .ok (.iconst 3, 1) := by decide +kernel
theorem dX9_drop_83 : decode cX9_drop 83 = .ok (.dup2, 1) := by decide +kernel
theorem dX9_drop_84 : decode cX9_drop 84 = .ok (.iaload, 1) := by decide +kernel
theorem dX9_drop_85 : decode cX9_drop 85 = .ok (.iconst 1, 1) := by decide +kernel
theorem dX9_drop_86 : decode cX9_drop 86 = .ok (.isub, 1) := by decide +kernel
theorem dX9_drop_87 : decode cX9_drop 87 = .ok (.iastore, 1) := by decide +kernel
theorem dX9_drop_88 : decode cX9_drop 88 = .ok (.iconst 1, 1) := by decide +kernel
theorem dX9_drop_89 : decode cX9_drop 89 = .ok (.ireturn, 1) := by decide +kernel
theorem dX9_undo_0 : decode cX9_undo 0 = .ok (.aload_n 0, 1) := by decide +kernel
theorem dX9_undo_1 : decode cX9_undo 1 = .ok (.iconst 0, 1) := by decide +kernel
theorem dX9_undo_2 : decode cX9_undo 2 = .ok (.putfield 1, 3) := by decide +kernel
theorem dX9_undo_5 : decode cX9_undo 5 = .ok (.aload_n 0, 1) := by decide +kernel
theorem dX9_undo_6 : decode cX9_undo 6 = .ok (.getfield 153, 3) := by decide +kernel
theorem dX9_undo_9 : decode cX9_undo 9 = .ok (.ifCond .ne 5, 3) := by decide +kernel
theorem dX9_undo_12 : decode cX9_undo 12 = .ok (.iconst (-1), 1) := by decide +kernel
theorem dX9_undo_13 : decode cX9_undo 13 = .ok (.ireturn, 1) := by decide +kernel
theorem dX9_undo_14 : decode cX9_undo 14 = .ok (.aload_n 0, 1) := by decide +kernel
theorem dX9_undo_15 : decode cX9_undo 15 = .ok (.dup, 1) := by decide +kernel
theorem dX9_undo_16 : decode cX9_undo 16 = .ok (.getfield 153, 3) := by decide +kernel
theorem dX9_undo_19 : decode cX9_undo 19 = .ok (.iconst 1, 1) := by decide +kernel
theorem dX9_undo_20 : decode cX9_undo 20 = .ok (.isub, 1) := by decide +kernel
theorem dX9_undo_21 : decode cX9_undo 21 = .ok (.putfield 153, 3) := by decide +kernel
theorem dX9_undo_24 : decode cX9_undo 24 = .ok (.iconst 0, 1) := by decide +kernel
theorem dX9_undo_25 : decode cX9_undo 25 = .ok (.istore_n 1, 1) := by decide +kernel
theorem dX9_undo_26 : decode cX9_undo 26 = .ok (.iload_n 1, 1) := by decide +kernel
theorem dX9_undo_27 : decode cX9_undo 27 = .ok (.sipush 845, 3) := by decide +kernel
theorem dX9_undo_30 : decode cX9_undo 30 = .ok (.if_icmp .ge 30, 3) := by decide +kernel
theorem dX9_undo_33 : decode cX9_undo 33 = .ok (.aload_n 0, 1) := by decide +kernel
theorem dX9_undo_34 : decode cX9_undo 34 = .ok (.getfield 74, 3) := by decide +kernel
theorem dX9_undo_37 : decode cX9_undo 37 = .ok (.iload_n 1, 1) := by decide +kernel
theorem dX9_undo_38 : decode cX9_undo 38 = .ok (.aload_n 0, 1) := by decide +kernel
theorem dX9_undo_39 : decode cX9_undo 39 = .ok (.getfield 80, 3) := by decide +kernel
theorem dX9_undo_42 : decode cX9_undo 42 = .ok (.sipush 845, 3) := by decide +kernel
theorem dX9_undo_45 : decode cX9_undo 45 = .ok (.aload_n 0, 1) := by decide +kernel
theorem dX9_undo_46 : decode cX9_undo 46 = .ok (.getfield 153, 3) := by decide +kernel
theorem dX9_undo_49 : decode cX9_undo 49 = .ok (.imul, 1) := by decide +kernel
theorem dX9_undo_50 : decode cX9_undo 50 = .ok (.iload_n 1, 1) := by decide +kernel
theorem dX9_undo_51 : decode cX9_undo 51 = .ok (.iadd, 1) := by decide +kernel
theorem dX9_undo_52 : decode cX9_undo 52 = .ok (.iaload, 1) := by decide +kernel
theorem dX9_undo_53 : decode cX9_undo 53 = .ok (.iastore, 1) := by decide +kernel
theorem dX9_undo_54 : decode cX9_undo 54 = .ok (.iinc 1 1, 3) := by decide +kernel
theorem dX9_undo_57 : decode cX9_undo 57 = .ok (.goto (-31), 3) := by decide +kernel
theorem dX9_undo_60 : decode cX9_undo 60 = .ok (.aload_n 0, 1) := by decide +kernel
theorem dX9_undo_61 : decode cX9_undo 61 = .ok (.getfield 153, 3) := by decide +kernel
theorem dX9_undo_64 : decode cX9_undo 64 = .ok (.ireturn, 1) := by decide +kernel
end
section
/-! the words of the tables that keep (GW), the words of nest mates (NW), and each by its place -/
def GW : List Cond := lw_tbl.filter goodWord
def isNest : Cond → Bool
  | .fieldLinkNest .. => true
  | .methodLinkNest .. => true
  | _ => false
def NW : List Cond := lw_tbl.filter isNest
theorem gwm {w : Cond} (i : Nat) (h : lw_tbl[i]? = some w) (hg : goodWord w = true) : w ∈ GW := List.mem_filter.mpr ⟨List.mem_of_getElem? h, hg⟩
theorem nwm {w : Cond} (i : Nat) (h : lw_tbl[i]? = some w) (hg : isNest w = true) : w ∈ NW := List.mem_filter.mpr ⟨List.mem_of_getElem? h, hg⟩
def nwOk (U : State) : Prop := ∀ w ∈ NW, va_Nw w U
theorem nwOk.warm {s U : State} (hW : s.WarmedH U.vm) (h : nwOk s) : nwOk U := by
  intro w hw
  have h1 := (List.mem_filter.mp hw).2
  have h2 := h w hw
  cases w <;> first | exact va_Nw.warmF hW h2 | exact va_Nw.warmM hW h2 | exact absurd h1 (by simp [isNest])
theorem nwOk.same {s U : State} (hv : s.vm = U.vm) (h : nwOk s) : nwOk U := by
  intro w hw
  have h1 := (List.mem_filter.mp hw).2
  have h2 := h w hw
  cases w <;> first | exact va_Nw.same rfl hv h2 | exact absurd h1 (by simp [isNest])
theorem gw_good {w : Cond} (h : w ∈ GW) : (w.onTables && w.keeps) = true ∨ ∃ ty, w = .arrayClass ty := good_of_word (List.mem_filter.mp h).2
theorem gw_in {x y : MethodName} {bx bY : ByteArray} {nx ny : Nat} {rx ry : Option FieldType} (h : Cond.code y bY ny ry ∈ GW) : GoodIn (.code x bx nx rx :: GW) (.code y bY ny ry :: GW) := by
  intro w hw
  rcases List.mem_cons.mp hw with rfl | hw
  · exact ⟨List.mem_cons_of_mem _ h, gw_good h⟩
  · exact ⟨List.mem_cons_of_mem _ hw, gw_good hw⟩
theorem gw_tbl {y : MethodName} {bY : ByteArray} {ny : Nat} {ry : Option FieldType} (h : Cond.code y bY ny ry ∈ GW) : GoodIn GW (.code y bY ny ry :: GW) := by
  intro w hw
  rcases List.mem_cons.mp hw with rfl | hw
  · exact ⟨h, gw_good h⟩
  · exact ⟨hw, gw_good hw⟩

theorem gw_0 : Cond.selects "RunningCount$Tape" (⟨"RunningCount$Tape", "hasRoom", "()Z"⟩ : MethodName) (⟨"RunningCount$Tape", "hasRoom", "()Z"⟩ : MethodName) ∈ GW := gwm 0 (by decide +kernel) rfl
theorem gw_1 : Cond.selects "RunningCount$Tape" (⟨"RunningCount$Tape", "append", "(I)V"⟩ : MethodName) (⟨"RunningCount$Tape", "append", "(I)V"⟩ : MethodName) ∈ GW := gwm 1 (by decide +kernel) rfl
theorem gw_2 : Cond.selects "RunningCount$TextReader" (⟨"RunningCount$TextReader", "readText", "(LRunningCount$Goods;)Z"⟩ : MethodName) (⟨"RunningCount$TextReader", "readText", "(LRunningCount$Goods;)Z"⟩ : MethodName) ∈ GW := gwm 2 (by decide +kernel) rfl
theorem gw_3 : Cond.selects "RunningCount$Tape" (⟨"RunningCount$Tape", "scan", "()V"⟩ : MethodName) (⟨"RunningCount$Tape", "scan", "()V"⟩ : MethodName) ∈ GW := gwm 3 (by decide +kernel) rfl
theorem gw_4 : Cond.selects "RunningCount$Tape" (⟨"RunningCount$Tape", "behindRun", "(I)I"⟩ : MethodName) (⟨"RunningCount$Tape", "behindRun", "(I)I"⟩ : MethodName) ∈ GW := gwm 4 (by decide +kernel) rfl
theorem gw_5 : Cond.selects "RunningCount$Tape" (⟨"RunningCount$Tape", "kindOf", "(II)I"⟩ : MethodName) (⟨"RunningCount$Tape", "kindOf", "(II)I"⟩ : MethodName) ∈ GW := gwm 5 (by decide +kernel) rfl
theorem gw_6 : Cond.selects "RunningCount$Tape" (⟨"RunningCount$Tape", "kindOfWord", "(II)I"⟩ : MethodName) (⟨"RunningCount$Tape", "kindOfWord", "(II)I"⟩ : MethodName) ∈ GW := gwm 6 (by decide +kernel) rfl
theorem gw_7 : Cond.selects "RunningCount$Tape" (⟨"RunningCount$Tape", "isWord", "(IILjava/lang/String;)Z"⟩ : MethodName) (⟨"RunningCount$Tape", "isWord", "(IILjava/lang/String;)Z"⟩ : MethodName) ∈ GW := gwm 7 (by decide +kernel) rfl
theorem gw_8 : Cond.selects "RunningCount$Tape" (⟨"RunningCount$Tape", "addToken", "(II)V"⟩ : MethodName) (⟨"RunningCount$Tape", "addToken", "(II)V"⟩ : MethodName) ∈ GW := gwm 8 (by decide +kernel) rfl
theorem gw_9 : Cond.selects "RunningCount$Goods" (⟨"RunningCount$Goods", "clear", "()V"⟩ : MethodName) (⟨"RunningCount$Goods", "clear", "()V"⟩ : MethodName) ∈ GW := gwm 9 (by decide +kernel) rfl
theorem gw_10 : Cond.selects "RunningCount$TextReader" (⟨"RunningCount$TextReader", "advance", "()V"⟩ : MethodName) (⟨"RunningCount$TextReader", "advance", "()V"⟩ : MethodName) ∈ GW := gwm 10 (by decide +kernel) rfl
theorem gw_11 : Cond.selects "RunningCount$TextReader" (⟨"RunningCount$TextReader", "readShelves", "(LRunningCount$Goods;)Z"⟩ : MethodName) (⟨"RunningCount$TextReader", "readShelves", "(LRunningCount$Goods;)Z"⟩ : MethodName) ∈ GW := gwm 11 (by decide +kernel) rfl
theorem gw_12 : Cond.selects "RunningCount$TextReader" (⟨"RunningCount$TextReader", "take", "(I)Z"⟩ : MethodName) (⟨"RunningCount$TextReader", "take", "(I)Z"⟩ : MethodName) ∈ GW := gwm 12 (by decide +kernel) rfl
theorem gw_13 : Cond.selects "RunningCount$TextReader" (⟨"RunningCount$TextReader", "fail", "(I)Z"⟩ : MethodName) (⟨"RunningCount$TextReader", "fail", "(I)Z"⟩ : MethodName) ∈ GW := gwm 13 (by decide +kernel) rfl
theorem gw_14 : Cond.selects "RunningCount$TextReader" (⟨"RunningCount$TextReader", "takeNumber", "(II)Z"⟩ : MethodName) (⟨"RunningCount$TextReader", "takeNumber", "(II)Z"⟩ : MethodName) ∈ GW := gwm 14 (by decide +kernel) rfl
theorem gw_15 : Cond.selects "RunningCount$TextReader" (⟨"RunningCount$TextReader", "takeLineEnd", "()Z"⟩ : MethodName) (⟨"RunningCount$TextReader", "takeLineEnd", "()Z"⟩ : MethodName) ∈ GW := gwm 15 (by decide +kernel) rfl
theorem gw_16 : Cond.selects "RunningCount$TextReader" (⟨"RunningCount$TextReader", "readItems", "(LRunningCount$Goods;)Z"⟩ : MethodName) (⟨"RunningCount$TextReader", "readItems", "(LRunningCount$Goods;)Z"⟩ : MethodName) ∈ GW := gwm 16 (by decide +kernel) rfl
theorem gw_17 : Cond.selects "RunningCount$TextReader" (⟨"RunningCount$TextReader", "readItem", "(LRunningCount$Goods;)Z"⟩ : MethodName) (⟨"RunningCount$TextReader", "readItem", "(LRunningCount$Goods;)Z"⟩ : MethodName) ∈ GW := gwm 17 (by decide +kernel) rfl
theorem gw_18 : Cond.selects "RunningCount$Goods" (⟨"RunningCount$Goods", "addItem", "(II)V"⟩ : MethodName) (⟨"RunningCount$Goods", "addItem", "(II)V"⟩ : MethodName) ∈ GW := gwm 18 (by decide +kernel) rfl
theorem gw_19 : Cond.selects "RunningCount$TextReader" (⟨"RunningCount$TextReader", "readStocks", "(LRunningCount$Goods;)Z"⟩ : MethodName) (⟨"RunningCount$TextReader", "readStocks", "(LRunningCount$Goods;)Z"⟩ : MethodName) ∈ GW := gwm 19 (by decide +kernel) rfl
theorem gw_20 : Cond.selects "RunningCount$TextReader" (⟨"RunningCount$TextReader", "readStock", "(LRunningCount$Goods;)Z"⟩ : MethodName) (⟨"RunningCount$TextReader", "readStock", "(LRunningCount$Goods;)Z"⟩ : MethodName) ∈ GW := gwm 20 (by decide +kernel) rfl
theorem gw_21 : Cond.selects "RunningCount$Goods" (⟨"RunningCount$Goods", "isStockTold", "(II)Z"⟩ : MethodName) (⟨"RunningCount$Goods", "isStockTold", "(II)Z"⟩ : MethodName) ∈ GW := gwm 21 (by decide +kernel) rfl
theorem gw_22 : Cond.selects "RunningCount$Goods" (⟨"RunningCount$Goods", "hasCouple", "(II)Z"⟩ : MethodName) (⟨"RunningCount$Goods", "hasCouple", "(II)Z"⟩ : MethodName) ∈ GW := gwm 22 (by decide +kernel) rfl
theorem gw_23 : Cond.selects "RunningCount$Goods" (⟨"RunningCount$Goods", "hasShelf", "(I)Z"⟩ : MethodName) (⟨"RunningCount$Goods", "hasShelf", "(I)Z"⟩ : MethodName) ∈ GW := gwm 23 (by decide +kernel) rfl
theorem gw_24 : Cond.selects "RunningCount$Goods" (⟨"RunningCount$Goods", "hasItem", "(I)Z"⟩ : MethodName) (⟨"RunningCount$Goods", "hasItem", "(I)Z"⟩ : MethodName) ∈ GW := gwm 24 (by decide +kernel) rfl
theorem gw_25 : Cond.selects "RunningCount$Goods" (⟨"RunningCount$Goods", "tellStock", "(III)V"⟩ : MethodName) (⟨"RunningCount$Goods", "tellStock", "(III)V"⟩ : MethodName) ∈ GW := gwm 25 (by decide +kernel) rfl
theorem gw_26 : Cond.selects "RunningCount$TextReader" (⟨"RunningCount$TextReader", "readMoves", "(LRunningCount$Goods;)Z"⟩ : MethodName) (⟨"RunningCount$TextReader", "readMoves", "(LRunningCount$Goods;)Z"⟩ : MethodName) ∈ GW := gwm 26 (by decide +kernel) rfl
theorem gw_27 : Cond.selects "RunningCount$TextReader" (⟨"RunningCount$TextReader", "readMove", "(LRunningCount$Goods;)Z"⟩ : MethodName) (⟨"RunningCount$TextReader", "readMove", "(LRunningCount$Goods;)Z"⟩ : MethodName) ∈ GW := gwm 27 (by decide +kernel) rfl
theorem gw_28 : Cond.selects "RunningCount$Goods" (⟨"RunningCount$Goods", "addMove", "(II)I"⟩ : MethodName) (⟨"RunningCount$Goods", "addMove", "(II)I"⟩ : MethodName) ∈ GW := gwm 28 (by decide +kernel) rfl
theorem gw_29 : Cond.selects "RunningCount$Goods" (⟨"RunningCount$Goods", "removeLeg", "(I)V"⟩ : MethodName) (⟨"RunningCount$Goods", "removeLeg", "(I)V"⟩ : MethodName) ∈ GW := gwm 29 (by decide +kernel) rfl
theorem gw_30 : Cond.selects "RunningCount$Goods" (⟨"RunningCount$Goods", "setLeg", "(IIII)V"⟩ : MethodName) (⟨"RunningCount$Goods", "setLeg", "(IIII)V"⟩ : MethodName) ∈ GW := gwm 30 (by decide +kernel) rfl
theorem gw_31 : Cond.selects "RunningCount$TextReader" (⟨"RunningCount$TextReader", "readLeg", "(LRunningCount$Goods;II)Z"⟩ : MethodName) (⟨"RunningCount$TextReader", "readLeg", "(LRunningCount$Goods;II)Z"⟩ : MethodName) ∈ GW := gwm 31 (by decide +kernel) rfl
theorem gw_32 : Cond.selects "RunningCount$TextReader" (⟨"RunningCount$TextReader", "readEnd", "()Z"⟩ : MethodName) (⟨"RunningCount$TextReader", "readEnd", "()Z"⟩ : MethodName) ∈ GW := gwm 32 (by decide +kernel) rfl
theorem gw_33 : Cond.selects "RunningCount$CountList" (⟨"RunningCount$CountList", "openCounts", "()I"⟩ : MethodName) (⟨"RunningCount$CountList", "openCounts", "()I"⟩ : MethodName) ∈ GW := gwm 33 (by decide +kernel) rfl
theorem gw_34 : Cond.selects "RunningCount$Book" (⟨"RunningCount$Book", "readAt", "(LRunningCount$Goods;LRunningCount$AdjustmentList;III)V"⟩ : MethodName) (⟨"RunningCount$Book", "readAt", "(LRunningCount$Goods;LRunningCount$AdjustmentList;III)V"⟩ : MethodName) ∈ GW := gwm 34 (by decide +kernel) rfl
theorem gw_35 : Cond.selects "RunningCount$Goods" (⟨"RunningCount$Goods", "stockOf", "(II)I"⟩ : MethodName) (⟨"RunningCount$Goods", "stockOf", "(II)I"⟩ : MethodName) ∈ GW := gwm 35 (by decide +kernel) rfl
theorem gw_36 : Cond.selects "RunningCount$AdjustmentList" (⟨"RunningCount$AdjustmentList", "sumUpTo", "(III)I"⟩ : MethodName) (⟨"RunningCount$AdjustmentList", "sumUpTo", "(III)I"⟩ : MethodName) ∈ GW := gwm 36 (by decide +kernel) rfl
theorem gw_37 : Cond.selects "RunningCount$AdjustmentList" (⟨"RunningCount$AdjustmentList", "isAt", "(III)Z"⟩ : MethodName) (⟨"RunningCount$AdjustmentList", "isAt", "(III)Z"⟩ : MethodName) ∈ GW := gwm 37 (by decide +kernel) rfl
theorem gw_38 : Cond.selects "RunningCount$Book" (⟨"RunningCount$Book", "readLeg", "(LRunningCount$Goods;IIII)V"⟩ : MethodName) (⟨"RunningCount$Book", "readLeg", "(LRunningCount$Goods;IIII)V"⟩ : MethodName) ∈ GW := gwm 38 (by decide +kernel) rfl
theorem gw_39 : Cond.selects "RunningCount$Goods" (⟨"RunningCount$Goods", "isOver", "(II)Z"⟩ : MethodName) (⟨"RunningCount$Goods", "isOver", "(II)Z"⟩ : MethodName) ∈ GW := gwm 39 (by decide +kernel) rfl
theorem gw_40 : Cond.selects "RunningCount$Goods" (⟨"RunningCount$Goods", "isToCome", "(II)Z"⟩ : MethodName) (⟨"RunningCount$Goods", "isToCome", "(II)Z"⟩ : MethodName) ∈ GW := gwm 40 (by decide +kernel) rfl
theorem gw_41 : Cond.selects "RunningCount$Book" (⟨"RunningCount$Book", "addDoubt", "(I)V"⟩ : MethodName) (⟨"RunningCount$Book", "addDoubt", "(I)V"⟩ : MethodName) ∈ GW := gwm 41 (by decide +kernel) rfl
theorem gw_42 : Cond.selects "RunningCount" (⟨"RunningCount", "isInTransit", "(IIZ)Z"⟩ : MethodName) (⟨"RunningCount", "isInTransit", "(IIZ)Z"⟩ : MethodName) ∈ GW := gwm 42 (by decide +kernel) rfl
theorem gw_43 : Cond.selects "RunningCount$Goods" (⟨"RunningCount$Goods", "isThere", "(I)Z"⟩ : MethodName) (⟨"RunningCount$Goods", "isThere", "(I)Z"⟩ : MethodName) ∈ GW := gwm 43 (by decide +kernel) rfl
theorem gw_44 : Cond.selects "RunningCount" (⟨"RunningCount", "isBelow", "(III)Z"⟩ : MethodName) (⟨"RunningCount", "isBelow", "(III)Z"⟩ : MethodName) ∈ GW := gwm 44 (by decide +kernel) rfl
theorem gw_45 : Cond.selects "RunningCount$CountList" (⟨"RunningCount$CountList", "has", "(I)Z"⟩ : MethodName) (⟨"RunningCount$CountList", "has", "(I)Z"⟩ : MethodName) ∈ GW := gwm 45 (by decide +kernel) rfl
theorem gw_46 : Cond.selects "RunningCount" (⟨"RunningCount", "differenceOf", "(I)I"⟩ : MethodName) (⟨"RunningCount", "differenceOf", "(I)I"⟩ : MethodName) ∈ GW := gwm 46 (by decide +kernel) rfl
theorem gw_47 : Cond.selects "RunningCount" (⟨"RunningCount", "turnTo", "(I)V"⟩ : MethodName) (⟨"RunningCount", "turnTo", "(I)V"⟩ : MethodName) ∈ GW := gwm 47 (by decide +kernel) rfl
theorem gw_48 : Cond.selects "RunningCount" (⟨"RunningCount", "chosenOf", "(II)I"⟩ : MethodName) (⟨"RunningCount", "chosenOf", "(II)I"⟩ : MethodName) ∈ GW := gwm 48 (by decide +kernel) rfl
theorem gw_49 : Cond.selects "RunningCount$CountList" (⟨"RunningCount$CountList", "openFirst", "(II)I"⟩ : MethodName) (⟨"RunningCount$CountList", "openFirst", "(II)I"⟩ : MethodName) ∈ GW := gwm 49 (by decide +kernel) rfl
theorem gw_50 : Cond.selects "RunningCount$CountList" (⟨"RunningCount$CountList", "isOpenAt", "(III)Z"⟩ : MethodName) (⟨"RunningCount$CountList", "isOpenAt", "(III)Z"⟩ : MethodName) ∈ GW := gwm 50 (by decide +kernel) rfl
theorem gw_51 : Cond.selects "RunningCount$CountList" (⟨"RunningCount$CountList", "isAt", "(III)Z"⟩ : MethodName) (⟨"RunningCount$CountList", "isAt", "(III)Z"⟩ : MethodName) ∈ GW := gwm 51 (by decide +kernel) rfl
theorem gw_52 : Cond.selects "RunningCount" (⟨"RunningCount", "allowedFor", "(I)I"⟩ : MethodName) (⟨"RunningCount", "allowedFor", "(I)I"⟩ : MethodName) ∈ GW := gwm 52 (by decide +kernel) rfl
theorem gw_53 : Cond.selects "RunningCount$CountList" (⟨"RunningCount$CountList", "openAhead", "(III)I"⟩ : MethodName) (⟨"RunningCount$CountList", "openAhead", "(III)I"⟩ : MethodName) ∈ GW := gwm 53 (by decide +kernel) rfl
theorem gw_54 : Cond.selects "RunningCount$Book" (⟨"RunningCount$Book", "sureWith", "(I)I"⟩ : MethodName) (⟨"RunningCount$Book", "sureWith", "(I)I"⟩ : MethodName) ∈ GW := gwm 54 (by decide +kernel) rfl
theorem gw_55 : Cond.selects "RunningCount$Journal" (⟨"RunningCount$Journal", "begin", "(II)LRunningCount$Act;"⟩ : MethodName) (⟨"RunningCount$Journal", "begin", "(II)LRunningCount$Act;"⟩ : MethodName) ∈ GW := gwm 55 (by decide +kernel) rfl
theorem gw_56 : Cond.selects "RunningCount$Goods" (⟨"RunningCount$Goods", "hasMove", "(I)Z"⟩ : MethodName) (⟨"RunningCount$Goods", "hasMove", "(I)Z"⟩ : MethodName) ∈ GW := gwm 56 (by decide +kernel) rfl
theorem gw_57 : Cond.selects "RunningCount$Goods" (⟨"RunningCount$Goods", "setSpan", "(III)V"⟩ : MethodName) (⟨"RunningCount$Goods", "setSpan", "(III)V"⟩ : MethodName) ∈ GW := gwm 57 (by decide +kernel) rfl
theorem gw_58 : Cond.selects "RunningCount$CountList" (⟨"RunningCount$CountList", "isCountedAt", "(III)Z"⟩ : MethodName) (⟨"RunningCount$CountList", "isCountedAt", "(III)Z"⟩ : MethodName) ∈ GW := gwm 58 (by decide +kernel) rfl
theorem gw_59 : Cond.selects "RunningCount$CountList" (⟨"RunningCount$CountList", "isPostedBehind", "(III)Z"⟩ : MethodName) (⟨"RunningCount$CountList", "isPostedBehind", "(III)Z"⟩ : MethodName) ∈ GW := gwm 59 (by decide +kernel) rfl
theorem gw_60 : Cond.selects "RunningCount$CountList" (⟨"RunningCount$CountList", "insert", "(IIIIII)V"⟩ : MethodName) (⟨"RunningCount$CountList", "insert", "(IIIIII)V"⟩ : MethodName) ∈ GW := gwm 60 (by decide +kernel) rfl
theorem gw_61 : Cond.selects "RunningCount$CountList" (⟨"RunningCount$CountList", "copy", "(II)V"⟩ : MethodName) (⟨"RunningCount$CountList", "copy", "(II)V"⟩ : MethodName) ∈ GW := gwm 61 (by decide +kernel) rfl
theorem gw_62 : Cond.selects "RunningCount$AdjustmentList" (⟨"RunningCount$AdjustmentList", "append", "(IIII)V"⟩ : MethodName) (⟨"RunningCount$AdjustmentList", "append", "(IIII)V"⟩ : MethodName) ∈ GW := gwm 62 (by decide +kernel) rfl
theorem gw_63 : Cond.selects "RunningCount$CountList" (⟨"RunningCount$CountList", "postUpTo", "(III)J"⟩ : MethodName) (⟨"RunningCount$CountList", "postUpTo", "(III)J"⟩ : MethodName) ∈ GW := gwm 63 (by decide +kernel) rfl
theorem gw_64 : Cond.selects "RunningCount$CountList" (⟨"RunningCount$CountList", "remove", "(I)V"⟩ : MethodName) (⟨"RunningCount$CountList", "remove", "(I)V"⟩ : MethodName) ∈ GW := gwm 64 (by decide +kernel) rfl
theorem gw_65 : Cond.selects "RunningCount$Journal" (⟨"RunningCount$Journal", "takeLatest", "()LRunningCount$Act;"⟩ : MethodName) (⟨"RunningCount$Journal", "takeLatest", "()LRunningCount$Act;"⟩ : MethodName) ∈ GW := gwm 65 (by decide +kernel) rfl
theorem gw_66 : Cond.selects "RunningCount" (⟨"RunningCount", "takeBack", "(LRunningCount$Act;)V"⟩ : MethodName) (⟨"RunningCount", "takeBack", "(LRunningCount$Act;)V"⟩ : MethodName) ∈ GW := gwm 66 (by decide +kernel) rfl
theorem gw_67 : Cond.selects "RunningCount$Goods" (⟨"RunningCount$Goods", "removeLastMove", "()V"⟩ : MethodName) (⟨"RunningCount$Goods", "removeLastMove", "()V"⟩ : MethodName) ∈ GW := gwm 67 (by decide +kernel) rfl
theorem gw_68 : Cond.selects "RunningCount$AdjustmentList" (⟨"RunningCount$AdjustmentList", "removeLast", "()V"⟩ : MethodName) (⟨"RunningCount$AdjustmentList", "removeLast", "()V"⟩ : MethodName) ∈ GW := gwm 68 (by decide +kernel) rfl
theorem gw_69 : Cond.selects "RunningCount$CountList" (⟨"RunningCount$CountList", "reopen", "(J)V"⟩ : MethodName) (⟨"RunningCount$CountList", "reopen", "(J)V"⟩ : MethodName) ∈ GW := gwm 69 (by decide +kernel) rfl
theorem gw_70 : Cond.selects "java/lang/Throwable" (⟨"java/lang/Throwable", "fillInStackTrace", "(I)Ljava/lang/Throwable;"⟩ : MethodName) (⟨"java/lang/Throwable", "fillInStackTrace", "(I)Ljava/lang/Throwable;"⟩ : MethodName) ∈ GW := gwm 70 (by decide +kernel) rfl
theorem gw_71 : Cond.selects "RunningCountModel" (⟨"RunningCountModel", "lays", "(I)V"⟩ : MethodName) (⟨"RunningCountModel", "lays", "(I)V"⟩ : MethodName) ∈ GW := gwm 71 (by decide +kernel) rfl
theorem gw_72 : Cond.selects "RunningCountModel" (⟨"RunningCountModel", "go", "()V"⟩ : MethodName) (⟨"RunningCountModel", "go", "()V"⟩ : MethodName) ∈ GW := gwm 72 (by decide +kernel) rfl
theorem gw_73 : Cond.selects "RunningCountModel" (⟨"RunningCountModel", "tapeAt", "(I)I"⟩ : MethodName) (⟨"RunningCountModel", "tapeAt", "(I)I"⟩ : MethodName) ∈ GW := gwm 73 (by decide +kernel) rfl
theorem gw_74 : Cond.selects "RunningCountModel" (⟨"RunningCountModel", "readWhole", "()Z"⟩ : MethodName) (⟨"RunningCountModel", "readWhole", "()Z"⟩ : MethodName) ∈ GW := gwm 74 (by decide +kernel) rfl
theorem gw_75 : Cond.selects "RunningCountModel" (⟨"RunningCountModel", "readShelves", "()Z"⟩ : MethodName) (⟨"RunningCountModel", "readShelves", "()Z"⟩ : MethodName) ∈ GW := gwm 75 (by decide +kernel) rfl
theorem gw_76 : Cond.selects "RunningCountModel" (⟨"RunningCountModel", "isWord", "(J)Z"⟩ : MethodName) (⟨"RunningCountModel", "isWord", "(J)Z"⟩ : MethodName) ∈ GW := gwm 76 (by decide +kernel) rfl
theorem gw_77 : Cond.selects "RunningCountModel" (⟨"RunningCountModel", "bad", "(I)Z"⟩ : MethodName) (⟨"RunningCountModel", "bad", "(I)Z"⟩ : MethodName) ∈ GW := gwm 77 (by decide +kernel) rfl
theorem gw_78 : Cond.selects "RunningCountModel" (⟨"RunningCountModel", "told", "(III)Z"⟩ : MethodName) (⟨"RunningCountModel", "told", "(III)Z"⟩ : MethodName) ∈ GW := gwm 78 (by decide +kernel) rfl
theorem gw_79 : Cond.selects "RunningCountModel" (⟨"RunningCountModel", "readEnd", "()Z"⟩ : MethodName) (⟨"RunningCountModel", "readEnd", "()Z"⟩ : MethodName) ∈ GW := gwm 79 (by decide +kernel) rfl
theorem gw_80 : Cond.selects "RunningCountModel" (⟨"RunningCountModel", "readAll", "(I)Z"⟩ : MethodName) (⟨"RunningCountModel", "readAll", "(I)Z"⟩ : MethodName) ∈ GW := gwm 80 (by decide +kernel) rfl
theorem gw_81 : Cond.selects "RunningCountModel" (⟨"RunningCountModel", "isSort", "(I)Z"⟩ : MethodName) (⟨"RunningCountModel", "isSort", "(I)Z"⟩ : MethodName) ∈ GW := gwm 81 (by decide +kernel) rfl
theorem gw_82 : Cond.selects "RunningCountModel" (⟨"RunningCountModel", "readItem", "()Z"⟩ : MethodName) (⟨"RunningCountModel", "readItem", "()Z"⟩ : MethodName) ∈ GW := gwm 82 (by decide +kernel) rfl
theorem gw_83 : Cond.selects "RunningCountModel" (⟨"RunningCountModel", "readStock", "()Z"⟩ : MethodName) (⟨"RunningCountModel", "readStock", "()Z"⟩ : MethodName) ∈ GW := gwm 83 (by decide +kernel) rfl
theorem gw_84 : Cond.selects "RunningCountModel" (⟨"RunningCountModel", "takes", "(II)Z"⟩ : MethodName) (⟨"RunningCountModel", "takes", "(II)Z"⟩ : MethodName) ∈ GW := gwm 84 (by decide +kernel) rfl
theorem gw_85 : Cond.selects "RunningCountModel" (⟨"RunningCountModel", "readMove", "()Z"⟩ : MethodName) (⟨"RunningCountModel", "readMove", "()Z"⟩ : MethodName) ∈ GW := gwm 85 (by decide +kernel) rfl
theorem gw_86 : Cond.selects "RunningCountModel" (⟨"RunningCountModel", "readLeg", "(I)Z"⟩ : MethodName) (⟨"RunningCountModel", "readLeg", "(I)Z"⟩ : MethodName) ∈ GW := gwm 86 (by decide +kernel) rfl
theorem gw_87 : Cond.selects "RunningCountModel" (⟨"RunningCountModel", "openMany", "()I"⟩ : MethodName) (⟨"RunningCountModel", "openMany", "()I"⟩ : MethodName) ∈ GW := gwm 87 (by decide +kernel) rfl
theorem gw_88 : Cond.selects "RunningCountModel" (⟨"RunningCountModel", "counted", "(II)I"⟩ : MethodName) (⟨"RunningCountModel", "counted", "(II)I"⟩ : MethodName) ∈ GW := gwm 88 (by decide +kernel) rfl
theorem gw_89 : Cond.selects "RunningCountModel" (⟨"RunningCountModel", "isItem", "(I)Z"⟩ : MethodName) (⟨"RunningCountModel", "isItem", "(I)Z"⟩ : MethodName) ∈ GW := gwm 89 (by decide +kernel) rfl
theorem gw_90 : Cond.selects "RunningCountModel" (⟨"RunningCountModel", "isMove", "(I)Z"⟩ : MethodName) (⟨"RunningCountModel", "isMove", "(I)Z"⟩ : MethodName) ∈ GW := gwm 90 (by decide +kernel) rfl
theorem gw_91 : Cond.selects "RunningCountModel" (⟨"RunningCountModel", "refuse", "()I"⟩ : MethodName) (⟨"RunningCountModel", "refuse", "()I"⟩ : MethodName) ∈ GW := gwm 91 (by decide +kernel) rfl
theorem gw_92 : Cond.selects "RunningCountModel" (⟨"RunningCountModel", "moved", "(II)I"⟩ : MethodName) (⟨"RunningCountModel", "moved", "(II)I"⟩ : MethodName) ∈ GW := gwm 92 (by decide +kernel) rfl
theorem gw_93 : Cond.selects "RunningCountModel" (⟨"RunningCountModel", "isThere", "(II)Z"⟩ : MethodName) (⟨"RunningCountModel", "isThere", "(II)Z"⟩ : MethodName) ∈ GW := gwm 93 (by decide +kernel) rfl
theorem gw_94 : Cond.selects "RunningCountModel" (⟨"RunningCountModel", "leg", "(III)I"⟩ : MethodName) (⟨"RunningCountModel", "leg", "(III)I"⟩ : MethodName) ∈ GW := gwm 94 (by decide +kernel) rfl
theorem gw_95 : Cond.selects "RunningCountModel" (⟨"RunningCountModel", "isShelf", "(I)Z"⟩ : MethodName) (⟨"RunningCountModel", "isShelf", "(I)Z"⟩ : MethodName) ∈ GW := gwm 95 (by decide +kernel) rfl
theorem gw_96 : Cond.selects "RunningCountModel" (⟨"RunningCountModel", "sure", "(III)I"⟩ : MethodName) (⟨"RunningCountModel", "sure", "(III)I"⟩ : MethodName) ∈ GW := gwm 96 (by decide +kernel) rfl
theorem gw_97 : Cond.selects "RunningCountModel" (⟨"RunningCountModel", "isAt", "(IIII)Z"⟩ : MethodName) (⟨"RunningCountModel", "isAt", "(IIII)Z"⟩ : MethodName) ∈ GW := gwm 97 (by decide +kernel) rfl
theorem gw_98 : Cond.selects "RunningCountModel" (⟨"RunningCountModel", "isOver", "(III)Z"⟩ : MethodName) (⟨"RunningCountModel", "isOver", "(III)Z"⟩ : MethodName) ∈ GW := gwm 98 (by decide +kernel) rfl
theorem gw_99 : Cond.selects "RunningCountModel" (⟨"RunningCountModel", "least", "(III)I"⟩ : MethodName) (⟨"RunningCountModel", "least", "(III)I"⟩ : MethodName) ∈ GW := gwm 99 (by decide +kernel) rfl
theorem gw_100 : Cond.selects "RunningCountModel" (⟨"RunningCountModel", "doubtful", "(IIII)I"⟩ : MethodName) (⟨"RunningCountModel", "doubtful", "(IIII)I"⟩ : MethodName) ∈ GW := gwm 100 (by decide +kernel) rfl
theorem gw_101 : Cond.selects "RunningCountModel" (⟨"RunningCountModel", "isDoubtful", "(III)Z"⟩ : MethodName) (⟨"RunningCountModel", "isDoubtful", "(III)Z"⟩ : MethodName) ∈ GW := gwm 101 (by decide +kernel) rfl
theorem gw_102 : Cond.selects "RunningCountModel" (⟨"RunningCountModel", "isToCome", "(III)Z"⟩ : MethodName) (⟨"RunningCountModel", "isToCome", "(III)Z"⟩ : MethodName) ∈ GW := gwm 102 (by decide +kernel) rfl
theorem gw_103 : Cond.selects "RunningCountModel" (⟨"RunningCountModel", "most", "(III)I"⟩ : MethodName) (⟨"RunningCountModel", "most", "(III)I"⟩ : MethodName) ∈ GW := gwm 103 (by decide +kernel) rfl
theorem gw_104 : Cond.selects "RunningCountModel" (⟨"RunningCountModel", "isCount", "(I)Z"⟩ : MethodName) (⟨"RunningCountModel", "isCount", "(I)Z"⟩ : MethodName) ∈ GW := gwm 104 (by decide +kernel) rfl
theorem gw_105 : Cond.selects "RunningCountModel" (⟨"RunningCountModel", "allowed", "(I)I"⟩ : MethodName) (⟨"RunningCountModel", "allowed", "(I)I"⟩ : MethodName) ∈ GW := gwm 105 (by decide +kernel) rfl
theorem gw_106 : Cond.selects "RunningCountModel" (⟨"RunningCountModel", "sureOf", "(I)I"⟩ : MethodName) (⟨"RunningCountModel", "sureOf", "(I)I"⟩ : MethodName) ∈ GW := gwm 106 (by decide +kernel) rfl
theorem gw_107 : Cond.selects "RunningCountModel" (⟨"RunningCountModel", "differenceOf", "(I)I"⟩ : MethodName) (⟨"RunningCountModel", "differenceOf", "(I)I"⟩ : MethodName) ∈ GW := gwm 107 (by decide +kernel) rfl
theorem gw_108 : Cond.selects "RunningCountModel" (⟨"RunningCountModel", "choose", "(II)I"⟩ : MethodName) (⟨"RunningCountModel", "choose", "(II)I"⟩ : MethodName) ∈ GW := gwm 108 (by decide +kernel) rfl
theorem gw_109 : Cond.selects "RunningCountModel" (⟨"RunningCountModel", "laysOpen", "(II)V"⟩ : MethodName) (⟨"RunningCountModel", "laysOpen", "(II)V"⟩ : MethodName) ∈ GW := gwm 109 (by decide +kernel) rfl
theorem gw_110 : Cond.selects "RunningCountModel" (⟨"RunningCountModel", "isOpenAt", "(III)Z"⟩ : MethodName) (⟨"RunningCountModel", "isOpenAt", "(III)Z"⟩ : MethodName) ∈ GW := gwm 110 (by decide +kernel) rfl
theorem gw_111 : Cond.selects "RunningCountModel" (⟨"RunningCountModel", "snap", "()V"⟩ : MethodName) (⟨"RunningCountModel", "snap", "()V"⟩ : MethodName) ∈ GW := gwm 111 (by decide +kernel) rfl
theorem gw_112 : Cond.selects "RunningCountModel" (⟨"RunningCountModel", "whyNot", "(IIII)I"⟩ : MethodName) (⟨"RunningCountModel", "whyNot", "(IIII)I"⟩ : MethodName) ∈ GW := gwm 112 (by decide +kernel) rfl
theorem gw_113 : (Jvm.Cond.initialized "RunningCountLaw") ∈ GW := gwm 113 (by decide +kernel) rfl
theorem gw_114 : (Jvm.Cond.initialized "RunningCount") ∈ GW := gwm 114 (by decide +kernel) rfl
theorem gw_115 : (Jvm.Cond.initialized "RunningCount$TextReader") ∈ GW := gwm 115 (by decide +kernel) rfl
theorem gw_116 : (Jvm.Cond.initialized "RunningCount$Tape") ∈ GW := gwm 116 (by decide +kernel) rfl
theorem gw_117 : (Jvm.Cond.initialized "RunningCount$Goods") ∈ GW := gwm 117 (by decide +kernel) rfl
theorem gw_118 : (Jvm.Cond.initialized "RunningCount$CountList") ∈ GW := gwm 118 (by decide +kernel) rfl
theorem gw_119 : (Jvm.Cond.initialized "RunningCount$AdjustmentList") ∈ GW := gwm 119 (by decide +kernel) rfl
theorem gw_120 : (Jvm.Cond.initialized "RunningCount$Journal") ∈ GW := gwm 120 (by decide +kernel) rfl
theorem gw_121 : (Jvm.Cond.initialized "RunningCount$Act") ∈ GW := gwm 121 (by decide +kernel) rfl
theorem gw_122 : (Jvm.Cond.initialized "RunningCount$Book") ∈ GW := gwm 122 (by decide +kernel) rfl
theorem gw_123 : (Jvm.Cond.initialized "RunningCountModel") ∈ GW := gwm 123 (by decide +kernel) rfl
theorem gw_124 : (Jvm.Cond.initialized "java/lang/Math") ∈ GW := gwm 124 (by decide +kernel) rfl
theorem gw_125 : (Jvm.Cond.initialized "java/lang/String") ∈ GW := gwm 125 (by decide +kernel) rfl
theorem gw_126 : (Jvm.Cond.initialized "java/lang/StringLatin1") ∈ GW := gwm 126 (by decide +kernel) rfl
theorem gw_127 : (Jvm.Cond.initialized "jdk/internal/util/Preconditions") ∈ GW := gwm 127 (by decide +kernel) rfl
theorem gw_128 : (Jvm.Cond.initialized "java/lang/StringUTF16") ∈ GW := gwm 128 (by decide +kernel) rfl
theorem gw_129 : (Jvm.Cond.initialized "java/lang/Throwable") ∈ GW := gwm 129 (by decide +kernel) rfl
theorem gw_130 : (Jvm.Cond.initialized "java/lang/Exception") ∈ GW := gwm 130 (by decide +kernel) rfl
theorem gw_131 : (Jvm.Cond.initialized "java/lang/RuntimeException") ∈ GW := gwm 131 (by decide +kernel) rfl
theorem gw_132 : (Jvm.Cond.initialized "java/util/NoSuchElementException") ∈ GW := gwm 132 (by decide +kernel) rfl
theorem gw_133 : (Jvm.Cond.classLink "RunningCountLaw" (8 : Nat) "RunningCount") ∈ GW := gwm 133 (by decide +kernel) rfl
theorem gw_134 : (Jvm.Cond.instantiable "RunningCount" (7 : Nat)) ∈ GW := gwm 134 (by decide +kernel) rfl
theorem gw_135 : (Jvm.Cond.methodLink "RunningCountLaw" (18 : Nat) ({ cls := "RunningCount", name := "<init>", desc := "()V" } : Jvm.MethodName)) ∈ GW := gwm 135 (by decide +kernel) rfl
theorem gw_136 : (Jvm.Cond.instanceMethod ({ cls := "RunningCount", name := "<init>", desc := "()V" } : Jvm.MethodName)) ∈ GW := gwm 136 (by decide +kernel) rfl
theorem gw_137 : (Jvm.Cond.code ({ cls := "RunningCount", name := "<init>", desc := "()V" } : Jvm.MethodName) prog_1_method_1_code (1 : Nat) (Option.none : Option Jvm.ClassFile.FieldType)) ∈ GW := gwm 137 (by decide +kernel) rfl
theorem gw_138 : (Jvm.Cond.methodLink "RunningCount" (3 : Nat) ({ cls := "java/lang/Object", name := "<init>", desc := "()V" } : Jvm.MethodName)) ∈ GW := gwm 138 (by decide +kernel) rfl
theorem gw_139 : (Jvm.Cond.instanceMethod ({ cls := "java/lang/Object", name := "<init>", desc := "()V" } : Jvm.MethodName)) ∈ GW := gwm 139 (by decide +kernel) rfl
theorem gw_140 : (Jvm.Cond.code ({ cls := "java/lang/Object", name := "<init>", desc := "()V" } : Jvm.MethodName) object_method_1_code (1 : Nat) (Option.none : Option Jvm.ClassFile.FieldType)) ∈ GW := gwm 140 (by decide +kernel) rfl
theorem gw_141 : (Jvm.Cond.classLink "RunningCount" (9 : Nat) "RunningCount$TextReader") ∈ GW := gwm 141 (by decide +kernel) rfl
theorem gw_142 : (Jvm.Cond.instantiable "RunningCount$TextReader" (8 : Nat)) ∈ GW := gwm 142 (by decide +kernel) rfl
theorem nw_143 : (Jvm.Cond.methodLinkNest "RunningCount" (11 : Nat) ({ cls := "RunningCount$TextReader", name := "<init>", desc := "()V" } : Jvm.MethodName) "RunningCount") ∈ NW := nwm 143 (by decide +kernel) rfl
theorem gw_144 : (Jvm.Cond.instanceMethod ({ cls := "RunningCount$TextReader", name := "<init>", desc := "()V" } : Jvm.MethodName)) ∈ GW := gwm 144 (by decide +kernel) rfl
theorem gw_145 : (Jvm.Cond.code ({ cls := "RunningCount$TextReader", name := "<init>", desc := "()V" } : Jvm.MethodName) prog_9_method_1_code (1 : Nat) (Option.none : Option Jvm.ClassFile.FieldType)) ∈ GW := gwm 145 (by decide +kernel) rfl
theorem gw_146 : (Jvm.Cond.methodLink "RunningCount$TextReader" (3 : Nat) ({ cls := "java/lang/Object", name := "<init>", desc := "()V" } : Jvm.MethodName)) ∈ GW := gwm 146 (by decide +kernel) rfl
theorem gw_147 : (Jvm.Cond.classLink "RunningCount$TextReader" (9 : Nat) "RunningCount$Tape") ∈ GW := gwm 147 (by decide +kernel) rfl
theorem gw_148 : (Jvm.Cond.instantiable "RunningCount$Tape" (5 : Nat)) ∈ GW := gwm 148 (by decide +kernel) rfl
theorem nw_149 : (Jvm.Cond.methodLinkNest "RunningCount$TextReader" (11 : Nat) ({ cls := "RunningCount$Tape", name := "<init>", desc := "()V" } : Jvm.MethodName) "RunningCount") ∈ NW := nwm 149 (by decide +kernel) rfl
theorem gw_150 : (Jvm.Cond.instanceMethod ({ cls := "RunningCount$Tape", name := "<init>", desc := "()V" } : Jvm.MethodName)) ∈ GW := gwm 150 (by decide +kernel) rfl
theorem gw_151 : (Jvm.Cond.code ({ cls := "RunningCount$Tape", name := "<init>", desc := "()V" } : Jvm.MethodName) prog_8_method_1_code (1 : Nat) (Option.none : Option Jvm.ClassFile.FieldType)) ∈ GW := gwm 151 (by decide +kernel) rfl
theorem gw_152 : (Jvm.Cond.methodLink "RunningCount$Tape" (1 : Nat) ({ cls := "java/lang/Object", name := "<init>", desc := "()V" } : Jvm.MethodName)) ∈ GW := gwm 152 (by decide +kernel) rfl
theorem gw_153 : (Jvm.Cond.fieldLink "RunningCount$Tape" (7 : Nat) "RunningCount$Tape" "length" "I") ∈ GW := gwm 153 (by decide +kernel) rfl
theorem nw_154 : (Jvm.Cond.fieldLinkNest "RunningCount" (68 : Nat) "RunningCount$Tape" "length" "I" "RunningCount") ∈ NW := nwm 154 (by decide +kernel) rfl
theorem nw_155 : (Jvm.Cond.fieldLinkNest "RunningCount$TextReader" (126 : Nat) "RunningCount$Tape" "length" "I" "RunningCount") ∈ NW := nwm 155 (by decide +kernel) rfl
theorem gw_156 : (Jvm.Cond.fieldLink "RunningCount$Tape" (13 : Nat) "RunningCount$Tape" "bytes" "[B") ∈ GW := gwm 156 (by decide +kernel) rfl
theorem gw_157 : (Jvm.Cond.fieldLink "RunningCount$Tape" (17 : Nat) "RunningCount$Tape" "tokens" "I") ∈ GW := gwm 157 (by decide +kernel) rfl
theorem nw_158 : (Jvm.Cond.fieldLinkNest "RunningCount$TextReader" (129 : Nat) "RunningCount$Tape" "tokens" "I" "RunningCount") ∈ NW := nwm 158 (by decide +kernel) rfl
theorem gw_159 : (Jvm.Cond.fieldLink "RunningCount$Tape" (20 : Nat) "RunningCount$Tape" "kinds" "[I") ∈ GW := gwm 159 (by decide +kernel) rfl
theorem nw_160 : (Jvm.Cond.fieldLinkNest "RunningCount$TextReader" (132 : Nat) "RunningCount$Tape" "kinds" "[I" "RunningCount") ∈ NW := nwm 160 (by decide +kernel) rfl
theorem gw_161 : (Jvm.Cond.fieldLink "RunningCount$Tape" (24 : Nat) "RunningCount$Tape" "starts" "[I") ∈ GW := gwm 161 (by decide +kernel) rfl
theorem nw_162 : (Jvm.Cond.fieldLinkNest "RunningCount$TextReader" (136 : Nat) "RunningCount$Tape" "starts" "[I" "RunningCount") ∈ NW := nwm 162 (by decide +kernel) rfl
theorem gw_163 : (Jvm.Cond.lays "RunningCount$Tape" "RunningCount$Tape" "length" "I") ∈ GW := gwm 163 (by decide +kernel) rfl
theorem gw_165 : (Jvm.Cond.laysFinal "RunningCount$Tape" "RunningCount$Tape" "bytes" "[B") ∈ GW := gwm 165 (by decide +kernel) rfl
theorem gw_167 : (Jvm.Cond.lays "RunningCount$Tape" "RunningCount$Tape" "tokens" "I") ∈ GW := gwm 167 (by decide +kernel) rfl
theorem gw_169 : (Jvm.Cond.laysFinal "RunningCount$Tape" "RunningCount$Tape" "kinds" "[I") ∈ GW := gwm 169 (by decide +kernel) rfl
theorem gw_171 : (Jvm.Cond.laysFinal "RunningCount$Tape" "RunningCount$Tape" "starts" "[I") ∈ GW := gwm 171 (by decide +kernel) rfl
theorem gw_174 : (Jvm.Cond.arrayClass Jvm.ClassFile.FieldType.byte) ∈ GW := gwm 174 (by decide +kernel) rfl
theorem gw_175 : (Jvm.Cond.arrayClass Jvm.ClassFile.FieldType.int) ∈ GW := gwm 175 (by decide +kernel) rfl
theorem gw_176 : (Jvm.Cond.fieldLink "RunningCount$TextReader" (12 : Nat) "RunningCount$TextReader" "tape" "LRunningCount$Tape;") ∈ GW := gwm 176 (by decide +kernel) rfl
theorem nw_177 : (Jvm.Cond.fieldLinkNest "RunningCount" (54 : Nat) "RunningCount$TextReader" "tape" "LRunningCount$Tape;" "RunningCount") ∈ NW := nwm 177 (by decide +kernel) rfl
theorem gw_178 : (Jvm.Cond.fieldLink "RunningCount$TextReader" (18 : Nat) "RunningCount$TextReader" "next" "I") ∈ GW := gwm 178 (by decide +kernel) rfl
theorem gw_179 : (Jvm.Cond.fieldLink "RunningCount$TextReader" (22 : Nat) "RunningCount$TextReader" "token" "I") ∈ GW := gwm 179 (by decide +kernel) rfl
theorem gw_180 : (Jvm.Cond.fieldLink "RunningCount$TextReader" (25 : Nat) "RunningCount$TextReader" "start" "I") ∈ GW := gwm 180 (by decide +kernel) rfl
theorem gw_181 : (Jvm.Cond.fieldLink "RunningCount$TextReader" (28 : Nat) "RunningCount$TextReader" "value" "I") ∈ GW := gwm 181 (by decide +kernel) rfl
theorem gw_182 : (Jvm.Cond.fieldLink "RunningCount$TextReader" (31 : Nat) "RunningCount$TextReader" "lines" "I") ∈ GW := gwm 182 (by decide +kernel) rfl
theorem nw_183 : (Jvm.Cond.fieldLinkNest "RunningCount" (84 : Nat) "RunningCount$TextReader" "lines" "I" "RunningCount") ∈ NW := nwm 183 (by decide +kernel) rfl
theorem gw_184 : (Jvm.Cond.fieldLink "RunningCount$TextReader" (34 : Nat) "RunningCount$TextReader" "faultKind" "I") ∈ GW := gwm 184 (by decide +kernel) rfl
theorem nw_185 : (Jvm.Cond.fieldLinkNest "RunningCount" (87 : Nat) "RunningCount$TextReader" "faultKind" "I" "RunningCount") ∈ NW := nwm 185 (by decide +kernel) rfl
theorem gw_186 : (Jvm.Cond.fieldLink "RunningCount$TextReader" (37 : Nat) "RunningCount$TextReader" "faultPlace" "I") ∈ GW := gwm 186 (by decide +kernel) rfl
theorem nw_187 : (Jvm.Cond.fieldLinkNest "RunningCount" (76 : Nat) "RunningCount$TextReader" "faultPlace" "I" "RunningCount") ∈ NW := nwm 187 (by decide +kernel) rfl
theorem gw_188 : (Jvm.Cond.laysFinal "RunningCount$TextReader" "RunningCount$TextReader" "tape" "LRunningCount$Tape;") ∈ GW := gwm 188 (by decide +kernel) rfl
theorem gw_190 : (Jvm.Cond.lays "RunningCount$TextReader" "RunningCount$TextReader" "next" "I") ∈ GW := gwm 190 (by decide +kernel) rfl
theorem gw_192 : (Jvm.Cond.lays "RunningCount$TextReader" "RunningCount$TextReader" "token" "I") ∈ GW := gwm 192 (by decide +kernel) rfl
theorem gw_194 : (Jvm.Cond.lays "RunningCount$TextReader" "RunningCount$TextReader" "start" "I") ∈ GW := gwm 194 (by decide +kernel) rfl
theorem gw_196 : (Jvm.Cond.lays "RunningCount$TextReader" "RunningCount$TextReader" "value" "I") ∈ GW := gwm 196 (by decide +kernel) rfl
theorem gw_198 : (Jvm.Cond.lays "RunningCount$TextReader" "RunningCount$TextReader" "lines" "I") ∈ GW := gwm 198 (by decide +kernel) rfl
theorem gw_200 : (Jvm.Cond.lays "RunningCount$TextReader" "RunningCount$TextReader" "faultKind" "I") ∈ GW := gwm 200 (by decide +kernel) rfl
theorem gw_202 : (Jvm.Cond.lays "RunningCount$TextReader" "RunningCount$TextReader" "faultPlace" "I") ∈ GW := gwm 202 (by decide +kernel) rfl
theorem gw_205 : (Jvm.Cond.classLink "RunningCount" (16 : Nat) "RunningCount$Goods") ∈ GW := gwm 205 (by decide +kernel) rfl
theorem gw_206 : (Jvm.Cond.instantiable "RunningCount$Goods" (11 : Nat)) ∈ GW := gwm 206 (by decide +kernel) rfl
theorem nw_207 : (Jvm.Cond.methodLinkNest "RunningCount" (18 : Nat) ({ cls := "RunningCount$Goods", name := "<init>", desc := "()V" } : Jvm.MethodName) "RunningCount") ∈ NW := nwm 207 (by decide +kernel) rfl
theorem gw_208 : (Jvm.Cond.instanceMethod ({ cls := "RunningCount$Goods", name := "<init>", desc := "()V" } : Jvm.MethodName)) ∈ GW := gwm 208 (by decide +kernel) rfl
theorem gw_209 : (Jvm.Cond.code ({ cls := "RunningCount$Goods", name := "<init>", desc := "()V" } : Jvm.MethodName) prog_6_method_1_code (1 : Nat) (Option.none : Option Jvm.ClassFile.FieldType)) ∈ GW := gwm 209 (by decide +kernel) rfl
theorem gw_210 : (Jvm.Cond.methodLink "RunningCount$Goods" (3 : Nat) ({ cls := "java/lang/Object", name := "<init>", desc := "()V" } : Jvm.MethodName)) ∈ GW := gwm 210 (by decide +kernel) rfl
theorem gw_211 : (Jvm.Cond.fieldLink "RunningCount$Goods" (9 : Nat) "RunningCount$Goods" "shelves" "I") ∈ GW := gwm 211 (by decide +kernel) rfl
theorem nw_212 : (Jvm.Cond.fieldLinkNest "RunningCount$TextReader" (76 : Nat) "RunningCount$Goods" "shelves" "I" "RunningCount") ∈ NW := nwm 212 (by decide +kernel) rfl
theorem nw_213 : (Jvm.Cond.fieldLinkNest "RunningCount" (90 : Nat) "RunningCount$Goods" "shelves" "I" "RunningCount") ∈ NW := nwm 213 (by decide +kernel) rfl
theorem gw_214 : (Jvm.Cond.fieldLink "RunningCount$Goods" (15 : Nat) "RunningCount$Goods" "items" "I") ∈ GW := gwm 214 (by decide +kernel) rfl
theorem nw_215 : (Jvm.Cond.fieldLinkNest "RunningCount$TextReader" (82 : Nat) "RunningCount$Goods" "items" "I" "RunningCount") ∈ NW := nwm 215 (by decide +kernel) rfl
theorem nw_216 : (Jvm.Cond.fieldLinkNest "RunningCount" (93 : Nat) "RunningCount$Goods" "items" "I" "RunningCount") ∈ NW := nwm 216 (by decide +kernel) rfl
theorem gw_217 : (Jvm.Cond.fieldLink "RunningCount$Goods" (18 : Nat) "RunningCount$Goods" "moves" "I") ∈ GW := gwm 217 (by decide +kernel) rfl
theorem nw_218 : (Jvm.Cond.fieldLinkNest "RunningCount$Book" (40 : Nat) "RunningCount$Goods" "moves" "I" "RunningCount") ∈ NW := nwm 218 (by decide +kernel) rfl
theorem nw_219 : (Jvm.Cond.fieldLinkNest "RunningCount" (96 : Nat) "RunningCount$Goods" "moves" "I" "RunningCount") ∈ NW := nwm 219 (by decide +kernel) rfl
theorem nw_220 : (Jvm.Cond.fieldLinkNest "RunningCount$TextReader" (105 : Nat) "RunningCount$Goods" "moves" "I" "RunningCount") ∈ NW := nwm 220 (by decide +kernel) rfl
theorem gw_221 : (Jvm.Cond.fieldLink "RunningCount$Goods" (21 : Nat) "RunningCount$Goods" "units" "[I") ∈ GW := gwm 221 (by decide +kernel) rfl
theorem nw_222 : (Jvm.Cond.fieldLinkNest "RunningCount" (107 : Nat) "RunningCount$Goods" "units" "[I" "RunningCount") ∈ NW := nwm 222 (by decide +kernel) rfl
theorem gw_223 : (Jvm.Cond.fieldLink "RunningCount$Goods" (25 : Nat) "RunningCount$Goods" "shares" "[I") ∈ GW := gwm 223 (by decide +kernel) rfl
theorem nw_224 : (Jvm.Cond.fieldLinkNest "RunningCount" (111 : Nat) "RunningCount$Goods" "shares" "[I" "RunningCount") ∈ NW := nwm 224 (by decide +kernel) rfl
theorem gw_225 : (Jvm.Cond.fieldLink "RunningCount$Goods" (28 : Nat) "RunningCount$Goods" "stock" "[I") ∈ GW := gwm 225 (by decide +kernel) rfl
theorem gw_226 : (Jvm.Cond.fieldLink "RunningCount$Goods" (31 : Nat) "RunningCount$Goods" "moveItem" "[I") ∈ GW := gwm 226 (by decide +kernel) rfl
theorem nw_227 : (Jvm.Cond.fieldLinkNest "RunningCount$Book" (43 : Nat) "RunningCount$Goods" "moveItem" "[I" "RunningCount") ∈ NW := nwm 227 (by decide +kernel) rfl
theorem nw_228 : (Jvm.Cond.fieldLinkNest "RunningCount" (124 : Nat) "RunningCount$Goods" "moveItem" "[I" "RunningCount") ∈ NW := nwm 228 (by decide +kernel) rfl
theorem gw_229 : (Jvm.Cond.fieldLink "RunningCount$Goods" (34 : Nat) "RunningCount$Goods" "moveSum" "[I") ∈ GW := gwm 229 (by decide +kernel) rfl
theorem nw_230 : (Jvm.Cond.fieldLinkNest "RunningCount$Book" (46 : Nat) "RunningCount$Goods" "moveSum" "[I" "RunningCount") ∈ NW := nwm 230 (by decide +kernel) rfl
theorem nw_231 : (Jvm.Cond.fieldLinkNest "RunningCount" (127 : Nat) "RunningCount$Goods" "moveSum" "[I" "RunningCount") ∈ NW := nwm 231 (by decide +kernel) rfl
theorem gw_232 : (Jvm.Cond.fieldLink "RunningCount$Goods" (37 : Nat) "RunningCount$Goods" "legShelf" "[I") ∈ GW := gwm 232 (by decide +kernel) rfl
theorem nw_233 : (Jvm.Cond.fieldLinkNest "RunningCount$Book" (56 : Nat) "RunningCount$Goods" "legShelf" "[I" "RunningCount") ∈ NW := nwm 233 (by decide +kernel) rfl
theorem nw_234 : (Jvm.Cond.fieldLinkNest "RunningCount" (130 : Nat) "RunningCount$Goods" "legShelf" "[I" "RunningCount") ∈ NW := nwm 234 (by decide +kernel) rfl
theorem gw_235 : (Jvm.Cond.fieldLink "RunningCount$Goods" (40 : Nat) "RunningCount$Goods" "legEarly" "[I") ∈ GW := gwm 235 (by decide +kernel) rfl
theorem nw_236 : (Jvm.Cond.fieldLinkNest "RunningCount" (137 : Nat) "RunningCount$Goods" "legEarly" "[I" "RunningCount") ∈ NW := nwm 236 (by decide +kernel) rfl
theorem gw_237 : (Jvm.Cond.fieldLink "RunningCount$Goods" (43 : Nat) "RunningCount$Goods" "legLate" "[I") ∈ GW := gwm 237 (by decide +kernel) rfl
theorem nw_238 : (Jvm.Cond.fieldLinkNest "RunningCount" (140 : Nat) "RunningCount$Goods" "legLate" "[I" "RunningCount") ∈ NW := nwm 238 (by decide +kernel) rfl
theorem gw_239 : (Jvm.Cond.lays "RunningCount$Goods" "RunningCount$Goods" "shelves" "I") ∈ GW := gwm 239 (by decide +kernel) rfl
theorem gw_241 : (Jvm.Cond.lays "RunningCount$Goods" "RunningCount$Goods" "items" "I") ∈ GW := gwm 241 (by decide +kernel) rfl
theorem gw_243 : (Jvm.Cond.lays "RunningCount$Goods" "RunningCount$Goods" "moves" "I") ∈ GW := gwm 243 (by decide +kernel) rfl
theorem gw_245 : (Jvm.Cond.laysFinal "RunningCount$Goods" "RunningCount$Goods" "units" "[I") ∈ GW := gwm 245 (by decide +kernel) rfl
theorem gw_247 : (Jvm.Cond.laysFinal "RunningCount$Goods" "RunningCount$Goods" "shares" "[I") ∈ GW := gwm 247 (by decide +kernel) rfl
theorem gw_249 : (Jvm.Cond.laysFinal "RunningCount$Goods" "RunningCount$Goods" "stock" "[I") ∈ GW := gwm 249 (by decide +kernel) rfl
theorem gw_251 : (Jvm.Cond.laysFinal "RunningCount$Goods" "RunningCount$Goods" "moveItem" "[I") ∈ GW := gwm 251 (by decide +kernel) rfl
theorem gw_253 : (Jvm.Cond.laysFinal "RunningCount$Goods" "RunningCount$Goods" "moveSum" "[I") ∈ GW := gwm 253 (by decide +kernel) rfl
theorem gw_255 : (Jvm.Cond.laysFinal "RunningCount$Goods" "RunningCount$Goods" "legShelf" "[I") ∈ GW := gwm 255 (by decide +kernel) rfl
theorem gw_257 : (Jvm.Cond.laysFinal "RunningCount$Goods" "RunningCount$Goods" "legEarly" "[I") ∈ GW := gwm 257 (by decide +kernel) rfl
theorem gw_259 : (Jvm.Cond.laysFinal "RunningCount$Goods" "RunningCount$Goods" "legLate" "[I") ∈ GW := gwm 259 (by decide +kernel) rfl
theorem gw_262 : (Jvm.Cond.classLink "RunningCount" (26 : Nat) "RunningCount$CountList") ∈ GW := gwm 262 (by decide +kernel) rfl
theorem gw_263 : (Jvm.Cond.instantiable "RunningCount$CountList" (7 : Nat)) ∈ GW := gwm 263 (by decide +kernel) rfl
theorem nw_264 : (Jvm.Cond.methodLinkNest "RunningCount" (28 : Nat) ({ cls := "RunningCount$CountList", name := "<init>", desc := "()V" } : Jvm.MethodName) "RunningCount") ∈ NW := nwm 264 (by decide +kernel) rfl
theorem gw_265 : (Jvm.Cond.instanceMethod ({ cls := "RunningCount$CountList", name := "<init>", desc := "()V" } : Jvm.MethodName)) ∈ GW := gwm 265 (by decide +kernel) rfl
theorem gw_266 : (Jvm.Cond.code ({ cls := "RunningCount$CountList", name := "<init>", desc := "()V" } : Jvm.MethodName) prog_5_method_1_code (1 : Nat) (Option.none : Option Jvm.ClassFile.FieldType)) ∈ GW := gwm 266 (by decide +kernel) rfl
theorem gw_267 : (Jvm.Cond.methodLink "RunningCount$CountList" (3 : Nat) ({ cls := "java/lang/Object", name := "<init>", desc := "()V" } : Jvm.MethodName)) ∈ GW := gwm 267 (by decide +kernel) rfl
theorem gw_268 : (Jvm.Cond.fieldLink "RunningCount$CountList" (9 : Nat) "RunningCount$CountList" "size" "I") ∈ GW := gwm 268 (by decide +kernel) rfl
theorem nw_269 : (Jvm.Cond.fieldLinkNest "RunningCount" (79 : Nat) "RunningCount$CountList" "size" "I" "RunningCount") ∈ NW := nwm 269 (by decide +kernel) rfl
theorem gw_270 : (Jvm.Cond.fieldLink "RunningCount$CountList" (15 : Nat) "RunningCount$CountList" "shelf" "[I") ∈ GW := gwm 270 (by decide +kernel) rfl
theorem nw_271 : (Jvm.Cond.fieldLinkNest "RunningCount" (188 : Nat) "RunningCount$CountList" "shelf" "[I" "RunningCount") ∈ NW := nwm 271 (by decide +kernel) rfl
theorem gw_272 : (Jvm.Cond.fieldLink "RunningCount$CountList" (19 : Nat) "RunningCount$CountList" "item" "[I") ∈ GW := gwm 272 (by decide +kernel) rfl
theorem nw_273 : (Jvm.Cond.fieldLinkNest "RunningCount" (191 : Nat) "RunningCount$CountList" "item" "[I" "RunningCount") ∈ NW := nwm 273 (by decide +kernel) rfl
theorem gw_274 : (Jvm.Cond.fieldLink "RunningCount$CountList" (22 : Nat) "RunningCount$CountList" "instant" "[I") ∈ GW := gwm 274 (by decide +kernel) rfl
theorem nw_275 : (Jvm.Cond.fieldLinkNest "RunningCount" (194 : Nat) "RunningCount$CountList" "instant" "[I" "RunningCount") ∈ NW := nwm 275 (by decide +kernel) rfl
theorem gw_276 : (Jvm.Cond.fieldLink "RunningCount$CountList" (25 : Nat) "RunningCount$CountList" "sum" "[I") ∈ GW := gwm 276 (by decide +kernel) rfl
theorem nw_277 : (Jvm.Cond.fieldLinkNest "RunningCount" (195 : Nat) "RunningCount$CountList" "sum" "[I" "RunningCount") ∈ NW := nwm 277 (by decide +kernel) rfl
theorem gw_278 : (Jvm.Cond.fieldLink "RunningCount$CountList" (28 : Nat) "RunningCount$CountList" "who" "[I") ∈ GW := gwm 278 (by decide +kernel) rfl
theorem nw_279 : (Jvm.Cond.fieldLinkNest "RunningCount" (198 : Nat) "RunningCount$CountList" "who" "[I" "RunningCount") ∈ NW := nwm 279 (by decide +kernel) rfl
theorem gw_280 : (Jvm.Cond.fieldLink "RunningCount$CountList" (31 : Nat) "RunningCount$CountList" "posted" "[Z") ∈ GW := gwm 280 (by decide +kernel) rfl
theorem nw_281 : (Jvm.Cond.fieldLinkNest "RunningCount" (201 : Nat) "RunningCount$CountList" "posted" "[Z" "RunningCount") ∈ NW := nwm 281 (by decide +kernel) rfl
theorem gw_282 : (Jvm.Cond.lays "RunningCount$CountList" "RunningCount$CountList" "size" "I") ∈ GW := gwm 282 (by decide +kernel) rfl
theorem gw_284 : (Jvm.Cond.laysFinal "RunningCount$CountList" "RunningCount$CountList" "shelf" "[I") ∈ GW := gwm 284 (by decide +kernel) rfl
theorem gw_286 : (Jvm.Cond.laysFinal "RunningCount$CountList" "RunningCount$CountList" "item" "[I") ∈ GW := gwm 286 (by decide +kernel) rfl
theorem gw_288 : (Jvm.Cond.laysFinal "RunningCount$CountList" "RunningCount$CountList" "instant" "[I") ∈ GW := gwm 288 (by decide +kernel) rfl
theorem gw_290 : (Jvm.Cond.laysFinal "RunningCount$CountList" "RunningCount$CountList" "sum" "[I") ∈ GW := gwm 290 (by decide +kernel) rfl
theorem gw_292 : (Jvm.Cond.laysFinal "RunningCount$CountList" "RunningCount$CountList" "who" "[I") ∈ GW := gwm 292 (by decide +kernel) rfl
theorem gw_294 : (Jvm.Cond.laysFinal "RunningCount$CountList" "RunningCount$CountList" "posted" "[Z") ∈ GW := gwm 294 (by decide +kernel) rfl
theorem gw_297 : (Jvm.Cond.arrayClass Jvm.ClassFile.FieldType.boolean) ∈ GW := gwm 297 (by decide +kernel) rfl
theorem gw_298 : (Jvm.Cond.classLink "RunningCount" (33 : Nat) "RunningCount$AdjustmentList") ∈ GW := gwm 298 (by decide +kernel) rfl
theorem gw_299 : (Jvm.Cond.instantiable "RunningCount$AdjustmentList" (5 : Nat)) ∈ GW := gwm 299 (by decide +kernel) rfl
theorem nw_300 : (Jvm.Cond.methodLinkNest "RunningCount" (35 : Nat) ({ cls := "RunningCount$AdjustmentList", name := "<init>", desc := "()V" } : Jvm.MethodName) "RunningCount") ∈ NW := nwm 300 (by decide +kernel) rfl
theorem gw_301 : (Jvm.Cond.instanceMethod ({ cls := "RunningCount$AdjustmentList", name := "<init>", desc := "()V" } : Jvm.MethodName)) ∈ GW := gwm 301 (by decide +kernel) rfl
theorem gw_302 : (Jvm.Cond.code ({ cls := "RunningCount$AdjustmentList", name := "<init>", desc := "()V" } : Jvm.MethodName) prog_3_method_1_code (1 : Nat) (Option.none : Option Jvm.ClassFile.FieldType)) ∈ GW := gwm 302 (by decide +kernel) rfl
theorem gw_303 : (Jvm.Cond.methodLink "RunningCount$AdjustmentList" (3 : Nat) ({ cls := "java/lang/Object", name := "<init>", desc := "()V" } : Jvm.MethodName)) ∈ GW := gwm 303 (by decide +kernel) rfl
theorem gw_304 : (Jvm.Cond.fieldLink "RunningCount$AdjustmentList" (9 : Nat) "RunningCount$AdjustmentList" "size" "I") ∈ GW := gwm 304 (by decide +kernel) rfl
theorem nw_305 : (Jvm.Cond.fieldLinkNest "RunningCount" (82 : Nat) "RunningCount$AdjustmentList" "size" "I" "RunningCount") ∈ NW := nwm 305 (by decide +kernel) rfl
theorem gw_306 : (Jvm.Cond.fieldLink "RunningCount$AdjustmentList" (15 : Nat) "RunningCount$AdjustmentList" "shelf" "[I") ∈ GW := gwm 306 (by decide +kernel) rfl
theorem nw_307 : (Jvm.Cond.fieldLinkNest "RunningCount" (224 : Nat) "RunningCount$AdjustmentList" "shelf" "[I" "RunningCount") ∈ NW := nwm 307 (by decide +kernel) rfl
theorem gw_308 : (Jvm.Cond.fieldLink "RunningCount$AdjustmentList" (19 : Nat) "RunningCount$AdjustmentList" "item" "[I") ∈ GW := gwm 308 (by decide +kernel) rfl
theorem nw_309 : (Jvm.Cond.fieldLinkNest "RunningCount" (225 : Nat) "RunningCount$AdjustmentList" "item" "[I" "RunningCount") ∈ NW := nwm 309 (by decide +kernel) rfl
theorem gw_310 : (Jvm.Cond.fieldLink "RunningCount$AdjustmentList" (22 : Nat) "RunningCount$AdjustmentList" "instant" "[I") ∈ GW := gwm 310 (by decide +kernel) rfl
theorem nw_311 : (Jvm.Cond.fieldLinkNest "RunningCount" (180 : Nat) "RunningCount$AdjustmentList" "instant" "[I" "RunningCount") ∈ NW := nwm 311 (by decide +kernel) rfl
theorem gw_312 : (Jvm.Cond.fieldLink "RunningCount$AdjustmentList" (25 : Nat) "RunningCount$AdjustmentList" "much" "[I") ∈ GW := gwm 312 (by decide +kernel) rfl
theorem nw_313 : (Jvm.Cond.fieldLinkNest "RunningCount" (226 : Nat) "RunningCount$AdjustmentList" "much" "[I" "RunningCount") ∈ NW := nwm 313 (by decide +kernel) rfl
theorem gw_314 : (Jvm.Cond.lays "RunningCount$AdjustmentList" "RunningCount$AdjustmentList" "size" "I") ∈ GW := gwm 314 (by decide +kernel) rfl
theorem gw_316 : (Jvm.Cond.laysFinal "RunningCount$AdjustmentList" "RunningCount$AdjustmentList" "shelf" "[I") ∈ GW := gwm 316 (by decide +kernel) rfl
theorem gw_318 : (Jvm.Cond.laysFinal "RunningCount$AdjustmentList" "RunningCount$AdjustmentList" "item" "[I") ∈ GW := gwm 318 (by decide +kernel) rfl
theorem gw_320 : (Jvm.Cond.laysFinal "RunningCount$AdjustmentList" "RunningCount$AdjustmentList" "instant" "[I") ∈ GW := gwm 320 (by decide +kernel) rfl
theorem gw_322 : (Jvm.Cond.laysFinal "RunningCount$AdjustmentList" "RunningCount$AdjustmentList" "much" "[I") ∈ GW := gwm 322 (by decide +kernel) rfl
theorem gw_325 : (Jvm.Cond.classLink "RunningCount" (40 : Nat) "RunningCount$Journal") ∈ GW := gwm 325 (by decide +kernel) rfl
theorem gw_326 : (Jvm.Cond.instantiable "RunningCount$Journal" (3 : Nat)) ∈ GW := gwm 326 (by decide +kernel) rfl
theorem nw_327 : (Jvm.Cond.methodLinkNest "RunningCount" (42 : Nat) ({ cls := "RunningCount$Journal", name := "<init>", desc := "()V" } : Jvm.MethodName) "RunningCount") ∈ NW := nwm 327 (by decide +kernel) rfl
theorem gw_328 : (Jvm.Cond.instanceMethod ({ cls := "RunningCount$Journal", name := "<init>", desc := "()V" } : Jvm.MethodName)) ∈ GW := gwm 328 (by decide +kernel) rfl
theorem gw_329 : (Jvm.Cond.code ({ cls := "RunningCount$Journal", name := "<init>", desc := "()V" } : Jvm.MethodName) prog_7_method_1_code (2 : Nat) (Option.none : Option Jvm.ClassFile.FieldType)) ∈ GW := gwm 329 (by decide +kernel) rfl
theorem gw_330 : (Jvm.Cond.methodLink "RunningCount$Journal" (3 : Nat) ({ cls := "java/lang/Object", name := "<init>", desc := "()V" } : Jvm.MethodName)) ∈ GW := gwm 330 (by decide +kernel) rfl
theorem gw_331 : (Jvm.Cond.classLink "RunningCount$Journal" (18 : Nat) "RunningCount$Act") ∈ GW := gwm 331 (by decide +kernel) rfl
theorem gw_333 : (Jvm.Cond.instantiable "RunningCount$Act" (10 : Nat)) ∈ GW := gwm 333 (by decide +kernel) rfl
theorem nw_334 : (Jvm.Cond.methodLinkNest "RunningCount$Journal" (24 : Nat) ({ cls := "RunningCount$Act", name := "<init>", desc := "()V" } : Jvm.MethodName) "RunningCount") ∈ NW := nwm 334 (by decide +kernel) rfl
theorem gw_335 : (Jvm.Cond.instanceMethod ({ cls := "RunningCount$Act", name := "<init>", desc := "()V" } : Jvm.MethodName)) ∈ GW := gwm 335 (by decide +kernel) rfl
theorem gw_336 : (Jvm.Cond.code ({ cls := "RunningCount$Act", name := "<init>", desc := "()V" } : Jvm.MethodName) prog_2_method_1_code (1 : Nat) (Option.none : Option Jvm.ClassFile.FieldType)) ∈ GW := gwm 336 (by decide +kernel) rfl
theorem gw_337 : (Jvm.Cond.methodLink "RunningCount$Act" (1 : Nat) ({ cls := "java/lang/Object", name := "<init>", desc := "()V" } : Jvm.MethodName)) ∈ GW := gwm 337 (by decide +kernel) rfl
theorem nw_338 : (Jvm.Cond.fieldLinkNest "RunningCount$Journal" (25 : Nat) "RunningCount$Act" "kind" "I" "RunningCount") ∈ NW := nwm 338 (by decide +kernel) rfl
theorem nw_339 : (Jvm.Cond.fieldLinkNest "RunningCount" (308 : Nat) "RunningCount$Act" "kind" "I" "RunningCount") ∈ NW := nwm 339 (by decide +kernel) rfl
theorem nw_340 : (Jvm.Cond.fieldLinkNest "RunningCount$Journal" (28 : Nat) "RunningCount$Act" "number" "I" "RunningCount") ∈ NW := nwm 340 (by decide +kernel) rfl
theorem nw_341 : (Jvm.Cond.fieldLinkNest "RunningCount" (314 : Nat) "RunningCount$Act" "number" "I" "RunningCount") ∈ NW := nwm 341 (by decide +kernel) rfl
theorem nw_342 : (Jvm.Cond.fieldLinkNest "RunningCount" (254 : Nat) "RunningCount$Act" "early" "I" "RunningCount") ∈ NW := nwm 342 (by decide +kernel) rfl
theorem nw_343 : (Jvm.Cond.fieldLinkNest "RunningCount" (257 : Nat) "RunningCount$Act" "late" "I" "RunningCount") ∈ NW := nwm 343 (by decide +kernel) rfl
theorem nw_344 : (Jvm.Cond.fieldLinkNest "RunningCount" (287 : Nat) "RunningCount$Act" "shelf" "I" "RunningCount") ∈ NW := nwm 344 (by decide +kernel) rfl
theorem nw_345 : (Jvm.Cond.fieldLinkNest "RunningCount" (289 : Nat) "RunningCount$Act" "item" "I" "RunningCount") ∈ NW := nwm 345 (by decide +kernel) rfl
theorem nw_346 : (Jvm.Cond.fieldLinkNest "RunningCount" (291 : Nat) "RunningCount$Act" "instant" "I" "RunningCount") ∈ NW := nwm 346 (by decide +kernel) rfl
theorem nw_347 : (Jvm.Cond.fieldLinkNest "RunningCount" (293 : Nat) "RunningCount$Act" "sum" "I" "RunningCount") ∈ NW := nwm 347 (by decide +kernel) rfl
theorem nw_348 : (Jvm.Cond.fieldLinkNest "RunningCount" (295 : Nat) "RunningCount$Act" "who" "I" "RunningCount") ∈ NW := nwm 348 (by decide +kernel) rfl
theorem nw_349 : (Jvm.Cond.fieldLinkNest "RunningCount" (284 : Nat) "RunningCount$Act" "posted" "J" "RunningCount") ∈ NW := nwm 349 (by decide +kernel) rfl
theorem gw_350 : (Jvm.Cond.lays "RunningCount$Act" "RunningCount$Act" "kind" "I") ∈ GW := gwm 350 (by decide +kernel) rfl
theorem gw_352 : (Jvm.Cond.lays "RunningCount$Act" "RunningCount$Act" "number" "I") ∈ GW := gwm 352 (by decide +kernel) rfl
theorem gw_354 : (Jvm.Cond.lays "RunningCount$Act" "RunningCount$Act" "early" "I") ∈ GW := gwm 354 (by decide +kernel) rfl
theorem gw_356 : (Jvm.Cond.lays "RunningCount$Act" "RunningCount$Act" "late" "I") ∈ GW := gwm 356 (by decide +kernel) rfl
theorem gw_358 : (Jvm.Cond.lays "RunningCount$Act" "RunningCount$Act" "shelf" "I") ∈ GW := gwm 358 (by decide +kernel) rfl
theorem gw_360 : (Jvm.Cond.lays "RunningCount$Act" "RunningCount$Act" "item" "I") ∈ GW := gwm 360 (by decide +kernel) rfl
theorem gw_362 : (Jvm.Cond.lays "RunningCount$Act" "RunningCount$Act" "instant" "I") ∈ GW := gwm 362 (by decide +kernel) rfl
theorem gw_364 : (Jvm.Cond.lays "RunningCount$Act" "RunningCount$Act" "sum" "I") ∈ GW := gwm 364 (by decide +kernel) rfl
theorem gw_366 : (Jvm.Cond.lays "RunningCount$Act" "RunningCount$Act" "who" "I") ∈ GW := gwm 366 (by decide +kernel) rfl
theorem gw_368 : (Jvm.Cond.lays "RunningCount$Act" "RunningCount$Act" "posted" "J") ∈ GW := gwm 368 (by decide +kernel) rfl
theorem gw_371 : (Jvm.Cond.fieldLink "RunningCount$Journal" (9 : Nat) "RunningCount$Journal" "size" "I") ∈ GW := gwm 371 (by decide +kernel) rfl
theorem nw_372 : (Jvm.Cond.fieldLinkNest "RunningCount" (83 : Nat) "RunningCount$Journal" "size" "I" "RunningCount") ∈ NW := nwm 372 (by decide +kernel) rfl
theorem gw_373 : (Jvm.Cond.fieldLink "RunningCount$Journal" (15 : Nat) "RunningCount$Journal" "next" "I") ∈ GW := gwm 373 (by decide +kernel) rfl
theorem gw_374 : (Jvm.Cond.fieldLink "RunningCount$Journal" (20 : Nat) "RunningCount$Journal" "acts" "[LRunningCount$Act;") ∈ GW := gwm 374 (by decide +kernel) rfl
theorem gw_375 : (Jvm.Cond.lays "RunningCount$Journal" "RunningCount$Journal" "size" "I") ∈ GW := gwm 375 (by decide +kernel) rfl
theorem gw_377 : (Jvm.Cond.lays "RunningCount$Journal" "RunningCount$Journal" "next" "I") ∈ GW := gwm 377 (by decide +kernel) rfl
theorem gw_379 : (Jvm.Cond.laysFinal "RunningCount$Journal" "RunningCount$Journal" "acts" "[LRunningCount$Act;") ∈ GW := gwm 379 (by decide +kernel) rfl
theorem gw_382 : (Jvm.Cond.classLink "RunningCount" (47 : Nat) "RunningCount$Book") ∈ GW := gwm 382 (by decide +kernel) rfl
theorem gw_383 : (Jvm.Cond.instantiable "RunningCount$Book" (5 : Nat)) ∈ GW := gwm 383 (by decide +kernel) rfl
theorem nw_384 : (Jvm.Cond.methodLinkNest "RunningCount" (49 : Nat) ({ cls := "RunningCount$Book", name := "<init>", desc := "()V" } : Jvm.MethodName) "RunningCount") ∈ NW := nwm 384 (by decide +kernel) rfl
theorem gw_385 : (Jvm.Cond.instanceMethod ({ cls := "RunningCount$Book", name := "<init>", desc := "()V" } : Jvm.MethodName)) ∈ GW := gwm 385 (by decide +kernel) rfl
theorem gw_386 : (Jvm.Cond.code ({ cls := "RunningCount$Book", name := "<init>", desc := "()V" } : Jvm.MethodName) prog_4_method_1_code (1 : Nat) (Option.none : Option Jvm.ClassFile.FieldType)) ∈ GW := gwm 386 (by decide +kernel) rfl
theorem gw_387 : (Jvm.Cond.methodLink "RunningCount$Book" (3 : Nat) ({ cls := "java/lang/Object", name := "<init>", desc := "()V" } : Jvm.MethodName)) ∈ GW := gwm 387 (by decide +kernel) rfl
theorem gw_388 : (Jvm.Cond.fieldLink "RunningCount$Book" (27 : Nat) "RunningCount$Book" "sure" "I") ∈ GW := gwm 388 (by decide +kernel) rfl
theorem nw_389 : (Jvm.Cond.fieldLinkNest "RunningCount" (157 : Nat) "RunningCount$Book" "sure" "I" "RunningCount") ∈ NW := nwm 389 (by decide +kernel) rfl
theorem gw_390 : (Jvm.Cond.fieldLink "RunningCount$Book" (31 : Nat) "RunningCount$Book" "least" "I") ∈ GW := gwm 390 (by decide +kernel) rfl
theorem nw_391 : (Jvm.Cond.fieldLinkNest "RunningCount" (160 : Nat) "RunningCount$Book" "least" "I" "RunningCount") ∈ NW := nwm 391 (by decide +kernel) rfl
theorem gw_392 : (Jvm.Cond.fieldLink "RunningCount$Book" (34 : Nat) "RunningCount$Book" "most" "I") ∈ GW := gwm 392 (by decide +kernel) rfl
theorem nw_393 : (Jvm.Cond.fieldLinkNest "RunningCount" (163 : Nat) "RunningCount$Book" "most" "I" "RunningCount") ∈ NW := nwm 393 (by decide +kernel) rfl
theorem gw_394 : (Jvm.Cond.fieldLink "RunningCount$Book" (37 : Nat) "RunningCount$Book" "doubtful" "I") ∈ GW := gwm 394 (by decide +kernel) rfl
theorem nw_395 : (Jvm.Cond.fieldLinkNest "RunningCount" (166 : Nat) "RunningCount$Book" "doubtful" "I" "RunningCount") ∈ NW := nwm 395 (by decide +kernel) rfl
theorem gw_396 : (Jvm.Cond.fieldLink "RunningCount$Book" (9 : Nat) "RunningCount$Book" "doubts" "[I") ∈ GW := gwm 396 (by decide +kernel) rfl
theorem gw_397 : (Jvm.Cond.lays "RunningCount$Book" "RunningCount$Book" "sure" "I") ∈ GW := gwm 397 (by decide +kernel) rfl
theorem gw_399 : (Jvm.Cond.lays "RunningCount$Book" "RunningCount$Book" "least" "I") ∈ GW := gwm 399 (by decide +kernel) rfl
theorem gw_401 : (Jvm.Cond.lays "RunningCount$Book" "RunningCount$Book" "most" "I") ∈ GW := gwm 401 (by decide +kernel) rfl
theorem gw_403 : (Jvm.Cond.lays "RunningCount$Book" "RunningCount$Book" "doubtful" "I") ∈ GW := gwm 403 (by decide +kernel) rfl
theorem gw_405 : (Jvm.Cond.laysFinal "RunningCount$Book" "RunningCount$Book" "doubts" "[I") ∈ GW := gwm 405 (by decide +kernel) rfl
theorem gw_408 : (Jvm.Cond.fieldLink "RunningCount" (12 : Nat) "RunningCount" "reader" "LRunningCount$TextReader;") ∈ GW := gwm 408 (by decide +kernel) rfl
theorem gw_409 : (Jvm.Cond.fieldLink "RunningCount" (19 : Nat) "RunningCount" "goods" "LRunningCount$Goods;") ∈ GW := gwm 409 (by decide +kernel) rfl
theorem gw_410 : (Jvm.Cond.fieldLink "RunningCount" (23 : Nat) "RunningCount" "spare" "LRunningCount$Goods;") ∈ GW := gwm 410 (by decide +kernel) rfl
theorem gw_411 : (Jvm.Cond.fieldLink "RunningCount" (29 : Nat) "RunningCount" "tally" "LRunningCount$CountList;") ∈ GW := gwm 411 (by decide +kernel) rfl
theorem gw_412 : (Jvm.Cond.fieldLink "RunningCount" (36 : Nat) "RunningCount" "ledger" "LRunningCount$AdjustmentList;") ∈ GW := gwm 412 (by decide +kernel) rfl
theorem gw_413 : (Jvm.Cond.fieldLink "RunningCount" (43 : Nat) "RunningCount" "journal" "LRunningCount$Journal;") ∈ GW := gwm 413 (by decide +kernel) rfl
theorem gw_414 : (Jvm.Cond.fieldLink "RunningCount" (50 : Nat) "RunningCount" "page" "LRunningCount$Book;") ∈ GW := gwm 414 (by decide +kernel) rfl
theorem gw_415 : (Jvm.Cond.laysFinal "RunningCount" "RunningCount" "reader" "LRunningCount$TextReader;") ∈ GW := gwm 415 (by decide +kernel) rfl
theorem gw_417 : (Jvm.Cond.lays "RunningCount" "RunningCount" "goods" "LRunningCount$Goods;") ∈ GW := gwm 417 (by decide +kernel) rfl
theorem gw_419 : (Jvm.Cond.lays "RunningCount" "RunningCount" "spare" "LRunningCount$Goods;") ∈ GW := gwm 419 (by decide +kernel) rfl
theorem gw_421 : (Jvm.Cond.laysFinal "RunningCount" "RunningCount" "tally" "LRunningCount$CountList;") ∈ GW := gwm 421 (by decide +kernel) rfl
theorem gw_423 : (Jvm.Cond.laysFinal "RunningCount" "RunningCount" "ledger" "LRunningCount$AdjustmentList;") ∈ GW := gwm 423 (by decide +kernel) rfl
theorem gw_425 : (Jvm.Cond.laysFinal "RunningCount" "RunningCount" "journal" "LRunningCount$Journal;") ∈ GW := gwm 425 (by decide +kernel) rfl
theorem gw_427 : (Jvm.Cond.laysFinal "RunningCount" "RunningCount" "page" "LRunningCount$Book;") ∈ GW := gwm 427 (by decide +kernel) rfl
theorem gw_430 : (Jvm.Cond.methodLink "RunningCountLaw" (22 : Nat) ({ cls := "RunningCount", name := "feed", desc := "(IIIII)I" } : Jvm.MethodName)) ∈ GW := gwm 430 (by decide +kernel) rfl
theorem gw_431 : (Jvm.Cond.instanceMethod ({ cls := "RunningCount", name := "feed", desc := "(IIIII)I" } : Jvm.MethodName)) ∈ GW := gwm 431 (by decide +kernel) rfl
theorem gw_432 : (Jvm.Cond.selects "RunningCount" ({ cls := "RunningCount", name := "feed", desc := "(IIIII)I" } : Jvm.MethodName) ({ cls := "RunningCount", name := "feed", desc := "(IIIII)I" } : Jvm.MethodName)) ∈ GW := gwm 432 (by decide +kernel) rfl
theorem gw_433 : (Jvm.Cond.code ({ cls := "RunningCount", name := "feed", desc := "(IIIII)I" } : Jvm.MethodName) prog_1_method_2_code (7 : Nat) (Option.some Jvm.ClassFile.FieldType.int)) ∈ GW := gwm 433 (by decide +kernel) rfl
theorem nw_434 : (Jvm.Cond.methodLinkNest "RunningCount" (58 : Nat) ({ cls := "RunningCount$Tape", name := "hasRoom", desc := "()Z" } : Jvm.MethodName) "RunningCount") ∈ NW := nwm 434 (by decide +kernel) rfl
theorem gw_436 : (Jvm.Cond.instanceMethod ({ cls := "RunningCount$Tape", name := "hasRoom", desc := "()Z" } : Jvm.MethodName)) ∈ GW := gwm 436 (by decide +kernel) rfl
theorem gw_437 : (Jvm.Cond.code ({ cls := "RunningCount$Tape", name := "hasRoom", desc := "()Z" } : Jvm.MethodName) prog_8_method_2_code (1 : Nat) (Option.some Jvm.ClassFile.FieldType.boolean)) ∈ GW := gwm 437 (by decide +kernel) rfl
theorem nw_438 : (Jvm.Cond.methodLinkNest "RunningCount" (64 : Nat) ({ cls := "RunningCount$Tape", name := "append", desc := "(I)V" } : Jvm.MethodName) "RunningCount") ∈ NW := nwm 438 (by decide +kernel) rfl
theorem gw_440 : (Jvm.Cond.instanceMethod ({ cls := "RunningCount$Tape", name := "append", desc := "(I)V" } : Jvm.MethodName)) ∈ GW := gwm 440 (by decide +kernel) rfl
theorem gw_441 : (Jvm.Cond.code ({ cls := "RunningCount$Tape", name := "append", desc := "(I)V" } : Jvm.MethodName) prog_8_method_3_code (3 : Nat) (Option.none : Option Jvm.ClassFile.FieldType)) ∈ GW := gwm 441 (by decide +kernel) rfl
theorem gw_442 : (Jvm.Cond.methodLink "RunningCountLaw" (27 : Nat) ({ cls := "RunningCount", name := "end", desc := "(I)Z" } : Jvm.MethodName)) ∈ GW := gwm 442 (by decide +kernel) rfl
theorem gw_443 : (Jvm.Cond.instanceMethod ({ cls := "RunningCount", name := "end", desc := "(I)Z" } : Jvm.MethodName)) ∈ GW := gwm 443 (by decide +kernel) rfl
theorem gw_444 : (Jvm.Cond.selects "RunningCount" ({ cls := "RunningCount", name := "end", desc := "(I)Z" } : Jvm.MethodName) ({ cls := "RunningCount", name := "end", desc := "(I)Z" } : Jvm.MethodName)) ∈ GW := gwm 444 (by decide +kernel) rfl
theorem gw_445 : (Jvm.Cond.code ({ cls := "RunningCount", name := "end", desc := "(I)Z" } : Jvm.MethodName) prog_1_method_3_code (2 : Nat) (Option.some Jvm.ClassFile.FieldType.boolean)) ∈ GW := gwm 445 (by decide +kernel) rfl
theorem gw_446 : (Jvm.Cond.methodLink "RunningCountLaw" (32 : Nat) ({ cls := "RunningCount", name := "text", desc := "()I" } : Jvm.MethodName)) ∈ GW := gwm 446 (by decide +kernel) rfl
theorem gw_447 : (Jvm.Cond.instanceMethod ({ cls := "RunningCount", name := "text", desc := "()I" } : Jvm.MethodName)) ∈ GW := gwm 447 (by decide +kernel) rfl
theorem gw_448 : (Jvm.Cond.selects "RunningCount" ({ cls := "RunningCount", name := "text", desc := "()I" } : Jvm.MethodName) ({ cls := "RunningCount", name := "text", desc := "()I" } : Jvm.MethodName)) ∈ GW := gwm 448 (by decide +kernel) rfl
theorem gw_449 : (Jvm.Cond.code ({ cls := "RunningCount", name := "text", desc := "()I" } : Jvm.MethodName) prog_1_method_4_code (3 : Nat) (Option.some Jvm.ClassFile.FieldType.int)) ∈ GW := gwm 449 (by decide +kernel) rfl
theorem nw_450 : (Jvm.Cond.methodLinkNest "RunningCount" (72 : Nat) ({ cls := "RunningCount$TextReader", name := "readText", desc := "(LRunningCount$Goods;)Z" } : Jvm.MethodName) "RunningCount") ∈ NW := nwm 450 (by decide +kernel) rfl
theorem gw_452 : (Jvm.Cond.instanceMethod ({ cls := "RunningCount$TextReader", name := "readText", desc := "(LRunningCount$Goods;)Z" } : Jvm.MethodName)) ∈ GW := gwm 452 (by decide +kernel) rfl
theorem gw_453 : (Jvm.Cond.code ({ cls := "RunningCount$TextReader", name := "readText", desc := "(LRunningCount$Goods;)Z" } : Jvm.MethodName) prog_9_method_2_code (2 : Nat) (Option.some Jvm.ClassFile.FieldType.boolean)) ∈ GW := gwm 453 (by decide +kernel) rfl
theorem nw_454 : (Jvm.Cond.methodLinkNest "RunningCount$TextReader" (40 : Nat) ({ cls := "RunningCount$Tape", name := "scan", desc := "()V" } : Jvm.MethodName) "RunningCount") ∈ NW := nwm 454 (by decide +kernel) rfl
theorem gw_456 : (Jvm.Cond.instanceMethod ({ cls := "RunningCount$Tape", name := "scan", desc := "()V" } : Jvm.MethodName)) ∈ GW := gwm 456 (by decide +kernel) rfl
theorem gw_457 : (Jvm.Cond.code ({ cls := "RunningCount$Tape", name := "scan", desc := "()V" } : Jvm.MethodName) prog_8_method_4_code (5 : Nat) (Option.none : Option Jvm.ClassFile.FieldType)) ∈ GW := gwm 457 (by decide +kernel) rfl
theorem gw_458 : (Jvm.Cond.methodLink "RunningCount$Tape" (27 : Nat) ({ cls := "java/lang/Math", name := "min", desc := "(II)I" } : Jvm.MethodName)) ∈ GW := gwm 458 (by decide +kernel) rfl
theorem gw_459 : (Jvm.Cond.static ({ cls := "java/lang/Math", name := "min", desc := "(II)I" } : Jvm.MethodName)) ∈ GW := gwm 459 (by decide +kernel) rfl
theorem gw_460 : (Jvm.Cond.code ({ cls := "java/lang/Math", name := "min", desc := "(II)I" } : Jvm.MethodName) prog_16_method_69_code (2 : Nat) (Option.some Jvm.ClassFile.FieldType.int)) ∈ GW := gwm 460 (by decide +kernel) rfl
theorem gw_461 : (Jvm.Cond.methodLink "RunningCount$Tape" (33 : Nat) ({ cls := "RunningCount$Tape", name := "isBlank", desc := "(I)Z" } : Jvm.MethodName)) ∈ GW := gwm 461 (by decide +kernel) rfl
theorem gw_462 : (Jvm.Cond.static ({ cls := "RunningCount$Tape", name := "isBlank", desc := "(I)Z" } : Jvm.MethodName)) ∈ GW := gwm 462 (by decide +kernel) rfl
theorem gw_463 : (Jvm.Cond.code ({ cls := "RunningCount$Tape", name := "isBlank", desc := "(I)Z" } : Jvm.MethodName) prog_8_method_10_code (1 : Nat) (Option.some Jvm.ClassFile.FieldType.boolean)) ∈ GW := gwm 463 (by decide +kernel) rfl
theorem gw_464 : (Jvm.Cond.methodLink "RunningCount$Tape" (37 : Nat) ({ cls := "RunningCount$Tape", name := "behindRun", desc := "(I)I" } : Jvm.MethodName)) ∈ GW := gwm 464 (by decide +kernel) rfl
theorem gw_466 : (Jvm.Cond.instanceMethod ({ cls := "RunningCount$Tape", name := "behindRun", desc := "(I)I" } : Jvm.MethodName)) ∈ GW := gwm 466 (by decide +kernel) rfl
theorem gw_467 : (Jvm.Cond.code ({ cls := "RunningCount$Tape", name := "behindRun", desc := "(I)I" } : Jvm.MethodName) prog_8_method_6_code (3 : Nat) (Option.some Jvm.ClassFile.FieldType.int)) ∈ GW := gwm 467 (by decide +kernel) rfl
theorem gw_468 : (Jvm.Cond.methodLink "RunningCount$Tape" (48 : Nat) ({ cls := "RunningCount$Tape", name := "isLetter", desc := "(I)Z" } : Jvm.MethodName)) ∈ GW := gwm 468 (by decide +kernel) rfl
theorem gw_469 : (Jvm.Cond.static ({ cls := "RunningCount$Tape", name := "isLetter", desc := "(I)Z" } : Jvm.MethodName)) ∈ GW := gwm 469 (by decide +kernel) rfl
theorem gw_470 : (Jvm.Cond.code ({ cls := "RunningCount$Tape", name := "isLetter", desc := "(I)Z" } : Jvm.MethodName) prog_8_method_11_code (1 : Nat) (Option.some Jvm.ClassFile.FieldType.boolean)) ∈ GW := gwm 470 (by decide +kernel) rfl
theorem gw_471 : (Jvm.Cond.methodLink "RunningCount$Tape" (51 : Nat) ({ cls := "RunningCount$Tape", name := "isDigit", desc := "(I)Z" } : Jvm.MethodName)) ∈ GW := gwm 471 (by decide +kernel) rfl
theorem gw_472 : (Jvm.Cond.static ({ cls := "RunningCount$Tape", name := "isDigit", desc := "(I)Z" } : Jvm.MethodName)) ∈ GW := gwm 472 (by decide +kernel) rfl
theorem gw_473 : (Jvm.Cond.code ({ cls := "RunningCount$Tape", name := "isDigit", desc := "(I)Z" } : Jvm.MethodName) prog_8_method_12_code (1 : Nat) (Option.some Jvm.ClassFile.FieldType.boolean)) ∈ GW := gwm 473 (by decide +kernel) rfl
theorem gw_474 : (Jvm.Cond.methodLink "RunningCount$Tape" (54 : Nat) ({ cls := "java/lang/Math", name := "max", desc := "(II)I" } : Jvm.MethodName)) ∈ GW := gwm 474 (by decide +kernel) rfl
theorem gw_475 : (Jvm.Cond.static ({ cls := "java/lang/Math", name := "max", desc := "(II)I" } : Jvm.MethodName)) ∈ GW := gwm 475 (by decide +kernel) rfl
theorem gw_476 : (Jvm.Cond.code ({ cls := "java/lang/Math", name := "max", desc := "(II)I" } : Jvm.MethodName) prog_16_method_65_code (2 : Nat) (Option.some Jvm.ClassFile.FieldType.int)) ∈ GW := gwm 476 (by decide +kernel) rfl
theorem gw_477 : (Jvm.Cond.methodLink "RunningCount$Tape" (41 : Nat) ({ cls := "RunningCount$Tape", name := "kindOf", desc := "(II)I" } : Jvm.MethodName)) ∈ GW := gwm 477 (by decide +kernel) rfl
theorem gw_479 : (Jvm.Cond.instanceMethod ({ cls := "RunningCount$Tape", name := "kindOf", desc := "(II)I" } : Jvm.MethodName)) ∈ GW := gwm 479 (by decide +kernel) rfl
theorem gw_480 : (Jvm.Cond.code ({ cls := "RunningCount$Tape", name := "kindOf", desc := "(II)I" } : Jvm.MethodName) prog_8_method_7_code (7 : Nat) (Option.some Jvm.ClassFile.FieldType.int)) ∈ GW := gwm 480 (by decide +kernel) rfl
theorem gw_481 : (Jvm.Cond.methodLink "RunningCount$Tape" (57 : Nat) ({ cls := "RunningCount$Tape", name := "kindOfWord", desc := "(II)I" } : Jvm.MethodName)) ∈ GW := gwm 481 (by decide +kernel) rfl
theorem gw_483 : (Jvm.Cond.instanceMethod ({ cls := "RunningCount$Tape", name := "kindOfWord", desc := "(II)I" } : Jvm.MethodName)) ∈ GW := gwm 483 (by decide +kernel) rfl
theorem gw_484 : (Jvm.Cond.code ({ cls := "RunningCount$Tape", name := "kindOfWord", desc := "(II)I" } : Jvm.MethodName) prog_8_method_8_code (3 : Nat) (Option.some Jvm.ClassFile.FieldType.int)) ∈ GW := gwm 484 (by decide +kernel) rfl
theorem gw_486 : (Jvm.Cond.methodLink "RunningCount$Tape" (62 : Nat) ({ cls := "RunningCount$Tape", name := "isWord", desc := "(IILjava/lang/String;)Z" } : Jvm.MethodName)) ∈ GW := gwm 486 (by decide +kernel) rfl
theorem gw_488 : (Jvm.Cond.instanceMethod ({ cls := "RunningCount$Tape", name := "isWord", desc := "(IILjava/lang/String;)Z" } : Jvm.MethodName)) ∈ GW := gwm 488 (by decide +kernel) rfl
theorem gw_489 : (Jvm.Cond.code ({ cls := "RunningCount$Tape", name := "isWord", desc := "(IILjava/lang/String;)Z" } : Jvm.MethodName) prog_8_method_9_code (5 : Nat) (Option.some Jvm.ClassFile.FieldType.boolean)) ∈ GW := gwm 489 (by decide +kernel) rfl
theorem gw_490 : (Jvm.Cond.methodLink "RunningCount$Tape" (76 : Nat) ({ cls := "java/lang/String", name := "length", desc := "()I" } : Jvm.MethodName)) ∈ GW := gwm 490 (by decide +kernel) rfl
theorem gw_491 : (Jvm.Cond.instanceMethod ({ cls := "java/lang/String", name := "length", desc := "()I" } : Jvm.MethodName)) ∈ GW := gwm 491 (by decide +kernel) rfl
theorem gw_492 : (Jvm.Cond.selects "java/lang/String" ({ cls := "java/lang/String", name := "length", desc := "()I" } : Jvm.MethodName) ({ cls := "java/lang/String", name := "length", desc := "()I" } : Jvm.MethodName)) ∈ GW := gwm 492 (by decide +kernel) rfl
theorem gw_493 : (Jvm.Cond.code ({ cls := "java/lang/String", name := "length", desc := "()I" } : Jvm.MethodName) prog_18_method_54_code (1 : Nat) (Option.some Jvm.ClassFile.FieldType.int)) ∈ GW := gwm 493 (by decide +kernel) rfl
theorem gw_494 : (Jvm.Cond.methodLink "java/lang/String" (335 : Nat) ({ cls := "java/lang/String", name := "coder", desc := "()B" } : Jvm.MethodName)) ∈ GW := gwm 494 (by decide +kernel) rfl
theorem gw_495 : (Jvm.Cond.instanceMethod ({ cls := "java/lang/String", name := "coder", desc := "()B" } : Jvm.MethodName)) ∈ GW := gwm 495 (by decide +kernel) rfl
theorem gw_496 : (Jvm.Cond.selects "java/lang/String" ({ cls := "java/lang/String", name := "coder", desc := "()B" } : Jvm.MethodName) ({ cls := "java/lang/String", name := "coder", desc := "()B" } : Jvm.MethodName)) ∈ GW := gwm 496 (by decide +kernel) rfl
theorem gw_497 : (Jvm.Cond.code ({ cls := "java/lang/String", name := "coder", desc := "()B" } : Jvm.MethodName) prog_18_method_152_code (1 : Nat) (Option.some Jvm.ClassFile.FieldType.byte)) ∈ GW := gwm 497 (by decide +kernel) rfl
theorem gw_498 : (Jvm.Cond.fieldLink "java/lang/String" (38 : Nat) "java/lang/String" "COMPACT_STRINGS" "Z") ∈ GW := gwm 498 (by decide +kernel) rfl
theorem gw_500 : (Jvm.Cond.methodLink "RunningCount$Tape" (81 : Nat) ({ cls := "java/lang/String", name := "charAt", desc := "(I)C" } : Jvm.MethodName)) ∈ GW := gwm 500 (by decide +kernel) rfl
theorem gw_501 : (Jvm.Cond.instanceMethod ({ cls := "java/lang/String", name := "charAt", desc := "(I)C" } : Jvm.MethodName)) ∈ GW := gwm 501 (by decide +kernel) rfl
theorem gw_502 : (Jvm.Cond.selects "java/lang/String" ({ cls := "java/lang/String", name := "charAt", desc := "(I)C" } : Jvm.MethodName) ({ cls := "java/lang/String", name := "charAt", desc := "(I)C" } : Jvm.MethodName)) ∈ GW := gwm 502 (by decide +kernel) rfl
theorem gw_503 : (Jvm.Cond.code ({ cls := "java/lang/String", name := "charAt", desc := "(I)C" } : Jvm.MethodName) prog_18_method_56_code (2 : Nat) (Option.some Jvm.ClassFile.FieldType.char)) ∈ GW := gwm 503 (by decide +kernel) rfl
theorem gw_504 : (Jvm.Cond.methodLink "java/lang/String" (492 : Nat) ({ cls := "java/lang/String", name := "isLatin1", desc := "()Z" } : Jvm.MethodName)) ∈ GW := gwm 504 (by decide +kernel) rfl
theorem gw_505 : (Jvm.Cond.instanceMethod ({ cls := "java/lang/String", name := "isLatin1", desc := "()Z" } : Jvm.MethodName)) ∈ GW := gwm 505 (by decide +kernel) rfl
theorem gw_506 : (Jvm.Cond.selects "java/lang/String" ({ cls := "java/lang/String", name := "isLatin1", desc := "()Z" } : Jvm.MethodName) ({ cls := "java/lang/String", name := "isLatin1", desc := "()Z" } : Jvm.MethodName)) ∈ GW := gwm 506 (by decide +kernel) rfl
theorem gw_507 : (Jvm.Cond.code ({ cls := "java/lang/String", name := "isLatin1", desc := "()Z" } : Jvm.MethodName) prog_18_method_154_code (1 : Nat) (Option.some Jvm.ClassFile.FieldType.boolean)) ∈ GW := gwm 507 (by decide +kernel) rfl
theorem gw_508 : (Jvm.Cond.methodLink "java/lang/String" (495 : Nat) ({ cls := "java/lang/StringLatin1", name := "charAt", desc := "([BI)C" } : Jvm.MethodName)) ∈ GW := gwm 508 (by decide +kernel) rfl
theorem gw_509 : (Jvm.Cond.static ({ cls := "java/lang/StringLatin1", name := "charAt", desc := "([BI)C" } : Jvm.MethodName)) ∈ GW := gwm 509 (by decide +kernel) rfl
theorem gw_510 : (Jvm.Cond.code ({ cls := "java/lang/StringLatin1", name := "charAt", desc := "([BI)C" } : Jvm.MethodName) prog_19_method_2_code (2 : Nat) (Option.some Jvm.ClassFile.FieldType.char)) ∈ GW := gwm 510 (by decide +kernel) rfl
theorem gw_511 : (Jvm.Cond.methodLink "java/lang/StringLatin1" (9 : Nat) ({ cls := "java/lang/String", name := "checkIndex", desc := "(II)V" } : Jvm.MethodName)) ∈ GW := gwm 511 (by decide +kernel) rfl
theorem gw_512 : (Jvm.Cond.static ({ cls := "java/lang/String", name := "checkIndex", desc := "(II)V" } : Jvm.MethodName)) ∈ GW := gwm 512 (by decide +kernel) rfl
theorem gw_513 : (Jvm.Cond.code ({ cls := "java/lang/String", name := "checkIndex", desc := "(II)V" } : Jvm.MethodName) prog_18_method_155_code (2 : Nat) (Option.none : Option Jvm.ClassFile.FieldType)) ∈ GW := gwm 513 (by decide +kernel) rfl
theorem gw_514 : (Jvm.Cond.fieldLink "java/lang/String" (1053 : Nat) "jdk/internal/util/Preconditions" "SIOOBE_FORMATTER" "Ljava/util/function/BiFunction;") ∈ GW := gwm 514 (by decide +kernel) rfl
theorem gw_516 : (Jvm.Cond.methodLink "java/lang/String" (1059 : Nat) ({ cls := "jdk/internal/util/Preconditions", name := "checkIndex", desc := "(IILjava/util/function/BiFunction;)I" } : Jvm.MethodName)) ∈ GW := gwm 516 (by decide +kernel) rfl
theorem gw_517 : (Jvm.Cond.static ({ cls := "jdk/internal/util/Preconditions", name := "checkIndex", desc := "(IILjava/util/function/BiFunction;)I" } : Jvm.MethodName)) ∈ GW := gwm 517 (by decide +kernel) rfl
theorem gw_518 : (Jvm.Cond.code ({ cls := "jdk/internal/util/Preconditions", name := "checkIndex", desc := "(IILjava/util/function/BiFunction;)I" } : Jvm.MethodName) prog_25_method_11_code (3 : Nat) (Option.some Jvm.ClassFile.FieldType.int)) ∈ GW := gwm 518 (by decide +kernel) rfl
theorem gw_519 : (Jvm.Cond.methodLink "java/lang/String" (498 : Nat) ({ cls := "java/lang/StringUTF16", name := "charAt", desc := "([BI)C" } : Jvm.MethodName)) ∈ GW := gwm 519 (by decide +kernel) rfl
theorem gw_520 : (Jvm.Cond.static ({ cls := "java/lang/StringUTF16", name := "charAt", desc := "([BI)C" } : Jvm.MethodName)) ∈ GW := gwm 520 (by decide +kernel) rfl
theorem gw_521 : (Jvm.Cond.code ({ cls := "java/lang/StringUTF16", name := "charAt", desc := "([BI)C" } : Jvm.MethodName) prog_20_method_83_code (2 : Nat) (Option.some Jvm.ClassFile.FieldType.char)) ∈ GW := gwm 521 (by decide +kernel) rfl
theorem gw_522 : (Jvm.Cond.methodLink "java/lang/StringUTF16" (67 : Nat) ({ cls := "java/lang/StringUTF16", name := "checkIndex", desc := "(I[B)V" } : Jvm.MethodName)) ∈ GW := gwm 522 (by decide +kernel) rfl
theorem gw_523 : (Jvm.Cond.static ({ cls := "java/lang/StringUTF16", name := "checkIndex", desc := "(I[B)V" } : Jvm.MethodName)) ∈ GW := gwm 523 (by decide +kernel) rfl
theorem gw_524 : (Jvm.Cond.code ({ cls := "java/lang/StringUTF16", name := "checkIndex", desc := "(I[B)V" } : Jvm.MethodName) prog_20_method_91_code (2 : Nat) (Option.none : Option Jvm.ClassFile.FieldType)) ∈ GW := gwm 524 (by decide +kernel) rfl
theorem gw_525 : (Jvm.Cond.methodLink "java/lang/StringUTF16" (48 : Nat) ({ cls := "java/lang/StringUTF16", name := "length", desc := "([B)I" } : Jvm.MethodName)) ∈ GW := gwm 525 (by decide +kernel) rfl
theorem gw_526 : (Jvm.Cond.static ({ cls := "java/lang/StringUTF16", name := "length", desc := "([B)I" } : Jvm.MethodName)) ∈ GW := gwm 526 (by decide +kernel) rfl
theorem gw_527 : (Jvm.Cond.code ({ cls := "java/lang/StringUTF16", name := "length", desc := "([B)I" } : Jvm.MethodName) prog_20_method_6_code (1 : Nat) (Option.some Jvm.ClassFile.FieldType.int)) ∈ GW := gwm 527 (by decide +kernel) rfl
theorem gw_528 : (Jvm.Cond.methodLink "java/lang/StringUTF16" (414 : Nat) ({ cls := "java/lang/String", name := "checkIndex", desc := "(II)V" } : Jvm.MethodName)) ∈ GW := gwm 528 (by decide +kernel) rfl
theorem gw_529 : (Jvm.Cond.methodLink "java/lang/StringUTF16" (71 : Nat) ({ cls := "java/lang/StringUTF16", name := "getChar", desc := "([BI)C" } : Jvm.MethodName)) ∈ GW := gwm 529 (by decide +kernel) rfl
theorem gw_530 : (Jvm.Cond.static ({ cls := "java/lang/StringUTF16", name := "getChar", desc := "([BI)C" } : Jvm.MethodName)) ∈ GW := gwm 530 (by decide +kernel) rfl
theorem gw_531 : (Jvm.Cond.code ({ cls := "java/lang/StringUTF16", name := "getChar", desc := "([BI)C" } : Jvm.MethodName) prog_20_method_5_code (2 : Nat) (Option.some Jvm.ClassFile.FieldType.char)) ∈ GW := gwm 531 (by decide +kernel) rfl
theorem gw_532 : (Jvm.Cond.fieldLink "java/lang/StringUTF16" (44 : Nat) "java/lang/StringUTF16" "$assertionsDisabled" "Z") ∈ GW := gwm 532 (by decide +kernel) rfl
theorem gw_534 : (Jvm.Cond.fieldLink "java/lang/StringUTF16" (59 : Nat) "java/lang/StringUTF16" "HI_BYTE_SHIFT" "I") ∈ GW := gwm 534 (by decide +kernel) rfl
theorem gw_536 : (Jvm.Cond.fieldLink "java/lang/StringUTF16" (63 : Nat) "java/lang/StringUTF16" "LO_BYTE_SHIFT" "I") ∈ GW := gwm 536 (by decide +kernel) rfl
theorem gw_543 : (Jvm.Cond.methodLink "RunningCount$Tape" (44 : Nat) ({ cls := "RunningCount$Tape", name := "addToken", desc := "(II)V" } : Jvm.MethodName)) ∈ GW := gwm 543 (by decide +kernel) rfl
theorem gw_545 : (Jvm.Cond.instanceMethod ({ cls := "RunningCount$Tape", name := "addToken", desc := "(II)V" } : Jvm.MethodName)) ∈ GW := gwm 545 (by decide +kernel) rfl
theorem gw_546 : (Jvm.Cond.code ({ cls := "RunningCount$Tape", name := "addToken", desc := "(II)V" } : Jvm.MethodName) prog_8_method_5_code (3 : Nat) (Option.none : Option Jvm.ClassFile.FieldType)) ∈ GW := gwm 546 (by decide +kernel) rfl
theorem nw_547 : (Jvm.Cond.methodLinkNest "RunningCount$TextReader" (43 : Nat) ({ cls := "RunningCount$Goods", name := "clear", desc := "()V" } : Jvm.MethodName) "RunningCount") ∈ NW := nwm 547 (by decide +kernel) rfl
theorem gw_549 : (Jvm.Cond.instanceMethod ({ cls := "RunningCount$Goods", name := "clear", desc := "()V" } : Jvm.MethodName)) ∈ GW := gwm 549 (by decide +kernel) rfl
theorem gw_550 : (Jvm.Cond.code ({ cls := "RunningCount$Goods", name := "clear", desc := "()V" } : Jvm.MethodName) prog_6_method_2_code (2 : Nat) (Option.none : Option Jvm.ClassFile.FieldType)) ∈ GW := gwm 550 (by decide +kernel) rfl
theorem gw_551 : (Jvm.Cond.methodLink "RunningCount$TextReader" (48 : Nat) ({ cls := "RunningCount$TextReader", name := "advance", desc := "()V" } : Jvm.MethodName)) ∈ GW := gwm 551 (by decide +kernel) rfl
theorem gw_553 : (Jvm.Cond.instanceMethod ({ cls := "RunningCount$TextReader", name := "advance", desc := "()V" } : Jvm.MethodName)) ∈ GW := gwm 553 (by decide +kernel) rfl
theorem gw_554 : (Jvm.Cond.code ({ cls := "RunningCount$TextReader", name := "advance", desc := "()V" } : Jvm.MethodName) prog_9_method_15_code (1 : Nat) (Option.none : Option Jvm.ClassFile.FieldType)) ∈ GW := gwm 554 (by decide +kernel) rfl
theorem gw_555 : (Jvm.Cond.methodLink "RunningCount$TextReader" (51 : Nat) ({ cls := "RunningCount$TextReader", name := "readShelves", desc := "(LRunningCount$Goods;)Z" } : Jvm.MethodName)) ∈ GW := gwm 555 (by decide +kernel) rfl
theorem gw_557 : (Jvm.Cond.instanceMethod ({ cls := "RunningCount$TextReader", name := "readShelves", desc := "(LRunningCount$Goods;)Z" } : Jvm.MethodName)) ∈ GW := gwm 557 (by decide +kernel) rfl
theorem gw_558 : (Jvm.Cond.code ({ cls := "RunningCount$TextReader", name := "readShelves", desc := "(LRunningCount$Goods;)Z" } : Jvm.MethodName) prog_9_method_3_code (2 : Nat) (Option.some Jvm.ClassFile.FieldType.boolean)) ∈ GW := gwm 558 (by decide +kernel) rfl
theorem gw_559 : (Jvm.Cond.methodLink "RunningCount$TextReader" (68 : Nat) ({ cls := "RunningCount$TextReader", name := "take", desc := "(I)Z" } : Jvm.MethodName)) ∈ GW := gwm 559 (by decide +kernel) rfl
theorem gw_561 : (Jvm.Cond.instanceMethod ({ cls := "RunningCount$TextReader", name := "take", desc := "(I)Z" } : Jvm.MethodName)) ∈ GW := gwm 561 (by decide +kernel) rfl
theorem gw_562 : (Jvm.Cond.code ({ cls := "RunningCount$TextReader", name := "take", desc := "(I)Z" } : Jvm.MethodName) prog_9_method_13_code (2 : Nat) (Option.some Jvm.ClassFile.FieldType.boolean)) ∈ GW := gwm 562 (by decide +kernel) rfl
theorem gw_563 : (Jvm.Cond.methodLink "RunningCount$TextReader" (85 : Nat) ({ cls := "RunningCount$TextReader", name := "fail", desc := "(I)Z" } : Jvm.MethodName)) ∈ GW := gwm 563 (by decide +kernel) rfl
theorem gw_565 : (Jvm.Cond.instanceMethod ({ cls := "RunningCount$TextReader", name := "fail", desc := "(I)Z" } : Jvm.MethodName)) ∈ GW := gwm 565 (by decide +kernel) rfl
theorem gw_566 : (Jvm.Cond.code ({ cls := "RunningCount$TextReader", name := "fail", desc := "(I)Z" } : Jvm.MethodName) prog_9_method_16_code (2 : Nat) (Option.some Jvm.ClassFile.FieldType.boolean)) ∈ GW := gwm 566 (by decide +kernel) rfl
theorem gw_567 : (Jvm.Cond.methodLink "RunningCount$TextReader" (72 : Nat) ({ cls := "RunningCount$TextReader", name := "takeNumber", desc := "(II)Z" } : Jvm.MethodName)) ∈ GW := gwm 567 (by decide +kernel) rfl
theorem gw_569 : (Jvm.Cond.instanceMethod ({ cls := "RunningCount$TextReader", name := "takeNumber", desc := "(II)Z" } : Jvm.MethodName)) ∈ GW := gwm 569 (by decide +kernel) rfl
theorem gw_570 : (Jvm.Cond.code ({ cls := "RunningCount$TextReader", name := "takeNumber", desc := "(II)Z" } : Jvm.MethodName) prog_9_method_14_code (3 : Nat) (Option.some Jvm.ClassFile.FieldType.boolean)) ∈ GW := gwm 570 (by decide +kernel) rfl
theorem gw_571 : (Jvm.Cond.methodLink "RunningCount$TextReader" (79 : Nat) ({ cls := "RunningCount$TextReader", name := "takeLineEnd", desc := "()Z" } : Jvm.MethodName)) ∈ GW := gwm 571 (by decide +kernel) rfl
theorem gw_573 : (Jvm.Cond.instanceMethod ({ cls := "RunningCount$TextReader", name := "takeLineEnd", desc := "()Z" } : Jvm.MethodName)) ∈ GW := gwm 573 (by decide +kernel) rfl
theorem gw_574 : (Jvm.Cond.code ({ cls := "RunningCount$TextReader", name := "takeLineEnd", desc := "()Z" } : Jvm.MethodName) prog_9_method_12_code (1 : Nat) (Option.some Jvm.ClassFile.FieldType.boolean)) ∈ GW := gwm 574 (by decide +kernel) rfl
theorem gw_575 : (Jvm.Cond.methodLink "RunningCount$TextReader" (55 : Nat) ({ cls := "RunningCount$TextReader", name := "readItems", desc := "(LRunningCount$Goods;)Z" } : Jvm.MethodName)) ∈ GW := gwm 575 (by decide +kernel) rfl
theorem gw_577 : (Jvm.Cond.instanceMethod ({ cls := "RunningCount$TextReader", name := "readItems", desc := "(LRunningCount$Goods;)Z" } : Jvm.MethodName)) ∈ GW := gwm 577 (by decide +kernel) rfl
theorem gw_578 : (Jvm.Cond.code ({ cls := "RunningCount$TextReader", name := "readItems", desc := "(LRunningCount$Goods;)Z" } : Jvm.MethodName) prog_9_method_4_code (3 : Nat) (Option.some Jvm.ClassFile.FieldType.boolean)) ∈ GW := gwm 578 (by decide +kernel) rfl
theorem gw_579 : (Jvm.Cond.methodLink "RunningCount$TextReader" (88 : Nat) ({ cls := "RunningCount$TextReader", name := "readItem", desc := "(LRunningCount$Goods;)Z" } : Jvm.MethodName)) ∈ GW := gwm 579 (by decide +kernel) rfl
theorem gw_581 : (Jvm.Cond.instanceMethod ({ cls := "RunningCount$TextReader", name := "readItem", desc := "(LRunningCount$Goods;)Z" } : Jvm.MethodName)) ∈ GW := gwm 581 (by decide +kernel) rfl
theorem gw_582 : (Jvm.Cond.code ({ cls := "RunningCount$TextReader", name := "readItem", desc := "(LRunningCount$Goods;)Z" } : Jvm.MethodName) prog_9_method_5_code (3 : Nat) (Option.some Jvm.ClassFile.FieldType.boolean)) ∈ GW := gwm 582 (by decide +kernel) rfl
theorem nw_583 : (Jvm.Cond.methodLinkNest "RunningCount$TextReader" (91 : Nat) ({ cls := "RunningCount$Goods", name := "addItem", desc := "(II)V" } : Jvm.MethodName) "RunningCount") ∈ NW := nwm 583 (by decide +kernel) rfl
theorem gw_585 : (Jvm.Cond.instanceMethod ({ cls := "RunningCount$Goods", name := "addItem", desc := "(II)V" } : Jvm.MethodName)) ∈ GW := gwm 585 (by decide +kernel) rfl
theorem gw_586 : (Jvm.Cond.code ({ cls := "RunningCount$Goods", name := "addItem", desc := "(II)V" } : Jvm.MethodName) prog_6_method_11_code (3 : Nat) (Option.none : Option Jvm.ClassFile.FieldType)) ∈ GW := gwm 586 (by decide +kernel) rfl
theorem gw_587 : (Jvm.Cond.methodLink "RunningCount$TextReader" (58 : Nat) ({ cls := "RunningCount$TextReader", name := "readStocks", desc := "(LRunningCount$Goods;)Z" } : Jvm.MethodName)) ∈ GW := gwm 587 (by decide +kernel) rfl
theorem gw_589 : (Jvm.Cond.instanceMethod ({ cls := "RunningCount$TextReader", name := "readStocks", desc := "(LRunningCount$Goods;)Z" } : Jvm.MethodName)) ∈ GW := gwm 589 (by decide +kernel) rfl
theorem gw_590 : (Jvm.Cond.code ({ cls := "RunningCount$TextReader", name := "readStocks", desc := "(LRunningCount$Goods;)Z" } : Jvm.MethodName) prog_9_method_6_code (3 : Nat) (Option.some Jvm.ClassFile.FieldType.boolean)) ∈ GW := gwm 590 (by decide +kernel) rfl
theorem gw_591 : (Jvm.Cond.methodLink "RunningCount$TextReader" (95 : Nat) ({ cls := "RunningCount$TextReader", name := "readStock", desc := "(LRunningCount$Goods;)Z" } : Jvm.MethodName)) ∈ GW := gwm 591 (by decide +kernel) rfl
theorem gw_593 : (Jvm.Cond.instanceMethod ({ cls := "RunningCount$TextReader", name := "readStock", desc := "(LRunningCount$Goods;)Z" } : Jvm.MethodName)) ∈ GW := gwm 593 (by decide +kernel) rfl
theorem gw_594 : (Jvm.Cond.code ({ cls := "RunningCount$TextReader", name := "readStock", desc := "(LRunningCount$Goods;)Z" } : Jvm.MethodName) prog_9_method_7_code (4 : Nat) (Option.some Jvm.ClassFile.FieldType.boolean)) ∈ GW := gwm 594 (by decide +kernel) rfl
theorem nw_595 : (Jvm.Cond.methodLinkNest "RunningCount$TextReader" (98 : Nat) ({ cls := "RunningCount$Goods", name := "isStockTold", desc := "(II)Z" } : Jvm.MethodName) "RunningCount") ∈ NW := nwm 595 (by decide +kernel) rfl
theorem gw_597 : (Jvm.Cond.instanceMethod ({ cls := "RunningCount$Goods", name := "isStockTold", desc := "(II)Z" } : Jvm.MethodName)) ∈ GW := gwm 597 (by decide +kernel) rfl
theorem gw_598 : (Jvm.Cond.code ({ cls := "RunningCount$Goods", name := "isStockTold", desc := "(II)Z" } : Jvm.MethodName) prog_6_method_8_code (3 : Nat) (Option.some Jvm.ClassFile.FieldType.boolean)) ∈ GW := gwm 598 (by decide +kernel) rfl
theorem gw_599 : (Jvm.Cond.methodLink "RunningCount$Goods" (53 : Nat) ({ cls := "RunningCount$Goods", name := "hasCouple", desc := "(II)Z" } : Jvm.MethodName)) ∈ GW := gwm 599 (by decide +kernel) rfl
theorem gw_601 : (Jvm.Cond.instanceMethod ({ cls := "RunningCount$Goods", name := "hasCouple", desc := "(II)Z" } : Jvm.MethodName)) ∈ GW := gwm 601 (by decide +kernel) rfl
theorem gw_602 : (Jvm.Cond.code ({ cls := "RunningCount$Goods", name := "hasCouple", desc := "(II)Z" } : Jvm.MethodName) prog_6_method_5_code (3 : Nat) (Option.some Jvm.ClassFile.FieldType.boolean)) ∈ GW := gwm 602 (by decide +kernel) rfl
theorem gw_603 : (Jvm.Cond.methodLink "RunningCount$Goods" (46 : Nat) ({ cls := "RunningCount$Goods", name := "hasShelf", desc := "(I)Z" } : Jvm.MethodName)) ∈ GW := gwm 603 (by decide +kernel) rfl
theorem gw_605 : (Jvm.Cond.instanceMethod ({ cls := "RunningCount$Goods", name := "hasShelf", desc := "(I)Z" } : Jvm.MethodName)) ∈ GW := gwm 605 (by decide +kernel) rfl
theorem gw_606 : (Jvm.Cond.code ({ cls := "RunningCount$Goods", name := "hasShelf", desc := "(I)Z" } : Jvm.MethodName) prog_6_method_3_code (2 : Nat) (Option.some Jvm.ClassFile.FieldType.boolean)) ∈ GW := gwm 606 (by decide +kernel) rfl
theorem gw_607 : (Jvm.Cond.methodLink "RunningCount$Goods" (50 : Nat) ({ cls := "RunningCount$Goods", name := "hasItem", desc := "(I)Z" } : Jvm.MethodName)) ∈ GW := gwm 607 (by decide +kernel) rfl
theorem gw_609 : (Jvm.Cond.instanceMethod ({ cls := "RunningCount$Goods", name := "hasItem", desc := "(I)Z" } : Jvm.MethodName)) ∈ GW := gwm 609 (by decide +kernel) rfl
theorem gw_610 : (Jvm.Cond.code ({ cls := "RunningCount$Goods", name := "hasItem", desc := "(I)Z" } : Jvm.MethodName) prog_6_method_4_code (2 : Nat) (Option.some Jvm.ClassFile.FieldType.boolean)) ∈ GW := gwm 610 (by decide +kernel) rfl
theorem gw_611 : (Jvm.Cond.methodLink "RunningCount$Goods" (57 : Nat) ({ cls := "RunningCount$Goods", name := "placeOf", desc := "(II)I" } : Jvm.MethodName)) ∈ GW := gwm 611 (by decide +kernel) rfl
theorem gw_612 : (Jvm.Cond.static ({ cls := "RunningCount$Goods", name := "placeOf", desc := "(II)I" } : Jvm.MethodName)) ∈ GW := gwm 612 (by decide +kernel) rfl
theorem gw_613 : (Jvm.Cond.code ({ cls := "RunningCount$Goods", name := "placeOf", desc := "(II)I" } : Jvm.MethodName) prog_6_method_7_code (2 : Nat) (Option.some Jvm.ClassFile.FieldType.int)) ∈ GW := gwm 613 (by decide +kernel) rfl
theorem nw_614 : (Jvm.Cond.methodLinkNest "RunningCount$TextReader" (101 : Nat) ({ cls := "RunningCount$Goods", name := "tellStock", desc := "(III)V" } : Jvm.MethodName) "RunningCount") ∈ NW := nwm 614 (by decide +kernel) rfl
theorem gw_616 : (Jvm.Cond.instanceMethod ({ cls := "RunningCount$Goods", name := "tellStock", desc := "(III)V" } : Jvm.MethodName)) ∈ GW := gwm 616 (by decide +kernel) rfl
theorem gw_617 : (Jvm.Cond.code ({ cls := "RunningCount$Goods", name := "tellStock", desc := "(III)V" } : Jvm.MethodName) prog_6_method_9_code (4 : Nat) (Option.none : Option Jvm.ClassFile.FieldType)) ∈ GW := gwm 617 (by decide +kernel) rfl
theorem gw_618 : (Jvm.Cond.methodLink "RunningCount$TextReader" (61 : Nat) ({ cls := "RunningCount$TextReader", name := "readMoves", desc := "(LRunningCount$Goods;)Z" } : Jvm.MethodName)) ∈ GW := gwm 618 (by decide +kernel) rfl
theorem gw_620 : (Jvm.Cond.instanceMethod ({ cls := "RunningCount$TextReader", name := "readMoves", desc := "(LRunningCount$Goods;)Z" } : Jvm.MethodName)) ∈ GW := gwm 620 (by decide +kernel) rfl
theorem gw_621 : (Jvm.Cond.code ({ cls := "RunningCount$TextReader", name := "readMoves", desc := "(LRunningCount$Goods;)Z" } : Jvm.MethodName) prog_9_method_8_code (3 : Nat) (Option.some Jvm.ClassFile.FieldType.boolean)) ∈ GW := gwm 621 (by decide +kernel) rfl
theorem gw_622 : (Jvm.Cond.methodLink "RunningCount$TextReader" (108 : Nat) ({ cls := "RunningCount$TextReader", name := "readMove", desc := "(LRunningCount$Goods;)Z" } : Jvm.MethodName)) ∈ GW := gwm 622 (by decide +kernel) rfl
theorem gw_624 : (Jvm.Cond.instanceMethod ({ cls := "RunningCount$TextReader", name := "readMove", desc := "(LRunningCount$Goods;)Z" } : Jvm.MethodName)) ∈ GW := gwm 624 (by decide +kernel) rfl
theorem gw_625 : (Jvm.Cond.code ({ cls := "RunningCount$TextReader", name := "readMove", desc := "(LRunningCount$Goods;)Z" } : Jvm.MethodName) prog_9_method_9_code (4 : Nat) (Option.some Jvm.ClassFile.FieldType.boolean)) ∈ GW := gwm 625 (by decide +kernel) rfl
theorem nw_626 : (Jvm.Cond.methodLinkNest "RunningCount$TextReader" (111 : Nat) ({ cls := "RunningCount$Goods", name := "addMove", desc := "(II)I" } : Jvm.MethodName) "RunningCount") ∈ NW := nwm 626 (by decide +kernel) rfl
theorem gw_628 : (Jvm.Cond.instanceMethod ({ cls := "RunningCount$Goods", name := "addMove", desc := "(II)I" } : Jvm.MethodName)) ∈ GW := gwm 628 (by decide +kernel) rfl
theorem gw_629 : (Jvm.Cond.code ({ cls := "RunningCount$Goods", name := "addMove", desc := "(II)I" } : Jvm.MethodName) prog_6_method_12_code (4 : Nat) (Option.some Jvm.ClassFile.FieldType.int)) ∈ GW := gwm 629 (by decide +kernel) rfl
theorem nw_630 : (Jvm.Cond.methodLinkNest "RunningCount$Goods" (66 : Nat) ({ cls := "RunningCount", name := "legOf", desc := "(II)I" } : Jvm.MethodName) "RunningCount") ∈ NW := nwm 630 (by decide +kernel) rfl
theorem gw_631 : (Jvm.Cond.static ({ cls := "RunningCount", name := "legOf", desc := "(II)I" } : Jvm.MethodName)) ∈ GW := gwm 631 (by decide +kernel) rfl
theorem gw_632 : (Jvm.Cond.code ({ cls := "RunningCount", name := "legOf", desc := "(II)I" } : Jvm.MethodName) prog_1_method_30_code (2 : Nat) (Option.some Jvm.ClassFile.FieldType.int)) ∈ GW := gwm 632 (by decide +kernel) rfl
theorem gw_633 : (Jvm.Cond.methodLink "RunningCount$Goods" (69 : Nat) ({ cls := "RunningCount$Goods", name := "removeLeg", desc := "(I)V" } : Jvm.MethodName)) ∈ GW := gwm 633 (by decide +kernel) rfl
theorem gw_635 : (Jvm.Cond.instanceMethod ({ cls := "RunningCount$Goods", name := "removeLeg", desc := "(I)V" } : Jvm.MethodName)) ∈ GW := gwm 635 (by decide +kernel) rfl
theorem gw_636 : (Jvm.Cond.code ({ cls := "RunningCount$Goods", name := "removeLeg", desc := "(I)V" } : Jvm.MethodName) prog_6_method_15_code (2 : Nat) (Option.none : Option Jvm.ClassFile.FieldType)) ∈ GW := gwm 636 (by decide +kernel) rfl
theorem gw_637 : (Jvm.Cond.methodLink "RunningCount$Goods" (73 : Nat) ({ cls := "RunningCount$Goods", name := "setLeg", desc := "(IIII)V" } : Jvm.MethodName)) ∈ GW := gwm 637 (by decide +kernel) rfl
theorem gw_639 : (Jvm.Cond.instanceMethod ({ cls := "RunningCount$Goods", name := "setLeg", desc := "(IIII)V" } : Jvm.MethodName)) ∈ GW := gwm 639 (by decide +kernel) rfl
theorem gw_640 : (Jvm.Cond.code ({ cls := "RunningCount$Goods", name := "setLeg", desc := "(IIII)V" } : Jvm.MethodName) prog_6_method_14_code (5 : Nat) (Option.none : Option Jvm.ClassFile.FieldType)) ∈ GW := gwm 640 (by decide +kernel) rfl
theorem nw_641 : (Jvm.Cond.methodLinkNest "RunningCount$TextReader" (115 : Nat) ({ cls := "RunningCount", name := "legOf", desc := "(II)I" } : Jvm.MethodName) "RunningCount") ∈ NW := nwm 641 (by decide +kernel) rfl
theorem gw_642 : (Jvm.Cond.methodLink "RunningCount$TextReader" (118 : Nat) ({ cls := "RunningCount$TextReader", name := "readLeg", desc := "(LRunningCount$Goods;II)Z" } : Jvm.MethodName)) ∈ GW := gwm 642 (by decide +kernel) rfl
theorem gw_644 : (Jvm.Cond.instanceMethod ({ cls := "RunningCount$TextReader", name := "readLeg", desc := "(LRunningCount$Goods;II)Z" } : Jvm.MethodName)) ∈ GW := gwm 644 (by decide +kernel) rfl
theorem gw_645 : (Jvm.Cond.code ({ cls := "RunningCount$TextReader", name := "readLeg", desc := "(LRunningCount$Goods;II)Z" } : Jvm.MethodName) prog_9_method_10_code (6 : Nat) (Option.some Jvm.ClassFile.FieldType.boolean)) ∈ GW := gwm 645 (by decide +kernel) rfl
theorem nw_646 : (Jvm.Cond.methodLinkNest "RunningCount$TextReader" (122 : Nat) ({ cls := "RunningCount$Goods", name := "setLeg", desc := "(IIII)V" } : Jvm.MethodName) "RunningCount") ∈ NW := nwm 646 (by decide +kernel) rfl
theorem gw_647 : (Jvm.Cond.methodLink "RunningCount$TextReader" (64 : Nat) ({ cls := "RunningCount$TextReader", name := "readEnd", desc := "()Z" } : Jvm.MethodName)) ∈ GW := gwm 647 (by decide +kernel) rfl
theorem gw_649 : (Jvm.Cond.instanceMethod ({ cls := "RunningCount$TextReader", name := "readEnd", desc := "()Z" } : Jvm.MethodName)) ∈ GW := gwm 649 (by decide +kernel) rfl
theorem gw_650 : (Jvm.Cond.code ({ cls := "RunningCount$TextReader", name := "readEnd", desc := "()Z" } : Jvm.MethodName) prog_9_method_11_code (1 : Nat) (Option.some Jvm.ClassFile.FieldType.boolean)) ∈ GW := gwm 650 (by decide +kernel) rfl
theorem gw_651 : (Jvm.Cond.methodLink "RunningCountLaw" (37 : Nat) ({ cls := "RunningCount", name := "fault", desc := "()I" } : Jvm.MethodName)) ∈ GW := gwm 651 (by decide +kernel) rfl
theorem gw_652 : (Jvm.Cond.instanceMethod ({ cls := "RunningCount", name := "fault", desc := "()I" } : Jvm.MethodName)) ∈ GW := gwm 652 (by decide +kernel) rfl
theorem gw_653 : (Jvm.Cond.selects "RunningCount" ({ cls := "RunningCount", name := "fault", desc := "()I" } : Jvm.MethodName) ({ cls := "RunningCount", name := "fault", desc := "()I" } : Jvm.MethodName)) ∈ GW := gwm 653 (by decide +kernel) rfl
theorem gw_654 : (Jvm.Cond.code ({ cls := "RunningCount", name := "fault", desc := "()I" } : Jvm.MethodName) prog_1_method_5_code (1 : Nat) (Option.some Jvm.ClassFile.FieldType.int)) ∈ GW := gwm 654 (by decide +kernel) rfl
theorem gw_655 : (Jvm.Cond.methodLink "RunningCountLaw" (41 : Nat) ({ cls := "RunningCount", name := "now", desc := "(I)I" } : Jvm.MethodName)) ∈ GW := gwm 655 (by decide +kernel) rfl
theorem gw_656 : (Jvm.Cond.instanceMethod ({ cls := "RunningCount", name := "now", desc := "(I)I" } : Jvm.MethodName)) ∈ GW := gwm 656 (by decide +kernel) rfl
theorem gw_657 : (Jvm.Cond.selects "RunningCount" ({ cls := "RunningCount", name := "now", desc := "(I)I" } : Jvm.MethodName) ({ cls := "RunningCount", name := "now", desc := "(I)I" } : Jvm.MethodName)) ∈ GW := gwm 657 (by decide +kernel) rfl
theorem gw_658 : (Jvm.Cond.code ({ cls := "RunningCount", name := "now", desc := "(I)I" } : Jvm.MethodName) prog_1_method_6_code (2 : Nat) (Option.some Jvm.ClassFile.FieldType.int)) ∈ GW := gwm 658 (by decide +kernel) rfl
theorem nw_659 : (Jvm.Cond.methodLinkNest "RunningCount" (99 : Nat) ({ cls := "RunningCount$CountList", name := "openCounts", desc := "()I" } : Jvm.MethodName) "RunningCount") ∈ NW := nwm 659 (by decide +kernel) rfl
theorem gw_661 : (Jvm.Cond.instanceMethod ({ cls := "RunningCount$CountList", name := "openCounts", desc := "()I" } : Jvm.MethodName)) ∈ GW := gwm 661 (by decide +kernel) rfl
theorem gw_662 : (Jvm.Cond.code ({ cls := "RunningCount$CountList", name := "openCounts", desc := "()I" } : Jvm.MethodName) prog_5_method_5_code (3 : Nat) (Option.some Jvm.ClassFile.FieldType.int)) ∈ GW := gwm 662 (by decide +kernel) rfl
theorem gw_663 : (Jvm.Cond.methodLink "RunningCountLaw" (46 : Nat) ({ cls := "RunningCount", name := "item", desc := "(II)I" } : Jvm.MethodName)) ∈ GW := gwm 663 (by decide +kernel) rfl
theorem gw_664 : (Jvm.Cond.instanceMethod ({ cls := "RunningCount", name := "item", desc := "(II)I" } : Jvm.MethodName)) ∈ GW := gwm 664 (by decide +kernel) rfl
theorem gw_665 : (Jvm.Cond.selects "RunningCount" ({ cls := "RunningCount", name := "item", desc := "(II)I" } : Jvm.MethodName) ({ cls := "RunningCount", name := "item", desc := "(II)I" } : Jvm.MethodName)) ∈ GW := gwm 665 (by decide +kernel) rfl
theorem gw_666 : (Jvm.Cond.code ({ cls := "RunningCount", name := "item", desc := "(II)I" } : Jvm.MethodName) prog_1_method_7_code (3 : Nat) (Option.some Jvm.ClassFile.FieldType.int)) ∈ GW := gwm 666 (by decide +kernel) rfl
theorem nw_667 : (Jvm.Cond.methodLinkNest "RunningCount" (103 : Nat) ({ cls := "RunningCount$Goods", name := "hasItem", desc := "(I)Z" } : Jvm.MethodName) "RunningCount") ∈ NW := nwm 667 (by decide +kernel) rfl
theorem gw_668 : (Jvm.Cond.methodLink "RunningCountLaw" (59 : Nat) ({ cls := "RunningCount", name := "book", desc := "(IIII)I" } : Jvm.MethodName)) ∈ GW := gwm 668 (by decide +kernel) rfl
theorem gw_669 : (Jvm.Cond.instanceMethod ({ cls := "RunningCount", name := "book", desc := "(IIII)I" } : Jvm.MethodName)) ∈ GW := gwm 669 (by decide +kernel) rfl
theorem gw_670 : (Jvm.Cond.selects "RunningCount" ({ cls := "RunningCount", name := "book", desc := "(IIII)I" } : Jvm.MethodName) ({ cls := "RunningCount", name := "book", desc := "(IIII)I" } : Jvm.MethodName)) ∈ GW := gwm 670 (by decide +kernel) rfl
theorem gw_671 : (Jvm.Cond.code ({ cls := "RunningCount", name := "book", desc := "(IIII)I" } : Jvm.MethodName) prog_1_method_9_code (5 : Nat) (Option.some Jvm.ClassFile.FieldType.int)) ∈ GW := gwm 671 (by decide +kernel) rfl
theorem nw_672 : (Jvm.Cond.methodLinkNest "RunningCount" (145 : Nat) ({ cls := "RunningCount$Goods", name := "hasCouple", desc := "(II)Z" } : Jvm.MethodName) "RunningCount") ∈ NW := nwm 672 (by decide +kernel) rfl
theorem gw_673 : (Jvm.Cond.methodLink "RunningCount" (149 : Nat) ({ cls := "RunningCount", name := "isInstant", desc := "(I)Z" } : Jvm.MethodName)) ∈ GW := gwm 673 (by decide +kernel) rfl
theorem gw_674 : (Jvm.Cond.static ({ cls := "RunningCount", name := "isInstant", desc := "(I)Z" } : Jvm.MethodName)) ∈ GW := gwm 674 (by decide +kernel) rfl
theorem gw_675 : (Jvm.Cond.code ({ cls := "RunningCount", name := "isInstant", desc := "(I)Z" } : Jvm.MethodName) prog_1_method_27_code (1 : Nat) (Option.some Jvm.ClassFile.FieldType.boolean)) ∈ GW := gwm 675 (by decide +kernel) rfl
theorem gw_676 : (Jvm.Cond.constant "RunningCount" (152 : Nat) (-100000000 : Int32)) ∈ GW := gwm 676 (by decide +kernel) rfl
theorem nw_677 : (Jvm.Cond.methodLinkNest "RunningCount" (153 : Nat) ({ cls := "RunningCount$Book", name := "readAt", desc := "(LRunningCount$Goods;LRunningCount$AdjustmentList;III)V" } : Jvm.MethodName) "RunningCount") ∈ NW := nwm 677 (by decide +kernel) rfl
theorem gw_679 : (Jvm.Cond.instanceMethod ({ cls := "RunningCount$Book", name := "readAt", desc := "(LRunningCount$Goods;LRunningCount$AdjustmentList;III)V" } : Jvm.MethodName)) ∈ GW := gwm 679 (by decide +kernel) rfl
theorem gw_680 : (Jvm.Cond.code ({ cls := "RunningCount$Book", name := "readAt", desc := "(LRunningCount$Goods;LRunningCount$AdjustmentList;III)V" } : Jvm.MethodName) prog_4_method_2_code (8 : Nat) (Option.none : Option Jvm.ClassFile.FieldType)) ∈ GW := gwm 680 (by decide +kernel) rfl
theorem nw_681 : (Jvm.Cond.methodLinkNest "RunningCount$Book" (15 : Nat) ({ cls := "RunningCount$Goods", name := "stockOf", desc := "(II)I" } : Jvm.MethodName) "RunningCount") ∈ NW := nwm 681 (by decide +kernel) rfl
theorem gw_683 : (Jvm.Cond.instanceMethod ({ cls := "RunningCount$Goods", name := "stockOf", desc := "(II)I" } : Jvm.MethodName)) ∈ GW := gwm 683 (by decide +kernel) rfl
theorem gw_684 : (Jvm.Cond.code ({ cls := "RunningCount$Goods", name := "stockOf", desc := "(II)I" } : Jvm.MethodName) prog_6_method_10_code (3 : Nat) (Option.some Jvm.ClassFile.FieldType.int)) ∈ GW := gwm 684 (by decide +kernel) rfl
theorem gw_685 : (Jvm.Cond.methodLink "RunningCount$Goods" (61 : Nat) ({ cls := "java/lang/Math", name := "max", desc := "(II)I" } : Jvm.MethodName)) ∈ GW := gwm 685 (by decide +kernel) rfl
theorem nw_686 : (Jvm.Cond.methodLinkNest "RunningCount$Book" (21 : Nat) ({ cls := "RunningCount$AdjustmentList", name := "sumUpTo", desc := "(III)I" } : Jvm.MethodName) "RunningCount") ∈ NW := nwm 686 (by decide +kernel) rfl
theorem gw_688 : (Jvm.Cond.instanceMethod ({ cls := "RunningCount$AdjustmentList", name := "sumUpTo", desc := "(III)I" } : Jvm.MethodName)) ∈ GW := gwm 688 (by decide +kernel) rfl
theorem gw_689 : (Jvm.Cond.code ({ cls := "RunningCount$AdjustmentList", name := "sumUpTo", desc := "(III)I" } : Jvm.MethodName) prog_3_method_5_code (6 : Nat) (Option.some Jvm.ClassFile.FieldType.int)) ∈ GW := gwm 689 (by decide +kernel) rfl
theorem gw_690 : (Jvm.Cond.methodLink "RunningCount$AdjustmentList" (28 : Nat) ({ cls := "RunningCount$AdjustmentList", name := "isAt", desc := "(III)Z" } : Jvm.MethodName)) ∈ GW := gwm 690 (by decide +kernel) rfl
theorem gw_692 : (Jvm.Cond.instanceMethod ({ cls := "RunningCount$AdjustmentList", name := "isAt", desc := "(III)Z" } : Jvm.MethodName)) ∈ GW := gwm 692 (by decide +kernel) rfl
theorem gw_693 : (Jvm.Cond.code ({ cls := "RunningCount$AdjustmentList", name := "isAt", desc := "(III)Z" } : Jvm.MethodName) prog_3_method_4_code (4 : Nat) (Option.some Jvm.ClassFile.FieldType.boolean)) ∈ GW := gwm 693 (by decide +kernel) rfl
theorem nw_694 : (Jvm.Cond.methodLinkNest "RunningCount$Book" (49 : Nat) ({ cls := "RunningCount", name := "legOf", desc := "(II)I" } : Jvm.MethodName) "RunningCount") ∈ NW := nwm 694 (by decide +kernel) rfl
theorem gw_695 : (Jvm.Cond.methodLink "RunningCount$Book" (52 : Nat) ({ cls := "RunningCount$Book", name := "readLeg", desc := "(LRunningCount$Goods;IIII)V" } : Jvm.MethodName)) ∈ GW := gwm 695 (by decide +kernel) rfl
theorem gw_697 : (Jvm.Cond.instanceMethod ({ cls := "RunningCount$Book", name := "readLeg", desc := "(LRunningCount$Goods;IIII)V" } : Jvm.MethodName)) ∈ GW := gwm 697 (by decide +kernel) rfl
theorem gw_698 : (Jvm.Cond.code ({ cls := "RunningCount$Book", name := "readLeg", desc := "(LRunningCount$Goods;IIII)V" } : Jvm.MethodName) prog_4_method_3_code (6 : Nat) (Option.none : Option Jvm.ClassFile.FieldType)) ∈ GW := gwm 698 (by decide +kernel) rfl
theorem nw_699 : (Jvm.Cond.methodLinkNest "RunningCount$Book" (59 : Nat) ({ cls := "RunningCount$Goods", name := "isOver", desc := "(II)Z" } : Jvm.MethodName) "RunningCount") ∈ NW := nwm 699 (by decide +kernel) rfl
theorem gw_701 : (Jvm.Cond.instanceMethod ({ cls := "RunningCount$Goods", name := "isOver", desc := "(II)Z" } : Jvm.MethodName)) ∈ GW := gwm 701 (by decide +kernel) rfl
theorem gw_702 : (Jvm.Cond.code ({ cls := "RunningCount$Goods", name := "isOver", desc := "(II)Z" } : Jvm.MethodName) prog_6_method_18_code (3 : Nat) (Option.some Jvm.ClassFile.FieldType.boolean)) ∈ GW := gwm 702 (by decide +kernel) rfl
theorem nw_703 : (Jvm.Cond.methodLinkNest "RunningCount$Book" (63 : Nat) ({ cls := "RunningCount$Goods", name := "isToCome", desc := "(II)Z" } : Jvm.MethodName) "RunningCount") ∈ NW := nwm 703 (by decide +kernel) rfl
theorem gw_705 : (Jvm.Cond.instanceMethod ({ cls := "RunningCount$Goods", name := "isToCome", desc := "(II)Z" } : Jvm.MethodName)) ∈ GW := gwm 705 (by decide +kernel) rfl
theorem gw_706 : (Jvm.Cond.code ({ cls := "RunningCount$Goods", name := "isToCome", desc := "(II)Z" } : Jvm.MethodName) prog_6_method_19_code (3 : Nat) (Option.some Jvm.ClassFile.FieldType.boolean)) ∈ GW := gwm 706 (by decide +kernel) rfl
theorem gw_707 : (Jvm.Cond.methodLink "RunningCount$Book" (66 : Nat) ({ cls := "RunningCount$Book", name := "addDoubt", desc := "(I)V" } : Jvm.MethodName)) ∈ GW := gwm 707 (by decide +kernel) rfl
theorem gw_709 : (Jvm.Cond.instanceMethod ({ cls := "RunningCount$Book", name := "addDoubt", desc := "(I)V" } : Jvm.MethodName)) ∈ GW := gwm 709 (by decide +kernel) rfl
theorem gw_710 : (Jvm.Cond.code ({ cls := "RunningCount$Book", name := "addDoubt", desc := "(I)V" } : Jvm.MethodName) prog_4_method_4_code (2 : Nat) (Option.none : Option Jvm.ClassFile.FieldType)) ∈ GW := gwm 710 (by decide +kernel) rfl
theorem gw_711 : (Jvm.Cond.methodLink "RunningCountLaw" (64 : Nat) ({ cls := "RunningCount", name := "transit", desc := "(III)I" } : Jvm.MethodName)) ∈ GW := gwm 711 (by decide +kernel) rfl
theorem gw_712 : (Jvm.Cond.instanceMethod ({ cls := "RunningCount", name := "transit", desc := "(III)I" } : Jvm.MethodName)) ∈ GW := gwm 712 (by decide +kernel) rfl
theorem gw_713 : (Jvm.Cond.selects "RunningCount" ({ cls := "RunningCount", name := "transit", desc := "(III)I" } : Jvm.MethodName) ({ cls := "RunningCount", name := "transit", desc := "(III)I" } : Jvm.MethodName)) ∈ GW := gwm 713 (by decide +kernel) rfl
theorem gw_714 : (Jvm.Cond.code ({ cls := "RunningCount", name := "transit", desc := "(III)I" } : Jvm.MethodName) prog_1_method_10_code (6 : Nat) (Option.some Jvm.ClassFile.FieldType.int)) ∈ GW := gwm 714 (by decide +kernel) rfl
theorem gw_715 : (Jvm.Cond.methodLink "RunningCount" (169 : Nat) ({ cls := "RunningCount", name := "isInTransit", desc := "(IIZ)Z" } : Jvm.MethodName)) ∈ GW := gwm 715 (by decide +kernel) rfl
theorem gw_717 : (Jvm.Cond.instanceMethod ({ cls := "RunningCount", name := "isInTransit", desc := "(IIZ)Z" } : Jvm.MethodName)) ∈ GW := gwm 717 (by decide +kernel) rfl
theorem gw_718 : (Jvm.Cond.code ({ cls := "RunningCount", name := "isInTransit", desc := "(IIZ)Z" } : Jvm.MethodName) prog_1_method_31_code (6 : Nat) (Option.some Jvm.ClassFile.FieldType.boolean)) ∈ GW := gwm 718 (by decide +kernel) rfl
theorem gw_719 : (Jvm.Cond.methodLink "RunningCount" (133 : Nat) ({ cls := "RunningCount", name := "legOf", desc := "(II)I" } : Jvm.MethodName)) ∈ GW := gwm 719 (by decide +kernel) rfl
theorem nw_720 : (Jvm.Cond.methodLinkNest "RunningCount" (247 : Nat) ({ cls := "RunningCount$Goods", name := "isThere", desc := "(I)Z" } : Jvm.MethodName) "RunningCount") ∈ NW := nwm 720 (by decide +kernel) rfl
theorem gw_722 : (Jvm.Cond.instanceMethod ({ cls := "RunningCount$Goods", name := "isThere", desc := "(I)Z" } : Jvm.MethodName)) ∈ GW := gwm 722 (by decide +kernel) rfl
theorem gw_723 : (Jvm.Cond.code ({ cls := "RunningCount$Goods", name := "isThere", desc := "(I)Z" } : Jvm.MethodName) prog_6_method_17_code (2 : Nat) (Option.some Jvm.ClassFile.FieldType.boolean)) ∈ GW := gwm 723 (by decide +kernel) rfl
theorem nw_724 : (Jvm.Cond.methodLinkNest "RunningCount" (327 : Nat) ({ cls := "RunningCount$Goods", name := "isOver", desc := "(II)Z" } : Jvm.MethodName) "RunningCount") ∈ NW := nwm 724 (by decide +kernel) rfl
theorem nw_725 : (Jvm.Cond.methodLinkNest "RunningCount" (330 : Nat) ({ cls := "RunningCount$Goods", name := "isToCome", desc := "(II)Z" } : Jvm.MethodName) "RunningCount") ∈ NW := nwm 725 (by decide +kernel) rfl
theorem gw_726 : (Jvm.Cond.methodLink "RunningCountLaw" (69 : Nat) ({ cls := "RunningCount", name := "below", desc := "(II)I" } : Jvm.MethodName)) ∈ GW := gwm 726 (by decide +kernel) rfl
theorem gw_727 : (Jvm.Cond.instanceMethod ({ cls := "RunningCount", name := "below", desc := "(II)I" } : Jvm.MethodName)) ∈ GW := gwm 727 (by decide +kernel) rfl
theorem gw_728 : (Jvm.Cond.selects "RunningCount" ({ cls := "RunningCount", name := "below", desc := "(II)I" } : Jvm.MethodName) ({ cls := "RunningCount", name := "below", desc := "(II)I" } : Jvm.MethodName)) ∈ GW := gwm 728 (by decide +kernel) rfl
theorem gw_729 : (Jvm.Cond.code ({ cls := "RunningCount", name := "below", desc := "(II)I" } : Jvm.MethodName) prog_1_method_11_code (6 : Nat) (Option.some Jvm.ClassFile.FieldType.int)) ∈ GW := gwm 729 (by decide +kernel) rfl
theorem gw_730 : (Jvm.Cond.methodLink "RunningCount" (173 : Nat) ({ cls := "RunningCount", name := "isBelow", desc := "(III)Z" } : Jvm.MethodName)) ∈ GW := gwm 730 (by decide +kernel) rfl
theorem gw_732 : (Jvm.Cond.instanceMethod ({ cls := "RunningCount", name := "isBelow", desc := "(III)Z" } : Jvm.MethodName)) ∈ GW := gwm 732 (by decide +kernel) rfl
theorem gw_733 : (Jvm.Cond.code ({ cls := "RunningCount", name := "isBelow", desc := "(III)Z" } : Jvm.MethodName) prog_1_method_32_code (4 : Nat) (Option.some Jvm.ClassFile.FieldType.boolean)) ∈ GW := gwm 733 (by decide +kernel) rfl
theorem nw_734 : (Jvm.Cond.methodLinkNest "RunningCount" (177 : Nat) ({ cls := "RunningCount$AdjustmentList", name := "isAt", desc := "(III)Z" } : Jvm.MethodName) "RunningCount") ∈ NW := nwm 734 (by decide +kernel) rfl
theorem gw_735 : (Jvm.Cond.methodLink "RunningCountLaw" (76 : Nat) ({ cls := "RunningCount", name := "difference", desc := "(I)I" } : Jvm.MethodName)) ∈ GW := gwm 735 (by decide +kernel) rfl
theorem gw_736 : (Jvm.Cond.instanceMethod ({ cls := "RunningCount", name := "difference", desc := "(I)I" } : Jvm.MethodName)) ∈ GW := gwm 736 (by decide +kernel) rfl
theorem gw_737 : (Jvm.Cond.selects "RunningCount" ({ cls := "RunningCount", name := "difference", desc := "(I)I" } : Jvm.MethodName) ({ cls := "RunningCount", name := "difference", desc := "(I)I" } : Jvm.MethodName)) ∈ GW := gwm 737 (by decide +kernel) rfl
theorem gw_738 : (Jvm.Cond.code ({ cls := "RunningCount", name := "difference", desc := "(I)I" } : Jvm.MethodName) prog_1_method_13_code (2 : Nat) (Option.some Jvm.ClassFile.FieldType.int)) ∈ GW := gwm 738 (by decide +kernel) rfl
theorem nw_739 : (Jvm.Cond.methodLinkNest "RunningCount" (183 : Nat) ({ cls := "RunningCount$CountList", name := "has", desc := "(I)Z" } : Jvm.MethodName) "RunningCount") ∈ NW := nwm 739 (by decide +kernel) rfl
theorem gw_741 : (Jvm.Cond.instanceMethod ({ cls := "RunningCount$CountList", name := "has", desc := "(I)Z" } : Jvm.MethodName)) ∈ GW := gwm 741 (by decide +kernel) rfl
theorem gw_742 : (Jvm.Cond.code ({ cls := "RunningCount$CountList", name := "has", desc := "(I)Z" } : Jvm.MethodName) prog_5_method_2_code (2 : Nat) (Option.some Jvm.ClassFile.FieldType.boolean)) ∈ GW := gwm 742 (by decide +kernel) rfl
theorem gw_743 : (Jvm.Cond.methodLink "RunningCount" (211 : Nat) ({ cls := "RunningCount", name := "differenceOf", desc := "(I)I" } : Jvm.MethodName)) ∈ GW := gwm 743 (by decide +kernel) rfl
theorem gw_745 : (Jvm.Cond.instanceMethod ({ cls := "RunningCount", name := "differenceOf", desc := "(I)I" } : Jvm.MethodName)) ∈ GW := gwm 745 (by decide +kernel) rfl
theorem gw_746 : (Jvm.Cond.code ({ cls := "RunningCount", name := "differenceOf", desc := "(I)I" } : Jvm.MethodName) prog_1_method_34_code (3 : Nat) (Option.some Jvm.ClassFile.FieldType.int)) ∈ GW := gwm 746 (by decide +kernel) rfl
theorem gw_747 : (Jvm.Cond.methodLink "RunningCount" (218 : Nat) ({ cls := "RunningCount", name := "turnTo", desc := "(I)V" } : Jvm.MethodName)) ∈ GW := gwm 747 (by decide +kernel) rfl
theorem gw_749 : (Jvm.Cond.instanceMethod ({ cls := "RunningCount", name := "turnTo", desc := "(I)V" } : Jvm.MethodName)) ∈ GW := gwm 749 (by decide +kernel) rfl
theorem gw_750 : (Jvm.Cond.code ({ cls := "RunningCount", name := "turnTo", desc := "(I)V" } : Jvm.MethodName) prog_1_method_33_code (2 : Nat) (Option.none : Option Jvm.ClassFile.FieldType)) ∈ GW := gwm 750 (by decide +kernel) rfl
theorem gw_751 : (Jvm.Cond.methodLink "RunningCountLaw" (80 : Nat) ({ cls := "RunningCount", name := "share", desc := "(I)I" } : Jvm.MethodName)) ∈ GW := gwm 751 (by decide +kernel) rfl
theorem gw_752 : (Jvm.Cond.instanceMethod ({ cls := "RunningCount", name := "share", desc := "(I)I" } : Jvm.MethodName)) ∈ GW := gwm 752 (by decide +kernel) rfl
theorem gw_753 : (Jvm.Cond.selects "RunningCount" ({ cls := "RunningCount", name := "share", desc := "(I)I" } : Jvm.MethodName) ({ cls := "RunningCount", name := "share", desc := "(I)I" } : Jvm.MethodName)) ∈ GW := gwm 753 (by decide +kernel) rfl
theorem gw_754 : (Jvm.Cond.code ({ cls := "RunningCount", name := "share", desc := "(I)I" } : Jvm.MethodName) prog_1_method_14_code (3 : Nat) (Option.some Jvm.ClassFile.FieldType.int)) ∈ GW := gwm 754 (by decide +kernel) rfl
theorem gw_755 : (Jvm.Cond.constantFloat "RunningCount" (214 : Nat) (1148846080 : UInt32)) ∈ GW := gwm 755 (by decide +kernel) rfl
theorem gw_756 : (Jvm.Cond.methodLink "RunningCountLaw" (84 : Nat) ({ cls := "RunningCount", name := "chosen", desc := "(II)I" } : Jvm.MethodName)) ∈ GW := gwm 756 (by decide +kernel) rfl
theorem gw_757 : (Jvm.Cond.instanceMethod ({ cls := "RunningCount", name := "chosen", desc := "(II)I" } : Jvm.MethodName)) ∈ GW := gwm 757 (by decide +kernel) rfl
theorem gw_758 : (Jvm.Cond.selects "RunningCount" ({ cls := "RunningCount", name := "chosen", desc := "(II)I" } : Jvm.MethodName) ({ cls := "RunningCount", name := "chosen", desc := "(II)I" } : Jvm.MethodName)) ∈ GW := gwm 758 (by decide +kernel) rfl
theorem gw_759 : (Jvm.Cond.code ({ cls := "RunningCount", name := "chosen", desc := "(II)I" } : Jvm.MethodName) prog_1_method_15_code (3 : Nat) (Option.some Jvm.ClassFile.FieldType.int)) ∈ GW := gwm 759 (by decide +kernel) rfl
theorem gw_760 : (Jvm.Cond.methodLink "RunningCount" (215 : Nat) ({ cls := "RunningCount", name := "chosenOf", desc := "(II)I" } : Jvm.MethodName)) ∈ GW := gwm 760 (by decide +kernel) rfl
theorem gw_762 : (Jvm.Cond.instanceMethod ({ cls := "RunningCount", name := "chosenOf", desc := "(II)I" } : Jvm.MethodName)) ∈ GW := gwm 762 (by decide +kernel) rfl
theorem gw_763 : (Jvm.Cond.code ({ cls := "RunningCount", name := "chosenOf", desc := "(II)I" } : Jvm.MethodName) prog_1_method_36_code (10 : Nat) (Option.some Jvm.ClassFile.FieldType.int)) ∈ GW := gwm 763 (by decide +kernel) rfl
theorem nw_764 : (Jvm.Cond.methodLinkNest "RunningCount" (338 : Nat) ({ cls := "RunningCount$CountList", name := "openFirst", desc := "(II)I" } : Jvm.MethodName) "RunningCount") ∈ NW := nwm 764 (by decide +kernel) rfl
theorem gw_766 : (Jvm.Cond.instanceMethod ({ cls := "RunningCount$CountList", name := "openFirst", desc := "(II)I" } : Jvm.MethodName)) ∈ GW := gwm 766 (by decide +kernel) rfl
theorem gw_767 : (Jvm.Cond.code ({ cls := "RunningCount$CountList", name := "openFirst", desc := "(II)I" } : Jvm.MethodName) prog_5_method_8_code (5 : Nat) (Option.some Jvm.ClassFile.FieldType.int)) ∈ GW := gwm 767 (by decide +kernel) rfl
theorem gw_768 : (Jvm.Cond.methodLink "RunningCount$CountList" (39 : Nat) ({ cls := "RunningCount$CountList", name := "isOpenAt", desc := "(III)Z" } : Jvm.MethodName)) ∈ GW := gwm 768 (by decide +kernel) rfl
theorem gw_770 : (Jvm.Cond.instanceMethod ({ cls := "RunningCount$CountList", name := "isOpenAt", desc := "(III)Z" } : Jvm.MethodName)) ∈ GW := gwm 770 (by decide +kernel) rfl
theorem gw_771 : (Jvm.Cond.code ({ cls := "RunningCount$CountList", name := "isOpenAt", desc := "(III)Z" } : Jvm.MethodName) prog_5_method_4_code (4 : Nat) (Option.some Jvm.ClassFile.FieldType.boolean)) ∈ GW := gwm 771 (by decide +kernel) rfl
theorem gw_772 : (Jvm.Cond.methodLink "RunningCount$CountList" (35 : Nat) ({ cls := "RunningCount$CountList", name := "isAt", desc := "(III)Z" } : Jvm.MethodName)) ∈ GW := gwm 772 (by decide +kernel) rfl
theorem gw_774 : (Jvm.Cond.instanceMethod ({ cls := "RunningCount$CountList", name := "isAt", desc := "(III)Z" } : Jvm.MethodName)) ∈ GW := gwm 774 (by decide +kernel) rfl
theorem gw_775 : (Jvm.Cond.code ({ cls := "RunningCount$CountList", name := "isAt", desc := "(III)Z" } : Jvm.MethodName) prog_5_method_3_code (4 : Nat) (Option.some Jvm.ClassFile.FieldType.boolean)) ∈ GW := gwm 775 (by decide +kernel) rfl
theorem gw_776 : (Jvm.Cond.methodLink "RunningCount" (341 : Nat) ({ cls := "java/lang/Math", name := "abs", desc := "(I)I" } : Jvm.MethodName)) ∈ GW := gwm 776 (by decide +kernel) rfl
theorem gw_777 : (Jvm.Cond.static ({ cls := "java/lang/Math", name := "abs", desc := "(I)I" } : Jvm.MethodName)) ∈ GW := gwm 777 (by decide +kernel) rfl
theorem gw_778 : (Jvm.Cond.code ({ cls := "java/lang/Math", name := "abs", desc := "(I)I" } : Jvm.MethodName) prog_16_method_59_code (1 : Nat) (Option.some Jvm.ClassFile.FieldType.int)) ∈ GW := gwm 778 (by decide +kernel) rfl
theorem gw_779 : (Jvm.Cond.methodLink "RunningCount" (205 : Nat) ({ cls := "RunningCount", name := "allowedFor", desc := "(I)I" } : Jvm.MethodName)) ∈ GW := gwm 779 (by decide +kernel) rfl
theorem gw_781 : (Jvm.Cond.instanceMethod ({ cls := "RunningCount", name := "allowedFor", desc := "(I)I" } : Jvm.MethodName)) ∈ GW := gwm 781 (by decide +kernel) rfl
theorem gw_782 : (Jvm.Cond.code ({ cls := "RunningCount", name := "allowedFor", desc := "(I)I" } : Jvm.MethodName) prog_1_method_35_code (4 : Nat) (Option.some Jvm.ClassFile.FieldType.int)) ∈ GW := gwm 782 (by decide +kernel) rfl
theorem gw_783 : (Jvm.Cond.methodLink "RunningCount" (333 : Nat) ({ cls := "java/lang/Math", name := "max", desc := "(II)I" } : Jvm.MethodName)) ∈ GW := gwm 783 (by decide +kernel) rfl
theorem nw_784 : (Jvm.Cond.methodLinkNest "RunningCount" (267 : Nat) ({ cls := "RunningCount$CountList", name := "openAhead", desc := "(III)I" } : Jvm.MethodName) "RunningCount") ∈ NW := nwm 784 (by decide +kernel) rfl
theorem gw_786 : (Jvm.Cond.instanceMethod ({ cls := "RunningCount$CountList", name := "openAhead", desc := "(III)I" } : Jvm.MethodName)) ∈ GW := gwm 786 (by decide +kernel) rfl
theorem gw_787 : (Jvm.Cond.code ({ cls := "RunningCount$CountList", name := "openAhead", desc := "(III)I" } : Jvm.MethodName) prog_5_method_9_code (6 : Nat) (Option.some Jvm.ClassFile.FieldType.int)) ∈ GW := gwm 787 (by decide +kernel) rfl
theorem gw_788 : (Jvm.Cond.methodLink "RunningCount" (344 : Nat) ({ cls := "RunningCount", name := "middleOf", desc := "(III)I" } : Jvm.MethodName)) ∈ GW := gwm 788 (by decide +kernel) rfl
theorem gw_789 : (Jvm.Cond.static ({ cls := "RunningCount", name := "middleOf", desc := "(III)I" } : Jvm.MethodName)) ∈ GW := gwm 789 (by decide +kernel) rfl
theorem gw_790 : (Jvm.Cond.code ({ cls := "RunningCount", name := "middleOf", desc := "(III)I" } : Jvm.MethodName) prog_1_method_37_code (3 : Nat) (Option.some Jvm.ClassFile.FieldType.int)) ∈ GW := gwm 790 (by decide +kernel) rfl
theorem gw_791 : (Jvm.Cond.methodLink "RunningCount" (347 : Nat) ({ cls := "java/lang/Math", name := "min", desc := "(II)I" } : Jvm.MethodName)) ∈ GW := gwm 791 (by decide +kernel) rfl
theorem gw_792 : (Jvm.Cond.methodLink "RunningCountLaw" (88 : Nat) ({ cls := "RunningCount", name := "due", desc := "()I" } : Jvm.MethodName)) ∈ GW := gwm 792 (by decide +kernel) rfl
theorem gw_793 : (Jvm.Cond.instanceMethod ({ cls := "RunningCount", name := "due", desc := "()I" } : Jvm.MethodName)) ∈ GW := gwm 793 (by decide +kernel) rfl
theorem gw_794 : (Jvm.Cond.selects "RunningCount" ({ cls := "RunningCount", name := "due", desc := "()I" } : Jvm.MethodName) ({ cls := "RunningCount", name := "due", desc := "()I" } : Jvm.MethodName)) ∈ GW := gwm 794 (by decide +kernel) rfl
theorem gw_795 : (Jvm.Cond.code ({ cls := "RunningCount", name := "due", desc := "()I" } : Jvm.MethodName) prog_1_method_16_code (4 : Nat) (Option.some Jvm.ClassFile.FieldType.int)) ∈ GW := gwm 795 (by decide +kernel) rfl
theorem gw_796 : (Jvm.Cond.methodLink "RunningCountLaw" (92 : Nat) ({ cls := "RunningCount", name := "explained", desc := "(II)I" } : Jvm.MethodName)) ∈ GW := gwm 796 (by decide +kernel) rfl
theorem gw_797 : (Jvm.Cond.instanceMethod ({ cls := "RunningCount", name := "explained", desc := "(II)I" } : Jvm.MethodName)) ∈ GW := gwm 797 (by decide +kernel) rfl
theorem gw_798 : (Jvm.Cond.selects "RunningCount" ({ cls := "RunningCount", name := "explained", desc := "(II)I" } : Jvm.MethodName) ({ cls := "RunningCount", name := "explained", desc := "(II)I" } : Jvm.MethodName)) ∈ GW := gwm 798 (by decide +kernel) rfl
theorem gw_799 : (Jvm.Cond.code ({ cls := "RunningCount", name := "explained", desc := "(II)I" } : Jvm.MethodName) prog_1_method_17_code (5 : Nat) (Option.some Jvm.ClassFile.FieldType.int)) ∈ GW := gwm 799 (by decide +kernel) rfl
theorem nw_800 : (Jvm.Cond.methodLinkNest "RunningCount" (221 : Nat) ({ cls := "RunningCount$Book", name := "sureWith", desc := "(I)I" } : Jvm.MethodName) "RunningCount") ∈ NW := nwm 800 (by decide +kernel) rfl
theorem gw_802 : (Jvm.Cond.instanceMethod ({ cls := "RunningCount$Book", name := "sureWith", desc := "(I)I" } : Jvm.MethodName)) ∈ GW := gwm 802 (by decide +kernel) rfl
theorem gw_803 : (Jvm.Cond.code ({ cls := "RunningCount$Book", name := "sureWith", desc := "(I)I" } : Jvm.MethodName) prog_4_method_5_code (4 : Nat) (Option.some Jvm.ClassFile.FieldType.int)) ∈ GW := gwm 803 (by decide +kernel) rfl
theorem gw_804 : (Jvm.Cond.methodLink "RunningCountLaw" (96 : Nat) ({ cls := "RunningCount", name := "adjusted", desc := "(II)I" } : Jvm.MethodName)) ∈ GW := gwm 804 (by decide +kernel) rfl
theorem gw_805 : (Jvm.Cond.instanceMethod ({ cls := "RunningCount", name := "adjusted", desc := "(II)I" } : Jvm.MethodName)) ∈ GW := gwm 805 (by decide +kernel) rfl
theorem gw_806 : (Jvm.Cond.selects "RunningCount" ({ cls := "RunningCount", name := "adjusted", desc := "(II)I" } : Jvm.MethodName) ({ cls := "RunningCount", name := "adjusted", desc := "(II)I" } : Jvm.MethodName)) ∈ GW := gwm 806 (by decide +kernel) rfl
theorem gw_807 : (Jvm.Cond.code ({ cls := "RunningCount", name := "adjusted", desc := "(II)I" } : Jvm.MethodName) prog_1_method_18_code (3 : Nat) (Option.some Jvm.ClassFile.FieldType.int)) ∈ GW := gwm 807 (by decide +kernel) rfl
theorem gw_808 : (Jvm.Cond.methodLink "RunningCountLaw" (100 : Nat) ({ cls := "RunningCount", name := "moves", desc := "(II)I" } : Jvm.MethodName)) ∈ GW := gwm 808 (by decide +kernel) rfl
theorem gw_809 : (Jvm.Cond.instanceMethod ({ cls := "RunningCount", name := "moves", desc := "(II)I" } : Jvm.MethodName)) ∈ GW := gwm 809 (by decide +kernel) rfl
theorem gw_810 : (Jvm.Cond.selects "RunningCount" ({ cls := "RunningCount", name := "moves", desc := "(II)I" } : Jvm.MethodName) ({ cls := "RunningCount", name := "moves", desc := "(II)I" } : Jvm.MethodName)) ∈ GW := gwm 810 (by decide +kernel) rfl
theorem gw_811 : (Jvm.Cond.code ({ cls := "RunningCount", name := "moves", desc := "(II)I" } : Jvm.MethodName) prog_1_method_19_code (4 : Nat) (Option.some Jvm.ClassFile.FieldType.int)) ∈ GW := gwm 811 (by decide +kernel) rfl
theorem nw_812 : (Jvm.Cond.methodLinkNest "RunningCount" (229 : Nat) ({ cls := "RunningCount$Goods", name := "addMove", desc := "(II)I" } : Jvm.MethodName) "RunningCount") ∈ NW := nwm 812 (by decide +kernel) rfl
theorem nw_813 : (Jvm.Cond.methodLinkNest "RunningCount" (234 : Nat) ({ cls := "RunningCount$Journal", name := "begin", desc := "(II)LRunningCount$Act;" } : Jvm.MethodName) "RunningCount") ∈ NW := nwm 813 (by decide +kernel) rfl
theorem gw_815 : (Jvm.Cond.instanceMethod ({ cls := "RunningCount$Journal", name := "begin", desc := "(II)LRunningCount$Act;" } : Jvm.MethodName)) ∈ GW := gwm 815 (by decide +kernel) rfl
theorem gw_816 : (Jvm.Cond.code ({ cls := "RunningCount$Journal", name := "begin", desc := "(II)LRunningCount$Act;" } : Jvm.MethodName) prog_7_method_2_code (4 : Nat) (Option.some (Jvm.ClassFile.FieldType.object "RunningCount$Act"))) ∈ GW := gwm 816 (by decide +kernel) rfl
theorem gw_817 : (Jvm.Cond.methodLink "RunningCount$Journal" (31 : Nat) ({ cls := "java/lang/Math", name := "min", desc := "(II)I" } : Jvm.MethodName)) ∈ GW := gwm 817 (by decide +kernel) rfl
theorem gw_818 : (Jvm.Cond.methodLink "RunningCountLaw" (104 : Nat) ({ cls := "RunningCount", name := "leg", desc := "(IIIII)Z" } : Jvm.MethodName)) ∈ GW := gwm 818 (by decide +kernel) rfl
theorem gw_819 : (Jvm.Cond.instanceMethod ({ cls := "RunningCount", name := "leg", desc := "(IIIII)Z" } : Jvm.MethodName)) ∈ GW := gwm 819 (by decide +kernel) rfl
theorem gw_820 : (Jvm.Cond.selects "RunningCount" ({ cls := "RunningCount", name := "leg", desc := "(IIIII)Z" } : Jvm.MethodName) ({ cls := "RunningCount", name := "leg", desc := "(IIIII)Z" } : Jvm.MethodName)) ∈ GW := gwm 820 (by decide +kernel) rfl
theorem gw_821 : (Jvm.Cond.code ({ cls := "RunningCount", name := "leg", desc := "(IIIII)Z" } : Jvm.MethodName) prog_1_method_20_code (6 : Nat) (Option.some Jvm.ClassFile.FieldType.boolean)) ∈ GW := gwm 821 (by decide +kernel) rfl
theorem nw_822 : (Jvm.Cond.methodLinkNest "RunningCount" (114 : Nat) ({ cls := "RunningCount$Goods", name := "hasMove", desc := "(I)Z" } : Jvm.MethodName) "RunningCount") ∈ NW := nwm 822 (by decide +kernel) rfl
theorem gw_824 : (Jvm.Cond.instanceMethod ({ cls := "RunningCount$Goods", name := "hasMove", desc := "(I)Z" } : Jvm.MethodName)) ∈ GW := gwm 824 (by decide +kernel) rfl
theorem gw_825 : (Jvm.Cond.code ({ cls := "RunningCount$Goods", name := "hasMove", desc := "(I)Z" } : Jvm.MethodName) prog_6_method_6_code (2 : Nat) (Option.some Jvm.ClassFile.FieldType.boolean)) ∈ GW := gwm 825 (by decide +kernel) rfl
theorem gw_826 : (Jvm.Cond.methodLink "RunningCount" (238 : Nat) ({ cls := "RunningCount", name := "isLeg", desc := "(I)Z" } : Jvm.MethodName)) ∈ GW := gwm 826 (by decide +kernel) rfl
theorem gw_827 : (Jvm.Cond.static ({ cls := "RunningCount", name := "isLeg", desc := "(I)Z" } : Jvm.MethodName)) ∈ GW := gwm 827 (by decide +kernel) rfl
theorem gw_828 : (Jvm.Cond.code ({ cls := "RunningCount", name := "isLeg", desc := "(I)Z" } : Jvm.MethodName) prog_1_method_29_code (1 : Nat) (Option.some Jvm.ClassFile.FieldType.boolean)) ∈ GW := gwm 828 (by decide +kernel) rfl
theorem nw_829 : (Jvm.Cond.methodLinkNest "RunningCount" (241 : Nat) ({ cls := "RunningCount$Goods", name := "hasShelf", desc := "(I)Z" } : Jvm.MethodName) "RunningCount") ∈ NW := nwm 829 (by decide +kernel) rfl
theorem gw_830 : (Jvm.Cond.methodLink "RunningCount" (244 : Nat) ({ cls := "RunningCount", name := "isSpan", desc := "(II)Z" } : Jvm.MethodName)) ∈ GW := gwm 830 (by decide +kernel) rfl
theorem gw_831 : (Jvm.Cond.static ({ cls := "RunningCount", name := "isSpan", desc := "(II)Z" } : Jvm.MethodName)) ∈ GW := gwm 831 (by decide +kernel) rfl
theorem gw_832 : (Jvm.Cond.code ({ cls := "RunningCount", name := "isSpan", desc := "(II)Z" } : Jvm.MethodName) prog_1_method_28_code (2 : Nat) (Option.some Jvm.ClassFile.FieldType.boolean)) ∈ GW := gwm 832 (by decide +kernel) rfl
theorem nw_833 : (Jvm.Cond.methodLinkNest "RunningCount" (250 : Nat) ({ cls := "RunningCount$Goods", name := "setLeg", desc := "(IIII)V" } : Jvm.MethodName) "RunningCount") ∈ NW := nwm 833 (by decide +kernel) rfl
theorem gw_834 : (Jvm.Cond.methodLink "RunningCountLaw" (109 : Nat) ({ cls := "RunningCount", name := "narrow", desc := "(IIII)I" } : Jvm.MethodName)) ∈ GW := gwm 834 (by decide +kernel) rfl
theorem gw_835 : (Jvm.Cond.instanceMethod ({ cls := "RunningCount", name := "narrow", desc := "(IIII)I" } : Jvm.MethodName)) ∈ GW := gwm 835 (by decide +kernel) rfl
theorem gw_836 : (Jvm.Cond.selects "RunningCount" ({ cls := "RunningCount", name := "narrow", desc := "(IIII)I" } : Jvm.MethodName) ({ cls := "RunningCount", name := "narrow", desc := "(IIII)I" } : Jvm.MethodName)) ∈ GW := gwm 836 (by decide +kernel) rfl
theorem gw_837 : (Jvm.Cond.code ({ cls := "RunningCount", name := "narrow", desc := "(IIII)I" } : Jvm.MethodName) prog_1_method_21_code (9 : Nat) (Option.some Jvm.ClassFile.FieldType.int)) ∈ GW := gwm 837 (by decide +kernel) rfl
theorem nw_838 : (Jvm.Cond.methodLinkNest "RunningCount" (260 : Nat) ({ cls := "RunningCount$Goods", name := "setSpan", desc := "(III)V" } : Jvm.MethodName) "RunningCount") ∈ NW := nwm 838 (by decide +kernel) rfl
theorem gw_840 : (Jvm.Cond.instanceMethod ({ cls := "RunningCount$Goods", name := "setSpan", desc := "(III)V" } : Jvm.MethodName)) ∈ GW := gwm 840 (by decide +kernel) rfl
theorem gw_841 : (Jvm.Cond.code ({ cls := "RunningCount$Goods", name := "setSpan", desc := "(III)V" } : Jvm.MethodName) prog_6_method_16_code (4 : Nat) (Option.none : Option Jvm.ClassFile.FieldType)) ∈ GW := gwm 841 (by decide +kernel) rfl
theorem gw_842 : (Jvm.Cond.methodLink "RunningCountLaw" (113 : Nat) ({ cls := "RunningCount", name := "counts", desc := "(IIIII)I" } : Jvm.MethodName)) ∈ GW := gwm 842 (by decide +kernel) rfl
theorem gw_843 : (Jvm.Cond.instanceMethod ({ cls := "RunningCount", name := "counts", desc := "(IIIII)I" } : Jvm.MethodName)) ∈ GW := gwm 843 (by decide +kernel) rfl
theorem gw_844 : (Jvm.Cond.selects "RunningCount" ({ cls := "RunningCount", name := "counts", desc := "(IIIII)I" } : Jvm.MethodName) ({ cls := "RunningCount", name := "counts", desc := "(IIIII)I" } : Jvm.MethodName)) ∈ GW := gwm 844 (by decide +kernel) rfl
theorem gw_845 : (Jvm.Cond.code ({ cls := "RunningCount", name := "counts", desc := "(IIIII)I" } : Jvm.MethodName) prog_1_method_22_code (8 : Nat) (Option.some Jvm.ClassFile.FieldType.int)) ∈ GW := gwm 845 (by decide +kernel) rfl
theorem nw_846 : (Jvm.Cond.methodLinkNest "RunningCount" (264 : Nat) ({ cls := "RunningCount$CountList", name := "isCountedAt", desc := "(III)Z" } : Jvm.MethodName) "RunningCount") ∈ NW := nwm 846 (by decide +kernel) rfl
theorem gw_848 : (Jvm.Cond.instanceMethod ({ cls := "RunningCount$CountList", name := "isCountedAt", desc := "(III)Z" } : Jvm.MethodName)) ∈ GW := gwm 848 (by decide +kernel) rfl
theorem gw_849 : (Jvm.Cond.code ({ cls := "RunningCount$CountList", name := "isCountedAt", desc := "(III)Z" } : Jvm.MethodName) prog_5_method_6_code (5 : Nat) (Option.some Jvm.ClassFile.FieldType.boolean)) ∈ GW := gwm 849 (by decide +kernel) rfl
theorem nw_850 : (Jvm.Cond.methodLinkNest "RunningCount" (271 : Nat) ({ cls := "RunningCount$CountList", name := "isPostedBehind", desc := "(III)Z" } : Jvm.MethodName) "RunningCount") ∈ NW := nwm 850 (by decide +kernel) rfl
theorem gw_852 : (Jvm.Cond.instanceMethod ({ cls := "RunningCount$CountList", name := "isPostedBehind", desc := "(III)Z" } : Jvm.MethodName)) ∈ GW := gwm 852 (by decide +kernel) rfl
theorem gw_853 : (Jvm.Cond.code ({ cls := "RunningCount$CountList", name := "isPostedBehind", desc := "(III)Z" } : Jvm.MethodName) prog_5_method_7_code (5 : Nat) (Option.some Jvm.ClassFile.FieldType.boolean)) ∈ GW := gwm 853 (by decide +kernel) rfl
theorem nw_854 : (Jvm.Cond.methodLinkNest "RunningCount" (274 : Nat) ({ cls := "RunningCount$CountList", name := "insert", desc := "(IIIIII)V" } : Jvm.MethodName) "RunningCount") ∈ NW := nwm 854 (by decide +kernel) rfl
theorem gw_856 : (Jvm.Cond.instanceMethod ({ cls := "RunningCount$CountList", name := "insert", desc := "(IIIIII)V" } : Jvm.MethodName)) ∈ GW := gwm 856 (by decide +kernel) rfl
theorem gw_857 : (Jvm.Cond.code ({ cls := "RunningCount$CountList", name := "insert", desc := "(IIIIII)V" } : Jvm.MethodName) prog_5_method_12_code (8 : Nat) (Option.none : Option Jvm.ClassFile.FieldType)) ∈ GW := gwm 857 (by decide +kernel) rfl
theorem gw_858 : (Jvm.Cond.methodLink "RunningCount$CountList" (42 : Nat) ({ cls := "RunningCount$CountList", name := "copy", desc := "(II)V" } : Jvm.MethodName)) ∈ GW := gwm 858 (by decide +kernel) rfl
theorem gw_860 : (Jvm.Cond.instanceMethod ({ cls := "RunningCount$CountList", name := "copy", desc := "(II)V" } : Jvm.MethodName)) ∈ GW := gwm 860 (by decide +kernel) rfl
theorem gw_861 : (Jvm.Cond.code ({ cls := "RunningCount$CountList", name := "copy", desc := "(II)V" } : Jvm.MethodName) prog_5_method_14_code (3 : Nat) (Option.none : Option Jvm.ClassFile.FieldType)) ∈ GW := gwm 861 (by decide +kernel) rfl
theorem gw_862 : (Jvm.Cond.methodLink "RunningCountLaw" (117 : Nat) ({ cls := "RunningCount", name := "post", desc := "(II)I" } : Jvm.MethodName)) ∈ GW := gwm 862 (by decide +kernel) rfl
theorem gw_863 : (Jvm.Cond.instanceMethod ({ cls := "RunningCount", name := "post", desc := "(II)I" } : Jvm.MethodName)) ∈ GW := gwm 863 (by decide +kernel) rfl
theorem gw_864 : (Jvm.Cond.selects "RunningCount" ({ cls := "RunningCount", name := "post", desc := "(II)I" } : Jvm.MethodName) ({ cls := "RunningCount", name := "post", desc := "(II)I" } : Jvm.MethodName)) ∈ GW := gwm 864 (by decide +kernel) rfl
theorem gw_865 : (Jvm.Cond.code ({ cls := "RunningCount", name := "post", desc := "(II)I" } : Jvm.MethodName) prog_1_method_23_code (7 : Nat) (Option.some Jvm.ClassFile.FieldType.int)) ∈ GW := gwm 865 (by decide +kernel) rfl
theorem nw_866 : (Jvm.Cond.methodLinkNest "RunningCount" (278 : Nat) ({ cls := "RunningCount$AdjustmentList", name := "append", desc := "(IIII)V" } : Jvm.MethodName) "RunningCount") ∈ NW := nwm 866 (by decide +kernel) rfl
theorem gw_868 : (Jvm.Cond.instanceMethod ({ cls := "RunningCount$AdjustmentList", name := "append", desc := "(IIII)V" } : Jvm.MethodName)) ∈ GW := gwm 868 (by decide +kernel) rfl
theorem gw_869 : (Jvm.Cond.code ({ cls := "RunningCount$AdjustmentList", name := "append", desc := "(IIII)V" } : Jvm.MethodName) prog_3_method_2_code (5 : Nat) (Option.none : Option Jvm.ClassFile.FieldType)) ∈ GW := gwm 869 (by decide +kernel) rfl
theorem nw_870 : (Jvm.Cond.methodLinkNest "RunningCount" (280 : Nat) ({ cls := "RunningCount$CountList", name := "postUpTo", desc := "(III)J" } : Jvm.MethodName) "RunningCount") ∈ NW := nwm 870 (by decide +kernel) rfl
theorem gw_872 : (Jvm.Cond.instanceMethod ({ cls := "RunningCount$CountList", name := "postUpTo", desc := "(III)J" } : Jvm.MethodName)) ∈ GW := gwm 872 (by decide +kernel) rfl
theorem gw_873 : (Jvm.Cond.code ({ cls := "RunningCount$CountList", name := "postUpTo", desc := "(III)J" } : Jvm.MethodName) prog_5_method_10_code (7 : Nat) (Option.some Jvm.ClassFile.FieldType.long)) ∈ GW := gwm 873 (by decide +kernel) rfl
theorem gw_874 : (Jvm.Cond.methodLink "RunningCountLaw" (121 : Nat) ({ cls := "RunningCount", name := "drop", desc := "(I)Z" } : Jvm.MethodName)) ∈ GW := gwm 874 (by decide +kernel) rfl
theorem gw_875 : (Jvm.Cond.instanceMethod ({ cls := "RunningCount", name := "drop", desc := "(I)Z" } : Jvm.MethodName)) ∈ GW := gwm 875 (by decide +kernel) rfl
theorem gw_876 : (Jvm.Cond.selects "RunningCount" ({ cls := "RunningCount", name := "drop", desc := "(I)Z" } : Jvm.MethodName) ({ cls := "RunningCount", name := "drop", desc := "(I)Z" } : Jvm.MethodName)) ∈ GW := gwm 876 (by decide +kernel) rfl
theorem gw_877 : (Jvm.Cond.code ({ cls := "RunningCount", name := "drop", desc := "(I)Z" } : Jvm.MethodName) prog_1_method_24_code (3 : Nat) (Option.some Jvm.ClassFile.FieldType.boolean)) ∈ GW := gwm 877 (by decide +kernel) rfl
theorem nw_878 : (Jvm.Cond.methodLinkNest "RunningCount" (297 : Nat) ({ cls := "RunningCount$CountList", name := "remove", desc := "(I)V" } : Jvm.MethodName) "RunningCount") ∈ NW := nwm 878 (by decide +kernel) rfl
theorem gw_880 : (Jvm.Cond.instanceMethod ({ cls := "RunningCount$CountList", name := "remove", desc := "(I)V" } : Jvm.MethodName)) ∈ GW := gwm 880 (by decide +kernel) rfl
theorem gw_881 : (Jvm.Cond.code ({ cls := "RunningCount$CountList", name := "remove", desc := "(I)V" } : Jvm.MethodName) prog_5_method_13_code (3 : Nat) (Option.none : Option Jvm.ClassFile.FieldType)) ∈ GW := gwm 881 (by decide +kernel) rfl
theorem gw_882 : (Jvm.Cond.methodLink "RunningCount$CountList" (46 : Nat) ({ cls := "RunningCount$CountList", name := "has", desc := "(I)Z" } : Jvm.MethodName)) ∈ GW := gwm 882 (by decide +kernel) rfl
theorem gw_883 : (Jvm.Cond.methodLink "RunningCountLaw" (125 : Nat) ({ cls := "RunningCount", name := "undo", desc := "()I" } : Jvm.MethodName)) ∈ GW := gwm 883 (by decide +kernel) rfl
theorem gw_884 : (Jvm.Cond.instanceMethod ({ cls := "RunningCount", name := "undo", desc := "()I" } : Jvm.MethodName)) ∈ GW := gwm 884 (by decide +kernel) rfl
theorem gw_885 : (Jvm.Cond.selects "RunningCount" ({ cls := "RunningCount", name := "undo", desc := "()I" } : Jvm.MethodName) ({ cls := "RunningCount", name := "undo", desc := "()I" } : Jvm.MethodName)) ∈ GW := gwm 885 (by decide +kernel) rfl
theorem gw_886 : (Jvm.Cond.code ({ cls := "RunningCount", name := "undo", desc := "()I" } : Jvm.MethodName) prog_1_method_25_code (1 : Nat) (Option.some Jvm.ClassFile.FieldType.int)) ∈ GW := gwm 886 (by decide +kernel) rfl
theorem nw_887 : (Jvm.Cond.methodLinkNest "RunningCount" (300 : Nat) ({ cls := "RunningCount$Journal", name := "takeLatest", desc := "()LRunningCount$Act;" } : Jvm.MethodName) "RunningCount") ∈ NW := nwm 887 (by decide +kernel) rfl
theorem gw_889 : (Jvm.Cond.instanceMethod ({ cls := "RunningCount$Journal", name := "takeLatest", desc := "()LRunningCount$Act;" } : Jvm.MethodName)) ∈ GW := gwm 889 (by decide +kernel) rfl
theorem gw_890 : (Jvm.Cond.code ({ cls := "RunningCount$Journal", name := "takeLatest", desc := "()LRunningCount$Act;" } : Jvm.MethodName) prog_7_method_3_code (1 : Nat) (Option.some (Jvm.ClassFile.FieldType.object "RunningCount$Act"))) ∈ GW := gwm 890 (by decide +kernel) rfl
theorem gw_891 : (Jvm.Cond.methodLink "RunningCount$Journal" (37 : Nat) ({ cls := "java/lang/Math", name := "max", desc := "(II)I" } : Jvm.MethodName)) ∈ GW := gwm 891 (by decide +kernel) rfl
theorem gw_892 : (Jvm.Cond.methodLink "RunningCount" (304 : Nat) ({ cls := "RunningCount", name := "takeBack", desc := "(LRunningCount$Act;)V" } : Jvm.MethodName)) ∈ GW := gwm 892 (by decide +kernel) rfl
theorem gw_894 : (Jvm.Cond.instanceMethod ({ cls := "RunningCount", name := "takeBack", desc := "(LRunningCount$Act;)V" } : Jvm.MethodName)) ∈ GW := gwm 894 (by decide +kernel) rfl
theorem gw_895 : (Jvm.Cond.code ({ cls := "RunningCount", name := "takeBack", desc := "(LRunningCount$Act;)V" } : Jvm.MethodName) prog_1_method_26_code (2 : Nat) (Option.none : Option Jvm.ClassFile.FieldType)) ∈ GW := gwm 895 (by decide +kernel) rfl
theorem nw_896 : (Jvm.Cond.methodLinkNest "RunningCount" (311 : Nat) ({ cls := "RunningCount$Goods", name := "removeLastMove", desc := "()V" } : Jvm.MethodName) "RunningCount") ∈ NW := nwm 896 (by decide +kernel) rfl
theorem gw_898 : (Jvm.Cond.instanceMethod ({ cls := "RunningCount$Goods", name := "removeLastMove", desc := "()V" } : Jvm.MethodName)) ∈ GW := gwm 898 (by decide +kernel) rfl
theorem gw_899 : (Jvm.Cond.code ({ cls := "RunningCount$Goods", name := "removeLastMove", desc := "()V" } : Jvm.MethodName) prog_6_method_13_code (1 : Nat) (Option.none : Option Jvm.ClassFile.FieldType)) ∈ GW := gwm 899 (by decide +kernel) rfl
theorem nw_900 : (Jvm.Cond.methodLinkNest "RunningCount" (317 : Nat) ({ cls := "RunningCount$Goods", name := "removeLeg", desc := "(I)V" } : Jvm.MethodName) "RunningCount") ∈ NW := nwm 900 (by decide +kernel) rfl
theorem nw_901 : (Jvm.Cond.methodLinkNest "RunningCount" (320 : Nat) ({ cls := "RunningCount$AdjustmentList", name := "removeLast", desc := "()V" } : Jvm.MethodName) "RunningCount") ∈ NW := nwm 901 (by decide +kernel) rfl
theorem gw_903 : (Jvm.Cond.instanceMethod ({ cls := "RunningCount$AdjustmentList", name := "removeLast", desc := "()V" } : Jvm.MethodName)) ∈ GW := gwm 903 (by decide +kernel) rfl
theorem gw_904 : (Jvm.Cond.code ({ cls := "RunningCount$AdjustmentList", name := "removeLast", desc := "()V" } : Jvm.MethodName) prog_3_method_3_code (1 : Nat) (Option.none : Option Jvm.ClassFile.FieldType)) ∈ GW := gwm 904 (by decide +kernel) rfl
theorem nw_905 : (Jvm.Cond.methodLinkNest "RunningCount" (323 : Nat) ({ cls := "RunningCount$CountList", name := "reopen", desc := "(J)V" } : Jvm.MethodName) "RunningCount") ∈ NW := nwm 905 (by decide +kernel) rfl
theorem gw_907 : (Jvm.Cond.instanceMethod ({ cls := "RunningCount$CountList", name := "reopen", desc := "(J)V" } : Jvm.MethodName)) ∈ GW := gwm 907 (by decide +kernel) rfl
theorem gw_908 : (Jvm.Cond.code ({ cls := "RunningCount$CountList", name := "reopen", desc := "(J)V" } : Jvm.MethodName) prog_5_method_11_code (4 : Nat) (Option.none : Option Jvm.ClassFile.FieldType)) ∈ GW := gwm 908 (by decide +kernel) rfl
theorem gw_909 : (Jvm.Cond.methodLink "RunningCountLaw" (50 : Nat) ({ cls := "RunningCountLaw", name := "move", desc := "(LRunningCount;II[J)I" } : Jvm.MethodName)) ∈ GW := gwm 909 (by decide +kernel) rfl
theorem gw_910 : (Jvm.Cond.static ({ cls := "RunningCountLaw", name := "move", desc := "(LRunningCount;II[J)I" } : Jvm.MethodName)) ∈ GW := gwm 910 (by decide +kernel) rfl
theorem gw_911 : (Jvm.Cond.codeWith ({ cls := "RunningCountLaw", name := "move", desc := "(LRunningCount;II[J)I" } : Jvm.MethodName) method_3_code (5 : Nat) (Option.some Jvm.ClassFile.FieldType.int) [((0 : Nat), (10 : Nat), (13 : Nat), (13 : Nat))]) ∈ GW := gwm 911 (by decide +kernel) rfl
theorem gw_912 : (Jvm.Cond.classLink "RunningCountLaw" (13 : Nat) "java/util/NoSuchElementException") ∈ GW := gwm 912 (by decide +kernel) rfl
theorem gw_913 : (Jvm.Cond.methodLink "RunningCountLaw" (7 : Nat) ({ cls := "RunningCount", name := "move", desc := "(II)I" } : Jvm.MethodName)) ∈ GW := gwm 913 (by decide +kernel) rfl
theorem gw_914 : (Jvm.Cond.instanceMethod ({ cls := "RunningCount", name := "move", desc := "(II)I" } : Jvm.MethodName)) ∈ GW := gwm 914 (by decide +kernel) rfl
theorem gw_915 : (Jvm.Cond.selects "RunningCount" ({ cls := "RunningCount", name := "move", desc := "(II)I" } : Jvm.MethodName) ({ cls := "RunningCount", name := "move", desc := "(II)I" } : Jvm.MethodName)) ∈ GW := gwm 915 (by decide +kernel) rfl
theorem gw_916 : (Jvm.Cond.code ({ cls := "RunningCount", name := "move", desc := "(II)I" } : Jvm.MethodName) prog_1_method_8_code (3 : Nat) (Option.some Jvm.ClassFile.FieldType.int)) ∈ GW := gwm 916 (by decide +kernel) rfl
theorem gw_917 : (Jvm.Cond.classLink "RunningCount" (117 : Nat) "java/util/NoSuchElementException") ∈ GW := gwm 917 (by decide +kernel) rfl
theorem gw_918 : (Jvm.Cond.instantiable "java/util/NoSuchElementException" (6 : Nat)) ∈ GW := gwm 918 (by decide +kernel) rfl
theorem gw_926 : (Jvm.Cond.selects "java/util/NoSuchElementException" ({ cls := "java/lang/Throwable", name := "fillInStackTrace", desc := "(I)Ljava/lang/Throwable;" } : Jvm.MethodName) ({ cls := "java/lang/Throwable", name := "fillInStackTrace", desc := "(I)Ljava/lang/Throwable;" } : Jvm.MethodName)) ∈ GW := gwm 926 (by decide +kernel) rfl
theorem gw_927 : (Jvm.Cond.selects "java/util/NoSuchElementException" ({ cls := "java/lang/Throwable", name := "fillInStackTrace", desc := "()Ljava/lang/Throwable;" } : Jvm.MethodName) ({ cls := "java/lang/Throwable", name := "fillInStackTrace", desc := "()Ljava/lang/Throwable;" } : Jvm.MethodName)) ∈ GW := gwm 927 (by decide +kernel) rfl
theorem gw_928 : (Jvm.Cond.lays "java/util/NoSuchElementException" "java/lang/Throwable" "cause" "Ljava/lang/Throwable;") ∈ GW := gwm 928 (by decide +kernel) rfl
theorem gw_929 : (Jvm.Cond.lays "java/lang/Throwable" "java/lang/Throwable" "cause" "Ljava/lang/Throwable;") ∈ GW := gwm 929 (by decide +kernel) rfl
theorem gw_930 : (Jvm.Cond.lays "java/util/NoSuchElementException" "java/lang/Throwable" "stackTrace" "[Ljava/lang/StackTraceElement;") ∈ GW := gwm 930 (by decide +kernel) rfl
theorem gw_931 : (Jvm.Cond.lays "java/lang/Throwable" "java/lang/Throwable" "stackTrace" "[Ljava/lang/StackTraceElement;") ∈ GW := gwm 931 (by decide +kernel) rfl
theorem gw_932 : (Jvm.Cond.lays "java/util/NoSuchElementException" "java/lang/Throwable" "suppressedExceptions" "Ljava/util/List;") ∈ GW := gwm 932 (by decide +kernel) rfl
theorem gw_933 : (Jvm.Cond.lays "java/lang/Throwable" "java/lang/Throwable" "suppressedExceptions" "Ljava/util/List;") ∈ GW := gwm 933 (by decide +kernel) rfl
theorem gw_934 : (Jvm.Cond.lays "java/util/NoSuchElementException" "java/lang/Throwable" "detailMessage" "Ljava/lang/String;") ∈ GW := gwm 934 (by decide +kernel) rfl
theorem gw_935 : (Jvm.Cond.lays "java/lang/Throwable" "java/lang/Throwable" "detailMessage" "Ljava/lang/String;") ∈ GW := gwm 935 (by decide +kernel) rfl
theorem gw_936 : (Jvm.Cond.lays "java/util/NoSuchElementException" "java/lang/Throwable" "backtrace" "Ljava/lang/Object;") ∈ GW := gwm 936 (by decide +kernel) rfl
theorem gw_937 : (Jvm.Cond.lays "java/lang/Throwable" "java/lang/Throwable" "backtrace" "Ljava/lang/Object;") ∈ GW := gwm 937 (by decide +kernel) rfl
theorem gw_938 : (Jvm.Cond.fieldLink "java/lang/Throwable" (198 : Nat) "java/lang/Throwable" "backtrace" "Ljava/lang/Object;") ∈ GW := gwm 938 (by decide +kernel) rfl
theorem gw_940 : (Jvm.Cond.instanceMethod ({ cls := "java/lang/Throwable", name := "<init>", desc := "()V" } : Jvm.MethodName)) ∈ GW := gwm 940 (by decide +kernel) rfl
theorem gw_941 : (Jvm.Cond.code ({ cls := "java/lang/Throwable", name := "<init>", desc := "()V" } : Jvm.MethodName) prog_21_method_1_code (1 : Nat) (Option.none : Option Jvm.ClassFile.FieldType)) ∈ GW := gwm 941 (by decide +kernel) rfl
theorem gw_942 : (Jvm.Cond.methodLink "java/lang/Throwable" (1 : Nat) ({ cls := "java/lang/Object", name := "<init>", desc := "()V" } : Jvm.MethodName)) ∈ GW := gwm 942 (by decide +kernel) rfl
theorem gw_943 : (Jvm.Cond.fieldLink "java/lang/Throwable" (13 : Nat) "java/lang/Throwable" "UNASSIGNED_STACK" "[Ljava/lang/StackTraceElement;") ∈ GW := gwm 943 (by decide +kernel) rfl
theorem gw_945 : (Jvm.Cond.fieldLink "java/lang/Throwable" (20 : Nat) "java/lang/Throwable" "SUPPRESSED_SENTINEL" "Ljava/util/List;") ∈ GW := gwm 945 (by decide +kernel) rfl
theorem gw_947 : (Jvm.Cond.methodLink "java/lang/Throwable" (27 : Nat) ({ cls := "java/lang/Throwable", name := "fillInStackTrace", desc := "()Ljava/lang/Throwable;" } : Jvm.MethodName)) ∈ GW := gwm 947 (by decide +kernel) rfl
theorem gw_948 : (Jvm.Cond.instanceMethod ({ cls := "java/lang/Throwable", name := "fillInStackTrace", desc := "()Ljava/lang/Throwable;" } : Jvm.MethodName)) ∈ GW := gwm 948 (by decide +kernel) rfl
theorem gw_951 : (Jvm.Cond.methodLink "java/lang/Throwable" (202 : Nat) ({ cls := "java/lang/Throwable", name := "fillInStackTrace", desc := "(I)Ljava/lang/Throwable;" } : Jvm.MethodName)) ∈ GW := gwm 951 (by decide +kernel) rfl
theorem gw_953 : (Jvm.Cond.instanceMethod ({ cls := "java/lang/Throwable", name := "fillInStackTrace", desc := "(I)Ljava/lang/Throwable;" } : Jvm.MethodName)) ∈ GW := gwm 953 (by decide +kernel) rfl
theorem gw_954 : (Jvm.Cond.instantiable "java/lang/Throwable" (6 : Nat)) ∈ GW := gwm 954 (by decide +kernel) rfl
theorem gw_957 : (Jvm.Cond.methodLink "RunningCount" (121 : Nat) ({ cls := "java/util/NoSuchElementException", name := "<init>", desc := "(Ljava/lang/String;)V" } : Jvm.MethodName)) ∈ GW := gwm 957 (by decide +kernel) rfl
theorem gw_958 : (Jvm.Cond.instanceMethod ({ cls := "java/util/NoSuchElementException", name := "<init>", desc := "(Ljava/lang/String;)V" } : Jvm.MethodName)) ∈ GW := gwm 958 (by decide +kernel) rfl
theorem gw_959 : (Jvm.Cond.code ({ cls := "java/util/NoSuchElementException", name := "<init>", desc := "(Ljava/lang/String;)V" } : Jvm.MethodName) prog_24_method_4_code (2 : Nat) (Option.none : Option Jvm.ClassFile.FieldType)) ∈ GW := gwm 959 (by decide +kernel) rfl
theorem gw_960 : (Jvm.Cond.methodLink "java/util/NoSuchElementException" (13 : Nat) ({ cls := "java/lang/RuntimeException", name := "<init>", desc := "(Ljava/lang/String;)V" } : Jvm.MethodName)) ∈ GW := gwm 960 (by decide +kernel) rfl
theorem gw_961 : (Jvm.Cond.instanceMethod ({ cls := "java/lang/RuntimeException", name := "<init>", desc := "(Ljava/lang/String;)V" } : Jvm.MethodName)) ∈ GW := gwm 961 (by decide +kernel) rfl
theorem gw_962 : (Jvm.Cond.code ({ cls := "java/lang/RuntimeException", name := "<init>", desc := "(Ljava/lang/String;)V" } : Jvm.MethodName) prog_17_method_2_code (2 : Nat) (Option.none : Option Jvm.ClassFile.FieldType)) ∈ GW := gwm 962 (by decide +kernel) rfl
theorem gw_963 : (Jvm.Cond.methodLink "java/lang/RuntimeException" (7 : Nat) ({ cls := "java/lang/Exception", name := "<init>", desc := "(Ljava/lang/String;)V" } : Jvm.MethodName)) ∈ GW := gwm 963 (by decide +kernel) rfl
theorem gw_964 : (Jvm.Cond.instanceMethod ({ cls := "java/lang/Exception", name := "<init>", desc := "(Ljava/lang/String;)V" } : Jvm.MethodName)) ∈ GW := gwm 964 (by decide +kernel) rfl
theorem gw_965 : (Jvm.Cond.code ({ cls := "java/lang/Exception", name := "<init>", desc := "(Ljava/lang/String;)V" } : Jvm.MethodName) prog_15_method_2_code (2 : Nat) (Option.none : Option Jvm.ClassFile.FieldType)) ∈ GW := gwm 965 (by decide +kernel) rfl
theorem gw_966 : (Jvm.Cond.methodLink "java/lang/Exception" (7 : Nat) ({ cls := "java/lang/Throwable", name := "<init>", desc := "(Ljava/lang/String;)V" } : Jvm.MethodName)) ∈ GW := gwm 966 (by decide +kernel) rfl
theorem gw_967 : (Jvm.Cond.instanceMethod ({ cls := "java/lang/Throwable", name := "<init>", desc := "(Ljava/lang/String;)V" } : Jvm.MethodName)) ∈ GW := gwm 967 (by decide +kernel) rfl
theorem gw_968 : (Jvm.Cond.code ({ cls := "java/lang/Throwable", name := "<init>", desc := "(Ljava/lang/String;)V" } : Jvm.MethodName) prog_21_method_2_code (2 : Nat) (Option.none : Option Jvm.ClassFile.FieldType)) ∈ GW := gwm 968 (by decide +kernel) rfl
theorem gw_970 : (Jvm.Cond.fieldLink "java/lang/Throwable" (31 : Nat) "java/lang/Throwable" "detailMessage" "Ljava/lang/String;") ∈ GW := gwm 970 (by decide +kernel) rfl
theorem gw_971 : (Jvm.Cond.fieldLink "java/lang/Throwable" (7 : Nat) "java/lang/Throwable" "cause" "Ljava/lang/Throwable;") ∈ GW := gwm 971 (by decide +kernel) rfl
theorem gw_972 : (Jvm.Cond.fieldLink "java/lang/Throwable" (17 : Nat) "java/lang/Throwable" "stackTrace" "[Ljava/lang/StackTraceElement;") ∈ GW := gwm 972 (by decide +kernel) rfl
theorem gw_973 : (Jvm.Cond.fieldLink "java/lang/Throwable" (24 : Nat) "java/lang/Throwable" "suppressedExceptions" "Ljava/util/List;") ∈ GW := gwm 973 (by decide +kernel) rfl
theorem gw_978 : (Jvm.Cond.lays "java/util/NoSuchElementException" "java/lang/Throwable" "depth" "I") ∈ GW := gwm 978 (by decide +kernel) rfl
theorem gw_983 : (Jvm.Cond.methodLink "RunningCountLaw" (73 : Nat) ({ cls := "RunningCountLaw", name := "count", desc := "(LRunningCount;II[J)I" } : Jvm.MethodName)) ∈ GW := gwm 983 (by decide +kernel) rfl
theorem gw_984 : (Jvm.Cond.static ({ cls := "RunningCountLaw", name := "count", desc := "(LRunningCount;II[J)I" } : Jvm.MethodName)) ∈ GW := gwm 984 (by decide +kernel) rfl
theorem gw_985 : (Jvm.Cond.codeWith ({ cls := "RunningCountLaw", name := "count", desc := "(LRunningCount;II[J)I" } : Jvm.MethodName) method_4_code (5 : Nat) (Option.some Jvm.ClassFile.FieldType.int) [((0 : Nat), (10 : Nat), (13 : Nat), (13 : Nat))]) ∈ GW := gwm 985 (by decide +kernel) rfl
theorem gw_986 : (Jvm.Cond.methodLink "RunningCountLaw" (15 : Nat) ({ cls := "RunningCount", name := "count", desc := "(II)I" } : Jvm.MethodName)) ∈ GW := gwm 986 (by decide +kernel) rfl
theorem gw_987 : (Jvm.Cond.instanceMethod ({ cls := "RunningCount", name := "count", desc := "(II)I" } : Jvm.MethodName)) ∈ GW := gwm 987 (by decide +kernel) rfl
theorem gw_988 : (Jvm.Cond.selects "RunningCount" ({ cls := "RunningCount", name := "count", desc := "(II)I" } : Jvm.MethodName) ({ cls := "RunningCount", name := "count", desc := "(II)I" } : Jvm.MethodName)) ∈ GW := gwm 988 (by decide +kernel) rfl
theorem gw_989 : (Jvm.Cond.code ({ cls := "RunningCount", name := "count", desc := "(II)I" } : Jvm.MethodName) prog_1_method_12_code (3 : Nat) (Option.some Jvm.ClassFile.FieldType.int)) ∈ GW := gwm 989 (by decide +kernel) rfl
theorem gw_992 : (Jvm.Cond.methodLink "RunningCountLaw" (56 : Nat) ({ cls := "RunningCountModel", name := "thrown", desc := "()I" } : Jvm.MethodName)) ∈ GW := gwm 992 (by decide +kernel) rfl
theorem gw_993 : (Jvm.Cond.instanceMethod ({ cls := "RunningCountModel", name := "thrown", desc := "()I" } : Jvm.MethodName)) ∈ GW := gwm 993 (by decide +kernel) rfl
theorem gw_994 : (Jvm.Cond.selects "RunningCountModel" ({ cls := "RunningCountModel", name := "thrown", desc := "()I" } : Jvm.MethodName) ({ cls := "RunningCountModel", name := "thrown", desc := "()I" } : Jvm.MethodName)) ∈ GW := gwm 994 (by decide +kernel) rfl
theorem gw_995 : (Jvm.Cond.code ({ cls := "RunningCountModel", name := "thrown", desc := "()I" } : Jvm.MethodName) prog_11_method_1_code (1 : Nat) (Option.some Jvm.ClassFile.FieldType.int)) ∈ GW := gwm 995 (by decide +kernel) rfl
theorem gw_996 : (Jvm.Cond.methodLink "RunningCountLaw" (26 : Nat) ({ cls := "RunningCountModel", name := "feed", desc := "(IIIII)I" } : Jvm.MethodName)) ∈ GW := gwm 996 (by decide +kernel) rfl
theorem gw_997 : (Jvm.Cond.instanceMethod ({ cls := "RunningCountModel", name := "feed", desc := "(IIIII)I" } : Jvm.MethodName)) ∈ GW := gwm 997 (by decide +kernel) rfl
theorem gw_998 : (Jvm.Cond.selects "RunningCountModel" ({ cls := "RunningCountModel", name := "feed", desc := "(IIIII)I" } : Jvm.MethodName) ({ cls := "RunningCountModel", name := "feed", desc := "(IIIII)I" } : Jvm.MethodName)) ∈ GW := gwm 998 (by decide +kernel) rfl
theorem gw_999 : (Jvm.Cond.code ({ cls := "RunningCountModel", name := "feed", desc := "(IIIII)I" } : Jvm.MethodName) prog_11_method_5_code (6 : Nat) (Option.some Jvm.ClassFile.FieldType.int)) ∈ GW := gwm 999 (by decide +kernel) rfl
theorem gw_1000 : (Jvm.Cond.methodLink "RunningCountModel" (14 : Nat) ({ cls := "RunningCountModel", name := "lays", desc := "(I)V" } : Jvm.MethodName)) ∈ GW := gwm 1000 (by decide +kernel) rfl
theorem gw_1002 : (Jvm.Cond.instanceMethod ({ cls := "RunningCountModel", name := "lays", desc := "(I)V" } : Jvm.MethodName)) ∈ GW := gwm 1002 (by decide +kernel) rfl
theorem gw_1003 : (Jvm.Cond.instantiable "RunningCountModel" (21 : Nat)) ∈ GW := gwm 1003 (by decide +kernel) rfl
theorem gw_1004 : (Jvm.Cond.code ({ cls := "RunningCountModel", name := "lays", desc := "(I)V" } : Jvm.MethodName) prog_11_method_4_code (3 : Nat) (Option.none : Option Jvm.ClassFile.FieldType)) ∈ GW := gwm 1004 (by decide +kernel) rfl
theorem gw_1005 : (Jvm.Cond.methodLink "RunningCountLaw" (31 : Nat) ({ cls := "RunningCountModel", name := "end", desc := "(I)Z" } : Jvm.MethodName)) ∈ GW := gwm 1005 (by decide +kernel) rfl
theorem gw_1006 : (Jvm.Cond.instanceMethod ({ cls := "RunningCountModel", name := "end", desc := "(I)Z" } : Jvm.MethodName)) ∈ GW := gwm 1006 (by decide +kernel) rfl
theorem gw_1007 : (Jvm.Cond.selects "RunningCountModel" ({ cls := "RunningCountModel", name := "end", desc := "(I)Z" } : Jvm.MethodName) ({ cls := "RunningCountModel", name := "end", desc := "(I)Z" } : Jvm.MethodName)) ∈ GW := gwm 1007 (by decide +kernel) rfl
theorem gw_1008 : (Jvm.Cond.code ({ cls := "RunningCountModel", name := "end", desc := "(I)Z" } : Jvm.MethodName) prog_11_method_6_code (2 : Nat) (Option.some Jvm.ClassFile.FieldType.boolean)) ∈ GW := gwm 1008 (by decide +kernel) rfl
theorem gw_1009 : (Jvm.Cond.classLink "RunningCountLaw" (19 : Nat) "RunningCountModel") ∈ GW := gwm 1009 (by decide +kernel) rfl
theorem gw_1010 : (Jvm.Cond.methodLink "RunningCountLaw" (21 : Nat) ({ cls := "RunningCountModel", name := "<init>", desc := "()V" } : Jvm.MethodName)) ∈ GW := gwm 1010 (by decide +kernel) rfl
theorem gw_1011 : (Jvm.Cond.instanceMethod ({ cls := "RunningCountModel", name := "<init>", desc := "()V" } : Jvm.MethodName)) ∈ GW := gwm 1011 (by decide +kernel) rfl
theorem gw_1012 : (Jvm.Cond.code ({ cls := "RunningCountModel", name := "<init>", desc := "()V" } : Jvm.MethodName) prog_11_method_16_code (1 : Nat) (Option.none : Option Jvm.ClassFile.FieldType)) ∈ GW := gwm 1012 (by decide +kernel) rfl
theorem gw_1013 : (Jvm.Cond.methodLink "RunningCountModel" (68 : Nat) ({ cls := "java/lang/Object", name := "<init>", desc := "()V" } : Jvm.MethodName)) ∈ GW := gwm 1013 (by decide +kernel) rfl
theorem gw_1014 : (Jvm.Cond.fieldLink "RunningCountModel" (1 : Nat) "RunningCountModel" "thrown" "I") ∈ GW := gwm 1014 (by decide +kernel) rfl
theorem gw_1015 : (Jvm.Cond.fieldLink "RunningCountModel" (7 : Nat) "RunningCountModel" "tape" "[I") ∈ GW := gwm 1015 (by decide +kernel) rfl
theorem gw_1016 : (Jvm.Cond.fieldLink "RunningCountModel" (11 : Nat) "RunningCountModel" "taped" "I") ∈ GW := gwm 1016 (by decide +kernel) rfl
theorem gw_1017 : (Jvm.Cond.fieldLink "RunningCountModel" (18 : Nat) "RunningCountModel" "size" "I") ∈ GW := gwm 1017 (by decide +kernel) rfl
theorem gw_1018 : (Jvm.Cond.fieldLink "RunningCountModel" (21 : Nat) "RunningCountModel" "to" "I") ∈ GW := gwm 1018 (by decide +kernel) rfl
theorem gw_1019 : (Jvm.Cond.fieldLink "RunningCountModel" (24 : Nat) "RunningCountModel" "from" "I") ∈ GW := gwm 1019 (by decide +kernel) rfl
theorem gw_1020 : (Jvm.Cond.fieldLink "RunningCountModel" (27 : Nat) "RunningCountModel" "sort" "I") ∈ GW := gwm 1020 (by decide +kernel) rfl
theorem gw_1021 : (Jvm.Cond.fieldLink "RunningCountModel" (41 : Nat) "RunningCountModel" "number" "I") ∈ GW := gwm 1021 (by decide +kernel) rfl
theorem gw_1022 : (Jvm.Cond.fieldLink "RunningCountModel" (62 : Nat) "RunningCountModel" "fault" "I") ∈ GW := gwm 1022 (by decide +kernel) rfl
theorem gw_1023 : (Jvm.Cond.fieldLink "RunningCountModel" (65 : Nat) "RunningCountModel" "place" "I") ∈ GW := gwm 1023 (by decide +kernel) rfl
theorem gw_1024 : (Jvm.Cond.fieldLink "RunningCountModel" (37 : Nat) "RunningCountModel" "word" "J") ∈ GW := gwm 1024 (by decide +kernel) rfl
theorem gw_1025 : (Jvm.Cond.fieldLink "RunningCountModel" (74 : Nat) "RunningCountModel" "now" "[I") ∈ GW := gwm 1025 (by decide +kernel) rfl
theorem gw_1026 : (Jvm.Cond.fieldLink "RunningCountModel" (77 : Nat) "RunningCountModel" "read" "[I") ∈ GW := gwm 1026 (by decide +kernel) rfl
theorem gw_1027 : (Jvm.Cond.fieldLink "RunningCountModel" (80 : Nat) "RunningCountModel" "snaps" "[I") ∈ GW := gwm 1027 (by decide +kernel) rfl
theorem gw_1028 : (Jvm.Cond.fieldLink "RunningCountModel" (153 : Nat) "RunningCountModel" "snapMany" "I") ∈ GW := gwm 1028 (by decide +kernel) rfl
theorem gw_1029 : (Jvm.Cond.fieldLink "RunningCountModel" (99 : Nat) "RunningCountModel" "got" "I") ∈ GW := gwm 1029 (by decide +kernel) rfl
theorem gw_1030 : (Jvm.Cond.fieldLink "RunningCountModel" (121 : Nat) "RunningCountModel" "stocked" "I") ∈ GW := gwm 1030 (by decide +kernel) rfl
theorem gw_1031 : (Jvm.Cond.fieldLink "RunningCountModel" (141 : Nat) "RunningCountModel" "lines" "I") ∈ GW := gwm 1031 (by decide +kernel) rfl
theorem gw_1032 : (Jvm.Cond.fieldLink "RunningCountModel" (83 : Nat) "RunningCountModel" "open" "[I") ∈ GW := gwm 1032 (by decide +kernel) rfl
theorem gw_1033 : (Jvm.Cond.fieldLink "RunningCountModel" (229 : Nat) "RunningCountModel" "openThere" "I") ∈ GW := gwm 1033 (by decide +kernel) rfl
theorem gw_1034 : (Jvm.Cond.fieldLink "RunningCountModel" (86 : Nat) "RunningCountModel" "changes" "[I") ∈ GW := gwm 1034 (by decide +kernel) rfl
theorem gw_1035 : (Jvm.Cond.lays "RunningCountModel" "RunningCountModel" "thrown" "I") ∈ GW := gwm 1035 (by decide +kernel) rfl
theorem gw_1037 : (Jvm.Cond.laysFinal "RunningCountModel" "RunningCountModel" "tape" "[I") ∈ GW := gwm 1037 (by decide +kernel) rfl
theorem gw_1039 : (Jvm.Cond.lays "RunningCountModel" "RunningCountModel" "taped" "I") ∈ GW := gwm 1039 (by decide +kernel) rfl
theorem gw_1041 : (Jvm.Cond.lays "RunningCountModel" "RunningCountModel" "size" "I") ∈ GW := gwm 1041 (by decide +kernel) rfl
theorem gw_1043 : (Jvm.Cond.lays "RunningCountModel" "RunningCountModel" "to" "I") ∈ GW := gwm 1043 (by decide +kernel) rfl
theorem gw_1045 : (Jvm.Cond.lays "RunningCountModel" "RunningCountModel" "from" "I") ∈ GW := gwm 1045 (by decide +kernel) rfl
theorem gw_1047 : (Jvm.Cond.lays "RunningCountModel" "RunningCountModel" "sort" "I") ∈ GW := gwm 1047 (by decide +kernel) rfl
theorem gw_1049 : (Jvm.Cond.lays "RunningCountModel" "RunningCountModel" "number" "I") ∈ GW := gwm 1049 (by decide +kernel) rfl
theorem gw_1051 : (Jvm.Cond.lays "RunningCountModel" "RunningCountModel" "fault" "I") ∈ GW := gwm 1051 (by decide +kernel) rfl
theorem gw_1053 : (Jvm.Cond.lays "RunningCountModel" "RunningCountModel" "place" "I") ∈ GW := gwm 1053 (by decide +kernel) rfl
theorem gw_1055 : (Jvm.Cond.lays "RunningCountModel" "RunningCountModel" "word" "J") ∈ GW := gwm 1055 (by decide +kernel) rfl
theorem gw_1057 : (Jvm.Cond.laysFinal "RunningCountModel" "RunningCountModel" "now" "[I") ∈ GW := gwm 1057 (by decide +kernel) rfl
theorem gw_1059 : (Jvm.Cond.laysFinal "RunningCountModel" "RunningCountModel" "read" "[I") ∈ GW := gwm 1059 (by decide +kernel) rfl
theorem gw_1061 : (Jvm.Cond.laysFinal "RunningCountModel" "RunningCountModel" "snaps" "[I") ∈ GW := gwm 1061 (by decide +kernel) rfl
theorem gw_1063 : (Jvm.Cond.lays "RunningCountModel" "RunningCountModel" "snapMany" "I") ∈ GW := gwm 1063 (by decide +kernel) rfl
theorem gw_1065 : (Jvm.Cond.lays "RunningCountModel" "RunningCountModel" "got" "I") ∈ GW := gwm 1065 (by decide +kernel) rfl
theorem gw_1067 : (Jvm.Cond.lays "RunningCountModel" "RunningCountModel" "stocked" "I") ∈ GW := gwm 1067 (by decide +kernel) rfl
theorem gw_1069 : (Jvm.Cond.lays "RunningCountModel" "RunningCountModel" "lines" "I") ∈ GW := gwm 1069 (by decide +kernel) rfl
theorem gw_1071 : (Jvm.Cond.laysFinal "RunningCountModel" "RunningCountModel" "open" "[I") ∈ GW := gwm 1071 (by decide +kernel) rfl
theorem gw_1073 : (Jvm.Cond.lays "RunningCountModel" "RunningCountModel" "openThere" "I") ∈ GW := gwm 1073 (by decide +kernel) rfl
theorem gw_1075 : (Jvm.Cond.laysFinal "RunningCountModel" "RunningCountModel" "changes" "[I") ∈ GW := gwm 1075 (by decide +kernel) rfl
theorem gw_1078 : (Jvm.Cond.methodLink "RunningCountLaw" (36 : Nat) ({ cls := "RunningCountModel", name := "text", desc := "()I" } : Jvm.MethodName)) ∈ GW := gwm 1078 (by decide +kernel) rfl
theorem gw_1079 : (Jvm.Cond.instanceMethod ({ cls := "RunningCountModel", name := "text", desc := "()I" } : Jvm.MethodName)) ∈ GW := gwm 1079 (by decide +kernel) rfl
theorem gw_1080 : (Jvm.Cond.selects "RunningCountModel" ({ cls := "RunningCountModel", name := "text", desc := "()I" } : Jvm.MethodName) ({ cls := "RunningCountModel", name := "text", desc := "()I" } : Jvm.MethodName)) ∈ GW := gwm 1080 (by decide +kernel) rfl
theorem gw_1081 : (Jvm.Cond.code ({ cls := "RunningCountModel", name := "text", desc := "()I" } : Jvm.MethodName) prog_11_method_28_code (2 : Nat) (Option.some Jvm.ClassFile.FieldType.int)) ∈ GW := gwm 1081 (by decide +kernel) rfl
theorem gw_1082 : (Jvm.Cond.methodLink "RunningCountModel" (96 : Nat) ({ cls := "RunningCountModel", name := "go", desc := "()V" } : Jvm.MethodName)) ∈ GW := gwm 1082 (by decide +kernel) rfl
theorem gw_1084 : (Jvm.Cond.instanceMethod ({ cls := "RunningCountModel", name := "go", desc := "()V" } : Jvm.MethodName)) ∈ GW := gwm 1084 (by decide +kernel) rfl
theorem gw_1085 : (Jvm.Cond.code ({ cls := "RunningCountModel", name := "go", desc := "()V" } : Jvm.MethodName) prog_11_method_10_code (5 : Nat) (Option.none : Option Jvm.ClassFile.FieldType)) ∈ GW := gwm 1085 (by decide +kernel) rfl
theorem gw_1086 : (Jvm.Cond.methodLink "RunningCountModel" (30 : Nat) ({ cls := "RunningCountModel", name := "isLetter", desc := "(I)Z" } : Jvm.MethodName)) ∈ GW := gwm 1086 (by decide +kernel) rfl
theorem gw_1087 : (Jvm.Cond.static ({ cls := "RunningCountModel", name := "isLetter", desc := "(I)Z" } : Jvm.MethodName)) ∈ GW := gwm 1087 (by decide +kernel) rfl
theorem gw_1088 : (Jvm.Cond.code ({ cls := "RunningCountModel", name := "isLetter", desc := "(I)Z" } : Jvm.MethodName) prog_11_method_9_code (1 : Nat) (Option.some Jvm.ClassFile.FieldType.boolean)) ∈ GW := gwm 1088 (by decide +kernel) rfl
theorem gw_1089 : (Jvm.Cond.methodLink "RunningCountModel" (34 : Nat) ({ cls := "RunningCountModel", name := "isDigit", desc := "(I)Z" } : Jvm.MethodName)) ∈ GW := gwm 1089 (by decide +kernel) rfl
theorem gw_1090 : (Jvm.Cond.static ({ cls := "RunningCountModel", name := "isDigit", desc := "(I)Z" } : Jvm.MethodName)) ∈ GW := gwm 1090 (by decide +kernel) rfl
theorem gw_1091 : (Jvm.Cond.code ({ cls := "RunningCountModel", name := "isDigit", desc := "(I)Z" } : Jvm.MethodName) prog_11_method_8_code (1 : Nat) (Option.some Jvm.ClassFile.FieldType.boolean)) ∈ GW := gwm 1091 (by decide +kernel) rfl
theorem gw_1092 : (Jvm.Cond.methodLink "RunningCountModel" (44 : Nat) ({ cls := "RunningCountModel", name := "tapeAt", desc := "(I)I" } : Jvm.MethodName)) ∈ GW := gwm 1092 (by decide +kernel) rfl
theorem gw_1094 : (Jvm.Cond.instanceMethod ({ cls := "RunningCountModel", name := "tapeAt", desc := "(I)I" } : Jvm.MethodName)) ∈ GW := gwm 1094 (by decide +kernel) rfl
theorem gw_1095 : (Jvm.Cond.code ({ cls := "RunningCountModel", name := "tapeAt", desc := "(I)I" } : Jvm.MethodName) prog_11_method_7_code (2 : Nat) (Option.some Jvm.ClassFile.FieldType.int)) ∈ GW := gwm 1095 (by decide +kernel) rfl
theorem gw_1096 : (Jvm.Cond.constantLong "RunningCountModel" (48 : Nat) (27 : Int64)) ∈ GW := gwm 1096 (by decide +kernel) rfl
theorem gw_1097 : (Jvm.Cond.constantLong "RunningCountModel" (50 : Nat) (96 : Int64)) ∈ GW := gwm 1097 (by decide +kernel) rfl
theorem gw_1098 : (Jvm.Cond.methodLink "RunningCountModel" (150 : Nat) ({ cls := "RunningCountModel", name := "readWhole", desc := "()Z" } : Jvm.MethodName)) ∈ GW := gwm 1098 (by decide +kernel) rfl
theorem gw_1100 : (Jvm.Cond.instanceMethod ({ cls := "RunningCountModel", name := "readWhole", desc := "()Z" } : Jvm.MethodName)) ∈ GW := gwm 1100 (by decide +kernel) rfl
theorem gw_1101 : (Jvm.Cond.code ({ cls := "RunningCountModel", name := "readWhole", desc := "()Z" } : Jvm.MethodName) prog_11_method_27_code (1 : Nat) (Option.some Jvm.ClassFile.FieldType.boolean)) ∈ GW := gwm 1101 (by decide +kernel) rfl
theorem gw_1102 : (Jvm.Cond.methodLink "RunningCountModel" (144 : Nat) ({ cls := "RunningCountModel", name := "readShelves", desc := "()Z" } : Jvm.MethodName)) ∈ GW := gwm 1102 (by decide +kernel) rfl
theorem gw_1104 : (Jvm.Cond.instanceMethod ({ cls := "RunningCountModel", name := "readShelves", desc := "()Z" } : Jvm.MethodName)) ∈ GW := gwm 1104 (by decide +kernel) rfl
theorem gw_1105 : (Jvm.Cond.code ({ cls := "RunningCountModel", name := "readShelves", desc := "()Z" } : Jvm.MethodName) prog_11_method_20_code (1 : Nat) (Option.some Jvm.ClassFile.FieldType.boolean)) ∈ GW := gwm 1105 (by decide +kernel) rfl
theorem gw_1106 : (Jvm.Cond.methodLink "RunningCountModel" (102 : Nat) ({ cls := "RunningCountModel", name := "seven", desc := "(IIIIIII)J" } : Jvm.MethodName)) ∈ GW := gwm 1106 (by decide +kernel) rfl
theorem gw_1107 : (Jvm.Cond.static ({ cls := "RunningCountModel", name := "seven", desc := "(IIIIIII)J" } : Jvm.MethodName)) ∈ GW := gwm 1107 (by decide +kernel) rfl
theorem gw_1108 : (Jvm.Cond.code ({ cls := "RunningCountModel", name := "seven", desc := "(IIIIIII)J" } : Jvm.MethodName) prog_11_method_13_code (7 : Nat) (Option.some Jvm.ClassFile.FieldType.long)) ∈ GW := gwm 1108 (by decide +kernel) rfl
theorem gw_1109 : (Jvm.Cond.constantLong "RunningCountModel" (52 : Nat) (729 : Int64)) ∈ GW := gwm 1109 (by decide +kernel) rfl
theorem gw_1110 : (Jvm.Cond.methodLink "RunningCountModel" (58 : Nat) ({ cls := "RunningCountModel", name := "four", desc := "(IIII)J" } : Jvm.MethodName)) ∈ GW := gwm 1110 (by decide +kernel) rfl
theorem gw_1111 : (Jvm.Cond.static ({ cls := "RunningCountModel", name := "four", desc := "(IIII)J" } : Jvm.MethodName)) ∈ GW := gwm 1111 (by decide +kernel) rfl
theorem gw_1112 : (Jvm.Cond.code ({ cls := "RunningCountModel", name := "four", desc := "(IIII)J" } : Jvm.MethodName) prog_11_method_12_code (4 : Nat) (Option.some Jvm.ClassFile.FieldType.long)) ∈ GW := gwm 1112 (by decide +kernel) rfl
theorem gw_1113 : (Jvm.Cond.methodLink "RunningCountModel" (54 : Nat) ({ cls := "RunningCountModel", name := "two", desc := "(II)J" } : Jvm.MethodName)) ∈ GW := gwm 1113 (by decide +kernel) rfl
theorem gw_1114 : (Jvm.Cond.static ({ cls := "RunningCountModel", name := "two", desc := "(II)J" } : Jvm.MethodName)) ∈ GW := gwm 1114 (by decide +kernel) rfl
theorem gw_1115 : (Jvm.Cond.code ({ cls := "RunningCountModel", name := "two", desc := "(II)J" } : Jvm.MethodName) prog_11_method_11_code (2 : Nat) (Option.some Jvm.ClassFile.FieldType.long)) ∈ GW := gwm 1115 (by decide +kernel) rfl
theorem gw_1116 : (Jvm.Cond.methodLink "RunningCountModel" (106 : Nat) ({ cls := "RunningCountModel", name := "isWord", desc := "(J)Z" } : Jvm.MethodName)) ∈ GW := gwm 1116 (by decide +kernel) rfl
theorem gw_1118 : (Jvm.Cond.instanceMethod ({ cls := "RunningCountModel", name := "isWord", desc := "(J)Z" } : Jvm.MethodName)) ∈ GW := gwm 1118 (by decide +kernel) rfl
theorem gw_1119 : (Jvm.Cond.code ({ cls := "RunningCountModel", name := "isWord", desc := "(J)Z" } : Jvm.MethodName) prog_11_method_14_code (3 : Nat) (Option.some Jvm.ClassFile.FieldType.boolean)) ∈ GW := gwm 1119 (by decide +kernel) rfl
theorem gw_1120 : (Jvm.Cond.methodLink "RunningCountModel" (89 : Nat) ({ cls := "RunningCountModel", name := "bad", desc := "(I)Z" } : Jvm.MethodName)) ∈ GW := gwm 1120 (by decide +kernel) rfl
theorem gw_1122 : (Jvm.Cond.instanceMethod ({ cls := "RunningCountModel", name := "bad", desc := "(I)Z" } : Jvm.MethodName)) ∈ GW := gwm 1122 (by decide +kernel) rfl
theorem gw_1123 : (Jvm.Cond.code ({ cls := "RunningCountModel", name := "bad", desc := "(I)Z" } : Jvm.MethodName) prog_11_method_15_code (2 : Nat) (Option.some Jvm.ClassFile.FieldType.boolean)) ∈ GW := gwm 1123 (by decide +kernel) rfl
theorem gw_1124 : (Jvm.Cond.methodLink "RunningCountModel" (110 : Nat) ({ cls := "RunningCountModel", name := "told", desc := "(III)Z" } : Jvm.MethodName)) ∈ GW := gwm 1124 (by decide +kernel) rfl
theorem gw_1126 : (Jvm.Cond.instanceMethod ({ cls := "RunningCountModel", name := "told", desc := "(III)Z" } : Jvm.MethodName)) ∈ GW := gwm 1126 (by decide +kernel) rfl
theorem gw_1127 : (Jvm.Cond.code ({ cls := "RunningCountModel", name := "told", desc := "(III)Z" } : Jvm.MethodName) prog_11_method_17_code (4 : Nat) (Option.some Jvm.ClassFile.FieldType.boolean)) ∈ GW := gwm 1127 (by decide +kernel) rfl
theorem gw_1128 : (Jvm.Cond.methodLink "RunningCountModel" (92 : Nat) ({ cls := "RunningCountModel", name := "isIn", desc := "(III)Z" } : Jvm.MethodName)) ∈ GW := gwm 1128 (by decide +kernel) rfl
theorem gw_1129 : (Jvm.Cond.static ({ cls := "RunningCountModel", name := "isIn", desc := "(III)Z" } : Jvm.MethodName)) ∈ GW := gwm 1129 (by decide +kernel) rfl
theorem gw_1130 : (Jvm.Cond.code ({ cls := "RunningCountModel", name := "isIn", desc := "(III)Z" } : Jvm.MethodName) prog_11_method_3_code (3 : Nat) (Option.some Jvm.ClassFile.FieldType.boolean)) ∈ GW := gwm 1130 (by decide +kernel) rfl
theorem gw_1131 : (Jvm.Cond.methodLink "RunningCountModel" (113 : Nat) ({ cls := "RunningCountModel", name := "readEnd", desc := "()Z" } : Jvm.MethodName)) ∈ GW := gwm 1131 (by decide +kernel) rfl
theorem gw_1133 : (Jvm.Cond.instanceMethod ({ cls := "RunningCountModel", name := "readEnd", desc := "()Z" } : Jvm.MethodName)) ∈ GW := gwm 1133 (by decide +kernel) rfl
theorem gw_1134 : (Jvm.Cond.code ({ cls := "RunningCountModel", name := "readEnd", desc := "()Z" } : Jvm.MethodName) prog_11_method_19_code (1 : Nat) (Option.some Jvm.ClassFile.FieldType.boolean)) ∈ GW := gwm 1134 (by decide +kernel) rfl
theorem gw_1135 : (Jvm.Cond.methodLink "RunningCountModel" (147 : Nat) ({ cls := "RunningCountModel", name := "readAll", desc := "(I)Z" } : Jvm.MethodName)) ∈ GW := gwm 1135 (by decide +kernel) rfl
theorem gw_1137 : (Jvm.Cond.instanceMethod ({ cls := "RunningCountModel", name := "readAll", desc := "(I)Z" } : Jvm.MethodName)) ∈ GW := gwm 1137 (by decide +kernel) rfl
theorem gw_1138 : (Jvm.Cond.code ({ cls := "RunningCountModel", name := "readAll", desc := "(I)Z" } : Jvm.MethodName) prog_11_method_26_code (2 : Nat) (Option.some Jvm.ClassFile.FieldType.boolean)) ∈ GW := gwm 1138 (by decide +kernel) rfl
theorem gw_1139 : (Jvm.Cond.methodLink "RunningCountModel" (129 : Nat) ({ cls := "RunningCountModel", name := "isSort", desc := "(I)Z" } : Jvm.MethodName)) ∈ GW := gwm 1139 (by decide +kernel) rfl
theorem gw_1141 : (Jvm.Cond.instanceMethod ({ cls := "RunningCountModel", name := "isSort", desc := "(I)Z" } : Jvm.MethodName)) ∈ GW := gwm 1141 (by decide +kernel) rfl
theorem gw_1142 : (Jvm.Cond.code ({ cls := "RunningCountModel", name := "isSort", desc := "(I)Z" } : Jvm.MethodName) prog_11_method_25_code (2 : Nat) (Option.some Jvm.ClassFile.FieldType.boolean)) ∈ GW := gwm 1142 (by decide +kernel) rfl
theorem gw_1143 : (Jvm.Cond.constantLong "RunningCountModel" (127 : Nat) (11 : Int64)) ∈ GW := gwm 1143 (by decide +kernel) rfl
theorem gw_1144 : (Jvm.Cond.methodLink "RunningCountModel" (132 : Nat) ({ cls := "RunningCountModel", name := "readItem", desc := "()Z" } : Jvm.MethodName)) ∈ GW := gwm 1144 (by decide +kernel) rfl
theorem gw_1146 : (Jvm.Cond.instanceMethod ({ cls := "RunningCountModel", name := "readItem", desc := "()Z" } : Jvm.MethodName)) ∈ GW := gwm 1146 (by decide +kernel) rfl
theorem gw_1147 : (Jvm.Cond.code ({ cls := "RunningCountModel", name := "readItem", desc := "()Z" } : Jvm.MethodName) prog_11_method_21_code (2 : Nat) (Option.some Jvm.ClassFile.FieldType.boolean)) ∈ GW := gwm 1147 (by decide +kernel) rfl
theorem gw_1148 : (Jvm.Cond.methodLink "RunningCountModel" (135 : Nat) ({ cls := "RunningCountModel", name := "readStock", desc := "()Z" } : Jvm.MethodName)) ∈ GW := gwm 1148 (by decide +kernel) rfl
theorem gw_1150 : (Jvm.Cond.instanceMethod ({ cls := "RunningCountModel", name := "readStock", desc := "()Z" } : Jvm.MethodName)) ∈ GW := gwm 1150 (by decide +kernel) rfl
theorem gw_1151 : (Jvm.Cond.code ({ cls := "RunningCountModel", name := "readStock", desc := "()Z" } : Jvm.MethodName) prog_11_method_22_code (3 : Nat) (Option.some Jvm.ClassFile.FieldType.boolean)) ∈ GW := gwm 1151 (by decide +kernel) rfl
theorem gw_1152 : (Jvm.Cond.methodLink "RunningCountModel" (117 : Nat) ({ cls := "RunningCountModel", name := "takes", desc := "(II)Z" } : Jvm.MethodName)) ∈ GW := gwm 1152 (by decide +kernel) rfl
theorem gw_1154 : (Jvm.Cond.instanceMethod ({ cls := "RunningCountModel", name := "takes", desc := "(II)Z" } : Jvm.MethodName)) ∈ GW := gwm 1154 (by decide +kernel) rfl
theorem gw_1155 : (Jvm.Cond.code ({ cls := "RunningCountModel", name := "takes", desc := "(II)Z" } : Jvm.MethodName) prog_11_method_18_code (3 : Nat) (Option.some Jvm.ClassFile.FieldType.boolean)) ∈ GW := gwm 1155 (by decide +kernel) rfl
theorem gw_1156 : (Jvm.Cond.methodLink "RunningCountModel" (138 : Nat) ({ cls := "RunningCountModel", name := "readMove", desc := "()Z" } : Jvm.MethodName)) ∈ GW := gwm 1156 (by decide +kernel) rfl
theorem gw_1158 : (Jvm.Cond.instanceMethod ({ cls := "RunningCountModel", name := "readMove", desc := "()Z" } : Jvm.MethodName)) ∈ GW := gwm 1158 (by decide +kernel) rfl
theorem gw_1159 : (Jvm.Cond.code ({ cls := "RunningCountModel", name := "readMove", desc := "()Z" } : Jvm.MethodName) prog_11_method_24_code (2 : Nat) (Option.some Jvm.ClassFile.FieldType.boolean)) ∈ GW := gwm 1159 (by decide +kernel) rfl
theorem gw_1160 : (Jvm.Cond.methodLink "RunningCountModel" (124 : Nat) ({ cls := "RunningCountModel", name := "readLeg", desc := "(I)Z" } : Jvm.MethodName)) ∈ GW := gwm 1160 (by decide +kernel) rfl
theorem gw_1162 : (Jvm.Cond.instanceMethod ({ cls := "RunningCountModel", name := "readLeg", desc := "(I)Z" } : Jvm.MethodName)) ∈ GW := gwm 1162 (by decide +kernel) rfl
theorem gw_1163 : (Jvm.Cond.code ({ cls := "RunningCountModel", name := "readLeg", desc := "(I)Z" } : Jvm.MethodName) prog_11_method_23_code (2 : Nat) (Option.some Jvm.ClassFile.FieldType.boolean)) ∈ GW := gwm 1163 (by decide +kernel) rfl
theorem gw_1164 : (Jvm.Cond.methodLink "RunningCountLaw" (40 : Nat) ({ cls := "RunningCountModel", name := "fault", desc := "()I" } : Jvm.MethodName)) ∈ GW := gwm 1164 (by decide +kernel) rfl
theorem gw_1165 : (Jvm.Cond.instanceMethod ({ cls := "RunningCountModel", name := "fault", desc := "()I" } : Jvm.MethodName)) ∈ GW := gwm 1165 (by decide +kernel) rfl
theorem gw_1166 : (Jvm.Cond.selects "RunningCountModel" ({ cls := "RunningCountModel", name := "fault", desc := "()I" } : Jvm.MethodName) ({ cls := "RunningCountModel", name := "fault", desc := "()I" } : Jvm.MethodName)) ∈ GW := gwm 1166 (by decide +kernel) rfl
theorem gw_1167 : (Jvm.Cond.code ({ cls := "RunningCountModel", name := "fault", desc := "()I" } : Jvm.MethodName) prog_11_method_29_code (1 : Nat) (Option.some Jvm.ClassFile.FieldType.int)) ∈ GW := gwm 1167 (by decide +kernel) rfl
theorem gw_1168 : (Jvm.Cond.methodLink "RunningCountLaw" (45 : Nat) ({ cls := "RunningCountModel", name := "now", desc := "(I)I" } : Jvm.MethodName)) ∈ GW := gwm 1168 (by decide +kernel) rfl
theorem gw_1169 : (Jvm.Cond.instanceMethod ({ cls := "RunningCountModel", name := "now", desc := "(I)I" } : Jvm.MethodName)) ∈ GW := gwm 1169 (by decide +kernel) rfl
theorem gw_1170 : (Jvm.Cond.selects "RunningCountModel" ({ cls := "RunningCountModel", name := "now", desc := "(I)I" } : Jvm.MethodName) ({ cls := "RunningCountModel", name := "now", desc := "(I)I" } : Jvm.MethodName)) ∈ GW := gwm 1170 (by decide +kernel) rfl
theorem gw_1171 : (Jvm.Cond.code ({ cls := "RunningCountModel", name := "now", desc := "(I)I" } : Jvm.MethodName) prog_11_method_46_code (2 : Nat) (Option.some Jvm.ClassFile.FieldType.int)) ∈ GW := gwm 1171 (by decide +kernel) rfl
theorem gw_1172 : (Jvm.Cond.methodLink "RunningCountModel" (187 : Nat) ({ cls := "RunningCountModel", name := "openMany", desc := "()I" } : Jvm.MethodName)) ∈ GW := gwm 1172 (by decide +kernel) rfl
theorem gw_1174 : (Jvm.Cond.instanceMethod ({ cls := "RunningCountModel", name := "openMany", desc := "()I" } : Jvm.MethodName)) ∈ GW := gwm 1174 (by decide +kernel) rfl
theorem gw_1175 : (Jvm.Cond.code ({ cls := "RunningCountModel", name := "openMany", desc := "()I" } : Jvm.MethodName) prog_11_method_57_code (3 : Nat) (Option.some Jvm.ClassFile.FieldType.int)) ∈ GW := gwm 1175 (by decide +kernel) rfl
theorem gw_1176 : (Jvm.Cond.methodLink "RunningCountModel" (213 : Nat) ({ cls := "RunningCountModel", name := "counted", desc := "(II)I" } : Jvm.MethodName)) ∈ GW := gwm 1176 (by decide +kernel) rfl
theorem gw_1178 : (Jvm.Cond.instanceMethod ({ cls := "RunningCountModel", name := "counted", desc := "(II)I" } : Jvm.MethodName)) ∈ GW := gwm 1178 (by decide +kernel) rfl
theorem gw_1179 : (Jvm.Cond.code ({ cls := "RunningCountModel", name := "counted", desc := "(II)I" } : Jvm.MethodName) prog_11_method_52_code (3 : Nat) (Option.some Jvm.ClassFile.FieldType.int)) ∈ GW := gwm 1179 (by decide +kernel) rfl
theorem gw_1180 : (Jvm.Cond.methodLink "RunningCountLaw" (49 : Nat) ({ cls := "RunningCountModel", name := "item", desc := "(II)I" } : Jvm.MethodName)) ∈ GW := gwm 1180 (by decide +kernel) rfl
theorem gw_1181 : (Jvm.Cond.instanceMethod ({ cls := "RunningCountModel", name := "item", desc := "(II)I" } : Jvm.MethodName)) ∈ GW := gwm 1181 (by decide +kernel) rfl
theorem gw_1182 : (Jvm.Cond.selects "RunningCountModel" ({ cls := "RunningCountModel", name := "item", desc := "(II)I" } : Jvm.MethodName) ({ cls := "RunningCountModel", name := "item", desc := "(II)I" } : Jvm.MethodName)) ∈ GW := gwm 1182 (by decide +kernel) rfl
theorem gw_1183 : (Jvm.Cond.code ({ cls := "RunningCountModel", name := "item", desc := "(II)I" } : Jvm.MethodName) prog_11_method_47_code (3 : Nat) (Option.some Jvm.ClassFile.FieldType.int)) ∈ GW := gwm 1183 (by decide +kernel) rfl
theorem gw_1184 : (Jvm.Cond.methodLink "RunningCountModel" (191 : Nat) ({ cls := "RunningCountModel", name := "isItem", desc := "(I)Z" } : Jvm.MethodName)) ∈ GW := gwm 1184 (by decide +kernel) rfl
theorem gw_1186 : (Jvm.Cond.instanceMethod ({ cls := "RunningCountModel", name := "isItem", desc := "(I)Z" } : Jvm.MethodName)) ∈ GW := gwm 1186 (by decide +kernel) rfl
theorem gw_1187 : (Jvm.Cond.code ({ cls := "RunningCountModel", name := "isItem", desc := "(I)Z" } : Jvm.MethodName) prog_11_method_31_code (2 : Nat) (Option.some Jvm.ClassFile.FieldType.boolean)) ∈ GW := gwm 1187 (by decide +kernel) rfl
theorem gw_1188 : (Jvm.Cond.methodLink "RunningCountLaw" (55 : Nat) ({ cls := "RunningCountModel", name := "move", desc := "(II)I" } : Jvm.MethodName)) ∈ GW := gwm 1188 (by decide +kernel) rfl
theorem gw_1189 : (Jvm.Cond.instanceMethod ({ cls := "RunningCountModel", name := "move", desc := "(II)I" } : Jvm.MethodName)) ∈ GW := gwm 1189 (by decide +kernel) rfl
theorem gw_1190 : (Jvm.Cond.selects "RunningCountModel" ({ cls := "RunningCountModel", name := "move", desc := "(II)I" } : Jvm.MethodName) ({ cls := "RunningCountModel", name := "move", desc := "(II)I" } : Jvm.MethodName)) ∈ GW := gwm 1190 (by decide +kernel) rfl
theorem gw_1191 : (Jvm.Cond.code ({ cls := "RunningCountModel", name := "move", desc := "(II)I" } : Jvm.MethodName) prog_11_method_48_code (5 : Nat) (Option.some Jvm.ClassFile.FieldType.int)) ∈ GW := gwm 1191 (by decide +kernel) rfl
theorem gw_1192 : (Jvm.Cond.methodLink "RunningCountModel" (194 : Nat) ({ cls := "RunningCountModel", name := "isMove", desc := "(I)Z" } : Jvm.MethodName)) ∈ GW := gwm 1192 (by decide +kernel) rfl
theorem gw_1194 : (Jvm.Cond.instanceMethod ({ cls := "RunningCountModel", name := "isMove", desc := "(I)Z" } : Jvm.MethodName)) ∈ GW := gwm 1194 (by decide +kernel) rfl
theorem gw_1195 : (Jvm.Cond.code ({ cls := "RunningCountModel", name := "isMove", desc := "(I)Z" } : Jvm.MethodName) prog_11_method_32_code (2 : Nat) (Option.some Jvm.ClassFile.FieldType.boolean)) ∈ GW := gwm 1195 (by decide +kernel) rfl
theorem gw_1196 : (Jvm.Cond.methodLink "RunningCountModel" (197 : Nat) ({ cls := "RunningCountModel", name := "refuse", desc := "()I" } : Jvm.MethodName)) ∈ GW := gwm 1196 (by decide +kernel) rfl
theorem gw_1198 : (Jvm.Cond.instanceMethod ({ cls := "RunningCountModel", name := "refuse", desc := "()I" } : Jvm.MethodName)) ∈ GW := gwm 1198 (by decide +kernel) rfl
theorem gw_1199 : (Jvm.Cond.code ({ cls := "RunningCountModel", name := "refuse", desc := "()I" } : Jvm.MethodName) prog_11_method_2_code (1 : Nat) (Option.some Jvm.ClassFile.FieldType.int)) ∈ GW := gwm 1199 (by decide +kernel) rfl
theorem gw_1200 : (Jvm.Cond.methodLink "RunningCountModel" (163 : Nat) ({ cls := "RunningCountModel", name := "moved", desc := "(II)I" } : Jvm.MethodName)) ∈ GW := gwm 1200 (by decide +kernel) rfl
theorem gw_1202 : (Jvm.Cond.instanceMethod ({ cls := "RunningCountModel", name := "moved", desc := "(II)I" } : Jvm.MethodName)) ∈ GW := gwm 1202 (by decide +kernel) rfl
theorem gw_1203 : (Jvm.Cond.code ({ cls := "RunningCountModel", name := "moved", desc := "(II)I" } : Jvm.MethodName) prog_11_method_35_code (3 : Nat) (Option.some Jvm.ClassFile.FieldType.int)) ∈ GW := gwm 1203 (by decide +kernel) rfl
theorem gw_1204 : (Jvm.Cond.methodLink "RunningCountModel" (160 : Nat) ({ cls := "RunningCountModel", name := "isThere", desc := "(II)Z" } : Jvm.MethodName)) ∈ GW := gwm 1204 (by decide +kernel) rfl
theorem gw_1206 : (Jvm.Cond.instanceMethod ({ cls := "RunningCountModel", name := "isThere", desc := "(II)Z" } : Jvm.MethodName)) ∈ GW := gwm 1206 (by decide +kernel) rfl
theorem gw_1207 : (Jvm.Cond.code ({ cls := "RunningCountModel", name := "isThere", desc := "(II)Z" } : Jvm.MethodName) prog_11_method_37_code (3 : Nat) (Option.some Jvm.ClassFile.FieldType.boolean)) ∈ GW := gwm 1207 (by decide +kernel) rfl
theorem gw_1208 : (Jvm.Cond.methodLink "RunningCountModel" (156 : Nat) ({ cls := "RunningCountModel", name := "leg", desc := "(III)I" } : Jvm.MethodName)) ∈ GW := gwm 1208 (by decide +kernel) rfl
theorem gw_1210 : (Jvm.Cond.instanceMethod ({ cls := "RunningCountModel", name := "leg", desc := "(III)I" } : Jvm.MethodName)) ∈ GW := gwm 1210 (by decide +kernel) rfl
theorem gw_1211 : (Jvm.Cond.code ({ cls := "RunningCountModel", name := "leg", desc := "(III)I" } : Jvm.MethodName) prog_11_method_36_code (4 : Nat) (Option.some Jvm.ClassFile.FieldType.int)) ∈ GW := gwm 1211 (by decide +kernel) rfl
theorem gw_1212 : (Jvm.Cond.methodLink "RunningCountLaw" (63 : Nat) ({ cls := "RunningCountModel", name := "book", desc := "(IIII)I" } : Jvm.MethodName)) ∈ GW := gwm 1212 (by decide +kernel) rfl
theorem gw_1213 : (Jvm.Cond.instanceMethod ({ cls := "RunningCountModel", name := "book", desc := "(IIII)I" } : Jvm.MethodName)) ∈ GW := gwm 1213 (by decide +kernel) rfl
theorem gw_1214 : (Jvm.Cond.selects "RunningCountModel" ({ cls := "RunningCountModel", name := "book", desc := "(IIII)I" } : Jvm.MethodName) ({ cls := "RunningCountModel", name := "book", desc := "(IIII)I" } : Jvm.MethodName)) ∈ GW := gwm 1214 (by decide +kernel) rfl
theorem gw_1215 : (Jvm.Cond.code ({ cls := "RunningCountModel", name := "book", desc := "(IIII)I" } : Jvm.MethodName) prog_11_method_49_code (5 : Nat) (Option.some Jvm.ClassFile.FieldType.int)) ∈ GW := gwm 1215 (by decide +kernel) rfl
theorem gw_1216 : (Jvm.Cond.methodLink "RunningCountModel" (200 : Nat) ({ cls := "RunningCountModel", name := "isShelf", desc := "(I)Z" } : Jvm.MethodName)) ∈ GW := gwm 1216 (by decide +kernel) rfl
theorem gw_1218 : (Jvm.Cond.instanceMethod ({ cls := "RunningCountModel", name := "isShelf", desc := "(I)Z" } : Jvm.MethodName)) ∈ GW := gwm 1218 (by decide +kernel) rfl
theorem gw_1219 : (Jvm.Cond.code ({ cls := "RunningCountModel", name := "isShelf", desc := "(I)Z" } : Jvm.MethodName) prog_11_method_30_code (2 : Nat) (Option.some Jvm.ClassFile.FieldType.boolean)) ∈ GW := gwm 1219 (by decide +kernel) rfl
theorem gw_1220 : (Jvm.Cond.methodLink "RunningCountModel" (203 : Nat) ({ cls := "RunningCountModel", name := "isInstant", desc := "(I)Z" } : Jvm.MethodName)) ∈ GW := gwm 1220 (by decide +kernel) rfl
theorem gw_1221 : (Jvm.Cond.static ({ cls := "RunningCountModel", name := "isInstant", desc := "(I)Z" } : Jvm.MethodName)) ∈ GW := gwm 1221 (by decide +kernel) rfl
theorem gw_1222 : (Jvm.Cond.code ({ cls := "RunningCountModel", name := "isInstant", desc := "(I)Z" } : Jvm.MethodName) prog_11_method_34_code (1 : Nat) (Option.some Jvm.ClassFile.FieldType.boolean)) ∈ GW := gwm 1222 (by decide +kernel) rfl
theorem gw_1223 : (Jvm.Cond.constant "RunningCountModel" (206 : Nat) (-100000000 : Int32)) ∈ GW := gwm 1223 (by decide +kernel) rfl
theorem gw_1224 : (Jvm.Cond.methodLink "RunningCountModel" (180 : Nat) ({ cls := "RunningCountModel", name := "sure", desc := "(III)I" } : Jvm.MethodName)) ∈ GW := gwm 1224 (by decide +kernel) rfl
theorem gw_1226 : (Jvm.Cond.instanceMethod ({ cls := "RunningCountModel", name := "sure", desc := "(III)I" } : Jvm.MethodName)) ∈ GW := gwm 1226 (by decide +kernel) rfl
theorem gw_1227 : (Jvm.Cond.code ({ cls := "RunningCountModel", name := "sure", desc := "(III)I" } : Jvm.MethodName) prog_11_method_42_code (7 : Nat) (Option.some Jvm.ClassFile.FieldType.int)) ∈ GW := gwm 1227 (by decide +kernel) rfl
theorem gw_1228 : (Jvm.Cond.methodLink "RunningCountModel" (173 : Nat) ({ cls := "RunningCountModel", name := "isAt", desc := "(IIII)Z" } : Jvm.MethodName)) ∈ GW := gwm 1228 (by decide +kernel) rfl
theorem gw_1230 : (Jvm.Cond.instanceMethod ({ cls := "RunningCountModel", name := "isAt", desc := "(IIII)Z" } : Jvm.MethodName)) ∈ GW := gwm 1230 (by decide +kernel) rfl
theorem gw_1231 : (Jvm.Cond.code ({ cls := "RunningCountModel", name := "isAt", desc := "(IIII)Z" } : Jvm.MethodName) prog_11_method_38_code (5 : Nat) (Option.some Jvm.ClassFile.FieldType.boolean)) ∈ GW := gwm 1231 (by decide +kernel) rfl
theorem gw_1232 : (Jvm.Cond.methodLink "RunningCountModel" (167 : Nat) ({ cls := "RunningCountModel", name := "isOver", desc := "(III)Z" } : Jvm.MethodName)) ∈ GW := gwm 1232 (by decide +kernel) rfl
theorem gw_1234 : (Jvm.Cond.instanceMethod ({ cls := "RunningCountModel", name := "isOver", desc := "(III)Z" } : Jvm.MethodName)) ∈ GW := gwm 1234 (by decide +kernel) rfl
theorem gw_1235 : (Jvm.Cond.code ({ cls := "RunningCountModel", name := "isOver", desc := "(III)Z" } : Jvm.MethodName) prog_11_method_39_code (4 : Nat) (Option.some Jvm.ClassFile.FieldType.boolean)) ∈ GW := gwm 1235 (by decide +kernel) rfl
theorem gw_1236 : (Jvm.Cond.methodLink "RunningCountModel" (207 : Nat) ({ cls := "RunningCountModel", name := "least", desc := "(III)I" } : Jvm.MethodName)) ∈ GW := gwm 1236 (by decide +kernel) rfl
theorem gw_1238 : (Jvm.Cond.instanceMethod ({ cls := "RunningCountModel", name := "least", desc := "(III)I" } : Jvm.MethodName)) ∈ GW := gwm 1238 (by decide +kernel) rfl
theorem gw_1239 : (Jvm.Cond.code ({ cls := "RunningCountModel", name := "least", desc := "(III)I" } : Jvm.MethodName) prog_11_method_44_code (4 : Nat) (Option.some Jvm.ClassFile.FieldType.int)) ∈ GW := gwm 1239 (by decide +kernel) rfl
theorem gw_1240 : (Jvm.Cond.methodLink "RunningCountModel" (183 : Nat) ({ cls := "RunningCountModel", name := "doubtful", desc := "(IIII)I" } : Jvm.MethodName)) ∈ GW := gwm 1240 (by decide +kernel) rfl
theorem gw_1242 : (Jvm.Cond.instanceMethod ({ cls := "RunningCountModel", name := "doubtful", desc := "(IIII)I" } : Jvm.MethodName)) ∈ GW := gwm 1242 (by decide +kernel) rfl
theorem gw_1243 : (Jvm.Cond.code ({ cls := "RunningCountModel", name := "doubtful", desc := "(IIII)I" } : Jvm.MethodName) prog_11_method_43_code (7 : Nat) (Option.some Jvm.ClassFile.FieldType.int)) ∈ GW := gwm 1243 (by decide +kernel) rfl
theorem gw_1244 : (Jvm.Cond.methodLink "RunningCountModel" (177 : Nat) ({ cls := "RunningCountModel", name := "isDoubtful", desc := "(III)Z" } : Jvm.MethodName)) ∈ GW := gwm 1244 (by decide +kernel) rfl
theorem gw_1246 : (Jvm.Cond.instanceMethod ({ cls := "RunningCountModel", name := "isDoubtful", desc := "(III)Z" } : Jvm.MethodName)) ∈ GW := gwm 1246 (by decide +kernel) rfl
theorem gw_1247 : (Jvm.Cond.code ({ cls := "RunningCountModel", name := "isDoubtful", desc := "(III)Z" } : Jvm.MethodName) prog_11_method_41_code (4 : Nat) (Option.some Jvm.ClassFile.FieldType.boolean)) ∈ GW := gwm 1247 (by decide +kernel) rfl
theorem gw_1248 : (Jvm.Cond.methodLink "RunningCountModel" (170 : Nat) ({ cls := "RunningCountModel", name := "isToCome", desc := "(III)Z" } : Jvm.MethodName)) ∈ GW := gwm 1248 (by decide +kernel) rfl
theorem gw_1250 : (Jvm.Cond.instanceMethod ({ cls := "RunningCountModel", name := "isToCome", desc := "(III)Z" } : Jvm.MethodName)) ∈ GW := gwm 1250 (by decide +kernel) rfl
theorem gw_1251 : (Jvm.Cond.code ({ cls := "RunningCountModel", name := "isToCome", desc := "(III)Z" } : Jvm.MethodName) prog_11_method_40_code (4 : Nat) (Option.some Jvm.ClassFile.FieldType.boolean)) ∈ GW := gwm 1251 (by decide +kernel) rfl
theorem gw_1252 : (Jvm.Cond.methodLink "RunningCountModel" (210 : Nat) ({ cls := "RunningCountModel", name := "most", desc := "(III)I" } : Jvm.MethodName)) ∈ GW := gwm 1252 (by decide +kernel) rfl
theorem gw_1254 : (Jvm.Cond.instanceMethod ({ cls := "RunningCountModel", name := "most", desc := "(III)I" } : Jvm.MethodName)) ∈ GW := gwm 1254 (by decide +kernel) rfl
theorem gw_1255 : (Jvm.Cond.code ({ cls := "RunningCountModel", name := "most", desc := "(III)I" } : Jvm.MethodName) prog_11_method_45_code (4 : Nat) (Option.some Jvm.ClassFile.FieldType.int)) ∈ GW := gwm 1255 (by decide +kernel) rfl
theorem gw_1256 : (Jvm.Cond.methodLink "RunningCountLaw" (68 : Nat) ({ cls := "RunningCountModel", name := "transit", desc := "(III)I" } : Jvm.MethodName)) ∈ GW := gwm 1256 (by decide +kernel) rfl
theorem gw_1257 : (Jvm.Cond.instanceMethod ({ cls := "RunningCountModel", name := "transit", desc := "(III)I" } : Jvm.MethodName)) ∈ GW := gwm 1257 (by decide +kernel) rfl
theorem gw_1258 : (Jvm.Cond.selects "RunningCountModel" ({ cls := "RunningCountModel", name := "transit", desc := "(III)I" } : Jvm.MethodName) ({ cls := "RunningCountModel", name := "transit", desc := "(III)I" } : Jvm.MethodName)) ∈ GW := gwm 1258 (by decide +kernel) rfl
theorem gw_1259 : (Jvm.Cond.code ({ cls := "RunningCountModel", name := "transit", desc := "(III)I" } : Jvm.MethodName) prog_11_method_50_code (6 : Nat) (Option.some Jvm.ClassFile.FieldType.int)) ∈ GW := gwm 1259 (by decide +kernel) rfl
theorem gw_1260 : (Jvm.Cond.methodLink "RunningCountLaw" (72 : Nat) ({ cls := "RunningCountModel", name := "below", desc := "(II)I" } : Jvm.MethodName)) ∈ GW := gwm 1260 (by decide +kernel) rfl
theorem gw_1261 : (Jvm.Cond.instanceMethod ({ cls := "RunningCountModel", name := "below", desc := "(II)I" } : Jvm.MethodName)) ∈ GW := gwm 1261 (by decide +kernel) rfl
theorem gw_1262 : (Jvm.Cond.selects "RunningCountModel" ({ cls := "RunningCountModel", name := "below", desc := "(II)I" } : Jvm.MethodName) ({ cls := "RunningCountModel", name := "below", desc := "(II)I" } : Jvm.MethodName)) ∈ GW := gwm 1262 (by decide +kernel) rfl
theorem gw_1263 : (Jvm.Cond.code ({ cls := "RunningCountModel", name := "below", desc := "(II)I" } : Jvm.MethodName) prog_11_method_51_code (4 : Nat) (Option.some Jvm.ClassFile.FieldType.int)) ∈ GW := gwm 1263 (by decide +kernel) rfl
theorem gw_1264 : (Jvm.Cond.methodLink "RunningCountLaw" (75 : Nat) ({ cls := "RunningCountModel", name := "count", desc := "(II)I" } : Jvm.MethodName)) ∈ GW := gwm 1264 (by decide +kernel) rfl
theorem gw_1265 : (Jvm.Cond.instanceMethod ({ cls := "RunningCountModel", name := "count", desc := "(II)I" } : Jvm.MethodName)) ∈ GW := gwm 1265 (by decide +kernel) rfl
theorem gw_1266 : (Jvm.Cond.selects "RunningCountModel" ({ cls := "RunningCountModel", name := "count", desc := "(II)I" } : Jvm.MethodName) ({ cls := "RunningCountModel", name := "count", desc := "(II)I" } : Jvm.MethodName)) ∈ GW := gwm 1266 (by decide +kernel) rfl
theorem gw_1267 : (Jvm.Cond.code ({ cls := "RunningCountModel", name := "count", desc := "(II)I" } : Jvm.MethodName) prog_11_method_58_code (3 : Nat) (Option.some Jvm.ClassFile.FieldType.int)) ∈ GW := gwm 1267 (by decide +kernel) rfl
theorem gw_1268 : (Jvm.Cond.methodLink "RunningCountModel" (219 : Nat) ({ cls := "RunningCountModel", name := "isCount", desc := "(I)Z" } : Jvm.MethodName)) ∈ GW := gwm 1268 (by decide +kernel) rfl
theorem gw_1270 : (Jvm.Cond.instanceMethod ({ cls := "RunningCountModel", name := "isCount", desc := "(I)Z" } : Jvm.MethodName)) ∈ GW := gwm 1270 (by decide +kernel) rfl
theorem gw_1271 : (Jvm.Cond.code ({ cls := "RunningCountModel", name := "isCount", desc := "(I)Z" } : Jvm.MethodName) prog_11_method_33_code (2 : Nat) (Option.some Jvm.ClassFile.FieldType.boolean)) ∈ GW := gwm 1271 (by decide +kernel) rfl
theorem gw_1272 : (Jvm.Cond.methodLink "RunningCountModel" (222 : Nat) ({ cls := "RunningCountModel", name := "allowed", desc := "(I)I" } : Jvm.MethodName)) ∈ GW := gwm 1272 (by decide +kernel) rfl
theorem gw_1274 : (Jvm.Cond.instanceMethod ({ cls := "RunningCountModel", name := "allowed", desc := "(I)I" } : Jvm.MethodName)) ∈ GW := gwm 1274 (by decide +kernel) rfl
theorem gw_1275 : (Jvm.Cond.code ({ cls := "RunningCountModel", name := "allowed", desc := "(I)I" } : Jvm.MethodName) prog_11_method_55_code (5 : Nat) (Option.some Jvm.ClassFile.FieldType.int)) ∈ GW := gwm 1275 (by decide +kernel) rfl
theorem gw_1276 : (Jvm.Cond.methodLink "RunningCountModel" (216 : Nat) ({ cls := "RunningCountModel", name := "sureOf", desc := "(I)I" } : Jvm.MethodName)) ∈ GW := gwm 1276 (by decide +kernel) rfl
theorem gw_1278 : (Jvm.Cond.instanceMethod ({ cls := "RunningCountModel", name := "sureOf", desc := "(I)I" } : Jvm.MethodName)) ∈ GW := gwm 1278 (by decide +kernel) rfl
theorem gw_1279 : (Jvm.Cond.code ({ cls := "RunningCountModel", name := "sureOf", desc := "(I)I" } : Jvm.MethodName) prog_11_method_53_code (2 : Nat) (Option.some Jvm.ClassFile.FieldType.int)) ∈ GW := gwm 1279 (by decide +kernel) rfl
theorem gw_1280 : (Jvm.Cond.methodLink "RunningCountLaw" (79 : Nat) ({ cls := "RunningCountModel", name := "difference", desc := "(I)I" } : Jvm.MethodName)) ∈ GW := gwm 1280 (by decide +kernel) rfl
theorem gw_1281 : (Jvm.Cond.instanceMethod ({ cls := "RunningCountModel", name := "difference", desc := "(I)I" } : Jvm.MethodName)) ∈ GW := gwm 1281 (by decide +kernel) rfl
theorem gw_1282 : (Jvm.Cond.selects "RunningCountModel" ({ cls := "RunningCountModel", name := "difference", desc := "(I)I" } : Jvm.MethodName) ({ cls := "RunningCountModel", name := "difference", desc := "(I)I" } : Jvm.MethodName)) ∈ GW := gwm 1282 (by decide +kernel) rfl
theorem gw_1283 : (Jvm.Cond.code ({ cls := "RunningCountModel", name := "difference", desc := "(I)I" } : Jvm.MethodName) prog_11_method_59_code (2 : Nat) (Option.some Jvm.ClassFile.FieldType.int)) ∈ GW := gwm 1283 (by decide +kernel) rfl
theorem gw_1284 : (Jvm.Cond.methodLink "RunningCountModel" (225 : Nat) ({ cls := "RunningCountModel", name := "differenceOf", desc := "(I)I" } : Jvm.MethodName)) ∈ GW := gwm 1284 (by decide +kernel) rfl
theorem gw_1286 : (Jvm.Cond.instanceMethod ({ cls := "RunningCountModel", name := "differenceOf", desc := "(I)I" } : Jvm.MethodName)) ∈ GW := gwm 1286 (by decide +kernel) rfl
theorem gw_1287 : (Jvm.Cond.code ({ cls := "RunningCountModel", name := "differenceOf", desc := "(I)I" } : Jvm.MethodName) prog_11_method_54_code (5 : Nat) (Option.some Jvm.ClassFile.FieldType.int)) ∈ GW := gwm 1287 (by decide +kernel) rfl
theorem gw_1288 : (Jvm.Cond.methodLink "RunningCountLaw" (83 : Nat) ({ cls := "RunningCountModel", name := "share", desc := "(I)I" } : Jvm.MethodName)) ∈ GW := gwm 1288 (by decide +kernel) rfl
theorem gw_1289 : (Jvm.Cond.instanceMethod ({ cls := "RunningCountModel", name := "share", desc := "(I)I" } : Jvm.MethodName)) ∈ GW := gwm 1289 (by decide +kernel) rfl
theorem gw_1290 : (Jvm.Cond.selects "RunningCountModel" ({ cls := "RunningCountModel", name := "share", desc := "(I)I" } : Jvm.MethodName) ({ cls := "RunningCountModel", name := "share", desc := "(I)I" } : Jvm.MethodName)) ∈ GW := gwm 1290 (by decide +kernel) rfl
theorem gw_1291 : (Jvm.Cond.code ({ cls := "RunningCountModel", name := "share", desc := "(I)I" } : Jvm.MethodName) prog_11_method_60_code (3 : Nat) (Option.some Jvm.ClassFile.FieldType.int)) ∈ GW := gwm 1291 (by decide +kernel) rfl
theorem gw_1292 : (Jvm.Cond.constantFloat "RunningCountModel" (228 : Nat) (1148846080 : UInt32)) ∈ GW := gwm 1292 (by decide +kernel) rfl
theorem gw_1293 : (Jvm.Cond.methodLink "RunningCountLaw" (87 : Nat) ({ cls := "RunningCountModel", name := "chosen", desc := "(II)I" } : Jvm.MethodName)) ∈ GW := gwm 1293 (by decide +kernel) rfl
theorem gw_1294 : (Jvm.Cond.instanceMethod ({ cls := "RunningCountModel", name := "chosen", desc := "(II)I" } : Jvm.MethodName)) ∈ GW := gwm 1294 (by decide +kernel) rfl
theorem gw_1295 : (Jvm.Cond.selects "RunningCountModel" ({ cls := "RunningCountModel", name := "chosen", desc := "(II)I" } : Jvm.MethodName) ({ cls := "RunningCountModel", name := "chosen", desc := "(II)I" } : Jvm.MethodName)) ∈ GW := gwm 1295 (by decide +kernel) rfl
theorem gw_1296 : (Jvm.Cond.code ({ cls := "RunningCountModel", name := "chosen", desc := "(II)I" } : Jvm.MethodName) prog_11_method_64_code (3 : Nat) (Option.some Jvm.ClassFile.FieldType.int)) ∈ GW := gwm 1296 (by decide +kernel) rfl
theorem gw_1297 : (Jvm.Cond.methodLink "RunningCountModel" (242 : Nat) ({ cls := "RunningCountModel", name := "choose", desc := "(II)I" } : Jvm.MethodName)) ∈ GW := gwm 1297 (by decide +kernel) rfl
theorem gw_1299 : (Jvm.Cond.instanceMethod ({ cls := "RunningCountModel", name := "choose", desc := "(II)I" } : Jvm.MethodName)) ∈ GW := gwm 1299 (by decide +kernel) rfl
theorem gw_1300 : (Jvm.Cond.code ({ cls := "RunningCountModel", name := "choose", desc := "(II)I" } : Jvm.MethodName) prog_11_method_63_code (6 : Nat) (Option.some Jvm.ClassFile.FieldType.int)) ∈ GW := gwm 1300 (by decide +kernel) rfl
theorem gw_1301 : (Jvm.Cond.methodLink "RunningCountModel" (235 : Nat) ({ cls := "RunningCountModel", name := "laysOpen", desc := "(II)V" } : Jvm.MethodName)) ∈ GW := gwm 1301 (by decide +kernel) rfl
theorem gw_1303 : (Jvm.Cond.instanceMethod ({ cls := "RunningCountModel", name := "laysOpen", desc := "(II)V" } : Jvm.MethodName)) ∈ GW := gwm 1303 (by decide +kernel) rfl
theorem gw_1304 : (Jvm.Cond.code ({ cls := "RunningCountModel", name := "laysOpen", desc := "(II)V" } : Jvm.MethodName) prog_11_method_61_code (5 : Nat) (Option.none : Option Jvm.ClassFile.FieldType)) ∈ GW := gwm 1304 (by decide +kernel) rfl
theorem gw_1305 : (Jvm.Cond.methodLink "RunningCountModel" (232 : Nat) ({ cls := "RunningCountModel", name := "isOpenAt", desc := "(III)Z" } : Jvm.MethodName)) ∈ GW := gwm 1305 (by decide +kernel) rfl
theorem gw_1307 : (Jvm.Cond.instanceMethod ({ cls := "RunningCountModel", name := "isOpenAt", desc := "(III)Z" } : Jvm.MethodName)) ∈ GW := gwm 1307 (by decide +kernel) rfl
theorem gw_1308 : (Jvm.Cond.code ({ cls := "RunningCountModel", name := "isOpenAt", desc := "(III)Z" } : Jvm.MethodName) prog_11_method_56_code (4 : Nat) (Option.some Jvm.ClassFile.FieldType.boolean)) ∈ GW := gwm 1308 (by decide +kernel) rfl
theorem gw_1309 : (Jvm.Cond.methodLink "RunningCountModel" (239 : Nat) ({ cls := "RunningCountModel", name := "far", desc := "(II)I" } : Jvm.MethodName)) ∈ GW := gwm 1309 (by decide +kernel) rfl
theorem gw_1310 : (Jvm.Cond.static ({ cls := "RunningCountModel", name := "far", desc := "(II)I" } : Jvm.MethodName)) ∈ GW := gwm 1310 (by decide +kernel) rfl
theorem gw_1311 : (Jvm.Cond.code ({ cls := "RunningCountModel", name := "far", desc := "(II)I" } : Jvm.MethodName) prog_11_method_62_code (2 : Nat) (Option.some Jvm.ClassFile.FieldType.int)) ∈ GW := gwm 1311 (by decide +kernel) rfl
theorem gw_1312 : (Jvm.Cond.methodLink "RunningCountLaw" (91 : Nat) ({ cls := "RunningCountModel", name := "due", desc := "()I" } : Jvm.MethodName)) ∈ GW := gwm 1312 (by decide +kernel) rfl
theorem gw_1313 : (Jvm.Cond.instanceMethod ({ cls := "RunningCountModel", name := "due", desc := "()I" } : Jvm.MethodName)) ∈ GW := gwm 1313 (by decide +kernel) rfl
theorem gw_1314 : (Jvm.Cond.selects "RunningCountModel" ({ cls := "RunningCountModel", name := "due", desc := "()I" } : Jvm.MethodName) ({ cls := "RunningCountModel", name := "due", desc := "()I" } : Jvm.MethodName)) ∈ GW := gwm 1314 (by decide +kernel) rfl
theorem gw_1315 : (Jvm.Cond.code ({ cls := "RunningCountModel", name := "due", desc := "()I" } : Jvm.MethodName) prog_11_method_65_code (3 : Nat) (Option.some Jvm.ClassFile.FieldType.int)) ∈ GW := gwm 1315 (by decide +kernel) rfl
theorem gw_1316 : (Jvm.Cond.methodLink "RunningCountLaw" (95 : Nat) ({ cls := "RunningCountModel", name := "explained", desc := "(II)I" } : Jvm.MethodName)) ∈ GW := gwm 1316 (by decide +kernel) rfl
theorem gw_1317 : (Jvm.Cond.instanceMethod ({ cls := "RunningCountModel", name := "explained", desc := "(II)I" } : Jvm.MethodName)) ∈ GW := gwm 1317 (by decide +kernel) rfl
theorem gw_1318 : (Jvm.Cond.selects "RunningCountModel" ({ cls := "RunningCountModel", name := "explained", desc := "(II)I" } : Jvm.MethodName) ({ cls := "RunningCountModel", name := "explained", desc := "(II)I" } : Jvm.MethodName)) ∈ GW := gwm 1318 (by decide +kernel) rfl
theorem gw_1319 : (Jvm.Cond.code ({ cls := "RunningCountModel", name := "explained", desc := "(II)I" } : Jvm.MethodName) prog_11_method_66_code (9 : Nat) (Option.some Jvm.ClassFile.FieldType.int)) ∈ GW := gwm 1319 (by decide +kernel) rfl
theorem gw_1320 : (Jvm.Cond.methodLink "RunningCountLaw" (99 : Nat) ({ cls := "RunningCountModel", name := "adjusted", desc := "(II)I" } : Jvm.MethodName)) ∈ GW := gwm 1320 (by decide +kernel) rfl
theorem gw_1321 : (Jvm.Cond.instanceMethod ({ cls := "RunningCountModel", name := "adjusted", desc := "(II)I" } : Jvm.MethodName)) ∈ GW := gwm 1321 (by decide +kernel) rfl
theorem gw_1322 : (Jvm.Cond.selects "RunningCountModel" ({ cls := "RunningCountModel", name := "adjusted", desc := "(II)I" } : Jvm.MethodName) ({ cls := "RunningCountModel", name := "adjusted", desc := "(II)I" } : Jvm.MethodName)) ∈ GW := gwm 1322 (by decide +kernel) rfl
theorem gw_1323 : (Jvm.Cond.code ({ cls := "RunningCountModel", name := "adjusted", desc := "(II)I" } : Jvm.MethodName) prog_11_method_67_code (3 : Nat) (Option.some Jvm.ClassFile.FieldType.int)) ∈ GW := gwm 1323 (by decide +kernel) rfl
theorem gw_1324 : (Jvm.Cond.methodLink "RunningCountLaw" (103 : Nat) ({ cls := "RunningCountModel", name := "moves", desc := "(II)I" } : Jvm.MethodName)) ∈ GW := gwm 1324 (by decide +kernel) rfl
theorem gw_1325 : (Jvm.Cond.instanceMethod ({ cls := "RunningCountModel", name := "moves", desc := "(II)I" } : Jvm.MethodName)) ∈ GW := gwm 1325 (by decide +kernel) rfl
theorem gw_1326 : (Jvm.Cond.selects "RunningCountModel" ({ cls := "RunningCountModel", name := "moves", desc := "(II)I" } : Jvm.MethodName) ({ cls := "RunningCountModel", name := "moves", desc := "(II)I" } : Jvm.MethodName)) ∈ GW := gwm 1326 (by decide +kernel) rfl
theorem gw_1327 : (Jvm.Cond.code ({ cls := "RunningCountModel", name := "moves", desc := "(II)I" } : Jvm.MethodName) prog_11_method_69_code (5 : Nat) (Option.some Jvm.ClassFile.FieldType.int)) ∈ GW := gwm 1327 (by decide +kernel) rfl
theorem gw_1328 : (Jvm.Cond.methodLink "RunningCountModel" (245 : Nat) ({ cls := "RunningCountModel", name := "snap", desc := "()V" } : Jvm.MethodName)) ∈ GW := gwm 1328 (by decide +kernel) rfl
theorem gw_1330 : (Jvm.Cond.instanceMethod ({ cls := "RunningCountModel", name := "snap", desc := "()V" } : Jvm.MethodName)) ∈ GW := gwm 1330 (by decide +kernel) rfl
theorem gw_1331 : (Jvm.Cond.code ({ cls := "RunningCountModel", name := "snap", desc := "()V" } : Jvm.MethodName) prog_11_method_68_code (2 : Nat) (Option.none : Option Jvm.ClassFile.FieldType)) ∈ GW := gwm 1331 (by decide +kernel) rfl
theorem gw_1332 : (Jvm.Cond.methodLink "RunningCountLaw" (108 : Nat) ({ cls := "RunningCountModel", name := "leg", desc := "(IIIII)Z" } : Jvm.MethodName)) ∈ GW := gwm 1332 (by decide +kernel) rfl
theorem gw_1333 : (Jvm.Cond.instanceMethod ({ cls := "RunningCountModel", name := "leg", desc := "(IIIII)Z" } : Jvm.MethodName)) ∈ GW := gwm 1333 (by decide +kernel) rfl
theorem gw_1334 : (Jvm.Cond.selects "RunningCountModel" ({ cls := "RunningCountModel", name := "leg", desc := "(IIIII)Z" } : Jvm.MethodName) ({ cls := "RunningCountModel", name := "leg", desc := "(IIIII)Z" } : Jvm.MethodName)) ∈ GW := gwm 1334 (by decide +kernel) rfl
theorem gw_1335 : (Jvm.Cond.code ({ cls := "RunningCountModel", name := "leg", desc := "(IIIII)Z" } : Jvm.MethodName) prog_11_method_71_code (7 : Nat) (Option.some Jvm.ClassFile.FieldType.boolean)) ∈ GW := gwm 1335 (by decide +kernel) rfl
theorem gw_1336 : (Jvm.Cond.methodLink "RunningCountModel" (248 : Nat) ({ cls := "RunningCountModel", name := "isSpan", desc := "(II)Z" } : Jvm.MethodName)) ∈ GW := gwm 1336 (by decide +kernel) rfl
theorem gw_1337 : (Jvm.Cond.static ({ cls := "RunningCountModel", name := "isSpan", desc := "(II)Z" } : Jvm.MethodName)) ∈ GW := gwm 1337 (by decide +kernel) rfl
theorem gw_1338 : (Jvm.Cond.code ({ cls := "RunningCountModel", name := "isSpan", desc := "(II)Z" } : Jvm.MethodName) prog_11_method_70_code (2 : Nat) (Option.some Jvm.ClassFile.FieldType.boolean)) ∈ GW := gwm 1338 (by decide +kernel) rfl
theorem gw_1339 : (Jvm.Cond.methodLink "RunningCountLaw" (112 : Nat) ({ cls := "RunningCountModel", name := "narrow", desc := "(IIII)I" } : Jvm.MethodName)) ∈ GW := gwm 1339 (by decide +kernel) rfl
theorem gw_1340 : (Jvm.Cond.instanceMethod ({ cls := "RunningCountModel", name := "narrow", desc := "(IIII)I" } : Jvm.MethodName)) ∈ GW := gwm 1340 (by decide +kernel) rfl
theorem gw_1341 : (Jvm.Cond.selects "RunningCountModel" ({ cls := "RunningCountModel", name := "narrow", desc := "(IIII)I" } : Jvm.MethodName) ({ cls := "RunningCountModel", name := "narrow", desc := "(IIII)I" } : Jvm.MethodName)) ∈ GW := gwm 1341 (by decide +kernel) rfl
theorem gw_1342 : (Jvm.Cond.code ({ cls := "RunningCountModel", name := "narrow", desc := "(IIII)I" } : Jvm.MethodName) prog_11_method_72_code (7 : Nat) (Option.some Jvm.ClassFile.FieldType.int)) ∈ GW := gwm 1342 (by decide +kernel) rfl
theorem gw_1343 : (Jvm.Cond.methodLink "RunningCountLaw" (116 : Nat) ({ cls := "RunningCountModel", name := "counts", desc := "(IIIII)I" } : Jvm.MethodName)) ∈ GW := gwm 1343 (by decide +kernel) rfl
theorem gw_1344 : (Jvm.Cond.instanceMethod ({ cls := "RunningCountModel", name := "counts", desc := "(IIIII)I" } : Jvm.MethodName)) ∈ GW := gwm 1344 (by decide +kernel) rfl
theorem gw_1345 : (Jvm.Cond.selects "RunningCountModel" ({ cls := "RunningCountModel", name := "counts", desc := "(IIIII)I" } : Jvm.MethodName) ({ cls := "RunningCountModel", name := "counts", desc := "(IIIII)I" } : Jvm.MethodName)) ∈ GW := gwm 1345 (by decide +kernel) rfl
theorem gw_1346 : (Jvm.Cond.code ({ cls := "RunningCountModel", name := "counts", desc := "(IIIII)I" } : Jvm.MethodName) prog_11_method_74_code (8 : Nat) (Option.some Jvm.ClassFile.FieldType.int)) ∈ GW := gwm 1346 (by decide +kernel) rfl
theorem gw_1347 : (Jvm.Cond.methodLink "RunningCountModel" (251 : Nat) ({ cls := "RunningCountModel", name := "whyNot", desc := "(IIII)I" } : Jvm.MethodName)) ∈ GW := gwm 1347 (by decide +kernel) rfl
theorem gw_1349 : (Jvm.Cond.instanceMethod ({ cls := "RunningCountModel", name := "whyNot", desc := "(IIII)I" } : Jvm.MethodName)) ∈ GW := gwm 1349 (by decide +kernel) rfl
theorem gw_1350 : (Jvm.Cond.code ({ cls := "RunningCountModel", name := "whyNot", desc := "(IIII)I" } : Jvm.MethodName) prog_11_method_73_code (8 : Nat) (Option.some Jvm.ClassFile.FieldType.int)) ∈ GW := gwm 1350 (by decide +kernel) rfl
theorem gw_1351 : (Jvm.Cond.methodLink "RunningCountLaw" (120 : Nat) ({ cls := "RunningCountModel", name := "post", desc := "(II)I" } : Jvm.MethodName)) ∈ GW := gwm 1351 (by decide +kernel) rfl
theorem gw_1352 : (Jvm.Cond.instanceMethod ({ cls := "RunningCountModel", name := "post", desc := "(II)I" } : Jvm.MethodName)) ∈ GW := gwm 1352 (by decide +kernel) rfl
theorem gw_1353 : (Jvm.Cond.selects "RunningCountModel" ({ cls := "RunningCountModel", name := "post", desc := "(II)I" } : Jvm.MethodName) ({ cls := "RunningCountModel", name := "post", desc := "(II)I" } : Jvm.MethodName)) ∈ GW := gwm 1353 (by decide +kernel) rfl
theorem gw_1354 : (Jvm.Cond.code ({ cls := "RunningCountModel", name := "post", desc := "(II)I" } : Jvm.MethodName) prog_11_method_75_code (7 : Nat) (Option.some Jvm.ClassFile.FieldType.int)) ∈ GW := gwm 1354 (by decide +kernel) rfl
theorem gw_1355 : (Jvm.Cond.methodLink "RunningCountLaw" (124 : Nat) ({ cls := "RunningCountModel", name := "drop", desc := "(I)Z" } : Jvm.MethodName)) ∈ GW := gwm 1355 (by decide +kernel) rfl
theorem gw_1356 : (Jvm.Cond.instanceMethod ({ cls := "RunningCountModel", name := "drop", desc := "(I)Z" } : Jvm.MethodName)) ∈ GW := gwm 1356 (by decide +kernel) rfl
theorem gw_1357 : (Jvm.Cond.selects "RunningCountModel" ({ cls := "RunningCountModel", name := "drop", desc := "(I)Z" } : Jvm.MethodName) ({ cls := "RunningCountModel", name := "drop", desc := "(I)Z" } : Jvm.MethodName)) ∈ GW := gwm 1357 (by decide +kernel) rfl
theorem gw_1358 : (Jvm.Cond.code ({ cls := "RunningCountModel", name := "drop", desc := "(I)Z" } : Jvm.MethodName) prog_11_method_76_code (3 : Nat) (Option.some Jvm.ClassFile.FieldType.boolean)) ∈ GW := gwm 1358 (by decide +kernel) rfl
theorem gw_1359 : (Jvm.Cond.methodLink "RunningCountLaw" (128 : Nat) ({ cls := "RunningCountModel", name := "undo", desc := "()I" } : Jvm.MethodName)) ∈ GW := gwm 1359 (by decide +kernel) rfl
theorem gw_1360 : (Jvm.Cond.instanceMethod ({ cls := "RunningCountModel", name := "undo", desc := "()I" } : Jvm.MethodName)) ∈ GW := gwm 1360 (by decide +kernel) rfl
theorem gw_1361 : (Jvm.Cond.selects "RunningCountModel" ({ cls := "RunningCountModel", name := "undo", desc := "()I" } : Jvm.MethodName) ({ cls := "RunningCountModel", name := "undo", desc := "()I" } : Jvm.MethodName)) ∈ GW := gwm 1361 (by decide +kernel) rfl
theorem gw_1362 : (Jvm.Cond.code ({ cls := "RunningCountModel", name := "undo", desc := "()I" } : Jvm.MethodName) prog_11_method_77_code (2 : Nat) (Option.some Jvm.ClassFile.FieldType.int)) ∈ GW := gwm 1362 (by decide +kernel) rfl
theorem gw_1363 : (Jvm.Cond.arrayClass Jvm.ClassFile.FieldType.long) ∈ GW := gwm 1363 (by decide +kernel) rfl
theorem gw_1378 : (Jvm.Cond.fieldLink "java/lang/String" (9 : Nat) "java/lang/String" "value" "[B") ∈ GW := gwm 1378 (by decide +kernel) rfl
theorem gw_1379 : (Jvm.Cond.fieldLink "java/lang/String" (15 : Nat) "java/lang/String" "coder" "B") ∈ GW := gwm 1379 (by decide +kernel) rfl
end
section
/-! THE STATE: cells by numbers. σ.1 k j: the int in place j of cell k (a field's slot, or an array's index); σ.2.1 k: the long of cell k; σ.2.2.1, σ.2.2.2: the numbers of the cells 'goods' and 'spare' -/
abbrev St : Type := (Nat → Nat → Int32) × (Nat → Int64) × Nat × Nat
/-- where things are: the classes, the cells' addresses, the array classes (0 byte, 1 int, 2 boolean, 3 long, 4 Act) -/
abbrev Xc : Type := va_G × (Nat → Nat) × (Nat → ClassId)
def upI (σ : St) (k j : Nat) (x : Int32) : St := (fun a b => if a = k ∧ b = j then x else σ.1 a b, σ.2)
def upL (σ : St) (k : Nat) (x : Int64) : St := (σ.1, fun a => if a = k then x else σ.2.1 a, σ.2.2)
def upG (σ : St) (g : Nat) : St := (σ.1, σ.2.1, g, σ.2.2.2)
def upS (σ : St) (g : Nat) : St := (σ.1, σ.2.1, σ.2.2.1, g)
/-- the cells: an object (its class, its fields: 0 int, 1 long, 2 goods, 3 spare, 4 + d the cell d behind it), or an array (its kind, its length) -/
def layGoods : List ((Nat × List Nat) ⊕ (Nat × Nat)) := [.inl (4, [0, 0, 0, 5, 6, 7, 8, 9, 10, 11, 12]), .inr (1, 5), .inr (1, 5), .inr (1, 30), .inr (1, 40), .inr (1, 40), .inr (1, 80), .inr (1, 80), .inr (1, 80)]
def lay : List ((Nat × List Nat) ⊕ (Nat × Nat)) :=
  [.inl (8, [5, 2, 3, 28, 35, 40, 52]), .inl (7, [5, 0, 0, 0, 0, 0, 0, 0]), .inl (6, [0, 5, 0, 6, 7]), .inr (0, 640), .inr (1, 601), .inr (1, 601)]
  ++ layGoods ++ layGoods
  ++ [.inl (3, [0, 5, 6, 7, 8, 9, 10]), .inr (1, 40), .inr (1, 40), .inr (1, 40), .inr (1, 40), .inr (1, 40), .inr (2, 40),
      .inl (1, [0, 5, 6, 7, 8]), .inr (1, 40), .inr (1, 40), .inr (1, 40), .inr (1, 40),
      .inl (5, [0, 0, 5]), .inr (4, 10)]
  ++ List.replicate 10 (.inl (0, [0, 0, 0, 0, 0, 0, 0, 0, 0, 1]))
  ++ [.inl (2, [0, 0, 0, 0, 5]), .inr (1, 10),
      .inl (9, [0, 5, 0, 0, 0, 0, 0, 0, 0, 0, 1, 6, 7, 8, 0, 0, 0, 0, 9, 0, 10]), .inr (1, 640), .inr (1, 845), .inr (1, 845), .inr (1, 8450), .inr (1, 40), .inr (1, 80), .inr (3, 1)]
theorem lay_len : lay.length = 58 := rfl
def fv (ad : Nat → Nat) (σ : St) (k c j : Nat) : Value := match c with
  | 0 => .int (σ.1 k j)
  | 1 => .long (σ.2.1 k)
  | 2 => .ref (ad σ.2.2.1)
  | 3 => .ref (ad σ.2.2.2)
  | d + 4 => .ref (ad (k + d))
def fvs (ad : Nat → Nat) (σ : St) (k : Nat) (cs : List Nat) : List Value := cs.mapIdx (fun j c => fv ad σ k c j)
def arc (X : Xc) (σ : St) (k t n : Nat) : va_E := match t with
  | 3 => .inl (X.2.2 3, n, .inr (.inl (fun j => if j = 0 then σ.2.1 k else 0)))
  | 4 => .inl (X.2.2 4, n, .inr (.inr (.inr (.inr (fun i => some (X.2.1 (k + 1 + i)))))))
  | t => .inl (X.2.2 t, n, .inl (σ.1 k))
def cel (X : Xc) (σ : St) (k : Nat) : va_E := match lay[k]? with
  | some (.inl (ci, cs)) => .inr (ci, fvs X.2.1 σ k cs)
  | some (.inr (t, n)) => arc X σ k t n
  | none => .inr (0, [])
def wsX (X : Xc) (σ : St) : va_W := (List.range 58).map (fun k => (X.2.1 k, cel X σ k))
def tyX (X : Xc) : List (ClassId × FieldType) := [(X.2.2 0, .byte), (X.2.2 1, .int), (X.2.2 2, .boolean), (X.2.2 3, .long), (X.2.2 4, .object "RunningCount$Act")]
def inj (X : Xc) : Prop := ∀ i j : Nat, i < 58 → j < 58 → X.2.1 i = X.2.1 j → i = j
def AX (X : Xc) : Nat → Prop := fun q => ∃ k : Nat, k < 58 ∧ q = X.2.1 k
def isG (g : Nat) : Prop := g = 6 ∨ g = 15
def wf (σ : St) : Prop := isG σ.2.2.1 ∧ isG σ.2.2.2
theorem ws_get {X : Xc} {σ : St} {k : Nat} (h : k < 58) : (wsX X σ)[k]? = some (X.2.1 k, cel X σ k) := by
  simp [wsX, List.getElem?_map, List.getElem?_range h]
theorem ws_set {X : Xc} {σ σ' : St} {k : Nat} {q : va_E} (h : k < 58) (he : cel X σ' k = q) (ho : ∀ j, j ≠ k → cel X σ' j = cel X σ j) : (wsX X σ).set k (X.2.1 k, q) = wsX X σ' := by
  subst he
  apply List.ext_getElem?
  intro j
  by_cases hj : j = k
  · subst hj
    rw [List.getElem?_set_self (by simp [wsX]; exact h), ws_get h]
  · rw [List.getElem?_set_ne (Ne.symm hj)]
    by_cases hl : j < 58
    · rw [ws_get hl, ws_get hl, ho j hj]
    · rw [List.getElem?_eq_none (by simp [wsX]; omega), List.getElem?_eq_none (by simp [wsX]; omega)]
theorem ws_D {X : Xc} (σ : St) (h : inj X) : va_D (AX X) (wsX X σ) := by
  have key : ∀ (i : Nat) (p : Nat × va_E), (wsX X σ)[i]? = some p → i < 58 ∧ p.1 = X.2.1 i := by
    intro i p hi
    have hl : i < 58 := by
      have := (List.getElem?_eq_some_iff.mp hi).1
      simpa [wsX] using this
    rw [ws_get hl] at hi
    cases hi
    exact ⟨hl, rfl⟩
  refine ⟨fun i j p q hi hj hpq => ?_, fun k q hk => ?_⟩
  · obtain ⟨h1, h2⟩ := key i p hi
    obtain ⟨h3, h4⟩ := key j q hj
    exact h i j h1 h3 (by rw [← h2, ← h4]; exact hpq)
  · obtain ⟨h1, h2⟩ := key k q hk
    exact ⟨k, h1, h2⟩
theorem lay_lt {k : Nat} {e : (Nat × List Nat) ⊕ (Nat × Nat)} (h : lay[k]? = some e) : k < 58 := by
  have := (List.getElem?_eq_some_iff.mp h).1
  rwa [lay_len] at this
theorem cel_obj {X : Xc} {σ : St} {k ci : Nat} {cs : List Nat} (h : lay[k]? = some (.inl (ci, cs))) : cel X σ k = .inr (ci, fvs X.2.1 σ k cs) := by
  simp only [cel, h]
theorem cel_arr {X : Xc} {σ : St} {k t n : Nat} (h : lay[k]? = some (.inr (t, n))) : cel X σ k = arc X σ k t n := by
  simp only [cel, h]
theorem fvs_get {ad : Nat → Nat} {σ : St} {k j c : Nat} {cs : List Nat} (h : cs[j]? = some c) : (fvs ad σ k cs)[j]? = some (fv ad σ k c j) := by
  simp [fvs, List.getElem?_mapIdx, h]
theorem fv_congr {ad : Nat → Nat} {σ σ' : St} {k c j : Nat} (h1 : σ'.1 k j = σ.1 k j) (h2 : σ'.2.1 k = σ.2.1 k) (h3 : σ'.2.2 = σ.2.2) : fv ad σ' k c j = fv ad σ k c j := by
  unfold fv
  split
  · rw [h1]
  · rw [h2]
  · rw [h3]
  · rw [h3]
  · rfl
theorem cel_congr {X : Xc} {σ σ' : St} {k : Nat} (h1 : σ'.1 k = σ.1 k) (h2 : σ'.2.1 k = σ.2.1 k) (h3 : σ'.2.2 = σ.2.2) : cel X σ' k = cel X σ k := by
  unfold cel
  split
  · have : ∀ cs, fvs X.2.1 σ' k cs = fvs X.2.1 σ k cs := fun cs => by
      simp only [fvs]
      congr 1
      funext j c
      exact fv_congr (by rw [h1]) h2 h3
    rw [this]
  · unfold arc
    split
    · rw [h2]
    · rfl
    · rw [h1]
  · rfl
theorem fvs_set {ad : Nat → Nat} {σ σ' : St} {k j c : Nat} {cs : List Nat} (hj : cs[j]? = some c) (ho : ∀ i d, i ≠ j → cs[i]? = some d → fv ad σ' k d i = fv ad σ k d i) : fvs ad σ' k cs = (fvs ad σ k cs).set j (fv ad σ' k c j) := by
  have hl : j < cs.length := (List.getElem?_eq_some_iff.mp hj).1
  apply List.ext_getElem?
  intro i
  by_cases hi : i = j
  · subst hi
    rw [fvs_get hj, List.getElem?_set_self (by simpa [fvs] using hl)]
  · rw [List.getElem?_set_ne (Ne.symm hi)]
    cases h : cs[i]? with
    | none => simp [fvs, List.getElem?_mapIdx, h]
    | some d => rw [fvs_get h, fvs_get h, ho i d hi h]
theorem cel_upI_ne {X : Xc} {σ : St} {k j : Nat} {x : Int32} {q : Nat} (h : q ≠ k) : cel X (upI σ k j x) q = cel X σ q := by
  refine cel_congr ?_ rfl rfl
  funext b
  simp [upI, h]
theorem cel_upL_ne {X : Xc} {σ : St} {k : Nat} {x : Int64} {q : Nat} (h : q ≠ k) : cel X (upL σ k x) q = cel X σ q := by
  refine cel_congr rfl ?_ rfl
  simp [upL, h]
theorem cel_upI_obj {X : Xc} {σ : St} {k ci j : Nat} {cs : List Nat} {x : Int32} (h : lay[k]? = some (.inl (ci, cs))) (hj : cs[j]? = some 0) : cel X (upI σ k j x) k = .inr (ci, (fvs X.2.1 σ k cs).set j (.int x)) := by
  rw [cel_obj h, fvs_set (σ := σ) hj]
  · simp [fv, upI]
  · intro i d hi _
    exact fv_congr (by simp [upI, hi]) rfl rfl
theorem cel_upL_obj {X : Xc} {σ : St} {k ci j : Nat} {cs : List Nat} {x : Int64} (h : lay[k]? = some (.inl (ci, cs))) (hj : cs[j]? = some 1) (hu : ∀ i, i ≠ j → cs[i]? ≠ some 1) : cel X (upL σ k x) k = .inr (ci, (fvs X.2.1 σ k cs).set j (.long x)) := by
  rw [cel_obj h, fvs_set (σ := σ) hj]
  · simp [fv, upL]
  · intro i d hi hd
    have hd1 : d ≠ 1 := fun e => hu i hi (by rw [hd, e])
    unfold fv
    split
    · rfl
    · exact absurd rfl hd1
    · rfl
    · rfl
    · rfl
theorem cel_upI_arr {X : Xc} {σ : St} {k t n j : Nat} {x : Int32} (h : lay[k]? = some (.inr (t, n))) (ht : t < 3) : cel X (upI σ k j x) k = .inl (X.2.2 t, n, .inl (upd (σ.1 k) j x)) := by
  have e : (upI σ k j x).1 k = upd (σ.1 k) j x := by
    funext b
    simp [upI, upd]
  rw [cel_arr h]
  unfold arc
  split
  · omega
  · omega
  · rw [e]
theorem cel_ia {X : Xc} {σ : St} {k t n : Nat} (h : lay[k]? = some (.inr (t, n))) (ht : t < 3) : cel X σ k = .inl (X.2.2 t, n, .inl (σ.1 k)) := by
  rw [cel_arr h]
  unfold arc
  split
  · omega
  · omega
  · rfl
/-- an index within; a read; a write -/
def inB (i : Int32) (n : Nat) : Bool := !(decide (i < 0)) && decide (i.toNatClampNeg < n)
theorem inB_in {i : Int32} {n : Nat} (h : inB i n = true) : vp_in i n := by
  simp only [inB, Bool.and_eq_true, Bool.not_eq_true', decide_eq_false_iff_not, decide_eq_true_eq] at h
  intro h2
  rcases h2 with h2 | h2
  · exact h.1 h2
  · omega
def rd (σ : St) (k n : Nat) (i : Int32) : Option Int32 := if inB i n = true then some (σ.1 k i.toNatClampNeg) else none
def wr (σ : St) (k n : Nat) (i x : Int32) : Option St := if inB i n = true then some (upI σ k i.toNatClampNeg x) else none
def rdN (n : Nat) (i : Int32) : Option Nat := if inB i n = true then some i.toNatClampNeg else none
theorem rd_ok {σ : St} {k n : Nat} {i v : Int32} (h : rd σ k n i = some v) : vp_in i n ∧ v = σ.1 k i.toNatClampNeg := by
  unfold rd at h
  split at h
  next c => exact ⟨inB_in c, (Option.some.inj h).symm⟩
  next => cases h
theorem wr_ok {σ σ' : St} {k n : Nat} {i x : Int32} (h : wr σ k n i x = some σ') : vp_in i n ∧ σ' = upI σ k i.toNatClampNeg x := by
  unfold wr at h
  split at h
  next c => exact ⟨inB_in c, (Option.some.inj h).symm⟩
  next => cases h
theorem rdN_ok {n : Nat} {i : Int32} {v : Nat} (h : rdN n i = some v) : vp_in i n ∧ v = i.toNatClampNeg ∧ v < n := by
  unfold rdN at h
  split at h
  next c =>
    have hv := (Option.some.inj h).symm
    refine ⟨inB_in c, hv, ?_⟩
    simp only [inB, Bool.and_eq_true, decide_eq_true_eq] at c
    omega
  next => cases h
def b2i (b : Bool) : Int32 := if b then 1 else 0
/-! THE CONTEXT of a walk, THE WORLD at a place of it -/
def Cx (p : Program) (s : State) (m : MethodId) (args : Array Value) (c : Code) (X : Xc) (cc : ByteArray) (nL : Nat) (own : String) : Prop :=
  p.tables.exec = Jvm.exec ∧ c.code = cc ∧ c.maxLocals = nL ∧ s.vm.findClass own = some m.cls ∧ (∀ w ∈ GW, w.before args s = true) ∧ va_K X.1 vwCl (tyX X) s ∧ nwOk s ∧ inj X
def At (X : Xc) (σ : St) (H0 H : Heap) (locs : List Loc) : Prop := va_P X.1 vwCl (wsX X σ) H ∧ va_S (AX X) H0 H locs ∧ wf σ
def PW (X : Xc) (σ : St) (U : State) : Prop := va_P X.1 vwCl (wsX X σ) U.heap ∧ va_K X.1 vwCl (tyX X) U ∧ nwOk U ∧ inj X ∧ wf σ
def QV (X : Xc) (v : Option Value) (σ' : St) : Array Value → State → Outcome → State → Prop := fun _ st oc t => oc = .returned v ∧ va_P X.1 vwCl (wsX X σ') t.heap ∧ wf σ' ∧ va_F (AX X) st t
/-- a method's contract: from σ, with the arguments av, it answers v, and σ' is the state behind it -/
def Ok (X : Xc) (l : Launch) (y : MethodName) (cc : ByteArray) (nL : Nat) (ret : Option FieldType) (fr lo : Nat) (av : List Value) (σ : St) (v : Option Value) (σ' : St) : Prop :=
  Met l y (.code y cc nL ret :: GW) { frames := fr, cells := 0, slots := 0, locals := lo } (va_Pc av (PW X σ)) (QV X v σ') 0 0 (AX X)
def Zq (X : Xc) (below : List Frame) (s : State) (args : Array Value) (v : Option Value) (σ' : St) : State → Prop := MQ below (QV X v σ') args s 0 0 (AX X)
theorem Ok.of {X : Xc} {l : Launch} {y : MethodName} {cc : ByteArray} {nL : Nat} {ret : Option FieldType} {fr lo : Nat} {av : List Value} {σ σ' : St} {v : Option Value} (hy : plainName y.cls = true) (hn : (lg_sl av).length ≤ nL)
    (body : ∀ (p : Program) (e : Env) (s : State) (m : MethodId) (below : List Frame) (meth : Method) (c : Code), Cx p s m av.toArray c X cc nL y.cls → meth.sig.returnType = ret → meth.locks = false → At X σ s.heap s.heap [] → ∀ ls : Array Slot, lv_has ls nL (lv_args 0 av) →
      W p l e { frames := fr, cells := 0, slots := 0, locals := lo } s m av.toArray below meth c s.heap [] 0 0 (Zq X below s av.toArray v σ') (F0 m 0 ls [])) : Ok X l y cc nL ret fr lo av σ v σ' := by
  refine Met.ofW (cc := cc) (maxL := nL) (ret := ret) hy rfl ?_
  intro p e s m args below meth c s₁ B hml hv
  obtain ⟨rfl, hP, hK, hN, hI, hw⟩ := hv
  have hl := lv_entry av hn
  rw [lg_entry_eq]
  generalize (lg_sl av ++ List.replicate (nL - (lg_sl av).length) Slot.unset).toArray = ls at hl ⊢
  exact body p e s m below meth c ⟨B.exec, B.bytes, hml, findClass_of_methodNamed B.named, fun w h => atoms_spec (ws := .code y cc nL ret :: GW) B.pre w (List.mem_cons_of_mem _ h), hK, hN, hI⟩ B.returns B.notSynchronized ⟨hP, va_S.rf, hw⟩ ls hl
end
section
section RULES
variable {p : Program} {l : Launch} {e : Env} {R : Room} {s : State} {m : MethodId} {args : Array Value} {below : List Frame} {meth : Method} {c : Code} {H H0 : Heap} {locs : List Loc} {cells slots : Nat} {Q : State → Prop}
variable {X : Xc} {σ σ' : St} {cc : ByteArray} {nL : Nat} {own : String} {pc : Nat} {ls : Array Slot} {rest : List Value}
theorem ite_t {α : Sort _} {b : Prop} [Decidable b] {x y o : α} (hb : b) (h : (if b then x else y) = o) : x = o := by rw [if_pos hb] at h; exact h
theorem ite_f {α : Sort _} {b : Prop} [Decidable b] {x y o : α} (hb : ¬ b) (h : (if b then x else y) = o) : y = o := by rw [if_neg hb] at h; exact h
theorem bnd {α β : Type} {o : Option α} {f : α → Option β} {r : β} (h : o.bind f = some r) : ∃ a, o = some a ∧ f a = some r := by
  cases o with
  | none => cases h
  | some a => exact ⟨a, rfl, h⟩
theorem r_get (C : Cx p s m args c X cc nL own) (h : At X σ H0 H locs) {k ci : Nat} {cs : List Nat} {Cn : String} {T : u_T} {N : Nat} (hk : lay[k]? = some (.inl (ci, cs))) (hcl : vwCl[ci]? = some (Cn, T, N)) (hin : ∀ w ∈ u_ws Cn T N, w ∈ GW) (j : Nat) {cd : Nat} (hj : cs[j]? = some cd) (hN : j < N) {index : Nat} {v : Value} (hlink : Cond.fieldLink own index (T j).1 (T j).2.1 (T j).2.2.1 ∈ GW) (hv : fv X.2.1 σ k cd j = v) (hdg : decode cc pc = .ok (.getfield index, 3))
    (kk : W p l e R s m args below meth c H locs cells slots Q (F0 m (pc + 3) ls (v :: rest))) : W p l e R s m args below meth c H locs cells slots Q (F0 m pc ls (.ref (X.2.1 k) :: rest)) := by
  subst hv
  have he := ws_get (X := X) (σ := σ) (lay_lt hk)
  rw [cel_obj hk] at he
  exact va_get C.1 C.2.1 C.2.2.2.2.1 hin C.2.2.2.1 C.2.2.2.2.2.1 h.1 k he hcl j hN (C.2.2.2.2.1 _ hlink) (fun _ h9 => h9) (fvs_get hj) hdg kk
theorem r_getN (C : Cx p s m args c X cc nL own) (h : At X σ H0 H locs) {k ci : Nat} {cs : List Nat} {Cn host : String} {T : u_T} {N : Nat} (hk : lay[k]? = some (.inl (ci, cs))) (hcl : vwCl[ci]? = some (Cn, T, N)) (hin : ∀ w ∈ u_ws Cn T N, w ∈ GW) (j : Nat) {cd : Nat} (hj : cs[j]? = some cd) (hN : j < N) {index : Nat} {v : Value} (hlink : Cond.fieldLinkNest own index (T j).1 (T j).2.1 (T j).2.2.1 host ∈ NW) (hv : fv X.2.1 σ k cd j = v) (hdg : decode cc pc = .ok (.getfield index, 3))
    (kk : W p l e R s m args below meth c H locs cells slots Q (F0 m (pc + 3) ls (v :: rest))) : W p l e R s m args below meth c H locs cells slots Q (F0 m pc ls (.ref (X.2.1 k) :: rest)) := by
  subst hv
  have he := ws_get (X := X) (σ := σ) (lay_lt hk)
  rw [cel_obj hk] at he
  exact va_getN C.1 C.2.1 C.2.2.2.2.1 hin C.2.2.2.1 C.2.2.2.2.2.1 h.1 k he hcl j hN (va_Nw.use rfl (C.2.2.2.2.2.2.1 _ hlink)) (fun _ h9 => h9) (fvs_get hj) hdg kk
/-- what a put of a field leaves -/
def isPut (X : Xc) (σ σ' : St) (k ci j : Nat) (cs : List Nat) (v : Value) : Prop := cel X σ' k = .inr (ci, (fvs X.2.1 σ k cs).set j v) ∧ (∀ q, q ≠ k → cel X σ' q = cel X σ q) ∧ (wf σ → wf σ')
theorem r_put (C : Cx p s m args c X cc nL own) (h : At X σ H0 H locs) {k ci : Nat} {cs : List Nat} {Cn : String} {T : u_T} {N : Nat} (hk : lay[k]? = some (.inl (ci, cs))) (hcl : vwCl[ci]? = some (Cn, T, N)) (hin : ∀ w ∈ u_ws Cn T N, w ∈ GW) (ty0 : Nat → FieldType) (hty : ∀ k, k < N → parseFieldDescriptor (T k).2.2.1 = some (ty0 k)) (hnm : ∀ a, a < N → ∀ b, b < N → a ≠ b → (T a).2.1 ≠ (T b).2.1) (j : Nat) (hjl : j < cs.length) (hN : j < N) {index : Nat} {v : Value} (hlink : Cond.fieldLink own index (T j).1 (T j).2.1 (T j).2.2.1 ∈ GW) (hfin : (T j).2.2.2 = false) (hn : narrow (ty0 j) v = v) (hfit : fits (ty0 j) v = true) (hp : isPut X σ σ' k ci j cs v) (hdg : decode cc pc = .ok (.putfield index, 3))
    (kk : ∀ (H1 : Heap) (locs1 : List Loc), At X σ' H0 H1 locs1 → W p l e R s m args below meth c H1 locs1 cells slots Q (F0 m (pc + 3) ls rest)) : W p l e R s m args below meth c H locs cells slots Q (F0 m pc ls (v :: .ref (X.2.1 k) :: rest)) := by
  have he := ws_get (X := X) (σ := σ) (lay_lt hk)
  rw [cel_obj hk] at he
  refine va_put C.1 C.2.1 C.2.2.2.2.1 hin ty0 hty hnm C.2.2.2.1 C.2.2.2.2.2.1 h.1 (ws_D σ C.2.2.2.2.2.2.2) h.2.1 k he hcl j hN (C.2.2.2.2.1 _ hlink) (fun _ h9 => h9) hfin (hty j hN) hn hfit (by simpa [fvs] using hjl) hdg (fun H1 locs1 hP _ hS => ?_)
  rw [ws_set (lay_lt hk) hp.1 hp.2.1] at hP
  exact kk H1 locs1 ⟨hP, hS, hp.2.2 h.2.2⟩
theorem r_putN (C : Cx p s m args c X cc nL own) (h : At X σ H0 H locs) {k ci : Nat} {cs : List Nat} {Cn host : String} {T : u_T} {N : Nat} (hk : lay[k]? = some (.inl (ci, cs))) (hcl : vwCl[ci]? = some (Cn, T, N)) (hin : ∀ w ∈ u_ws Cn T N, w ∈ GW) (ty0 : Nat → FieldType) (hty : ∀ k, k < N → parseFieldDescriptor (T k).2.2.1 = some (ty0 k)) (hnm : ∀ a, a < N → ∀ b, b < N → a ≠ b → (T a).2.1 ≠ (T b).2.1) (j : Nat) (hjl : j < cs.length) (hN : j < N) {index : Nat} {v : Value} (hlink : Cond.fieldLinkNest own index (T j).1 (T j).2.1 (T j).2.2.1 host ∈ NW) (hfin : (T j).2.2.2 = false) (hn : narrow (ty0 j) v = v) (hfit : fits (ty0 j) v = true) (hp : isPut X σ σ' k ci j cs v) (hdg : decode cc pc = .ok (.putfield index, 3))
    (kk : ∀ (H1 : Heap) (locs1 : List Loc), At X σ' H0 H1 locs1 → W p l e R s m args below meth c H1 locs1 cells slots Q (F0 m (pc + 3) ls rest)) : W p l e R s m args below meth c H locs cells slots Q (F0 m pc ls (v :: .ref (X.2.1 k) :: rest)) := by
  have he := ws_get (X := X) (σ := σ) (lay_lt hk)
  rw [cel_obj hk] at he
  refine va_putN C.1 C.2.1 C.2.2.2.2.1 hin ty0 hty hnm C.2.2.2.1 C.2.2.2.2.2.1 h.1 (ws_D σ C.2.2.2.2.2.2.2) h.2.1 k he hcl j hN (va_Nw.use rfl (C.2.2.2.2.2.2.1 _ hlink)) (fun _ h9 => h9) hfin (hty j hN) hn hfit (by simpa [fvs] using hjl) hdg (fun H1 locs1 hP _ hS => ?_)
  rw [ws_set (lay_lt hk) hp.1 hp.2.1] at hP
  exact kk H1 locs1 ⟨hP, hS, hp.2.2 h.2.2⟩
theorem put_i {k ci j : Nat} {cs : List Nat} {x : Int32} (h : lay[k]? = some (.inl (ci, cs))) (hj : cs[j]? = some 0) : isPut X σ (upI σ k j x) k ci j cs (.int x) := ⟨cel_upI_obj h hj, fun _ hq => cel_upI_ne hq, fun h => h⟩
theorem put_l {k ci j : Nat} {cs : List Nat} {x : Int64} (h : lay[k]? = some (.inl (ci, cs))) (hj : cs[j]? = some 1) (hu : ∀ i, i ≠ j → cs[i]? ≠ some 1) : isPut X σ (upL σ k x) k ci j cs (.long x) := ⟨cel_upL_obj h hj hu, fun _ hq => cel_upL_ne hq, fun h => h⟩
theorem r_ald {t n : Nat} {v i : Int32} {k : Nat} (C : Cx p s m args c X cc nL own) (h : At X σ H0 H locs) (hk : lay[k]? = some (.inr (1, n))) (hr : rd σ k n i = some v) (hdg : decode cc pc = .ok (.iaload, 1))
    (kk : W p l e R s m args below meth c H locs cells slots Q (F0 m (pc + 1) ls (.int v :: rest))) : W p l e R s m args below meth c H locs cells slots Q (F0 m pc ls (.int i :: .ref (X.2.1 k) :: rest)) := by
  obtain ⟨h1, rfl⟩ := rd_ok hr
  have he := ws_get (X := X) (σ := σ) (lay_lt hk)
  rw [cel_ia hk (by decide)] at he
  exact va_iald C.1 C.2.1 C.2.2.2.2.2.1 h.1 k 1 he rfl h1 hdg kk
theorem r_bald {n : Nat} {v i : Int32} {k : Nat} (C : Cx p s m args c X cc nL own) (h : At X σ H0 H locs) (hk : lay[k]? = some (.inr (0, n))) (hr : rd σ k n i = some v) (hdg : decode cc pc = .ok (.baload, 1))
    (kk : W p l e R s m args below meth c H locs cells slots Q (F0 m (pc + 1) ls (.int v :: rest))) : W p l e R s m args below meth c H locs cells slots Q (F0 m pc ls (.int i :: .ref (X.2.1 k) :: rest)) := by
  obtain ⟨h1, rfl⟩ := rd_ok hr
  have he := ws_get (X := X) (σ := σ) (lay_lt hk)
  rw [cel_ia hk (by decide)] at he
  exact va_bald C.1 C.2.1 C.2.2.2.2.2.1 h.1 k 0 he rfl h1 hdg kk
theorem r_zald {n : Nat} {v i : Int32} {k : Nat} (C : Cx p s m args c X cc nL own) (h : At X σ H0 H locs) (hk : lay[k]? = some (.inr (2, n))) (hr : rd σ k n i = some v) (hdg : decode cc pc = .ok (.baload, 1))
    (kk : W p l e R s m args below meth c H locs cells slots Q (F0 m (pc + 1) ls (.int v :: rest))) : W p l e R s m args below meth c H locs cells slots Q (F0 m pc ls (.int i :: .ref (X.2.1 k) :: rest)) := by
  obtain ⟨h1, rfl⟩ := rd_ok hr
  have he := ws_get (X := X) (σ := σ) (lay_lt hk)
  rw [cel_ia hk (by decide)] at he
  exact va_zald C.1 C.2.1 C.2.2.2.2.2.1 h.1 k 2 he rfl h1 hdg kk
theorem r_ast {n : Nat} {x i : Int32} {k : Nat} (C : Cx p s m args c X cc nL own) (h : At X σ H0 H locs) (hk : lay[k]? = some (.inr (1, n))) (hr : wr σ k n i x = some σ') (hdg : decode cc pc = .ok (.iastore, 1))
    (kk : ∀ (H1 : Heap) (locs1 : List Loc), At X σ' H0 H1 locs1 → W p l e R s m args below meth c H1 locs1 cells slots Q (F0 m (pc + 1) ls rest)) : W p l e R s m args below meth c H locs cells slots Q (F0 m pc ls (.int x :: .int i :: .ref (X.2.1 k) :: rest)) := by
  obtain ⟨h1, rfl⟩ := wr_ok hr
  have he := ws_get (X := X) (σ := σ) (lay_lt hk)
  rw [cel_ia hk (by decide)] at he
  refine va_iast C.1 C.2.1 C.2.2.2.2.2.1 h.1 (ws_D σ C.2.2.2.2.2.2.2) h.2.1 k 1 he rfl h1 hdg (fun H1 locs1 hP _ hS => ?_)
  rw [ws_set (lay_lt hk) (cel_upI_arr hk (by decide)) (fun _ hq => cel_upI_ne hq)] at hP
  exact kk H1 locs1 ⟨hP, hS, h.2.2⟩
theorem r_bast {n : Nat} {x i : Int32} {k : Nat} (C : Cx p s m args c X cc nL own) (h : At X σ H0 H locs) (hk : lay[k]? = some (.inr (0, n))) (hr : wr σ k n i (vp_nar .byte x) = some σ') (hdg : decode cc pc = .ok (.bastore, 1))
    (kk : ∀ (H1 : Heap) (locs1 : List Loc), At X σ' H0 H1 locs1 → W p l e R s m args below meth c H1 locs1 cells slots Q (F0 m (pc + 1) ls rest)) : W p l e R s m args below meth c H locs cells slots Q (F0 m pc ls (.int x :: .int i :: .ref (X.2.1 k) :: rest)) := by
  obtain ⟨h1, rfl⟩ := wr_ok hr
  have he := ws_get (X := X) (σ := σ) (lay_lt hk)
  rw [cel_ia hk (by decide)] at he
  refine va_bast C.1 C.2.1 C.2.2.2.2.2.1 h.1 (ws_D σ C.2.2.2.2.2.2.2) h.2.1 k 0 he rfl h1 hdg (fun H1 locs1 hP _ hS => ?_)
  rw [ws_set (lay_lt hk) (cel_upI_arr hk (by decide)) (fun _ hq => cel_upI_ne hq)] at hP
  exact kk H1 locs1 ⟨hP, hS, h.2.2⟩
theorem r_zast {n : Nat} {x i : Int32} {k : Nat} (C : Cx p s m args c X cc nL own) (h : At X σ H0 H locs) (hk : lay[k]? = some (.inr (2, n))) (hr : wr σ k n i (vp_nar .boolean x) = some σ') (hdg : decode cc pc = .ok (.bastore, 1))
    (kk : ∀ (H1 : Heap) (locs1 : List Loc), At X σ' H0 H1 locs1 → W p l e R s m args below meth c H1 locs1 cells slots Q (F0 m (pc + 1) ls rest)) : W p l e R s m args below meth c H locs cells slots Q (F0 m pc ls (.int x :: .int i :: .ref (X.2.1 k) :: rest)) := by
  obtain ⟨h1, rfl⟩ := wr_ok hr
  have he := ws_get (X := X) (σ := σ) (lay_lt hk)
  rw [cel_ia hk (by decide)] at he
  refine va_zast C.1 C.2.1 C.2.2.2.2.2.1 h.1 (ws_D σ C.2.2.2.2.2.2.2) h.2.1 k 2 he rfl h1 hdg (fun H1 locs1 hP _ hS => ?_)
  rw [ws_set (lay_lt hk) (cel_upI_arr hk (by decide)) (fun _ hq => cel_upI_ne hq)] at hP
  exact kk H1 locs1 ⟨hP, hS, h.2.2⟩
theorem r_alen {n t : Nat} {v : Int32} {k : Nat} (C : Cx p s m args c X cc nL own) (h : At X σ H0 H locs) (hk : lay[k]? = some (.inr (t, n))) (ht : t < 3) (hv : Int32.ofNat n = v) (hdg : decode cc pc = .ok (.arraylength, 1))
    (kk : W p l e R s m args below meth c H locs cells slots Q (F0 m (pc + 1) ls (.int v :: rest))) : W p l e R s m args below meth c H locs cells slots Q (F0 m pc ls (.ref (X.2.1 k) :: rest)) := by
  have he := ws_get (X := X) (σ := σ) (lay_lt hk)
  rw [cel_ia hk ht] at he
  rcases (show t = 0 ∨ t = 1 ∨ t = 2 by omega) with rfl | rfl | rfl
  · exact va_alen C.1 C.2.1 C.2.2.2.2.2.1 h.1 k 0 he rfl hv hdg kk
  · exact va_alen C.1 C.2.1 C.2.2.2.2.2.1 h.1 k 1 he rfl hv hdg kk
  · exact va_alen C.1 C.2.1 C.2.2.2.2.2.1 h.1 k 2 he rfl hv hdg kk
theorem r_aald {n : Nat} {i : Int32} {k v : Nat} (C : Cx p s m args c X cc nL own) (h : At X σ H0 H locs) (hk : lay[k]? = some (.inr (4, n))) (hr : rdN n i = some v) (hdg : decode cc pc = .ok (.aaload, 1))
    (kk : W p l e R s m args below meth c H locs cells slots Q (F0 m (pc + 1) ls (.ref (X.2.1 (k + 1 + v)) :: rest))) : W p l e R s m args below meth c H locs cells slots Q (F0 m pc ls (.int i :: .ref (X.2.1 k) :: rest)) := by
  obtain ⟨h1, rfl, -⟩ := rdN_ok hr
  have he := ws_get (X := X) (σ := σ) (lay_lt hk)
  rw [cel_arr hk] at he
  exact va_aldq C.1 C.2.1 C.2.2.2.2.2.1 h.1 k 4 he rfl h1 hdg kk
/-! ends -/
theorem at_end (h : At X σ s.heap H locs) : ∀ t : State, t.heap = H → QV X v0 σ args s (.returned v0) t := fun t ht => ⟨rfl, by rw [ht]; exact h.1, h.2.2, h.2.1.F ht⟩
theorem r_iret (C : Cx p s m args c X cc nL own) (hr : meth.sig.returnType = some .int) (hlk : meth.locks = false) (h : At X σ s.heap H locs) {x r : Int32} (hx : x = r) (hs : σ = σ') (hdg : decode cc pc = .ok (.ireturn, 1)) : W p l e R s m args below meth c H locs 0 0 (Zq X below s args (some (.int r)) σ') (F0 m pc ls [.int x]) := by
  subst hx; subst hs
  exact W.iret C.1 C.2.1 hr (fun t ht _ => at_end h t ht) h.2.1.2.2 hdg hlk
theorem b2i_nar (b : Bool) : narrow .boolean (.int (b2i b)) = .int (b2i b) := by cases b <;> rfl
theorem r_zret (C : Cx p s m args c X cc nL own) (hr : meth.sig.returnType = some .boolean) (hlk : meth.locks = false) (h : At X σ s.heap H locs) {x : Int32} {b r : Bool} (hb : b2i b = x) (hx : b = r) (hs : σ = σ') (hdg : decode cc pc = .ok (.ireturn, 1)) : W p l e R s m args below meth c H locs 0 0 (Zq X below s args (some (.int (b2i r))) σ') (F0 m pc ls [.int x]) := by
  subst hb; subst hx; subst hs
  exact W.zret C.1 C.2.1 hr (b2i_nar b) (fun t ht _ => at_end h t ht) h.2.1.2.2 hdg hlk
theorem r_lret (C : Cx p s m args c X cc nL own) (hr : meth.sig.returnType = some .long) (hlk : meth.locks = false) (h : At X σ s.heap H locs) {x r : Int64} (hx : x = r) (hs : σ = σ') (hdg : decode cc pc = .ok (.lreturn, 1)) : W p l e R s m args below meth c H locs 0 0 (Zq X below s args (some (.long r)) σ') (F0 m pc ls [.long x]) := by
  subst hx; subst hs
  exact W.lret C.1 C.2.1 hr (fun t ht _ => at_end h t ht) h.2.1.2.2 hdg hlk
theorem r_vret (C : Cx p s m args c X cc nL own) (hr : meth.sig.returnType = none) (hlk : meth.locks = false) (h : At X σ s.heap H locs) (hs : σ = σ') (hdg : decode cc pc = .ok (.return_, 1)) : W p l e R s m args below meth c H locs 0 0 (Zq X below s args none σ') (F0 m pc ls []) := by
  subst hs
  exact W.vret C.1 C.2.1 hr (fun t ht _ => at_end h t ht) h.2.1.2.2 hdg hlk
/-! calls -/
theorem pw_blind {av : List Value} : FrameBlind (va_Pc av (PW X σ)) := fun a U g mk q => ⟨q.1, q.2.1, va_K.moved (u := U) (U := U.calling g mk a) (Vm.Alike.refl U.vm) q.2.2.1, nwOk.same (s := U) (U := U.calling g mk a) rfl q.2.2.2.1, q.2.2.2.2.1, q.2.2.2.2.2⟩
theorem pw_at (C : Cx p s m args c X cc nL own) (h : At X σ H0 H locs) {av : List Value} : ∀ U : State, U.heap = H → s.WarmedH U.vm → va_Pc av (PW X σ) av.toArray U := fun U hU hW => ⟨rfl, by rw [hU]; exact h.1, va_K.moved hW.alike C.2.2.2.2.2.1, nwOk.warm hW C.2.2.2.2.2.2.1, C.2.2.2.2.2.2.2, h.2.2⟩
theorem r_back {mc ms : Nat} {v : Option Value} {st0 : List Value} {a : Array Value} (C : Cx p s m args c X cc nL own) (h : At X σ s.heap H locs) (hr : va_Run p l e R s m args below meth c H locs cells slots 0 0 (F0 m pc ls st0) rest (QV X v σ' a) (AX X))
    (kk : ∀ (H1 : Heap) (locs1 : List Loc), At X σ' s.heap H1 locs1 → W p l e R s m args below meth c H1 locs1 cells slots Q (F0 m (pc + 3) ls (v.toList ++ rest))) : W p l e R s m args below meth c H locs cells slots Q (F0 m pc ls st0) := by
  intro T hT Y
  obtain ⟨v', st₀, t, T', L, h0, X', hL, e1, e2, ⟨hv, hP, hw, hz, hk⟩, st⟩ := hr T hT Y
  cases hv
  rw [h0] at hz hk
  have hS := h.2.1
  obtain ⟨t2, a1, b1⟩ := kk T'.heap (locs ++ L) ⟨by rw [e1]; exact hP, ⟨Nat.le_trans hS.1 (by rw [e1]; exact hz), fun q h1 h2 => by rw [e1, hk q (Nat.lt_of_lt_of_le h1 hS.1) h2]; exact hS.2.1 q h1 h2, fun q hq => by
      rcases List.mem_append.mp hq with h | h
      · exact hS.2.2 q h
      · exact hL q h⟩, hw⟩ T' rfl X'
  exact ⟨t2, st t2 a1, b1⟩
theorem r_callV {y : MethodName} {cY : ByteArray} {nY fr lo n k ci idx : Nat} {cs : List Nat} {T : u_T} {N : Nat} {ret : Option FieldType} {As : List Value} {v : Option Value} (C : Cx p s m args c X cc nL own) (h : At X σ s.heap H locs)
    (hM : Ok X l y cY nY ret fr lo (.ref (X.2.1 k) :: As) σ v σ') (hk : lay[k]? = some (.inl (ci, cs))) (hcl : vwCl[ci]? = some (y.cls, T, N)) (hcode : Cond.code y cY nY ret ∈ GW) (hlink : Cond.methodLink own idx y ∈ GW) (hinst : Cond.instanceMethod y ∈ GW) (hsel : Cond.selects y.cls y y ∈ GW) (hini : Cond.initialized y.cls ∈ GW) (hls : ls.size = nL)
    (hd : y.cls ≠ "java/lang/invoke/MethodHandle" ∧ y.cls ≠ "java/lang/invoke/VarHandle" ∧ (parseMethodDescriptor y.desc).map (fun d => d.parameters.length) = some As.length) (hR : fr + 1 ≤ R.frames ∧ 8 + (nY + 11) + lo ≤ R.locals) (hc : cells ≤ R.cells ∧ slots ≤ R.slots) (hrm : (rest.map fun v => v.category).sum ≤ 8) (hdg : decode cc pc = .ok (.invokevirtual idx, 3)) {st0 : List Value} (hst : st0 = As.reverse ++ .ref (X.2.1 k) :: rest)
    (kk : ∀ (H1 : Heap) (locs1 : List Loc), At X σ' s.heap H1 locs1 → W p l e R s m args below meth c H1 locs1 cells slots Q (F0 m (pc + 3) ls (v.toList ++ rest))) : W p l e R s m args below meth c H locs cells slots Q (F0 m pc ls st0) := by
  have hts := C.2.2.2.2.1
  have he := ws_get (X := X) (σ := σ) (lay_lt hk)
  rw [cel_obj hk] at he
  exact r_back (mc := 0) (ms := 0) C h (va_runV (Ts := GW) (rest := rest) ⟨C.1, C.2.1, C.2.2.1, C.2.2.2.1, hts⟩ hM ⟨callB_of As.length hts (gw_tbl hcode) rfl rfl rfl (hts _ hini) (hts _ hlink) hd hR, hts _ hinst, hts _ hsel⟩ ⟨pw_blind, va_recv C.2.2.2.2.2.1 h.1 hcl he, pw_at C h⟩ rfl rfl hls hst (lv_room hrm) hdg hc) kk
theorem r_callVN {y : MethodName} {host : String} {cY : ByteArray} {nY fr lo n k ci idx : Nat} {cs : List Nat} {T : u_T} {N : Nat} {ret : Option FieldType} {As : List Value} {v : Option Value} (C : Cx p s m args c X cc nL own) (h : At X σ s.heap H locs)
    (hM : Ok X l y cY nY ret fr lo (.ref (X.2.1 k) :: As) σ v σ') (hk : lay[k]? = some (.inl (ci, cs))) (hcl : vwCl[ci]? = some (y.cls, T, N)) (hcode : Cond.code y cY nY ret ∈ GW) (hlink : Cond.methodLinkNest own idx y host ∈ NW) (hinst : Cond.instanceMethod y ∈ GW) (hsel : Cond.selects y.cls y y ∈ GW) (hini : Cond.initialized y.cls ∈ GW) (hls : ls.size = nL)
    (hd : y.cls ≠ "java/lang/invoke/MethodHandle" ∧ y.cls ≠ "java/lang/invoke/VarHandle" ∧ (parseMethodDescriptor y.desc).map (fun d => d.parameters.length) = some As.length) (hR : fr + 1 ≤ R.frames ∧ 8 + (nY + 11) + lo ≤ R.locals) (hc : cells ≤ R.cells ∧ slots ≤ R.slots) (hrm : (rest.map fun v => v.category).sum ≤ 8) (hdg : decode cc pc = .ok (.invokevirtual idx, 3)) {st0 : List Value} (hst : st0 = As.reverse ++ .ref (X.2.1 k) :: rest)
    (kk : ∀ (H1 : Heap) (locs1 : List Loc), At X σ' s.heap H1 locs1 → W p l e R s m args below meth c H1 locs1 cells slots Q (F0 m (pc + 3) ls (v.toList ++ rest))) : W p l e R s m args below meth c H locs cells slots Q (F0 m pc ls st0) := by
  have hts := C.2.2.2.2.1
  have he := ws_get (X := X) (σ := σ) (lay_lt hk)
  rw [cel_obj hk] at he
  exact r_back (mc := 0) (ms := 0) C h (va_runVN (Ts := GW) (rest := rest) ⟨C.1, C.2.1, C.2.2.1, C.2.2.2.1, hts⟩ hM ⟨va_cnB As.length hts (gw_tbl hcode) rfl rfl rfl (C.2.2.2.2.2.2.1 _ hlink) (hts _ hini) hd hR, hts _ hinst, hts _ hsel⟩ ⟨pw_blind, va_recv C.2.2.2.2.2.1 h.1 hcl he, pw_at C h⟩ rfl rfl hls hst (lv_room hrm) hdg hc) kk
theorem r_callS {y : MethodName} {cY : ByteArray} {nY fr lo n idx : Nat} {ret : Option FieldType} {As : List Value} {v : Option Value} (C : Cx p s m args c X cc nL own) (h : At X σ s.heap H locs)
    (hM : Ok X l y cY nY ret fr lo As σ v σ') (hcode : Cond.code y cY nY ret ∈ GW) (hlink : Cond.methodLink own idx y ∈ GW) (hstat : Cond.static y ∈ GW) (hini : Cond.initialized y.cls ∈ GW) (hls : ls.size = nL)
    (hd : y.cls ≠ "java/lang/invoke/MethodHandle" ∧ y.cls ≠ "java/lang/invoke/VarHandle" ∧ (parseMethodDescriptor y.desc).map (fun d => d.parameters.length) = some As.length) (hR : fr + 1 ≤ R.frames ∧ 8 + (nY + 11) + lo ≤ R.locals) (hc : cells ≤ R.cells ∧ slots ≤ R.slots) (hrm : (rest.map fun v => v.category).sum ≤ 8) (hdg : decode cc pc = .ok (.invokestatic idx, 3)) {st0 : List Value} (hst : st0 = As.reverse ++ rest)
    (kk : ∀ (H1 : Heap) (locs1 : List Loc), At X σ' s.heap H1 locs1 → W p l e R s m args below meth c H1 locs1 cells slots Q (F0 m (pc + 3) ls (v.toList ++ rest))) : W p l e R s m args below meth c H locs cells slots Q (F0 m pc ls st0) := by
  have hts := C.2.2.2.2.1
  exact r_back (mc := 0) (ms := 0) C h (va_runS (Ts := GW) (rest := rest) ⟨C.1, C.2.1, C.2.2.1, C.2.2.2.1, hts⟩ hM ⟨callB_of As.length hts (gw_tbl hcode) rfl rfl rfl (hts _ hini) (hts _ hlink) hd hR, hts _ hstat⟩ ⟨pw_blind, pw_at C h⟩ rfl rfl hls hst (lv_room hrm) hdg hc) kk
theorem r_callSN {y : MethodName} {host : String} {cY : ByteArray} {nY fr lo n idx : Nat} {ret : Option FieldType} {As : List Value} {v : Option Value} (C : Cx p s m args c X cc nL own) (h : At X σ s.heap H locs)
    (hM : Ok X l y cY nY ret fr lo As σ v σ') (hcode : Cond.code y cY nY ret ∈ GW) (hlink : Cond.methodLinkNest own idx y host ∈ NW) (hstat : Cond.static y ∈ GW) (hini : Cond.initialized y.cls ∈ GW) (hls : ls.size = nL)
    (hd : y.cls ≠ "java/lang/invoke/MethodHandle" ∧ y.cls ≠ "java/lang/invoke/VarHandle" ∧ (parseMethodDescriptor y.desc).map (fun d => d.parameters.length) = some As.length) (hR : fr + 1 ≤ R.frames ∧ 8 + (nY + 11) + lo ≤ R.locals) (hc : cells ≤ R.cells ∧ slots ≤ R.slots) (hrm : (rest.map fun v => v.category).sum ≤ 8) (hdg : decode cc pc = .ok (.invokestatic idx, 3)) {st0 : List Value} (hst : st0 = As.reverse ++ rest)
    (kk : ∀ (H1 : Heap) (locs1 : List Loc), At X σ' s.heap H1 locs1 → W p l e R s m args below meth c H1 locs1 cells slots Q (F0 m (pc + 3) ls (v.toList ++ rest))) : W p l e R s m args below meth c H locs cells slots Q (F0 m pc ls st0) := by
  have hts := C.2.2.2.2.1
  exact r_back (mc := 0) (ms := 0) C h (va_runSN (Ts := GW) (rest := rest) ⟨C.1, C.2.1, C.2.2.1, C.2.2.2.1, hts⟩ hM ⟨va_cnB As.length hts (gw_tbl hcode) rfl rfl rfl (C.2.2.2.2.2.2.1 _ hlink) (hts _ hini) hd hR, hts _ hstat, trivial⟩ ⟨pw_blind, pw_at C h⟩ rfl rfl hls hst (lv_room hrm) hdg hc) kk
end RULES
end
