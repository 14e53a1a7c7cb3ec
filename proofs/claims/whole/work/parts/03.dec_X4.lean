theorem dX4_init_0 : decode cX4_init 0 = .ok (.aload_n 0, 1) := by decide +kernel
theorem dX4_init_1 : decode cX4_init 1 = .ok (.invokespecial 3, 3) := by decide +kernel
theorem dX4_init_4 : decode cX4_init 4 = .ok (.aload_n 0, 1) := by decide +kernel
theorem dX4_init_5 : decode cX4_init 5 = .ok (.iconst 1, 1) := by decide +kernel
theorem dX4_init_6 : decode cX4_init 6 = .ok (.putfield 9, 3) := by decide +kernel
theorem dX4_init_9 : decode cX4_init 9 = .ok (.aload_n 0, 1) := by decide +kernel
theorem dX4_init_10 : decode cX4_init 10 = .ok (.iconst 0, 1) := by decide +kernel
theorem dX4_init_11 : decode cX4_init 11 = .ok (.putfield 15, 3) := by decide +kernel
theorem dX4_init_14 : decode cX4_init 14 = .ok (.aload_n 0, 1) := by decide +kernel
theorem dX4_init_15 : decode cX4_init 15 = .ok (.iconst 0, 1) := by decide +kernel
theorem dX4_init_16 : decode cX4_init 16 = .ok (.putfield 18, 3) := by decide +kernel
theorem dX4_init_19 : decode cX4_init 19 = .ok (.aload_n 0, 1) := by decide +kernel
theorem dX4_init_20 : decode cX4_init 20 = .ok (.iconst 5, 1) := by decide +kernel
theorem dX4_init_21 : decode cX4_init 21 = .ok (.newarray .int, 2) := by decide +kernel
theorem dX4_init_23 : decode cX4_init 23 = .ok (.putfield 21, 3) := by decide +kernel
theorem dX4_init_26 : decode cX4_init 26 = .ok (.aload_n 0, 1) := by decide +kernel
theorem dX4_init_27 : decode cX4_init 27 = .ok (.iconst 5, 1) := by decide +kernel
theorem dX4_init_28 : decode cX4_init 28 = .ok (.newarray .int, 2) := by decide +kernel
theorem dX4_init_30 : decode cX4_init 30 = .ok (.putfield 25, 3) := by decide +kernel
theorem dX4_init_33 : decode cX4_init 33 = .ok (.aload_n 0, 1) := by decide +kernel
theorem dX4_init_34 : decode cX4_init 34 = .ok (.bipush 30, 2) := by decide +kernel
theorem dX4_init_36 : decode cX4_init 36 = .ok (.newarray .int, 2) := by decide +kernel
theorem dX4_init_38 : decode cX4_init 38 = .ok (.putfield 28, 3) := by decide +kernel
theorem dX4_init_41 : decode cX4_init 41 = .ok (.aload_n 0, 1) := by decide +kernel
theorem dX4_init_42 : decode cX4_init 42 = .ok (.bipush 40, 2) := by decide +kernel
theorem dX4_init_44 : decode cX4_init 44 = .ok (.newarray .int, 2) := by decide +kernel
theorem dX4_init_46 : decode cX4_init 46 = .ok (.putfield 31, 3) := by decide +kernel
theorem dX4_init_49 : decode cX4_init 49 = .ok (.aload_n 0, 1) := by decide +kernel
theorem dX4_init_50 : decode cX4_init 50 = .ok (.bipush 40, 2) := by decide +kernel
theorem dX4_init_52 : decode cX4_init 52 = .ok (.newarray .int, 2) := by decide +kernel
theorem dX4_init_54 : decode cX4_init 54 = .ok (.putfield 34, 3) := by decide +kernel
theorem dX4_init_57 : decode cX4_init 57 = .ok (.aload_n 0, 1) := by decide +kernel
theorem dX4_init_58 : decode cX4_init 58 = .ok (.bipush 80, 2) := by decide +kernel
theorem dX4_init_60 : decode cX4_init 60 = .ok (.newarray .int, 2) := by decide +kernel
theorem dX4_init_62 : decode cX4_init 62 = .ok (.putfield 37, 3) := by decide +kernel
theorem dX4_init_65 : decode cX4_init 65 = .ok (.aload_n 0, 1) := by decide +kernel
theorem dX4_init_66 : decode cX4_init 66 = .ok (.bipush 80, 2) := by decide +kernel
theorem dX4_init_68 : decode cX4_init 68 = .ok (.newarray .int, 2) := by decide +kernel
theorem dX4_init_70 : decode cX4_init 70 = .ok (.putfield 40, 3) := by decide +kernel
theorem dX4_init_73 : decode cX4_init 73 = .ok (.aload_n 0, 1) := by decide +kernel
theorem dX4_init_74 : decode cX4_init 74 = .ok (.bipush 80, 2) := by decide +kernel
theorem dX4_init_76 : decode cX4_init 76 = .ok (.newarray .int, 2) := by decide +kernel
theorem dX4_init_78 : decode cX4_init 78 = .ok (.putfield 43, 3) := by decide +kernel
theorem dX4_init_81 : decode cX4_init 81 = .ok (.return_, 1) := by decide +kernel
theorem dX4_clear_0 : decode cX4_clear 0 = .ok (.aload_n 0, 1) := by decide +kernel
theorem dX4_clear_1 : decode cX4_clear 1 = .ok (.iconst 1, 1) := by decide +kernel
theorem dX4_clear_2 : decode cX4_clear 2 = .ok (.putfield 9, 3) := by decide +kernel
theorem dX4_clear_5 : decode cX4_clear 5 = .ok (.aload_n 0, 1) := by decide +kernel
theorem dX4_clear_6 : decode cX4_clear 6 = .ok (.iconst 0, 1) := by decide +kernel
theorem dX4_clear_7 : decode cX4_clear 7 = .ok (.putfield 15, 3) := by decide +kernel
theorem dX4_clear_10 : decode cX4_clear 10 = .ok (.aload_n 0, 1) := by decide +kernel
theorem dX4_clear_11 : decode cX4_clear 11 = .ok (.iconst 0, 1) := by decide +kernel
theorem dX4_clear_12 : decode cX4_clear 12 = .ok (.putfield 18, 3) := by decide +kernel
theorem dX4_clear_15 : decode cX4_clear 15 = .ok (.iconst 0, 1) := by decide +kernel
theorem dX4_clear_16 : decode cX4_clear 16 = .ok (.istore_n 1, 1) := by decide +kernel
theorem dX4_clear_17 : decode cX4_clear 17 = .ok (.iload_n 1, 1) := by decide +kernel
theorem dX4_clear_18 : decode cX4_clear 18 = .ok (.aload_n 0, 1) := by decide +kernel
theorem dX4_clear_19 : decode cX4_clear 19 = .ok (.getfield 28, 3) := by decide +kernel
theorem dX4_clear_22 : decode cX4_clear 22 = .ok (.arraylength, 1) := by decide +kernel
theorem dX4_clear_23 : decode cX4_clear 23 = .ok (.if_icmp .ge 16, 3) := by decide +kernel
theorem dX4_clear_26 : decode cX4_clear 26 = .ok (.aload_n 0, 1) := by decide +kernel
theorem dX4_clear_27 : decode cX4_clear 27 = .ok (.getfield 28, 3) := by decide +kernel
theorem dX4_clear_30 : decode cX4_clear 30 = .ok (.iload_n 1, 1) := by decide +kernel
theorem dX4_clear_31 : decode cX4_clear 31 = .ok (.iconst (-1), 1) := by decide +kernel
theorem dX4_clear_32 : decode cX4_clear 32 = .ok (.iastore, 1) := by decide +kernel
theorem dX4_clear_33 : decode cX4_clear 33 = .ok (.iinc 1 1, 3) := by decide +kernel
theorem dX4_clear_36 : decode cX4_clear 36 = .ok (.goto (-19), 3) := by decide +kernel
theorem dX4_clear_39 : decode cX4_clear 39 = .ok (.return_, 1) := by decide +kernel
theorem dX4_hasShelf_0 : decode cX4_hasShelf 0 = .ok (.iload_n 1, 1) := by decide +kernel
theorem dX4_hasShelf_1 : decode cX4_hasShelf 1 = .ok (.ifCond .lt 15, 3) := by decide +kernel
theorem dX4_hasShelf_4 : decode cX4_hasShelf 4 = .ok (.iload_n 1, 1) := by decide +kernel
theorem dX4_hasShelf_5 : decode cX4_hasShelf 5 = .ok (.aload_n 0, 1) := by decide +kernel
theorem dX4_hasShelf_6 : decode cX4_hasShelf 6 = .ok (.getfield 9, 3) := by decide +kernel
theorem dX4_hasShelf_9 : decode cX4_hasShelf 9 = .ok (.if_icmp .ge 7, 3) := by decide +kernel
theorem dX4_hasShelf_12 : decode cX4_hasShelf 12 = .ok (.iconst 1, 1) := by decide +kernel
theorem dX4_hasShelf_13 : decode cX4_hasShelf 13 = .ok (.goto 4, 3) := by decide +kernel
theorem dX4_hasShelf_16 : decode cX4_hasShelf 16 = .ok (.iconst 0, 1) := by decide +kernel
theorem dX4_hasShelf_17 : decode cX4_hasShelf 17 = .ok (.ireturn, 1) := by decide +kernel
theorem dX4_hasItem_0 : decode cX4_hasItem 0 = .ok (.iload_n 1, 1) := by decide +kernel
theorem dX4_hasItem_1 : decode cX4_hasItem 1 = .ok (.ifCond .lt 15, 3) := by decide +kernel
theorem dX4_hasItem_4 : decode cX4_hasItem 4 = .ok (.iload_n 1, 1) := by decide +kernel
theorem dX4_hasItem_5 : decode cX4_hasItem 5 = .ok (.aload_n 0, 1) := by decide +kernel
theorem dX4_hasItem_6 : decode cX4_hasItem 6 = .ok (.getfield 15, 3) := by decide +kernel
theorem dX4_hasItem_9 : decode cX4_hasItem 9 = .ok (.if_icmp .ge 7, 3) := by decide +kernel
theorem dX4_hasItem_12 : decode cX4_hasItem 12 = .ok (.iconst 1, 1) := by decide +kernel
theorem dX4_hasItem_13 : decode cX4_hasItem 13 = .ok (.goto 4, 3) := by decide +kernel
theorem dX4_hasItem_16 : decode cX4_hasItem 16 = .ok (.iconst 0, 1) := by decide +kernel
theorem dX4_hasItem_17 : decode cX4_hasItem 17 = .ok (.ireturn, 1) := by decide +kernel
theorem dX4_hasCouple_0 : decode cX4_hasCouple 0 = .ok (.aload_n 0, 1) := by decide +kernel
theorem dX4_hasCouple_1 : decode cX4_hasCouple 1 = .ok (.iload_n 1, 1) := by decide +kernel
theorem dX4_hasCouple_2 : decode cX4_hasCouple 2 = .ok (.invokevirtual 46, 3) := by decide +kernel
theorem dX4_hasCouple_5 : decode cX4_hasCouple 5 = .ok (.ifCond .eq 15, 3) := by decide +kernel
theorem dX4_hasCouple_8 : decode cX4_hasCouple 8 = .ok (.aload_n 0, 1) := by decide +kernel
theorem dX4_hasCouple_9 : decode cX4_hasCouple 9 = .ok (.iload_n 2, 1) := by decide +kernel
theorem dX4_hasCouple_10 : decode cX4_hasCouple 10 = .ok (.invokevirtual 50, 3) := by decide +kernel
theorem dX4_hasCouple_13 : decode cX4_hasCouple 13 = .ok (.ifCond .eq 7, 3) := by decide +kernel
theorem dX4_hasCouple_16 : decode cX4_hasCouple 16 = .ok (.iconst 1, 1) := by decide +kernel
theorem dX4_hasCouple_17 : decode cX4_hasCouple 17 = .ok (.goto 4, 3) := by decide +kernel
theorem dX4_hasCouple_20 : decode cX4_hasCouple 20 = .ok (.iconst 0, 1) := by decide +kernel
theorem dX4_hasCouple_21 : decode cX4_hasCouple 21 = .ok (.ireturn, 1) := by decide +kernel
theorem dX4_hasMove_0 : decode cX4_hasMove 0 = .ok (.iload_n 1, 1) := by decide +kernel
theorem dX4_hasMove_1 : decode cX4_hasMove 1 = .ok (.ifCond .lt 15, 3) := by decide +kernel
theorem dX4_hasMove_4 : decode cX4_hasMove 4 = .ok (.iload_n 1, 1) := by decide +kernel
theorem dX4_hasMove_5 : decode cX4_hasMove 5 = .ok (.aload_n 0, 1) := by decide +kernel
theorem dX4_hasMove_6 : decode cX4_hasMove 6 = .ok (.getfield 18, 3) := by decide +kernel
theorem dX4_hasMove_9 : decode cX4_hasMove 9 = .ok (.if_icmp .ge 7, 3) := by decide +kernel
theorem dX4_hasMove_12 : decode cX4_hasMove 12 = .ok (.iconst 1, 1) := by decide +kernel
theorem dX4_hasMove_13 : decode cX4_hasMove 13 = .ok (.goto 4, 3) := by decide +kernel
theorem dX4_hasMove_16 : decode cX4_hasMove 16 = .ok (.iconst 0, 1) := by decide +kernel
theorem dX4_hasMove_17 : decode cX4_hasMove 17 = .ok (.ireturn, 1) := by decide +kernel
theorem dX4_placeOf_0 : decode cX4_placeOf 0 = .ok (.iload_n 0, 1) := by decide +kernel
theorem dX4_placeOf_1 : decode cX4_placeOf 1 = .ok (.iconst 5, 1) := by decide +kernel
theorem dX4_placeOf_2 : decode cX4_placeOf 2 = .ok (.imul, 1) := by decide +kernel
theorem dX4_placeOf_3 : decode cX4_placeOf 3 = .ok (.iload_n 1, 1) := by decide +kernel
theorem dX4_placeOf_4 : decode cX4_placeOf 4 = .ok (.iadd, 1) := by decide +kernel
theorem dX4_placeOf_5 : decode cX4_placeOf 5 = .ok (.ireturn, 1) := by decide +kernel
theorem dX4_isStockTold_0 : decode cX4_isStockTold 0 = .ok (.aload_n 0, 1) := by decide +kernel
theorem dX4_isStockTold_1 : decode cX4_isStockTold 1 = .ok (.iload_n 1, 1) := by decide +kernel
theorem dX4_isStockTold_2 : decode cX4_isStockTold 2 = .ok (.iload_n 2, 1) := by decide +kernel
theorem dX4_isStockTold_3 : decode cX4_isStockTold 3 = .ok (.invokevirtual 53, 3) := by decide +kernel
theorem dX4_isStockTold_6 : decode cX4_isStockTold 6 = .ok (.ifCond .eq 21, 3) := by decide +kernel
theorem dX4_isStockTold_9 : decode cX4_isStockTold 9 = .ok (.aload_n 0, 1) := by decide +kernel
theorem dX4_isStockTold_10 : decode cX4_isStockTold 10 = .ok (.getfield 28, 3) := by decide +kernel
theorem dX4_isStockTold_13 : decode cX4_isStockTold 13 = .ok (.iload_n 1, 1) := by decide +kernel
theorem dX4_isStockTold_14 : decode cX4_isStockTold 14 = .ok (.iload_n 2, 1) := by decide +kernel
theorem dX4_isStockTold_15 : decode cX4_isStockTold 15 = .ok (.invokestatic 57, 3) := by decide +kernel
theorem dX4_isStockTold_18 : decode cX4_isStockTold 18 = .ok (.iaload, 1) := by decide +kernel
theorem dX4_isStockTold_19 : decode cX4_isStockTold 19 = .ok (.iconst (-1), 1) := by decide +kernel
theorem dX4_isStockTold_20 : decode cX4_isStockTold 20 = .ok (.if_icmp .eq 7, 3) := by decide +kernel
theorem dX4_isStockTold_23 : decode cX4_isStockTold 23 = .ok (.iconst 1, 1) := by decide +kernel
theorem dX4_isStockTold_24 : decode cX4_isStockTold 24 = .ok (.goto 4, 3) := by decide +kernel
theorem dX4_isStockTold_27 : decode cX4_isStockTold 27 = .ok (.iconst 0, 1) := by decide +kernel
theorem dX4_isStockTold_28 : decode cX4_isStockTold 28 = .ok (.ireturn, 1) := by decide +kernel
theorem dX4_tellStock_0 : decode cX4_tellStock 0 = .ok (.aload_n 0, 1) := by decide +kernel
theorem dX4_tellStock_1 : decode cX4_tellStock 1 = .ok (.iload_n 1, 1) := by decide +kernel
theorem dX4_tellStock_2 : decode cX4_tellStock 2 = .ok (.iload_n 2, 1) := by decide +kernel
theorem dX4_tellStock_3 : decode cX4_tellStock 3 = .ok (.invokevirtual 53, 3) := by decide +kernel
theorem dX4_tellStock_6 : decode cX4_tellStock 6 = .ok (.ifCond .eq 14, 3) := by decide +kernel
theorem dX4_tellStock_9 : decode cX4_tellStock 9 = .ok (.aload_n 0, 1) := by decide +kernel
theorem dX4_tellStock_10 : decode cX4_tellStock 10 = .ok (.getfield 28, 3) := by decide +kernel
theorem dX4_tellStock_13 : decode cX4_tellStock 13 = .ok (.iload_n 1, 1) := by decide +kernel
theorem dX4_tellStock_14 : decode cX4_tellStock 14 = .ok (.iload_n 2, 1) := by decide +kernel
theorem dX4_tellStock_15 : decode cX4_tellStock 15 = .ok (.invokestatic 57, 3) := by decide +kernel
theorem dX4_tellStock_18 : decode cX4_tellStock 18 = .ok (.iload_n 3, 1) := by decide +kernel
theorem dX4_tellStock_19 : decode cX4_tellStock 19 = .ok (.iastore, 1) := by decide +kernel
theorem dX4_tellStock_20 : decode cX4_tellStock 20 = .ok (.return_, 1) := by decide +kernel
theorem dX4_stockOf_0 : decode cX4_stockOf 0 = .ok (.aload_n 0, 1) := by decide +kernel
theorem dX4_stockOf_1 : decode cX4_stockOf 1 = .ok (.getfield 28, 3) := by decide +kernel
theorem dX4_stockOf_4 : decode cX4_stockOf 4 = .ok (.iload_n 1, 1) := by decide +kernel
theorem dX4_stockOf_5 : decode cX4_stockOf 5 = .ok (.iload_n 2, 1) := by decide +kernel
theorem dX4_stockOf_6 : decode cX4_stockOf 6 = .ok (.invokestatic 57, 3) := by decide +kernel
theorem dX4_stockOf_9 : decode cX4_stockOf 9 = .ok (.iaload, 1) := by decide +kernel
theorem dX4_stockOf_10 : decode cX4_stockOf 10 = .ok (.iconst 0, 1) := by decide +kernel
theorem dX4_stockOf_11 : decode cX4_stockOf 11 = .ok (.invokestatic 61, 3) := by decide +kernel
theorem dX4_stockOf_14 : decode cX4_stockOf 14 = .ok (.ireturn, 1) := by decide +kernel
theorem dX4_addItem_0 : decode cX4_addItem 0 = .ok (.aload_n 0, 1) := by decide +kernel
theorem dX4_addItem_1 : decode cX4_addItem 1 = .ok (.getfield 15, 3) := by decide +kernel
theorem dX4_addItem_4 : decode cX4_addItem 4 = .ok (.iconst 5, 1) := by decide +kernel
theorem dX4_addItem_5 : decode cX4_addItem 5 = .ok (.if_icmp .ge 33, 3) := by decide +kernel
theorem dX4_addItem_8 : decode cX4_addItem 8 = .ok (.aload_n 0, 1) := by decide +kernel
theorem dX4_addItem_9 : decode cX4_addItem 9 = .ok (.getfield 21, 3) := by decide +kernel
theorem dX4_addItem_12 : decode cX4_addItem 12 = .ok (.aload_n 0, 1) := by decide +kernel
theorem dX4_addItem_13 : decode cX4_addItem 13 = .ok (.getfield 15, 3) := by decide +kernel
theorem dX4_addItem_16 : decode cX4_addItem 16 = .ok (.iload_n 1, 1) := by decide +kernel
theorem dX4_addItem_17 : decode cX4_addItem 17 = .ok (.iastore, 1) := by decide +kernel
theorem dX4_addItem_18 : decode cX4_addItem 18 = .ok (.aload_n 0, 1) := by decide +kernel
theorem dX4_addItem_19 : decode cX4_addItem 19 = .ok (.getfield 25, 3) := by decide +kernel
theorem dX4_addItem_22 : decode cX4_addItem 22 = .ok (.aload_n 0, 1) := by decide +kernel
theorem dX4_addItem_23 : decode cX4_addItem 23 = .ok (.getfield 15, 3) := by decide +kernel
theorem dX4_addItem_26 : decode cX4_addItem 26 = .ok (.iload_n 2, 1) := by decide +kernel
theorem dX4_addItem_27 : decode cX4_addItem 27 = .ok (.iastore, 1) := by decide +kernel
theorem dX4_addItem_28 : decode cX4_addItem 28 = .ok (.aload_n 0, 1) := by decide +kernel
theorem dX4_addItem_29 : decode cX4_addItem 29 = .ok (.dup, 1) := by decide +kernel
theorem dX4_addItem_30 : decode cX4_addItem 30 = .ok (.getfield 15, 3) := by decide +kernel
theorem dX4_addItem_33 : decode cX4_addItem 33 = .ok (.iconst 1, 1) := by decide +kernel
theorem dX4_addItem_34 : decode cX4_addItem 34 = .ok (.iadd, 1) := by decide +kernel
theorem dX4_addItem_35 : decode cX4_addItem 35 = .ok (.putfield 15, 3) := by decide +kernel
theorem dX4_addItem_38 : decode cX4_addItem 38 = .ok (.return_, 1) := by decide +kernel
theorem dX4_addMove_0 : decode cX4_addMove 0 = .ok (.aload_n 0, 1) := by decide +kernel
theorem dX4_addMove_1 : decode cX4_addMove 1 = .ok (.getfield 18, 3) := by decide +kernel
theorem dX4_addMove_4 : decode cX4_addMove 4 = .ok (.bipush 40, 2) := by decide +kernel
theorem dX4_addMove_6 : decode cX4_addMove 6 = .ok (.if_icmp .lt 5, 3) := by decide +kernel
theorem dX4_addMove_9 : decode cX4_addMove 9 = .ok (.iconst (-1), 1) := by decide +kernel
theorem dX4_addMove_10 : decode cX4_addMove 10 = .ok (.ireturn, 1) := by decide +kernel
theorem dX4_addMove_11 : decode cX4_addMove 11 = .ok (.aload_n 0, 1) := by decide +kernel
theorem dX4_addMove_12 : decode cX4_addMove 12 = .ok (.getfield 18, 3) := by decide +kernel
theorem dX4_addMove_15 : decode cX4_addMove 15 = .ok (.istore_n 3, 1) := by decide +kernel
theorem dX4_addMove_16 : decode cX4_addMove 16 = .ok (.aload_n 0, 1) := by decide +kernel
theorem dX4_addMove_17 : decode cX4_addMove 17 = .ok (.getfield 31, 3) := by decide +kernel
theorem dX4_addMove_20 : decode cX4_addMove 20 = .ok (.iload_n 3, 1) := by decide +kernel
theorem dX4_addMove_21 : decode cX4_addMove 21 = .ok (.iload_n 1, 1) := by decide +kernel
theorem dX4_addMove_22 : decode cX4_addMove 22 = .ok (.iastore, 1) := by decide +kernel
theorem dX4_addMove_23 : decode cX4_addMove 23 = .ok (.aload_n 0, 1) := by decide +kernel
theorem dX4_addMove_24 : decode cX4_addMove 24 = .ok (.getfield 34, 3) := by decide +kernel
theorem dX4_addMove_27 : decode cX4_addMove 27 = .ok (.iload_n 3, 1) := by decide +kernel
theorem dX4_addMove_28 : decode cX4_addMove 28 = .ok (.iload_n 2, 1) := by decide +kernel
theorem dX4_addMove_29 : decode cX4_addMove 29 = .ok (.iastore, 1) := by decide +kernel
theorem dX4_addMove_30 : decode cX4_addMove 30 = .ok (.aload_n 0, 1) := by decide +kernel
theorem dX4_addMove_31 : decode cX4_addMove 31 = .ok (.iload_n 3, 1) := by decide +kernel
theorem dX4_addMove_32 : decode cX4_addMove 32 = .ok (.iconst 0, 1) := by decide +kernel
theorem dX4_addMove_33 : decode cX4_addMove 33 = .ok (.invokestatic 66, 3) := by decide +kernel
theorem dX4_addMove_36 : decode cX4_addMove 36 = .ok (.invokevirtual 69, 3) := by decide +kernel
theorem dX4_addMove_39 : decode cX4_addMove 39 = .ok (.aload_n 0, 1) := by decide +kernel
theorem dX4_addMove_40 : decode cX4_addMove 40 = .ok (.iload_n 3, 1) := by decide +kernel
theorem dX4_addMove_41 : decode cX4_addMove 41 = .ok (.iconst 1, 1) := by decide +kernel
theorem dX4_addMove_42 : decode cX4_addMove 42 = .ok (.invokestatic 66, 3) := by decide +kernel
theorem dX4_addMove_45 : decode cX4_addMove 45 = .ok (.invokevirtual 69, 3) := by decide +kernel
theorem dX4_addMove_48 : decode cX4_addMove 48 = .ok (.aload_n 0, 1) := by decide +kernel
theorem dX4_addMove_49 : decode cX4_addMove 49 = .ok (.dup, 1) := by decide +kernel
theorem dX4_addMove_50 : decode cX4_addMove 50 = .ok (.getfield 18, 3) := by decide +kernel
theorem dX4_addMove_53 : decode cX4_addMove 53 = .ok (.iconst 1, 1) := by decide +kernel
theorem dX4_addMove_54 : decode cX4_addMove 54 = .ok (.iadd, 1) := by decide +kernel
theorem dX4_addMove_55 : decode cX4_addMove 55 = .ok (.putfield 18, 3) := by decide +kernel
theorem dX4_addMove_58 : decode cX4_addMove 58 = .ok (.iload_n 3, 1) := by decide +kernel
theorem dX4_addMove_59 : decode cX4_addMove 59 = .ok (.ireturn, 1) := by decide +kernel
theorem dX4_removeLastMove_0 : decode cX4_removeLastMove 0 = .ok (.aload_n 0, 1) := by decide +kernel
theorem dX4_removeLastMove_1 : decode cX4_removeLastMove 1 = .ok (.getfield 18, 3) := by decide +kernel
theorem dX4_removeLastMove_4 : decode cX4_removeLastMove 4 = .ok (.ifCond .le 13, 3) := by decide +kernel
theorem dX4_removeLastMove_7 : decode cX4_removeLastMove 7 = .ok (.aload_n 0, 1) := by decide +kernel
theorem dX4_removeLastMove_8 : decode cX4_removeLastMove 8 = .ok (.dup, 1) := by decide +kernel
theorem dX4_removeLastMove_9 : decode cX4_removeLastMove 9 = .ok (.getfield 18, 3) := by decide +kernel
theorem dX4_removeLastMove_12 : decode cX4_removeLastMove 12 = .ok (.iconst 1, 1) := by decide +kernel
theorem dX4_removeLastMove_13 : decode cX4_removeLastMove 13 = .ok (.isub, 1) := by decide +kernel
theorem dX4_removeLastMove_14 : decode cX4_removeLastMove 14 = .ok (.putfield 18, 3) := by decide +kernel
theorem dX4_removeLastMove_17 : decode cX4_removeLastMove 17 = .ok (.return_, 1) := by decide +kernel
theorem dX4_setLeg_0 : decode cX4_setLeg 0 = .ok (.iload_n 1, 1) := by decide +kernel
theorem dX4_setLeg_1 : decode cX4_setLeg 1 = .ok (.ifCond .lt 31, 3) := by decide +kernel
theorem dX4_setLeg_4 : decode cX4_setLeg 4 = .ok (.iload_n 1, 1) := by decide +kernel
theorem dX4_setLeg_5 : decode cX4_setLeg 5 = .ok (.bipush 80, 2) := by decide +kernel
theorem dX4_setLeg_7 : decode cX4_setLeg 7 = .ok (.if_icmp .ge 25, 3) := by decide +kernel
theorem dX4_setLeg_10 : decode cX4_setLeg 10 = .ok (.aload_n 0, 1) := by decide +kernel
theorem dX4_setLeg_11 : decode cX4_setLeg 11 = .ok (.getfield 37, 3) := by decide +kernel
theorem dX4_setLeg_14 : decode cX4_setLeg 14 = .ok (.iload_n 1, 1) := by decide +kernel
theorem dX4_setLeg_15 : decode cX4_setLeg 15 = .ok (.iload_n 2, 1) := by decide +kernel
theorem dX4_setLeg_16 : decode cX4_setLeg 16 = .ok (.iastore, 1) := by decide +kernel
theorem dX4_setLeg_17 : decode cX4_setLeg 17 = .ok (.aload_n 0, 1) := by decide +kernel
theorem dX4_setLeg_18 : decode cX4_setLeg 18 = .ok (.getfield 40, 3) := by decide +kernel
theorem dX4_setLeg_21 : decode cX4_setLeg 21 = .ok (.iload_n 1, 1) := by decide +kernel
theorem dX4_setLeg_22 : decode cX4_setLeg 22 = .ok (.iload_n 3, 1) := by decide +kernel
theorem dX4_setLeg_23 : decode cX4_setLeg 23 = .ok (.iastore, 1) := by decide +kernel
theorem dX4_setLeg_24 : decode cX4_setLeg 24 = .ok (.aload_n 0, 1) := by decide +kernel
theorem dX4_setLeg_25 : decode cX4_setLeg 25 = .ok (.getfield 43, 3) := by decide +kernel
theorem dX4_setLeg_28 : decode cX4_setLeg 28 = .ok (.iload_n 1, 1) := by decide +kernel
theorem dX4_setLeg_29 : decode cX4_setLeg 29 = .ok (.iload 4, 2) := by decide +kernel
theorem dX4_setLeg_31 : decode cX4_setLeg 31 = .ok (.iastore, 1) := by decide +kernel
theorem dX4_setLeg_32 : decode cX4_setLeg 32 = .ok (.return_, 1) := by decide +kernel
theorem dX4_removeLeg_0 : decode cX4_removeLeg 0 = .ok (.aload_n 0, 1) := by decide +kernel
theorem dX4_removeLeg_1 : decode cX4_removeLeg 1 = .ok (.iload_n 1, 1) := by decide +kernel
theorem dX4_removeLeg_2 : decode cX4_removeLeg 2 = .ok (.iconst (-1), 1) := by decide +kernel
theorem dX4_removeLeg_3 : decode cX4_removeLeg 3 = .ok (.iconst (-1), 1) := by decide +kernel
theorem dX4_removeLeg_4 : decode cX4_removeLeg 4 = .ok (.iconst (-1), 1) := by decide +kernel
theorem dX4_removeLeg_5 : decode cX4_removeLeg 5 = .ok (.invokevirtual 73, 3) := by decide +kernel
theorem dX4_removeLeg_8 : decode cX4_removeLeg 8 = .ok (.return_, 1) := by decide +kernel
theorem dX4_setSpan_0 : decode cX4_setSpan 0 = .ok (.iload_n 1, 1) := by decide +kernel
theorem dX4_setSpan_1 : decode cX4_setSpan 1 = .ok (.ifCond .lt 23, 3) := by decide +kernel
theorem dX4_setSpan_4 : decode cX4_setSpan 4 = .ok (.iload_n 1, 1) := by decide +kernel
theorem dX4_setSpan_5 : decode cX4_setSpan 5 = .ok (.bipush 80, 2) := by decide +kernel
theorem dX4_setSpan_7 : decode cX4_setSpan 7 = .ok (.if_icmp .ge 17, 3) := by decide +kernel
theorem dX4_setSpan_10 : decode cX4_setSpan 10 = .ok (.aload_n 0, 1) := by decide +kernel
theorem dX4_setSpan_11 : decode cX4_setSpan 11 = .ok (.getfield 40, 3) := by decide +kernel
theorem dX4_setSpan_14 : decode cX4_setSpan 14 = .ok (.iload_n 1, 1) := by decide +kernel
theorem dX4_setSpan_15 : decode cX4_setSpan 15 = .ok (.iload_n 2, 1) := by decide +kernel
theorem dX4_setSpan_16 : decode cX4_setSpan 16 = .ok (.iastore, 1) := by decide +kernel
theorem dX4_setSpan_17 : decode cX4_setSpan 17 = .ok (.aload_n 0, 1) := by decide +kernel
theorem dX4_setSpan_18 : decode cX4_setSpan 18 = .ok (.getfield 43, 3) := by decide +kernel
theorem dX4_setSpan_21 : decode cX4_setSpan 21 = .ok (.iload_n 1, 1) := by decide +kernel
theorem dX4_setSpan_22 : decode cX4_setSpan 22 = .ok (.iload_n 3, 1) := by decide +kernel
theorem dX4_setSpan_23 : decode cX4_setSpan 23 = .ok (.iastore, 1) := by decide +kernel
theorem dX4_setSpan_24 : decode cX4_setSpan 24 = .ok (.return_, 1) := by decide +kernel
theorem dX4_isThere_0 : decode cX4_isThere 0 = .ok (.aload_n 0, 1) := by decide +kernel
theorem dX4_isThere_1 : decode cX4_isThere 1 = .ok (.getfield 37, 3) := by decide +kernel
theorem dX4_isThere_4 : decode cX4_isThere 4 = .ok (.iload_n 1, 1) := by decide +kernel
theorem dX4_isThere_5 : decode cX4_isThere 5 = .ok (.iaload, 1) := by decide +kernel
theorem dX4_isThere_6 : decode cX4_isThere 6 = .ok (.iconst (-1), 1) := by decide +kernel
theorem dX4_isThere_7 : decode cX4_isThere 7 = .ok (.if_icmp .eq 7, 3) := by decide +kernel
theorem dX4_isThere_10 : decode cX4_isThere 10 = .ok (.iconst 1, 1) := by decide +kernel
theorem dX4_isThere_11 : decode cX4_isThere 11 = .ok (.goto 4, 3) := by decide +kernel
theorem dX4_isThere_14 : decode cX4_isThere 14 = .ok (.iconst 0, 1) := by decide +kernel
theorem dX4_isThere_15 : decode cX4_isThere 15 = .ok (.ireturn, 1) := by decide +kernel
theorem dX4_isOver_0 : decode cX4_isOver 0 = .ok (.aload_n 0, 1) := by decide +kernel
theorem dX4_isOver_1 : decode cX4_isOver 1 = .ok (.getfield 43, 3) := by decide +kernel
theorem dX4_isOver_4 : decode cX4_isOver 4 = .ok (.iload_n 1, 1) := by decide +kernel
theorem dX4_isOver_5 : decode cX4_isOver 5 = .ok (.iaload, 1) := by decide +kernel
theorem dX4_isOver_6 : decode cX4_isOver 6 = .ok (.iload_n 2, 1) := by decide +kernel
theorem dX4_isOver_7 : decode cX4_isOver 7 = .ok (.if_icmp .gt 7, 3) := by decide +kernel
theorem dX4_isOver_10 : decode cX4_isOver 10 = .ok (.iconst 1, 1) := by decide +kernel
theorem dX4_isOver_11 : decode cX4_isOver 11 = .ok (.goto 4, 3) := by decide +kernel
theorem dX4_isOver_14 : decode cX4_isOver 14 = .ok (.iconst 0, 1) := by decide +kernel
theorem dX4_isOver_15 : decode cX4_isOver 15 = .ok (.ireturn, 1) := by decide +kernel
theorem dX4_isToCome_0 : decode cX4_isToCome 0 = .ok (.aload_n 0, 1) := by decide +kernel
theorem dX4_isToCome_1 : decode cX4_isToCome 1 = .ok (.getfield 40, 3) := by decide +kernel
theorem dX4_isToCome_4 : decode cX4_isToCome 4 = .ok (.iload_n 1, 1) := by decide +kernel
theorem dX4_isToCome_5 : decode cX4_isToCome 5 = .ok (.iaload, 1) := by decide +kernel
theorem dX4_isToCome_6 : decode cX4_isToCome 6 = .ok (.iload_n 2, 1) := by decide +kernel
theorem dX4_isToCome_7 : decode cX4_isToCome 7 = .ok (.if_icmp .le 7, 3) := by decide +kernel
theorem dX4_isToCome_10 : decode cX4_isToCome 10 = .ok (.iconst 1, 1) := by decide +kernel
theorem dX4_isToCome_11 : decode cX4_isToCome 11 = .ok (.goto 4, 3) := by decide +kernel
theorem dX4_isToCome_14 : decode cX4_isToCome 14 = .ok (.iconst 0, 1) := by decide +kernel
theorem dX4_isToCome_15 : decode cX4_isToCome 15 = .ok (.ireturn, 1) := by decide +kernel
