theorem dX1_init_0 : decode cX1_init 0 = .ok (.aload_n 0, 1) := by decide +kernel
theorem dX1_init_1 : decode cX1_init 1 = .ok (.invokespecial 3, 3) := by decide +kernel
theorem dX1_init_4 : decode cX1_init 4 = .ok (.aload_n 0, 1) := by decide +kernel
theorem dX1_init_5 : decode cX1_init 5 = .ok (.iconst 0, 1) := by decide +kernel
theorem dX1_init_6 : decode cX1_init 6 = .ok (.putfield 9, 3) := by decide +kernel
theorem dX1_init_9 : decode cX1_init 9 = .ok (.aload_n 0, 1) := by decide +kernel
theorem dX1_init_10 : decode cX1_init 10 = .ok (.bipush 40, 2) := by decide +kernel
theorem dX1_init_12 : decode cX1_init 12 = .ok (.newarray .int, 2) := by decide +kernel
theorem dX1_init_14 : decode cX1_init 14 = .ok (.putfield 15, 3) := by decide +kernel
theorem dX1_init_17 : decode cX1_init 17 = .ok (.aload_n 0, 1) := by decide +kernel
theorem dX1_init_18 : decode cX1_init 18 = .ok (.bipush 40, 2) := by decide +kernel
theorem dX1_init_20 : decode cX1_init 20 = .ok (.newarray .int, 2) := by decide +kernel
theorem dX1_init_22 : decode cX1_init 22 = .ok (.putfield 19, 3) := by decide +kernel
theorem dX1_init_25 : decode cX1_init 25 = .ok (.aload_n 0, 1) := by decide +kernel
theorem dX1_init_26 : decode cX1_init 26 = .ok (.bipush 40, 2) := by decide +kernel
theorem dX1_init_28 : decode cX1_init 28 = .ok (.newarray .int, 2) := by decide +kernel
theorem dX1_init_30 : decode cX1_init 30 = .ok (.putfield 22, 3) := by decide +kernel
theorem dX1_init_33 : decode cX1_init 33 = .ok (.aload_n 0, 1) := by decide +kernel
theorem dX1_init_34 : decode cX1_init 34 = .ok (.bipush 40, 2) := by decide +kernel
theorem dX1_init_36 : decode cX1_init 36 = .ok (.newarray .int, 2) := by decide +kernel
theorem dX1_init_38 : decode cX1_init 38 = .ok (.putfield 25, 3) := by decide +kernel
theorem dX1_init_41 : decode cX1_init 41 = .ok (.return_, 1) := by decide +kernel
theorem dX1_append_0 : decode cX1_append 0 = .ok (.aload_n 0, 1) := by decide +kernel
theorem dX1_append_1 : decode cX1_append 1 = .ok (.getfield 9, 3) := by decide +kernel
theorem dX1_append_4 : decode cX1_append 4 = .ok (.bipush 40, 2) := by decide +kernel
theorem dX1_append_6 : decode cX1_append 6 = .ok (.if_icmp .ge 54, 3) := by decide +kernel
theorem dX1_append_9 : decode cX1_append 9 = .ok (.aload_n 0, 1) := by decide +kernel
theorem dX1_append_10 : decode cX1_append 10 = .ok (.getfield 15, 3) := by decide +kernel
theorem dX1_append_13 : decode cX1_append 13 = .ok (.aload_n 0, 1) := by decide +kernel
theorem dX1_append_14 : decode cX1_append 14 = .ok (.getfield 9, 3) := by decide +kernel
theorem dX1_append_17 : decode cX1_append 17 = .ok (.iload_n 1, 1) := by decide +kernel
theorem dX1_append_18 : decode cX1_append 18 = .ok (.iastore, 1) := by decide +kernel
theorem dX1_append_19 : decode cX1_append 19 = .ok (.aload_n 0, 1) := by decide +kernel
theorem dX1_append_20 : decode cX1_append 20 = .ok (.getfield 19, 3) := by decide +kernel
theorem dX1_append_23 : decode cX1_append 23 = .ok (.aload_n 0, 1) := by decide +kernel
theorem dX1_append_24 : decode cX1_append 24 = .ok (.getfield 9, 3) := by decide +kernel
theorem dX1_append_27 : decode cX1_append 27 = .ok (.iload_n 2, 1) := by decide +kernel
theorem dX1_append_28 : decode cX1_append 28 = .ok (.iastore, 1) := by decide +kernel
theorem dX1_append_29 : decode cX1_append 29 = .ok (.aload_n 0, 1) := by decide +kernel
theorem dX1_append_30 : decode cX1_append 30 = .ok (.getfield 22, 3) := by decide +kernel
theorem dX1_append_33 : decode cX1_append 33 = .ok (.aload_n 0, 1) := by decide +kernel
theorem dX1_append_34 : decode cX1_append 34 = .ok (.getfield 9, 3) := by decide +kernel
theorem dX1_append_37 : decode cX1_append 37 = .ok (.iload_n 3, 1) := by decide +kernel
theorem dX1_append_38 : decode cX1_append 38 = .ok (.iastore, 1) := by decide +kernel
theorem dX1_append_39 : decode cX1_append 39 = .ok (.aload_n 0, 1) := by decide +kernel
theorem dX1_append_40 : decode cX1_append 40 = .ok (.getfield 25, 3) := by decide +kernel
theorem dX1_append_43 : decode cX1_append 43 = .ok (.aload_n 0, 1) := by decide +kernel
theorem dX1_append_44 : decode cX1_append 44 = .ok (.getfield 9, 3) := by decide +kernel
theorem dX1_append_47 : decode cX1_append 47 = .ok (.iload 4, 2) := by decide +kernel
theorem dX1_append_49 : decode cX1_append 49 = .ok (.iastore, 1) := by decide +kernel
theorem dX1_append_50 : decode cX1_append 50 = .ok (.aload_n 0, 1) := by decide +kernel
theorem dX1_append_51 : decode cX1_append 51 = .ok (.dup, 1) := by decide +kernel
theorem dX1_append_52 : decode cX1_append 52 = .ok (.getfield 9, 3) := by decide +kernel
theorem dX1_append_55 : decode cX1_append 55 = .ok (.iconst 1, 1) := by decide +kernel
theorem dX1_append_56 : decode cX1_append 56 = .ok (.iadd, 1) := by decide +kernel
theorem dX1_append_57 : decode cX1_append 57 = .ok (.putfield 9, 3) := by decide +kernel
theorem dX1_append_60 : decode cX1_append 60 = .ok (.return_, 1) := by decide +kernel
theorem dX1_removeLast_0 : decode cX1_removeLast 0 = .ok (.aload_n 0, 1) := by decide +kernel
theorem dX1_removeLast_1 : decode cX1_removeLast 1 = .ok (.getfield 9, 3) := by decide +kernel
theorem dX1_removeLast_4 : decode cX1_removeLast 4 = .ok (.ifCond .le 13, 3) := by decide +kernel
theorem dX1_removeLast_7 : decode cX1_removeLast 7 = .ok (.aload_n 0, 1) := by decide +kernel
theorem dX1_removeLast_8 : decode cX1_removeLast 8 = .ok (.dup, 1) := by decide +kernel
theorem dX1_removeLast_9 : decode cX1_removeLast 9 = .ok (.getfield 9, 3) := by decide +kernel
theorem dX1_removeLast_12 : decode cX1_removeLast 12 = .ok (.iconst 1, 1) := by decide +kernel
theorem dX1_removeLast_13 : decode cX1_removeLast 13 = .ok (.isub, 1) := by decide +kernel
theorem dX1_removeLast_14 : decode cX1_removeLast 14 = .ok (.putfield 9, 3) := by decide +kernel
theorem dX1_removeLast_17 : decode cX1_removeLast 17 = .ok (.return_, 1) := by decide +kernel
theorem dX1_isAt_0 : decode cX1_isAt 0 = .ok (.aload_n 0, 1) := by decide +kernel
theorem dX1_isAt_1 : decode cX1_isAt 1 = .ok (.getfield 15, 3) := by decide +kernel
theorem dX1_isAt_4 : decode cX1_isAt 4 = .ok (.iload_n 1, 1) := by decide +kernel
theorem dX1_isAt_5 : decode cX1_isAt 5 = .ok (.iaload, 1) := by decide +kernel
theorem dX1_isAt_6 : decode cX1_isAt 6 = .ok (.iload_n 2, 1) := by decide +kernel
theorem dX1_isAt_7 : decode cX1_isAt 7 = .ok (.if_icmp .ne 17, 3) := by decide +kernel
theorem dX1_isAt_10 : decode cX1_isAt 10 = .ok (.aload_n 0, 1) := by decide +kernel
theorem dX1_isAt_11 : decode cX1_isAt 11 = .ok (.getfield 19, 3) := by decide +kernel
theorem dX1_isAt_14 : decode cX1_isAt 14 = .ok (.iload_n 1, 1) := by decide +kernel
theorem dX1_isAt_15 : decode cX1_isAt 15 = .ok (.iaload, 1) := by decide +kernel
theorem dX1_isAt_16 : decode cX1_isAt 16 = .ok (.iload_n 3, 1) := by decide +kernel
theorem dX1_isAt_17 : decode cX1_isAt 17 = .ok (.if_icmp .ne 7, 3) := by decide +kernel
theorem dX1_isAt_20 : decode cX1_isAt 20 = .ok (.iconst 1, 1) := by decide +kernel
theorem dX1_isAt_21 : decode cX1_isAt 21 = .ok (.goto 4, 3) := by decide +kernel
theorem dX1_isAt_24 : decode cX1_isAt 24 = .ok (.iconst 0, 1) := by decide +kernel
theorem dX1_isAt_25 : decode cX1_isAt 25 = .ok (.ireturn, 1) := by decide +kernel
theorem dX1_sumUpTo_0 : decode cX1_sumUpTo 0 = .ok (.iconst 0, 1) := by decide +kernel
theorem dX1_sumUpTo_1 : decode cX1_sumUpTo 1 = .ok (.istore 4, 2) := by decide +kernel
theorem dX1_sumUpTo_3 : decode cX1_sumUpTo 3 = .ok (.iconst 0, 1) := by decide +kernel
theorem dX1_sumUpTo_4 : decode cX1_sumUpTo 4 = .ok (.istore 5, 2) := by decide +kernel
theorem dX1_sumUpTo_6 : decode cX1_sumUpTo 6 = .ok (.iload 5, 2) := by decide +kernel
theorem dX1_sumUpTo_8 : decode cX1_sumUpTo 8 = .ok (.aload_n 0, 1) := by decide +kernel
theorem dX1_sumUpTo_9 : decode cX1_sumUpTo 9 = .ok (.getfield 9, 3) := by decide +kernel
theorem dX1_sumUpTo_12 : decode cX1_sumUpTo 12 = .ok (.if_icmp .ge 43, 3) := by decide +kernel
theorem dX1_sumUpTo_15 : decode cX1_sumUpTo 15 = .ok (.aload_n 0, 1) := by decide +kernel
theorem dX1_sumUpTo_16 : decode cX1_sumUpTo 16 = .ok (.iload 5, 2) := by decide +kernel
theorem dX1_sumUpTo_18 : decode cX1_sumUpTo 18 = .ok (.iload_n 1, 1) := by decide +kernel
theorem dX1_sumUpTo_19 : decode cX1_sumUpTo 19 = .ok (.iload_n 2, 1) := by decide +kernel
theorem dX1_sumUpTo_20 : decode cX1_sumUpTo 20 = .ok (.invokevirtual 28, 3) := by decide +kernel
theorem dX1_sumUpTo_23 : decode cX1_sumUpTo 23 = .ok (.ifCond .eq 26, 3) := by decide +kernel
theorem dX1_sumUpTo_26 : decode cX1_sumUpTo 26 = .ok (.aload_n 0, 1) := by decide +kernel
theorem dX1_sumUpTo_27 : decode cX1_sumUpTo 27 = .ok (.getfield 22, 3) := by decide +kernel
theorem dX1_sumUpTo_30 : decode cX1_sumUpTo 30 = .ok (.iload 5, 2) := by decide +kernel
theorem dX1_sumUpTo_32 : decode cX1_sumUpTo 32 = .ok (.iaload, 1) := by decide +kernel
theorem dX1_sumUpTo_33 : decode cX1_sumUpTo 33 = .ok (.iload_n 3, 1) := by decide +kernel
theorem dX1_sumUpTo_34 : decode cX1_sumUpTo 34 = .ok (.if_icmp .gt 15, 3) := by decide +kernel
theorem dX1_sumUpTo_37 : decode cX1_sumUpTo 37 = .ok (.iload 4, 2) := by decide +kernel
theorem dX1_sumUpTo_39 : decode cX1_sumUpTo 39 = .ok (.aload_n 0, 1) := by decide +kernel
theorem dX1_sumUpTo_40 : decode cX1_sumUpTo 40 = .ok (.getfield 25, 3) := by decide +kernel
theorem dX1_sumUpTo_43 : decode cX1_sumUpTo 43 = .ok (.iload 5, 2) := by decide +kernel
theorem dX1_sumUpTo_45 : decode cX1_sumUpTo 45 = .ok (.iaload, 1) := by decide +kernel
theorem dX1_sumUpTo_46 : decode cX1_sumUpTo 46 = .ok (.iadd, 1) := by decide +kernel
theorem dX1_sumUpTo_47 : decode cX1_sumUpTo 47 = .ok (.istore 4, 2) := by decide +kernel
theorem dX1_sumUpTo_49 : decode cX1_sumUpTo 49 = .ok (.iinc 5 1, 3) := by decide +kernel
theorem dX1_sumUpTo_52 : decode cX1_sumUpTo 52 = .ok (.goto (-46), 3) := by decide +kernel
theorem dX1_sumUpTo_55 : decode cX1_sumUpTo 55 = .ok (.iload 4, 2) := by decide +kernel
theorem dX1_sumUpTo_57 : decode cX1_sumUpTo 57 = .ok (.ireturn, 1) := by decide +kernel
