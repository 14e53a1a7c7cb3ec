theorem dX6_init_0 : decode cX6_init 0 = .ok (.aload_n 0, 1) := by decide +kernel
theorem dX6_init_1 : decode cX6_init 1 = .ok (.invokespecial 1, 3) := by decide +kernel
theorem dX6_init_4 : decode cX6_init 4 = .ok (.aload_n 0, 1) := by decide +kernel
theorem dX6_init_5 : decode cX6_init 5 = .ok (.iconst 0, 1) := by decide +kernel
theorem dX6_init_6 : decode cX6_init 6 = .ok (.putfield 7, 3) := by decide +kernel
theorem dX6_init_9 : decode cX6_init 9 = .ok (.aload_n 0, 1) := by decide +kernel
theorem dX6_init_10 : decode cX6_init 10 = .ok (.sipush 640, 3) := by decide +kernel
theorem dX6_init_13 : decode cX6_init 13 = .ok (.newarray .byte, 2) := by decide +kernel
theorem dX6_init_15 : decode cX6_init 15 = .ok (.putfield 13, 3) := by decide +kernel
theorem dX6_init_18 : decode cX6_init 18 = .ok (.aload_n 0, 1) := by decide +kernel
theorem dX6_init_19 : decode cX6_init 19 = .ok (.iconst 0, 1) := by decide +kernel
theorem dX6_init_20 : decode cX6_init 20 = .ok (.putfield 17, 3) := by decide +kernel
theorem dX6_init_23 : decode cX6_init 23 = .ok (.aload_n 0, 1) := by decide +kernel
theorem dX6_init_24 : decode cX6_init 24 = .ok (.sipush 601, 3) := by decide +kernel
theorem dX6_init_27 : decode cX6_init 27 = .ok (.newarray .int, 2) := by decide +kernel
theorem dX6_init_29 : decode cX6_init 29 = .ok (.putfield 20, 3) := by decide +kernel
theorem dX6_init_32 : decode cX6_init 32 = .ok (.aload_n 0, 1) := by decide +kernel
theorem dX6_init_33 : decode cX6_init 33 = .ok (.sipush 601, 3) := by decide +kernel
theorem dX6_init_36 : decode cX6_init 36 = .ok (.newarray .int, 2) := by decide +kernel
theorem dX6_init_38 : decode cX6_init 38 = .ok (.putfield 24, 3) := by decide +kernel
theorem dX6_init_41 : decode cX6_init 41 = .ok (.return_, 1) := by decide +kernel
theorem dX6_hasRoom_0 : decode cX6_hasRoom 0 = .ok (.aload_n 0, 1) := by decide +kernel
theorem dX6_hasRoom_1 : decode cX6_hasRoom 1 = .ok (.getfield 7, 3) := by decide +kernel
theorem dX6_hasRoom_4 : decode cX6_hasRoom 4 = .ok (.sipush 620, 3) := by decide +kernel
theorem dX6_hasRoom_7 : decode cX6_hasRoom 7 = .ok (.if_icmp .gt 7, 3) := by decide +kernel
theorem dX6_hasRoom_10 : decode cX6_hasRoom 10 = .ok (.iconst 1, 1) := by decide +kernel
theorem dX6_hasRoom_11 : decode cX6_hasRoom 11 = .ok (.goto 4, 3) := by decide +kernel
theorem dX6_hasRoom_14 : decode cX6_hasRoom 14 = .ok (.iconst 0, 1) := by decide +kernel
theorem dX6_hasRoom_15 : decode cX6_hasRoom 15 = .ok (.ireturn, 1) := by decide +kernel
theorem dX6_append_0 : decode cX6_append 0 = .ok (.bipush 24, 2) := by decide +kernel
theorem dX6_append_2 : decode cX6_append 2 = .ok (.istore_n 2, 1) := by decide +kernel
theorem dX6_append_3 : decode cX6_append 3 = .ok (.iload_n 2, 1) := by decide +kernel
theorem dX6_append_4 : decode cX6_append 4 = .ok (.ifCond .lt 42, 3) := by decide +kernel
theorem dX6_append_7 : decode cX6_append 7 = .ok (.aload_n 0, 1) := by decide +kernel
theorem dX6_append_8 : decode cX6_append 8 = .ok (.getfield 7, 3) := by decide +kernel
theorem dX6_append_11 : decode cX6_append 11 = .ok (.sipush 640, 3) := by decide +kernel
theorem dX6_append_14 : decode cX6_append 14 = .ok (.if_icmp .ge 26, 3) := by decide +kernel
theorem dX6_append_17 : decode cX6_append 17 = .ok (.aload_n 0, 1) := by decide +kernel
theorem dX6_append_18 : decode cX6_append 18 = .ok (.getfield 13, 3) := by decide +kernel
theorem dX6_append_21 : decode cX6_append 21 = .ok (.aload_n 0, 1) := by decide +kernel
theorem dX6_append_22 : decode cX6_append 22 = .ok (.getfield 7, 3) := by decide +kernel
theorem dX6_append_25 : decode cX6_append 25 = .ok (.iload_n 1, 1) := by decide +kernel
theorem dX6_append_26 : decode cX6_append 26 = .ok (.iload_n 2, 1) := by decide +kernel
theorem dX6_append_27 : decode cX6_append 27 = .ok (.ishr, 1) := by decide +kernel
theorem dX6_append_28 : decode cX6_append 28 = .ok (.i2b, 1) := by decide +kernel
theorem dX6_append_29 : decode cX6_append 29 = .ok (.bastore, 1) := by decide +kernel
theorem dX6_append_30 : decode cX6_append 30 = .ok (.aload_n 0, 1) := by decide +kernel
theorem dX6_append_31 : decode cX6_append 31 = .ok (.dup, 1) := by decide +kernel
theorem dX6_append_32 : decode cX6_append 32 = .ok (.getfield 7, 3) := by decide +kernel
theorem dX6_append_35 : decode cX6_append 35 = .ok (.iconst 1, 1) := by decide +kernel
theorem dX6_append_36 : decode cX6_append 36 = .ok (.iadd, 1) := by decide +kernel
theorem dX6_append_37 : decode cX6_append 37 = .ok (.putfield 7, 3) := by decide +kernel
theorem dX6_append_40 : decode cX6_append 40 = .ok (.iinc 2 (-8), 3) := by decide +kernel
theorem dX6_append_43 : decode cX6_append 43 = .ok (.goto (-40), 3) := by decide +kernel
theorem dX6_append_46 : decode cX6_append 46 = .ok (.return_, 1) := by decide +kernel
theorem dX6_scan_0 : decode cX6_scan 0 = .ok (.aload_n 0, 1) := by decide +kernel
theorem dX6_scan_1 : decode cX6_scan 1 = .ok (.getfield 7, 3) := by decide +kernel
theorem dX6_scan_4 : decode cX6_scan 4 = .ok (.sipush 600, 3) := by decide +kernel
theorem dX6_scan_7 : decode cX6_scan 7 = .ok (.invokestatic 27, 3) := by decide +kernel
theorem dX6_scan_10 : decode cX6_scan 10 = .ok (.istore_n 1, 1) := by decide +kernel
theorem dX6_scan_11 : decode cX6_scan 11 = .ok (.iconst 0, 1) := by decide +kernel
theorem dX6_scan_12 : decode cX6_scan 12 = .ok (.istore_n 2, 1) := by decide +kernel
theorem dX6_scan_13 : decode cX6_scan 13 = .ok (.aload_n 0, 1) := by decide +kernel
theorem dX6_scan_14 : decode cX6_scan 14 = .ok (.iconst 0, 1) := by decide +kernel
theorem dX6_scan_15 : decode cX6_scan 15 = .ok (.putfield 17, 3) := by decide +kernel
theorem dX6_scan_18 : decode cX6_scan 18 = .ok (.iconst 0, 1) := by decide +kernel
theorem dX6_scan_19 : decode cX6_scan 19 = .ok (.istore_n 3, 1) := by decide +kernel
theorem dX6_scan_20 : decode cX6_scan 20 = .ok (.iload_n 3, 1) := by decide +kernel
theorem dX6_scan_21 : decode cX6_scan 21 = .ok (.sipush 600, 3) := by decide +kernel
theorem dX6_scan_24 : decode cX6_scan 24 = .ok (.if_icmp .ge 54, 3) := by decide +kernel
theorem dX6_scan_27 : decode cX6_scan 27 = .ok (.iload_n 2, 1) := by decide +kernel
theorem dX6_scan_28 : decode cX6_scan 28 = .ok (.iload_n 1, 1) := by decide +kernel
theorem dX6_scan_29 : decode cX6_scan 29 = .ok (.if_icmp .ge 49, 3) := by decide +kernel
theorem dX6_scan_32 : decode cX6_scan 32 = .ok (.aload_n 0, 1) := by decide +kernel
theorem dX6_scan_33 : decode cX6_scan 33 = .ok (.getfield 13, 3) := by decide +kernel
theorem dX6_scan_36 : decode cX6_scan 36 = .ok (.iload_n 2, 1) := by decide +kernel
theorem dX6_scan_37 : decode cX6_scan 37 = .ok (.baload, 1) := by decide +kernel
theorem dX6_scan_38 : decode cX6_scan 38 = .ok (.invokestatic 33, 3) := by decide +kernel
theorem dX6_scan_41 : decode cX6_scan 41 = .ok (.ifCond .eq 9, 3) := by decide +kernel
theorem dX6_scan_44 : decode cX6_scan 44 = .ok (.iinc 2 1, 3) := by decide +kernel
theorem dX6_scan_47 : decode cX6_scan 47 = .ok (.goto 25, 3) := by decide +kernel
theorem dX6_scan_50 : decode cX6_scan 50 = .ok (.aload_n 0, 1) := by decide +kernel
theorem dX6_scan_51 : decode cX6_scan 51 = .ok (.iload_n 2, 1) := by decide +kernel
theorem dX6_scan_52 : decode cX6_scan 52 = .ok (.invokevirtual 37, 3) := by decide +kernel
theorem dX6_scan_55 : decode cX6_scan 55 = .ok (.istore 4, 2) := by decide +kernel
theorem dX6_scan_57 : decode cX6_scan 57 = .ok (.aload_n 0, 1) := by decide +kernel
theorem dX6_scan_58 : decode cX6_scan 58 = .ok (.aload_n 0, 1) := by decide +kernel
theorem dX6_scan_59 : decode cX6_scan 59 = .ok (.iload_n 2, 1) := by decide +kernel
theorem dX6_scan_60 : decode cX6_scan 60 = .ok (.iload 4, 2) := by decide +kernel
theorem dX6_scan_62 : decode cX6_scan 62 = .ok (.invokevirtual 41, 3) := by decide +kernel
theorem dX6_scan_65 : decode cX6_scan 65 = .ok (.iload_n 2, 1) := by decide +kernel
theorem dX6_scan_66 : decode cX6_scan 66 = .ok (.invokevirtual 44, 3) := by decide +kernel
theorem dX6_scan_69 : decode cX6_scan 69 = .ok (.iload 4, 2) := by decide +kernel
theorem dX6_scan_71 : decode cX6_scan 71 = .ok (.istore_n 2, 1) := by decide +kernel
theorem dX6_scan_72 : decode cX6_scan 72 = .ok (.iinc 3 1, 3) := by decide +kernel
theorem dX6_scan_75 : decode cX6_scan 75 = .ok (.goto (-55), 3) := by decide +kernel
theorem dX6_scan_78 : decode cX6_scan 78 = .ok (.aload_n 0, 1) := by decide +kernel
theorem dX6_scan_79 : decode cX6_scan 79 = .ok (.bipush (-2), 2) := by decide +kernel
theorem dX6_scan_81 : decode cX6_scan 81 = .ok (.iload_n 1, 1) := by decide +kernel
theorem dX6_scan_82 : decode cX6_scan 82 = .ok (.invokevirtual 44, 3) := by decide +kernel
theorem dX6_scan_85 : decode cX6_scan 85 = .ok (.return_, 1) := by decide +kernel
theorem dX6_addToken_0 : decode cX6_addToken 0 = .ok (.aload_n 0, 1) := by decide +kernel
theorem dX6_addToken_1 : decode cX6_addToken 1 = .ok (.getfield 17, 3) := by decide +kernel
theorem dX6_addToken_4 : decode cX6_addToken 4 = .ok (.aload_n 0, 1) := by decide +kernel
theorem dX6_addToken_5 : decode cX6_addToken 5 = .ok (.getfield 20, 3) := by decide +kernel
theorem dX6_addToken_8 : decode cX6_addToken 8 = .ok (.arraylength, 1) := by decide +kernel
theorem dX6_addToken_9 : decode cX6_addToken 9 = .ok (.if_icmp .ge 33, 3) := by decide +kernel
theorem dX6_addToken_12 : decode cX6_addToken 12 = .ok (.aload_n 0, 1) := by decide +kernel
theorem dX6_addToken_13 : decode cX6_addToken 13 = .ok (.getfield 20, 3) := by decide +kernel
theorem dX6_addToken_16 : decode cX6_addToken 16 = .ok (.aload_n 0, 1) := by decide +kernel
theorem dX6_addToken_17 : decode cX6_addToken 17 = .ok (.getfield 17, 3) := by decide +kernel
theorem dX6_addToken_20 : decode cX6_addToken 20 = .ok (.iload_n 1, 1) := by decide +kernel
theorem dX6_addToken_21 : decode cX6_addToken 21 = .ok (.iastore, 1) := by decide +kernel
theorem dX6_addToken_22 : decode cX6_addToken 22 = .ok (.aload_n 0, 1) := by decide +kernel
theorem dX6_addToken_23 : decode cX6_addToken 23 = .ok (.getfield 24, 3) := by decide +kernel
theorem dX6_addToken_26 : decode cX6_addToken 26 = .ok (.aload_n 0, 1) := by decide +kernel
theorem dX6_addToken_27 : decode cX6_addToken 27 = .ok (.getfield 17, 3) := by decide +kernel
theorem dX6_addToken_30 : decode cX6_addToken 30 = .ok (.iload_n 2, 1) := by decide +kernel
theorem dX6_addToken_31 : decode cX6_addToken 31 = .ok (.iastore, 1) := by decide +kernel
theorem dX6_addToken_32 : decode cX6_addToken 32 = .ok (.aload_n 0, 1) := by decide +kernel
theorem dX6_addToken_33 : decode cX6_addToken 33 = .ok (.dup, 1) := by decide +kernel
theorem dX6_addToken_34 : decode cX6_addToken 34 = .ok (.getfield 17, 3) := by decide +kernel
theorem dX6_addToken_37 : decode cX6_addToken 37 = .ok (.iconst 1, 1) := by decide +kernel
theorem dX6_addToken_38 : decode cX6_addToken 38 = .ok (.iadd, 1) := by decide +kernel
theorem dX6_addToken_39 : decode cX6_addToken 39 = .ok (.putfield 17, 3) := by decide +kernel
theorem dX6_addToken_42 : decode cX6_addToken 42 = .ok (.return_, 1) := by decide +kernel
theorem dX6_behindRun_0 : decode cX6_behindRun 0 = .ok (.iload_n 1, 1) := by decide +kernel
theorem dX6_behindRun_1 : decode cX6_behindRun 1 = .ok (.istore_n 2, 1) := by decide +kernel
theorem dX6_behindRun_2 : decode cX6_behindRun 2 = .ok (.iload_n 2, 1) := by decide +kernel
theorem dX6_behindRun_3 : decode cX6_behindRun 3 = .ok (.aload_n 0, 1) := by decide +kernel
theorem dX6_behindRun_4 : decode cX6_behindRun 4 = .ok (.getfield 7, 3) := by decide +kernel
theorem dX6_behindRun_7 : decode cX6_behindRun 7 = .ok (.if_icmp .ge 33, 3) := by decide +kernel
theorem dX6_behindRun_10 : decode cX6_behindRun 10 = .ok (.aload_n 0, 1) := by decide +kernel
theorem dX6_behindRun_11 : decode cX6_behindRun 11 = .ok (.getfield 13, 3) := by decide +kernel
theorem dX6_behindRun_14 : decode cX6_behindRun 14 = .ok (.iload_n 2, 1) := by decide +kernel
theorem dX6_behindRun_15 : decode cX6_behindRun 15 = .ok (.baload, 1) := by decide +kernel
theorem dX6_behindRun_16 : decode cX6_behindRun 16 = .ok (.invokestatic 48, 3) := by decide +kernel
theorem dX6_behindRun_19 : decode cX6_behindRun 19 = .ok (.ifCond .ne 15, 3) := by decide +kernel
theorem dX6_behindRun_22 : decode cX6_behindRun 22 = .ok (.aload_n 0, 1) := by decide +kernel
theorem dX6_behindRun_23 : decode cX6_behindRun 23 = .ok (.getfield 13, 3) := by decide +kernel
theorem dX6_behindRun_26 : decode cX6_behindRun 26 = .ok (.iload_n 2, 1) := by decide +kernel
theorem dX6_behindRun_27 : decode cX6_behindRun 27 = .ok (.baload, 1) := by decide +kernel
theorem dX6_behindRun_28 : decode cX6_behindRun 28 = .ok (.invokestatic 51, 3) := by decide +kernel
theorem dX6_behindRun_31 : decode cX6_behindRun 31 = .ok (.ifCond .eq 9, 3) := by decide +kernel
theorem dX6_behindRun_34 : decode cX6_behindRun 34 = .ok (.iinc 2 1, 3) := by decide +kernel
theorem dX6_behindRun_37 : decode cX6_behindRun 37 = .ok (.goto (-35), 3) := by decide +kernel
theorem dX6_behindRun_40 : decode cX6_behindRun 40 = .ok (.iload_n 2, 1) := by decide +kernel
theorem dX6_behindRun_41 : decode cX6_behindRun 41 = .ok (.iload_n 1, 1) := by decide +kernel
theorem dX6_behindRun_42 : decode cX6_behindRun 42 = .ok (.iconst 1, 1) := by decide +kernel
theorem dX6_behindRun_43 : decode cX6_behindRun 43 = .ok (.iadd, 1) := by decide +kernel
theorem dX6_behindRun_44 : decode cX6_behindRun 44 = .ok (.invokestatic 54, 3) := by decide +kernel
theorem dX6_behindRun_47 : decode cX6_behindRun 47 = .ok (.ireturn, 1) := by decide +kernel
theorem dX6_kindOf_0 : decode cX6_kindOf 0 = .ok (.iconst 0, 1) := by decide +kernel
theorem dX6_kindOf_1 : decode cX6_kindOf 1 = .ok (.istore_n 3, 1) := by decide +kernel
theorem dX6_kindOf_2 : decode cX6_kindOf 2 = .ok (.iconst 0, 1) := by decide +kernel
theorem dX6_kindOf_3 : decode cX6_kindOf 3 = .ok (.istore 4, 2) := by decide +kernel
theorem dX6_kindOf_5 : decode cX6_kindOf 5 = .ok (.iconst 0, 1) := by decide +kernel
theorem dX6_kindOf_6 : decode cX6_kindOf 6 = .ok (.istore 5, 2) := by decide +kernel
theorem dX6_kindOf_8 : decode cX6_kindOf 8 = .ok (.iload_n 1, 1) := by decide +kernel
theorem dX6_kindOf_9 : decode cX6_kindOf 9 = .ok (.istore 6, 2) := by decide +kernel
theorem dX6_kindOf_11 : decode cX6_kindOf 11 = .ok (.iload 6, 2) := by decide +kernel
theorem dX6_kindOf_13 : decode cX6_kindOf 13 = .ok (.iload_n 2, 1) := by decide +kernel
theorem dX6_kindOf_14 : decode cX6_kindOf 14 = .ok (.if_icmp .ge 62, 3) := by decide +kernel
theorem dX6_kindOf_17 : decode cX6_kindOf 17 = .ok (.aload_n 0, 1) := by decide +kernel
theorem dX6_kindOf_18 : decode cX6_kindOf 18 = .ok (.getfield 13, 3) := by decide +kernel
theorem dX6_kindOf_21 : decode cX6_kindOf 21 = .ok (.iload 6, 2) := by decide +kernel
theorem dX6_kindOf_23 : decode cX6_kindOf 23 = .ok (.baload, 1) := by decide +kernel
theorem dX6_kindOf_24 : decode cX6_kindOf 24 = .ok (.invokestatic 48, 3) := by decide +kernel
theorem dX6_kindOf_27 : decode cX6_kindOf 27 = .ok (.ifCond .eq 9, 3) := by decide +kernel
theorem dX6_kindOf_30 : decode cX6_kindOf 30 = .ok (.iinc 3 1, 3) := by decide +kernel
theorem dX6_kindOf_33 : decode cX6_kindOf 33 = .ok (.goto 37, 3) := by decide +kernel
theorem dX6_kindOf_36 : decode cX6_kindOf 36 = .ok (.aload_n 0, 1) := by decide +kernel
theorem dX6_kindOf_37 : decode cX6_kindOf 37 = .ok (.getfield 13, 3) := by decide +kernel
theorem dX6_kindOf_40 : decode cX6_kindOf 40 = .ok (.iload 6, 2) := by decide +kernel
theorem dX6_kindOf_42 : decode cX6_kindOf 42 = .ok (.baload, 1) := by decide +kernel
theorem dX6_kindOf_43 : decode cX6_kindOf 43 = .ok (.invokestatic 51, 3) := by decide +kernel
theorem dX6_kindOf_46 : decode cX6_kindOf 46 = .ok (.ifCond .eq 24, 3) := by decide +kernel
theorem dX6_kindOf_49 : decode cX6_kindOf 49 = .ok (.iinc 4 1, 3) := by decide +kernel
theorem dX6_kindOf_52 : decode cX6_kindOf 52 = .ok (.bipush 10, 2) := by decide +kernel
theorem dX6_kindOf_54 : decode cX6_kindOf 54 = .ok (.iload 5, 2) := by decide +kernel
theorem dX6_kindOf_56 : decode cX6_kindOf 56 = .ok (.imul, 1) := by decide +kernel
theorem dX6_kindOf_57 : decode cX6_kindOf 57 = .ok (.aload_n 0, 1) := by decide +kernel
theorem dX6_kindOf_58 : decode cX6_kindOf 58 = .ok (.getfield 13, 3) := by decide +kernel
theorem dX6_kindOf_61 : decode cX6_kindOf 61 = .ok (.iload 6, 2) := by decide +kernel
theorem dX6_kindOf_63 : decode cX6_kindOf 63 = .ok (.baload, 1) := by decide +kernel
theorem dX6_kindOf_64 : decode cX6_kindOf 64 = .ok (.iadd, 1) := by decide +kernel
theorem dX6_kindOf_65 : decode cX6_kindOf 65 = .ok (.bipush 48, 2) := by decide +kernel
theorem dX6_kindOf_67 : decode cX6_kindOf 67 = .ok (.isub, 1) := by decide +kernel
theorem dX6_kindOf_68 : decode cX6_kindOf 68 = .ok (.istore 5, 2) := by decide +kernel
theorem dX6_kindOf_70 : decode cX6_kindOf 70 = .ok (.iinc 6 1, 3) := by decide +kernel
theorem dX6_kindOf_73 : decode cX6_kindOf 73 = .ok (.goto (-62), 3) := by decide +kernel
theorem dX6_kindOf_76 : decode cX6_kindOf 76 = .ok (.iload_n 3, 1) := by decide +kernel
theorem dX6_kindOf_77 : decode cX6_kindOf 77 = .ok (.iload_n 2, 1) := by decide +kernel
theorem dX6_kindOf_78 : decode cX6_kindOf 78 = .ok (.iload_n 1, 1) := by decide +kernel
theorem dX6_kindOf_79 : decode cX6_kindOf 79 = .ok (.isub, 1) := by decide +kernel
theorem dX6_kindOf_80 : decode cX6_kindOf 80 = .ok (.if_icmp .ne 10, 3) := by decide +kernel
theorem dX6_kindOf_83 : decode cX6_kindOf 83 = .ok (.aload_n 0, 1) := by decide +kernel
theorem dX6_kindOf_84 : decode cX6_kindOf 84 = .ok (.iload_n 1, 1) := by decide +kernel
theorem dX6_kindOf_85 : decode cX6_kindOf 85 = .ok (.iload_n 3, 1) := by decide +kernel
theorem dX6_kindOf_86 : decode cX6_kindOf 86 = .ok (.invokevirtual 57, 3) := by decide +kernel
theorem dX6_kindOf_89 : decode cX6_kindOf 89 = .ok (.ireturn, 1) := by decide +kernel
theorem dX6_kindOf_90 : decode cX6_kindOf 90 = .ok (.iload 4, 2) := by decide +kernel
theorem dX6_kindOf_92 : decode cX6_kindOf 92 = .ok (.iload_n 2, 1) := by decide +kernel
theorem dX6_kindOf_93 : decode cX6_kindOf 93 = .ok (.iload_n 1, 1) := by decide +kernel
theorem dX6_kindOf_94 : decode cX6_kindOf 94 = .ok (.isub, 1) := by decide +kernel
theorem dX6_kindOf_95 : decode cX6_kindOf 95 = .ok (.if_icmp .ne 12, 3) := by decide +kernel
theorem dX6_kindOf_98 : decode cX6_kindOf 98 = .ok (.iload 4, 2) := by decide +kernel
theorem dX6_kindOf_100 : decode cX6_kindOf 100 = .ok (.iconst 3, 1) := by decide +kernel
theorem dX6_kindOf_101 : decode cX6_kindOf 101 = .ok (.if_icmp .gt 6, 3) := by decide +kernel
theorem dX6_kindOf_104 : decode cX6_kindOf 104 = .ok (.iload 5, 2) := by decide +kernel
theorem dX6_kindOf_106 : decode cX6_kindOf 106 = .ok (.ireturn, 1) := by decide +kernel
theorem dX6_kindOf_107 : decode cX6_kindOf 107 = .ok (.aload_n 0, 1) := by decide +kernel
theorem dX6_kindOf_108 : decode cX6_kindOf 108 = .ok (.getfield 13, 3) := by decide +kernel
theorem dX6_kindOf_111 : decode cX6_kindOf 111 = .ok (.iload_n 1, 1) := by decide +kernel
theorem dX6_kindOf_112 : decode cX6_kindOf 112 = .ok (.baload, 1) := by decide +kernel
theorem dX6_kindOf_113 : decode cX6_kindOf 113 = .ok (.bipush 59, 2) := by decide +kernel
theorem dX6_kindOf_115 : decode cX6_kindOf 115 = .ok (.if_icmp .ne 8, 3) := by decide +kernel
theorem dX6_kindOf_118 : decode cX6_kindOf 118 = .ok (.bipush (-3), 2) := by decide +kernel
theorem dX6_kindOf_120 : decode cX6_kindOf 120 = .ok (.goto 4, 3) := by decide +kernel
theorem dX6_kindOf_123 : decode cX6_kindOf 123 = .ok (.iconst (-1), 1) := by decide +kernel
theorem dX6_kindOf_124 : decode cX6_kindOf 124 = .ok (.ireturn, 1) := by decide +kernel
theorem dX6_kindOfWord_0 : decode cX6_kindOfWord 0 = .ok (.aload_n 0, 1) := by decide +kernel
theorem dX6_kindOfWord_1 : decode cX6_kindOfWord 1 = .ok (.iload_n 1, 1) := by decide +kernel
theorem dX6_kindOfWord_2 : decode cX6_kindOfWord 2 = .ok (.iload_n 2, 1) := by decide +kernel
theorem dX6_kindOfWord_3 : decode cX6_kindOfWord 3 = .ok (.ldc 60, 2) := by decide +kernel
theorem dX6_kindOfWord_5 : decode cX6_kindOfWord 5 = .ok (.invokevirtual 62, 3) := by decide +kernel
theorem dX6_kindOfWord_8 : decode cX6_kindOfWord 8 = .ok (.ifCond .eq 6, 3) := by decide +kernel
theorem dX6_kindOfWord_11 : decode cX6_kindOfWord 11 = .ok (.bipush (-5), 2) := by decide +kernel
theorem dX6_kindOfWord_13 : decode cX6_kindOfWord 13 = .ok (.ireturn, 1) := by decide +kernel
theorem dX6_kindOfWord_14 : decode cX6_kindOfWord 14 = .ok (.aload_n 0, 1) := by decide +kernel
theorem dX6_kindOfWord_15 : decode cX6_kindOfWord 15 = .ok (.iload_n 1, 1) := by decide +kernel
theorem dX6_kindOfWord_16 : decode cX6_kindOfWord 16 = .ok (.iload_n 2, 1) := by decide +kernel
theorem dX6_kindOfWord_17 : decode cX6_kindOfWord 17 = .ok (.ldc 66, 2) := by decide +kernel
theorem dX6_kindOfWord_19 : decode cX6_kindOfWord 19 = .ok (.invokevirtual 62, 3) := by decide +kernel
theorem dX6_kindOfWord_22 : decode cX6_kindOfWord 22 = .ok (.ifCond .eq 6, 3) := by decide +kernel
theorem dX6_kindOfWord_25 : decode cX6_kindOfWord 25 = .ok (.bipush (-6), 2) := by decide +kernel
theorem dX6_kindOfWord_27 : decode cX6_kindOfWord 27 = .ok (.ireturn, 1) := by decide +kernel
theorem dX6_kindOfWord_28 : decode cX6_kindOfWord 28 = .ok (.aload_n 0, 1) := by decide +kernel
theorem dX6_kindOfWord_29 : decode cX6_kindOfWord 29 = .ok (.iload_n 1, 1) := by decide +kernel
theorem dX6_kindOfWord_30 : decode cX6_kindOfWord 30 = .ok (.iload_n 2, 1) := by decide +kernel
theorem dX6_kindOfWord_31 : decode cX6_kindOfWord 31 = .ok (.ldc 68, 2) := by decide +kernel
theorem dX6_kindOfWord_33 : decode cX6_kindOfWord 33 = .ok (.invokevirtual 62, 3) := by decide +kernel
theorem dX6_kindOfWord_36 : decode cX6_kindOfWord 36 = .ok (.ifCond .eq 6, 3) := by decide +kernel
theorem dX6_kindOfWord_39 : decode cX6_kindOfWord 39 = .ok (.bipush (-7), 2) := by decide +kernel
theorem dX6_kindOfWord_41 : decode cX6_kindOfWord 41 = .ok (.ireturn, 1) := by decide +kernel
theorem dX6_kindOfWord_42 : decode cX6_kindOfWord 42 = .ok (.aload_n 0, 1) := by decide +kernel
theorem dX6_kindOfWord_43 : decode cX6_kindOfWord 43 = .ok (.iload_n 1, 1) := by decide +kernel
theorem dX6_kindOfWord_44 : decode cX6_kindOfWord 44 = .ok (.iload_n 2, 1) := by decide +kernel
theorem dX6_kindOfWord_45 : decode cX6_kindOfWord 45 = .ok (.ldc 70, 2) := by decide +kernel
theorem dX6_kindOfWord_47 : decode cX6_kindOfWord 47 = .ok (.invokevirtual 62, 3) := by decide +kernel
theorem dX6_kindOfWord_50 : decode cX6_kindOfWord 50 = .ok (.ifCond .eq 6, 3) := by decide +kernel
theorem dX6_kindOfWord_53 : decode cX6_kindOfWord 53 = .ok (.bipush (-8), 2) := by decide +kernel
theorem dX6_kindOfWord_55 : decode cX6_kindOfWord 55 = .ok (.ireturn, 1) := by decide +kernel
theorem dX6_kindOfWord_56 : decode cX6_kindOfWord 56 = .ok (.aload_n 0, 1) := by decide +kernel
theorem dX6_kindOfWord_57 : decode cX6_kindOfWord 57 = .ok (.iload_n 1, 1) := by decide +kernel
theorem dX6_kindOfWord_58 : decode cX6_kindOfWord 58 = .ok (.iload_n 2, 1) := by decide +kernel
theorem dX6_kindOfWord_59 : decode cX6_kindOfWord 59 = .ok (.ldc 72, 2) := by decide +kernel
theorem dX6_kindOfWord_61 : decode cX6_kindOfWord 61 = .ok (.invokevirtual 62, 3) := by decide +kernel
theorem dX6_kindOfWord_64 : decode cX6_kindOfWord 64 = .ok (.ifCond .eq 6, 3) := by decide +kernel
theorem dX6_kindOfWord_67 : decode cX6_kindOfWord 67 = .ok (.bipush (-9), 2) := by decide +kernel
theorem dX6_kindOfWord_69 : decode cX6_kindOfWord 69 = .ok (.ireturn, 1) := by decide +kernel
theorem dX6_kindOfWord_70 : decode cX6_kindOfWord 70 = .ok (.aload_n 0, 1) := by decide +kernel
theorem dX6_kindOfWord_71 : decode cX6_kindOfWord 71 = .ok (.iload_n 1, 1) := by decide +kernel
theorem dX6_kindOfWord_72 : decode cX6_kindOfWord 72 = .ok (.iload_n 2, 1) := by decide +kernel
theorem dX6_kindOfWord_73 : decode cX6_kindOfWord 73 = .ok (.ldc 74, 2) := by decide +kernel
theorem dX6_kindOfWord_75 : decode cX6_kindOfWord 75 = .ok (.invokevirtual 62, 3) := by decide +kernel
theorem dX6_kindOfWord_78 : decode cX6_kindOfWord 78 = .ok (.ifCond .eq 8, 3) := by decide +kernel
theorem dX6_kindOfWord_81 : decode cX6_kindOfWord 81 = .ok (.bipush (-10), 2) := by decide +kernel
theorem dX6_kindOfWord_83 : decode cX6_kindOfWord 83 = .ok (.goto 5, 3) := by decide +kernel
theorem dX6_kindOfWord_86 : decode cX6_kindOfWord 86 = .ok (.bipush (-4), 2) := by decide +kernel
theorem dX6_kindOfWord_88 : decode cX6_kindOfWord 88 = .ok (.ireturn, 1) := by decide +kernel
theorem dX6_isWord_0 : decode cX6_isWord 0 = .ok (.iload_n 2, 1) := by decide +kernel
theorem dX6_isWord_1 : decode cX6_isWord 1 = .ok (.aload_n 3, 1) := by decide +kernel
theorem dX6_isWord_2 : decode cX6_isWord 2 = .ok (.invokevirtual 76, 3) := by decide +kernel
theorem dX6_isWord_5 : decode cX6_isWord 5 = .ok (.if_icmp .eq 5, 3) := by decide +kernel
theorem dX6_isWord_8 : decode cX6_isWord 8 = .ok (.iconst 0, 1) := by decide +kernel
theorem dX6_isWord_9 : decode cX6_isWord 9 = .ok (.ireturn, 1) := by decide +kernel
theorem dX6_isWord_10 : decode cX6_isWord 10 = .ok (.iconst 0, 1) := by decide +kernel
theorem dX6_isWord_11 : decode cX6_isWord 11 = .ok (.istore 4, 2) := by decide +kernel
theorem dX6_isWord_13 : decode cX6_isWord 13 = .ok (.iload 4, 2) := by decide +kernel
theorem dX6_isWord_15 : decode cX6_isWord 15 = .ok (.iload_n 2, 1) := by decide +kernel
theorem dX6_isWord_16 : decode cX6_isWord 16 = .ok (.if_icmp .ge 29, 3) := by decide +kernel
theorem dX6_isWord_19 : decode cX6_isWord 19 = .ok (.aload_n 0, 1) := by decide +kernel
theorem dX6_isWord_20 : decode cX6_isWord 20 = .ok (.getfield 13, 3) := by decide +kernel
theorem dX6_isWord_23 : decode cX6_isWord 23 = .ok (.iload_n 1, 1) := by decide +kernel
theorem dX6_isWord_24 : decode cX6_isWord 24 = .ok (.iload 4, 2) := by decide +kernel
theorem dX6_isWord_26 : decode cX6_isWord 26 = .ok (.iadd, 1) := by decide +kernel
theorem dX6_isWord_27 : decode cX6_isWord 27 = .ok (.baload, 1) := by decide +kernel
theorem dX6_isWord_28 : decode cX6_isWord 28 = .ok (.aload_n 3, 1) := by decide +kernel
theorem dX6_isWord_29 : decode cX6_isWord 29 = .ok (.iload 4, 2) := by decide +kernel
theorem dX6_isWord_31 : decode cX6_isWord 31 = .ok (.invokevirtual 81, 3) := by decide +kernel
theorem dX6_isWord_34 : decode cX6_isWord 34 = .ok (.if_icmp .eq 5, 3) := by decide +kernel
theorem dX6_isWord_37 : decode cX6_isWord 37 = .ok (.iconst 0, 1) := by decide +kernel
theorem dX6_isWord_38 : decode cX6_isWord 38 = .ok (.ireturn, 1) := by decide +kernel
theorem dX6_isWord_39 : decode cX6_isWord 39 = .ok (.iinc 4 1, 3) := by decide +kernel
theorem dX6_isWord_42 : decode cX6_isWord 42 = .ok (.goto (-29), 3) := by decide +kernel
theorem dX6_isWord_45 : decode cX6_isWord 45 = .ok (.iconst 1, 1) := by decide +kernel
theorem dX6_isWord_46 : decode cX6_isWord 46 = .ok (.ireturn, 1) := by decide +kernel
theorem dX6_isBlank_0 : decode cX6_isBlank 0 = .ok (.iload_n 0, 1) := by decide +kernel
theorem dX6_isBlank_1 : decode cX6_isBlank 1 = .ok (.bipush 32, 2) := by decide +kernel
theorem dX6_isBlank_3 : decode cX6_isBlank 3 = .ok (.if_icmp .eq 9, 3) := by decide +kernel
theorem dX6_isBlank_6 : decode cX6_isBlank 6 = .ok (.iload_n 0, 1) := by decide +kernel
theorem dX6_isBlank_7 : decode cX6_isBlank 7 = .ok (.bipush 10, 2) := by decide +kernel
theorem dX6_isBlank_9 : decode cX6_isBlank 9 = .ok (.if_icmp .ne 7, 3) := by decide +kernel
theorem dX6_isBlank_12 : decode cX6_isBlank 12 = .ok (.iconst 1, 1) := by decide +kernel
theorem dX6_isBlank_13 : decode cX6_isBlank 13 = .ok (.goto 4, 3) := by decide +kernel
theorem dX6_isBlank_16 : decode cX6_isBlank 16 = .ok (.iconst 0, 1) := by decide +kernel
theorem dX6_isBlank_17 : decode cX6_isBlank 17 = .ok (.ireturn, 1) := by decide +kernel
theorem dX6_isLetter_0 : decode cX6_isLetter 0 = .ok (.iload_n 0, 1) := by decide +kernel
theorem dX6_isLetter_1 : decode cX6_isLetter 1 = .ok (.bipush 97, 2) := by decide +kernel
theorem dX6_isLetter_3 : decode cX6_isLetter 3 = .ok (.if_icmp .lt 13, 3) := by decide +kernel
theorem dX6_isLetter_6 : decode cX6_isLetter 6 = .ok (.iload_n 0, 1) := by decide +kernel
theorem dX6_isLetter_7 : decode cX6_isLetter 7 = .ok (.bipush 122, 2) := by decide +kernel
theorem dX6_isLetter_9 : decode cX6_isLetter 9 = .ok (.if_icmp .gt 7, 3) := by decide +kernel
theorem dX6_isLetter_12 : decode cX6_isLetter 12 = .ok (.iconst 1, 1) := by decide +kernel
theorem dX6_isLetter_13 : decode cX6_isLetter 13 = .ok (.goto 4, 3) := by decide +kernel
theorem dX6_isLetter_16 : decode cX6_isLetter 16 = .ok (.iconst 0, 1) := by decide +kernel
theorem dX6_isLetter_17 : decode cX6_isLetter 17 = .ok (.ireturn, 1) := by decide +kernel
theorem dX6_isDigit_0 : decode cX6_isDigit 0 = .ok (.iload_n 0, 1) := by decide +kernel
theorem dX6_isDigit_1 : decode cX6_isDigit 1 = .ok (.bipush 48, 2) := by decide +kernel
theorem dX6_isDigit_3 : decode cX6_isDigit 3 = .ok (.if_icmp .lt 13, 3) := by decide +kernel
theorem dX6_isDigit_6 : decode cX6_isDigit 6 = .ok (.iload_n 0, 1) := by decide +kernel
theorem dX6_isDigit_7 : decode cX6_isDigit 7 = .ok (.bipush 57, 2) := by decide +kernel
theorem dX6_isDigit_9 : decode cX6_isDigit 9 = .ok (.if_icmp .gt 7, 3) := by decide +kernel
theorem dX6_isDigit_12 : decode cX6_isDigit 12 = .ok (.iconst 1, 1) := by decide +kernel
theorem dX6_isDigit_13 : decode cX6_isDigit 13 = .ok (.goto 4, 3) := by decide +kernel
theorem dX6_isDigit_16 : decode cX6_isDigit 16 = .ok (.iconst 0, 1) := by decide +kernel
theorem dX6_isDigit_17 : decode cX6_isDigit 17 = .ok (.ireturn, 1) := by decide +kernel
