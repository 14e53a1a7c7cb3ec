theorem dX2_init_0 : decode cX2_init 0 = .ok (.aload_n 0, 1) := by decide +kernel
theorem dX2_init_1 : decode cX2_init 1 = .ok (.invokespecial 3, 3) := by decide +kernel
theorem dX2_init_4 : decode cX2_init 4 = .ok (.aload_n 0, 1) := by decide +kernel
theorem dX2_init_5 : decode cX2_init 5 = .ok (.bipush 10, 2) := by decide +kernel
theorem dX2_init_7 : decode cX2_init 7 = .ok (.newarray .int, 2) := by decide +kernel
theorem dX2_init_9 : decode cX2_init 9 = .ok (.putfield 9, 3) := by decide +kernel
theorem dX2_init_12 : decode cX2_init 12 = .ok (.return_, 1) := by decide +kernel
theorem dX2_readAt_0 : decode cX2_readAt 0 = .ok (.aload_n 0, 1) := by decide +kernel
theorem dX2_readAt_1 : decode cX2_readAt 1 = .ok (.aload_n 1, 1) := by decide +kernel
theorem dX2_readAt_2 : decode cX2_readAt 2 = .ok (.iload_n 3, 1) := by decide +kernel
theorem dX2_readAt_3 : decode cX2_readAt 3 = .ok (.iload 4, 2) := by decide +kernel
theorem dX2_readAt_5 : decode cX2_readAt 5 = .ok (.invokevirtual 15, 3) := by decide +kernel
theorem dX2_readAt_8 : decode cX2_readAt 8 = .ok (.aload_n 2, 1) := by decide +kernel
theorem dX2_readAt_9 : decode cX2_readAt 9 = .ok (.iload_n 3, 1) := by decide +kernel
theorem dX2_readAt_10 : decode cX2_readAt 10 = .ok (.iload 4, 2) := by decide +kernel
theorem dX2_readAt_12 : decode cX2_readAt 12 = .ok (.iload 5, 2) := by decide +kernel
theorem dX2_readAt_14 : decode cX2_readAt 14 = .ok (.invokevirtual 21, 3) := by decide +kernel
theorem dX2_readAt_17 : decode cX2_readAt 17 = .ok (.iadd, 1) := by decide +kernel
theorem dX2_readAt_18 : decode cX2_readAt 18 = .ok (.putfield 27, 3) := by decide +kernel
theorem dX2_readAt_21 : decode cX2_readAt 21 = .ok (.aload_n 0, 1) := by decide +kernel
theorem dX2_readAt_22 : decode cX2_readAt 22 = .ok (.iconst 0, 1) := by decide +kernel
theorem dX2_readAt_23 : decode cX2_readAt 23 = .ok (.putfield 31, 3) := by decide +kernel
theorem dX2_readAt_26 : decode cX2_readAt 26 = .ok (.aload_n 0, 1) := by decide +kernel
theorem dX2_readAt_27 : decode cX2_readAt 27 = .ok (.iconst 0, 1) := by decide +kernel
theorem dX2_readAt_28 : decode cX2_readAt 28 = .ok (.putfield 34, 3) := by decide +kernel
theorem dX2_readAt_31 : decode cX2_readAt 31 = .ok (.aload_n 0, 1) := by decide +kernel
theorem dX2_readAt_32 : decode cX2_readAt 32 = .ok (.iconst 0, 1) := by decide +kernel
theorem dX2_readAt_33 : decode cX2_readAt 33 = .ok (.putfield 37, 3) := by decide +kernel
theorem dX2_readAt_36 : decode cX2_readAt 36 = .ok (.iconst 0, 1) := by decide +kernel
theorem dX2_readAt_37 : decode cX2_readAt 37 = .ok (.istore 6, 2) := by decide +kernel
theorem dX2_readAt_39 : decode cX2_readAt 39 = .ok (.iload 6, 2) := by decide +kernel
theorem dX2_readAt_41 : decode cX2_readAt 41 = .ok (.aload_n 1, 1) := by decide +kernel
theorem dX2_readAt_42 : decode cX2_readAt 42 = .ok (.getfield 40, 3) := by decide +kernel
theorem dX2_readAt_45 : decode cX2_readAt 45 = .ok (.if_icmp .ge 63, 3) := by decide +kernel
theorem dX2_readAt_48 : decode cX2_readAt 48 = .ok (.aload_n 1, 1) := by decide +kernel
theorem dX2_readAt_49 : decode cX2_readAt 49 = .ok (.getfield 43, 3) := by decide +kernel
theorem dX2_readAt_52 : decode cX2_readAt 52 = .ok (.iload 6, 2) := by decide +kernel
theorem dX2_readAt_54 : decode cX2_readAt 54 = .ok (.iaload, 1) := by decide +kernel
theorem dX2_readAt_55 : decode cX2_readAt 55 = .ok (.iload 4, 2) := by decide +kernel
theorem dX2_readAt_57 : decode cX2_readAt 57 = .ok (.if_icmp .ne 45, 3) := by decide +kernel
theorem dX2_readAt_60 : decode cX2_readAt 60 = .ok (.aload_n 1, 1) := by decide +kernel
theorem dX2_readAt_61 : decode cX2_readAt 61 = .ok (.getfield 46, 3) := by decide +kernel
theorem dX2_readAt_64 : decode cX2_readAt 64 = .ok (.iload 6, 2) := by decide +kernel
theorem dX2_readAt_66 : decode cX2_readAt 66 = .ok (.iaload, 1) := by decide +kernel
theorem dX2_readAt_67 : decode cX2_readAt 67 = .ok (.istore 7, 2) := by decide +kernel
theorem dX2_readAt_69 : decode cX2_readAt 69 = .ok (.aload_n 0, 1) := by decide +kernel
theorem dX2_readAt_70 : decode cX2_readAt 70 = .ok (.aload_n 1, 1) := by decide +kernel
theorem dX2_readAt_71 : decode cX2_readAt 71 = .ok (.iload 6, 2) := by decide +kernel
theorem dX2_readAt_73 : decode cX2_readAt 73 = .ok (.iconst 0, 1) := by decide +kernel
theorem dX2_readAt_74 : decode cX2_readAt 74 = .ok (.invokestatic 49, 3) := by decide +kernel
theorem dX2_readAt_77 : decode cX2_readAt 77 = .ok (.iload_n 3, 1) := by decide +kernel
theorem dX2_readAt_78 : decode cX2_readAt 78 = .ok (.iload 5, 2) := by decide +kernel
theorem dX2_readAt_80 : decode cX2_readAt 80 = .ok (.iload 7, 2) := by decide +kernel
theorem dX2_readAt_82 : decode cX2_readAt 82 = .ok (.ineg, 1) := by decide +kernel
theorem dX2_readAt_83 : decode cX2_readAt 83 = .ok (.invokevirtual 52, 3) := by decide +kernel
theorem dX2_readAt_86 : decode cX2_readAt 86 = .ok (.aload_n 0, 1) := by decide +kernel
theorem dX2_readAt_87 : decode cX2_readAt 87 = .ok (.aload_n 1, 1) := by decide +kernel
theorem dX2_readAt_88 : decode cX2_readAt 88 = .ok (.iload 6, 2) := by decide +kernel
theorem dX2_readAt_90 : decode cX2_readAt 90 = .ok (.iconst 1, 1) := by decide +kernel
theorem dX2_readAt_91 : decode cX2_readAt 91 = .ok (.invokestatic 49, 3) := by decide +kernel
theorem dX2_readAt_94 : decode cX2_readAt 94 = .ok (.iload_n 3, 1) := by decide +kernel
theorem dX2_readAt_95 : decode cX2_readAt 95 = .ok (.iload 5, 2) := by decide +kernel
theorem dX2_readAt_97 : decode cX2_readAt 97 = .ok (.iload 7, 2) := by decide +kernel
theorem dX2_readAt_99 : decode cX2_readAt 99 = .ok (.invokevirtual 52, 3) := by decide +kernel
theorem dX2_readAt_102 : decode cX2_readAt 102 = .ok (.iinc 6 1, 3) := by decide +kernel
theorem dX2_readAt_105 : decode cX2_readAt 105 = .ok (.goto (-66), 3) := by decide +kernel
theorem dX2_readAt_108 : decode cX2_readAt 108 = .ok (.aload_n 0, 1) := by decide +kernel
theorem dX2_readAt_109 : decode cX2_readAt 109 = .ok (.dup, 1) := by decide +kernel
theorem dX2_readAt_110 : decode cX2_readAt 110 = .ok (.getfield 31, 3) := by decide +kernel
theorem dX2_readAt_113 : decode cX2_readAt 113 = .ok (.aload_n 0, 1) := by decide +kernel
theorem dX2_readAt_114 : decode cX2_readAt 114 = .ok (.getfield 27, 3) := by decide +kernel
theorem dX2_readAt_117 : decode cX2_readAt 117 = .ok (.iadd, 1) := by decide +kernel
theorem dX2_readAt_118 : decode cX2_readAt 118 = .ok (.putfield 31, 3) := by decide +kernel
theorem dX2_readAt_121 : decode cX2_readAt 121 = .ok (.aload_n 0, 1) := by decide +kernel
theorem dX2_readAt_122 : decode cX2_readAt 122 = .ok (.dup, 1) := by decide +kernel
theorem dX2_readAt_123 : decode cX2_readAt 123 = .ok (.getfield 34, 3) := by decide +kernel
theorem dX2_readAt_126 : decode cX2_readAt 126 = .ok (.aload_n 0, 1) := by decide +kernel
theorem dX2_readAt_127 : decode cX2_readAt 127 = .ok (.getfield 27, 3) := by decide +kernel
theorem dX2_readAt_130 : decode cX2_readAt 130 = .ok (.iadd, 1) := by decide +kernel
theorem dX2_readAt_131 : decode cX2_readAt 131 = .ok (.putfield 34, 3) := by decide +kernel
theorem dX2_readAt_134 : decode cX2_readAt 134 = .ok (.return_, 1) := by decide +kernel
theorem dX2_readLeg_0 : decode cX2_readLeg 0 = .ok (.aload_n 1, 1) := by decide +kernel
theorem dX2_readLeg_1 : decode cX2_readLeg 1 = .ok (.getfield 56, 3) := by decide +kernel
theorem dX2_readLeg_4 : decode cX2_readLeg 4 = .ok (.iload_n 2, 1) := by decide +kernel
theorem dX2_readLeg_5 : decode cX2_readLeg 5 = .ok (.iaload, 1) := by decide +kernel
theorem dX2_readLeg_6 : decode cX2_readLeg 6 = .ok (.iload_n 3, 1) := by decide +kernel
theorem dX2_readLeg_7 : decode cX2_readLeg 7 = .ok (.if_icmp .eq 4, 3) := by decide +kernel
theorem dX2_readLeg_10 : decode cX2_readLeg 10 = .ok (.return_, 1) := by decide +kernel
theorem dX2_readLeg_11 : decode cX2_readLeg 11 = .ok (.aload_n 1, 1) := by decide +kernel
theorem dX2_readLeg_12 : decode cX2_readLeg 12 = .ok (.iload_n 2, 1) := by decide +kernel
theorem dX2_readLeg_13 : decode cX2_readLeg 13 = .ok (.iload 4, 2) := by decide +kernel
theorem dX2_readLeg_15 : decode cX2_readLeg 15 = .ok (.invokevirtual 59, 3) := by decide +kernel
theorem dX2_readLeg_18 : decode cX2_readLeg 18 = .ok (.ifCond .eq 17, 3) := by decide +kernel
theorem dX2_readLeg_21 : decode cX2_readLeg 21 = .ok (.aload_n 0, 1) := by decide +kernel
theorem dX2_readLeg_22 : decode cX2_readLeg 22 = .ok (.dup, 1) := by decide +kernel
theorem dX2_readLeg_23 : decode cX2_readLeg 23 = .ok (.getfield 27, 3) := by decide +kernel
theorem dX2_readLeg_26 : decode cX2_readLeg 26 = .ok (.iload 5, 2) := by decide +kernel
theorem dX2_readLeg_28 : decode cX2_readLeg 28 = .ok (.iadd, 1) := by decide +kernel
theorem dX2_readLeg_29 : decode cX2_readLeg 29 = .ok (.putfield 27, 3) := by decide +kernel
theorem dX2_readLeg_32 : decode cX2_readLeg 32 = .ok (.goto 19, 3) := by decide +kernel
theorem dX2_readLeg_35 : decode cX2_readLeg 35 = .ok (.aload_n 1, 1) := by decide +kernel
theorem dX2_readLeg_36 : decode cX2_readLeg 36 = .ok (.iload_n 2, 1) := by decide +kernel
theorem dX2_readLeg_37 : decode cX2_readLeg 37 = .ok (.iload 4, 2) := by decide +kernel
theorem dX2_readLeg_39 : decode cX2_readLeg 39 = .ok (.invokevirtual 63, 3) := by decide +kernel
theorem dX2_readLeg_42 : decode cX2_readLeg 42 = .ok (.ifCond .ne 9, 3) := by decide +kernel
theorem dX2_readLeg_45 : decode cX2_readLeg 45 = .ok (.aload_n 0, 1) := by decide +kernel
theorem dX2_readLeg_46 : decode cX2_readLeg 46 = .ok (.iload 5, 2) := by decide +kernel
theorem dX2_readLeg_48 : decode cX2_readLeg 48 = .ok (.invokevirtual 66, 3) := by decide +kernel
theorem dX2_readLeg_51 : decode cX2_readLeg 51 = .ok (.return_, 1) := by decide +kernel
theorem dX2_addDoubt_0 : decode cX2_addDoubt 0 = .ok (.aload_n 0, 1) := by decide +kernel
theorem dX2_addDoubt_1 : decode cX2_addDoubt 1 = .ok (.getfield 37, 3) := by decide +kernel
theorem dX2_addDoubt_4 : decode cX2_addDoubt 4 = .ok (.bipush 10, 2) := by decide +kernel
theorem dX2_addDoubt_6 : decode cX2_addDoubt 6 = .ok (.if_icmp .ge 13, 3) := by decide +kernel
theorem dX2_addDoubt_9 : decode cX2_addDoubt 9 = .ok (.aload_n 0, 1) := by decide +kernel
theorem dX2_addDoubt_10 : decode cX2_addDoubt 10 = .ok (.getfield 9, 3) := by decide +kernel
theorem dX2_addDoubt_13 : decode cX2_addDoubt 13 = .ok (.aload_n 0, 1) := by decide +kernel
theorem dX2_addDoubt_14 : decode cX2_addDoubt 14 = .ok (.getfield 37, 3) := by decide +kernel
theorem dX2_addDoubt_17 : decode cX2_addDoubt 17 = .ok (.iload_n 1, 1) := by decide +kernel
theorem dX2_addDoubt_18 : decode cX2_addDoubt 18 = .ok (.iastore, 1) := by decide +kernel
theorem dX2_addDoubt_19 : decode cX2_addDoubt 19 = .ok (.aload_n 0, 1) := by decide +kernel
theorem dX2_addDoubt_20 : decode cX2_addDoubt 20 = .ok (.dup, 1) := by decide +kernel
theorem dX2_addDoubt_21 : decode cX2_addDoubt 21 = .ok (.getfield 37, 3) := by decide +kernel
theorem dX2_addDoubt_24 : decode cX2_addDoubt 24 = .ok (.iconst 1, 1) := by decide +kernel
theorem dX2_addDoubt_25 : decode cX2_addDoubt 25 = .ok (.iadd, 1) := by decide +kernel
theorem dX2_addDoubt_26 : decode cX2_addDoubt 26 = .ok (.putfield 37, 3) := by decide +kernel
theorem dX2_addDoubt_29 : decode cX2_addDoubt 29 = .ok (.iload_n 1, 1) := by decide +kernel
theorem dX2_addDoubt_30 : decode cX2_addDoubt 30 = .ok (.ifCond .ge 16, 3) := by decide +kernel
theorem dX2_addDoubt_33 : decode cX2_addDoubt 33 = .ok (.aload_n 0, 1) := by decide +kernel
theorem dX2_addDoubt_34 : decode cX2_addDoubt 34 = .ok (.dup, 1) := by decide +kernel
theorem dX2_addDoubt_35 : decode cX2_addDoubt 35 = .ok (.getfield 31, 3) := by decide +kernel
theorem dX2_addDoubt_38 : decode cX2_addDoubt 38 = .ok (.iload_n 1, 1) := by decide +kernel
theorem dX2_addDoubt_39 : decode cX2_addDoubt 39 = .ok (.iadd, 1) := by decide +kernel
theorem dX2_addDoubt_40 : decode cX2_addDoubt 40 = .ok (.putfield 31, 3) := by decide +kernel
theorem dX2_addDoubt_43 : decode cX2_addDoubt 43 = .ok (.goto 13, 3) := by decide +kernel
theorem dX2_addDoubt_46 : decode cX2_addDoubt 46 = .ok (.aload_n 0, 1) := by decide +kernel
theorem dX2_addDoubt_47 : decode cX2_addDoubt 47 = .ok (.dup, 1) := by decide +kernel
theorem dX2_addDoubt_48 : decode cX2_addDoubt 48 = .ok (.getfield 34, 3) := by decide +kernel
theorem dX2_addDoubt_51 : decode cX2_addDoubt 51 = .ok (.iload_n 1, 1) := by decide +kernel
theorem dX2_addDoubt_52 : decode cX2_addDoubt 52 = .ok (.iadd, 1) := by decide +kernel
theorem dX2_addDoubt_53 : decode cX2_addDoubt 53 = .ok (.putfield 34, 3) := by decide +kernel
theorem dX2_addDoubt_56 : decode cX2_addDoubt 56 = .ok (.return_, 1) := by decide +kernel
theorem dX2_sureWith_0 : decode cX2_sureWith 0 = .ok (.aload_n 0, 1) := by decide +kernel
theorem dX2_sureWith_1 : decode cX2_sureWith 1 = .ok (.getfield 27, 3) := by decide +kernel
theorem dX2_sureWith_4 : decode cX2_sureWith 4 = .ok (.istore_n 2, 1) := by decide +kernel
theorem dX2_sureWith_5 : decode cX2_sureWith 5 = .ok (.iconst 0, 1) := by decide +kernel
theorem dX2_sureWith_6 : decode cX2_sureWith 6 = .ok (.istore_n 3, 1) := by decide +kernel
theorem dX2_sureWith_7 : decode cX2_sureWith 7 = .ok (.iload_n 3, 1) := by decide +kernel
theorem dX2_sureWith_8 : decode cX2_sureWith 8 = .ok (.bipush 10, 2) := by decide +kernel
theorem dX2_sureWith_10 : decode cX2_sureWith 10 = .ok (.if_icmp .ge 27, 3) := by decide +kernel
theorem dX2_sureWith_13 : decode cX2_sureWith 13 = .ok (.iload_n 1, 1) := by decide +kernel
theorem dX2_sureWith_14 : decode cX2_sureWith 14 = .ok (.iload_n 3, 1) := by decide +kernel
theorem dX2_sureWith_15 : decode cX2_sureWith 15 = .ok (.ishr, 1) := by decide +kernel
theorem dX2_sureWith_16 : decode cX2_sureWith 16 = .ok (.iconst 1, 1) := by decide +kernel
theorem dX2_sureWith_17 : decode cX2_sureWith 17 = .ok (.iand, 1) := by decide +kernel
theorem dX2_sureWith_18 : decode cX2_sureWith 18 = .ok (.iconst 1, 1) := by decide +kernel
theorem dX2_sureWith_19 : decode cX2_sureWith 19 = .ok (.if_icmp .ne 12, 3) := by decide +kernel
theorem dX2_sureWith_22 : decode cX2_sureWith 22 = .ok (.iload_n 2, 1) := by decide +kernel
theorem dX2_sureWith_23 : decode cX2_sureWith 23 = .ok (.aload_n 0, 1) := by decide +kernel
theorem dX2_sureWith_24 : decode cX2_sureWith 24 = .ok (.getfield 9, 3) := by decide +kernel
theorem dX2_sureWith_27 : decode cX2_sureWith 27 = .ok (.iload_n 3, 1) := by decide +kernel
theorem dX2_sureWith_28 : decode cX2_sureWith 28 = .ok (.iaload, 1) := by decide +kernel
theorem dX2_sureWith_29 : decode cX2_sureWith 29 = .ok (.iadd, 1) := by decide +kernel
theorem dX2_sureWith_30 : decode cX2_sureWith 30 = .ok (.istore_n 2, 1) := by decide +kernel
theorem dX2_sureWith_31 : decode cX2_sureWith 31 = .ok (.iinc 3 1, 3) := by decide +kernel
theorem dX2_sureWith_34 : decode cX2_sureWith 34 = .ok (.goto (-27), 3) := by decide +kernel
theorem dX2_sureWith_37 : decode cX2_sureWith 37 = .ok (.iload_n 2, 1) := by decide +kernel
theorem dX2_sureWith_38 : decode cX2_sureWith 38 = .ok (.ireturn, 1) := by decide +kernel
