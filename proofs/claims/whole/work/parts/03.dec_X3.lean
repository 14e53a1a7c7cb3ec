theorem dX3_init_0 : decode cX3_init 0 = .ok (.aload_n 0, 1) := by decide +kernel
theorem dX3_init_1 : decode cX3_init 1 = .ok (.invokespecial 3, 3) := by decide +kernel
theorem dX3_init_4 : decode cX3_init 4 = .ok (.aload_n 0, 1) := by decide +kernel
theorem dX3_init_5 : decode cX3_init 5 = .ok (.iconst 0, 1) := by decide +kernel
theorem dX3_init_6 : decode cX3_init 6 = .ok (.putfield 9, 3) := by decide +kernel
theorem dX3_init_9 : decode cX3_init 9 = .ok (.aload_n 0, 1) := by decide +kernel
theorem dX3_init_10 : decode cX3_init 10 = .ok (.bipush 40, 2) := by decide +kernel
theorem dX3_init_12 : decode cX3_init 12 = .ok (.newarray .int, 2) := by decide +kernel
theorem dX3_init_14 : decode cX3_init 14 = .ok (.putfield 15, 3) := by decide +kernel
theorem dX3_init_17 : decode cX3_init 17 = .ok (.aload_n 0, 1) := by decide +kernel
theorem dX3_init_18 : decode cX3_init 18 = .ok (.bipush 40, 2) := by decide +kernel
theorem dX3_init_20 : decode cX3_init 20 = .ok (.newarray .int, 2) := by decide +kernel
theorem dX3_init_22 : decode cX3_init 22 = .ok (.putfield 19, 3) := by decide +kernel
theorem dX3_init_25 : decode cX3_init 25 = .ok (.aload_n 0, 1) := by decide +kernel
theorem dX3_init_26 : decode cX3_init 26 = .ok (.bipush 40, 2) := by decide +kernel
theorem dX3_init_28 : decode cX3_init 28 = .ok (.newarray .int, 2) := by decide +kernel
theorem dX3_init_30 : decode cX3_init 30 = .ok (.putfield 22, 3) := by decide +kernel
theorem dX3_init_33 : decode cX3_init 33 = .ok (.aload_n 0, 1) := by decide +kernel
theorem dX3_init_34 : decode cX3_init 34 = .ok (.bipush 40, 2) := by decide +kernel
theorem dX3_init_36 : decode cX3_init 36 = .ok (.newarray .int, 2) := by decide +kernel
theorem dX3_init_38 : decode cX3_init 38 = .ok (.putfield 25, 3) := by decide +kernel
theorem dX3_init_41 : decode cX3_init 41 = .ok (.aload_n 0, 1) := by decide +kernel
theorem dX3_init_42 : decode cX3_init 42 = .ok (.bipush 40, 2) := by decide +kernel
theorem dX3_init_44 : decode cX3_init 44 = .ok (.newarray .int, 2) := by decide +kernel
theorem dX3_init_46 : decode cX3_init 46 = .ok (.putfield 28, 3) := by decide +kernel
theorem dX3_init_49 : decode cX3_init 49 = .ok (.aload_n 0, 1) := by decide +kernel
theorem dX3_init_50 : decode cX3_init 50 = .ok (.bipush 40, 2) := by decide +kernel
theorem dX3_init_52 : decode cX3_init 52 = .ok (.newarray .boolean, 2) := by decide +kernel
theorem dX3_init_54 : decode cX3_init 54 = .ok (.putfield 31, 3) := by decide +kernel
theorem dX3_init_57 : decode cX3_init 57 = .ok (.return_, 1) := by decide +kernel
theorem dX3_has_0 : decode cX3_has 0 = .ok (.iload_n 1, 1) := by decide +kernel
theorem dX3_has_1 : decode cX3_has 1 = .ok (.ifCond .lt 15, 3) := by decide +kernel
theorem dX3_has_4 : decode cX3_has 4 = .ok (.iload_n 1, 1) := by decide +kernel
theorem dX3_has_5 : decode cX3_has 5 = .ok (.aload_n 0, 1) := by decide +kernel
theorem dX3_has_6 : decode cX3_has 6 = .ok (.getfield 9, 3) := by decide +kernel
theorem dX3_has_9 : decode cX3_has 9 = .ok (.if_icmp .ge 7, 3) := by decide +kernel
theorem dX3_has_12 : decode cX3_has 12 = .ok (.iconst 1, 1) := by decide +kernel
theorem dX3_has_13 : decode cX3_has 13 = .ok (.goto 4, 3) := by decide +kernel
theorem dX3_has_16 : decode cX3_has 16 = .ok (.iconst 0, 1) := by decide +kernel
theorem dX3_has_17 : decode cX3_has 17 = .ok (.ireturn, 1) := by decide +kernel
theorem dX3_isAt_0 : decode cX3_isAt 0 = .ok (.aload_n 0, 1) := by decide +kernel
theorem dX3_isAt_1 : decode cX3_isAt 1 = .ok (.getfield 15, 3) := by decide +kernel
theorem dX3_isAt_4 : decode cX3_isAt 4 = .ok (.iload_n 1, 1) := by decide +kernel
theorem dX3_isAt_5 : decode cX3_isAt 5 = .ok (.iaload, 1) := by decide +kernel
theorem dX3_isAt_6 : decode cX3_isAt 6 = .ok (.iload_n 2, 1) := by decide +kernel
theorem dX3_isAt_7 : decode cX3_isAt 7 = .ok (.if_icmp .ne 17, 3) := by decide +kernel
theorem dX3_isAt_10 : decode cX3_isAt 10 = .ok (.aload_n 0, 1) := by decide +kernel
theorem dX3_isAt_11 : decode cX3_isAt 11 = .ok (.getfield 19, 3) := by decide +kernel
theorem dX3_isAt_14 : decode cX3_isAt 14 = .ok (.iload_n 1, 1) := by decide +kernel
theorem dX3_isAt_15 : decode cX3_isAt 15 = .ok (.iaload, 1) := by decide +kernel
theorem dX3_isAt_16 : decode cX3_isAt 16 = .ok (.iload_n 3, 1) := by decide +kernel
theorem dX3_isAt_17 : decode cX3_isAt 17 = .ok (.if_icmp .ne 7, 3) := by decide +kernel
theorem dX3_isAt_20 : decode cX3_isAt 20 = .ok (.iconst 1, 1) := by decide +kernel
theorem dX3_isAt_21 : decode cX3_isAt 21 = .ok (.goto 4, 3) := by decide +kernel
theorem dX3_isAt_24 : decode cX3_isAt 24 = .ok (.iconst 0, 1) := by decide +kernel
theorem dX3_isAt_25 : decode cX3_isAt 25 = .ok (.ireturn, 1) := by decide +kernel
theorem dX3_isOpenAt_0 : decode cX3_isOpenAt 0 = .ok (.aload_n 0, 1) := by decide +kernel
theorem dX3_isOpenAt_1 : decode cX3_isOpenAt 1 = .ok (.getfield 31, 3) := by decide +kernel
theorem dX3_isOpenAt_4 : decode cX3_isOpenAt 4 = .ok (.iload_n 1, 1) := by decide +kernel
theorem dX3_isOpenAt_5 : decode cX3_isOpenAt 5 = .ok (.baload, 1) := by decide +kernel
theorem dX3_isOpenAt_6 : decode cX3_isOpenAt 6 = .ok (.ifCond .ne 17, 3) := by decide +kernel
theorem dX3_isOpenAt_9 : decode cX3_isOpenAt 9 = .ok (.aload_n 0, 1) := by decide +kernel
theorem dX3_isOpenAt_10 : decode cX3_isOpenAt 10 = .ok (.iload_n 1, 1) := by decide +kernel
theorem dX3_isOpenAt_11 : decode cX3_isOpenAt 11 = .ok (.iload_n 2, 1) := by decide +kernel
theorem dX3_isOpenAt_12 : decode cX3_isOpenAt 12 = .ok (.iload_n 3, 1) := by decide +kernel
theorem dX3_isOpenAt_13 : decode cX3_isOpenAt 13 = .ok (.invokevirtual 35, 3) := by decide +kernel
theorem dX3_isOpenAt_16 : decode cX3_isOpenAt 16 = .ok (.ifCond .eq 7, 3) := by decide +kernel
theorem dX3_isOpenAt_19 : decode cX3_isOpenAt 19 = .ok (.iconst 1, 1) := by decide +kernel
theorem dX3_isOpenAt_20 : decode cX3_isOpenAt 20 = .ok (.goto 4, 3) := by decide +kernel
theorem dX3_isOpenAt_23 : decode cX3_isOpenAt 23 = .ok (.iconst 0, 1) := by decide +kernel
theorem dX3_isOpenAt_24 : decode cX3_isOpenAt 24 = .ok (.ireturn, 1) := by decide +kernel
theorem dX3_openCounts_0 : decode cX3_openCounts 0 = .ok (.iconst 0, 1) := by decide +kernel
theorem dX3_openCounts_1 : decode cX3_openCounts 1 = .ok (.istore_n 1, 1) := by decide +kernel
theorem dX3_openCounts_2 : decode cX3_openCounts 2 = .ok (.iconst 0, 1) := by decide +kernel
theorem dX3_openCounts_3 : decode cX3_openCounts 3 = .ok (.istore_n 2, 1) := by decide +kernel
theorem dX3_openCounts_4 : decode cX3_openCounts 4 = .ok (.iload_n 2, 1) := by decide +kernel
theorem dX3_openCounts_5 : decode cX3_openCounts 5 = .ok (.aload_n 0, 1) := by decide +kernel
theorem dX3_openCounts_6 : decode cX3_openCounts 6 = .ok (.getfield 9, 3) := by decide +kernel
theorem dX3_openCounts_9 : decode cX3_openCounts 9 = .ok (.if_icmp .ge 21, 3) := by decide +kernel
theorem dX3_openCounts_12 : decode cX3_openCounts 12 = .ok (.aload_n 0, 1) := by decide +kernel
theorem dX3_openCounts_13 : decode cX3_openCounts 13 = .ok (.getfield 31, 3) := by decide +kernel
theorem dX3_openCounts_16 : decode cX3_openCounts 16 = .ok (.iload_n 2, 1) := by decide +kernel
theorem dX3_openCounts_17 : decode cX3_openCounts 17 = .ok (.baload, 1) := by decide +kernel
theorem dX3_openCounts_18 : decode cX3_openCounts 18 = .ok (.ifCond .ne 6, 3) := by decide +kernel
theorem dX3_openCounts_21 : decode cX3_openCounts 21 = .ok (.iinc 1 1, 3) := by decide +kernel
theorem dX3_openCounts_24 : decode cX3_openCounts 24 = .ok (.iinc 2 1, 3) := by decide +kernel
theorem dX3_openCounts_27 : decode cX3_openCounts 27 = .ok (.goto (-23), 3) := by decide +kernel
theorem dX3_openCounts_30 : decode cX3_openCounts 30 = .ok (.iload_n 1, 1) := by decide +kernel
theorem dX3_openCounts_31 : decode cX3_openCounts 31 = .ok (.ireturn, 1) := by decide +kernel
theorem dX3_isCountedAt_0 : decode cX3_isCountedAt 0 = .ok (.iconst 0, 1) := by decide +kernel
theorem dX3_isCountedAt_1 : decode cX3_isCountedAt 1 = .ok (.istore 4, 2) := by decide +kernel
theorem dX3_isCountedAt_3 : decode cX3_isCountedAt 3 = .ok (.iload 4, 2) := by decide +kernel
theorem dX3_isCountedAt_5 : decode cX3_isCountedAt 5 = .ok (.aload_n 0, 1) := by decide +kernel
theorem dX3_isCountedAt_6 : decode cX3_isCountedAt 6 = .ok (.getfield 9, 3) := by decide +kernel
theorem dX3_isCountedAt_9 : decode cX3_isCountedAt 9 = .ok (.if_icmp .ge 33, 3) := by decide +kernel
theorem dX3_isCountedAt_12 : decode cX3_isCountedAt 12 = .ok (.aload_n 0, 1) := by decide +kernel
theorem dX3_isCountedAt_13 : decode cX3_isCountedAt 13 = .ok (.iload 4, 2) := by decide +kernel
theorem dX3_isCountedAt_15 : decode cX3_isCountedAt 15 = .ok (.iload_n 1, 1) := by decide +kernel
theorem dX3_isCountedAt_16 : decode cX3_isCountedAt 16 = .ok (.iload_n 2, 1) := by decide +kernel
theorem dX3_isCountedAt_17 : decode cX3_isCountedAt 17 = .ok (.invokevirtual 35, 3) := by decide +kernel
theorem dX3_isCountedAt_20 : decode cX3_isCountedAt 20 = .ok (.ifCond .eq 16, 3) := by decide +kernel
theorem dX3_isCountedAt_23 : decode cX3_isCountedAt 23 = .ok (.aload_n 0, 1) := by decide +kernel
theorem dX3_isCountedAt_24 : decode cX3_isCountedAt 24 = .ok (.getfield 22, 3) := by decide +kernel
theorem dX3_isCountedAt_27 : decode cX3_isCountedAt 27 = .ok (.iload 4, 2) := by decide +kernel
theorem dX3_isCountedAt_29 : decode cX3_isCountedAt 29 = .ok (.iaload, 1) := by decide +kernel
theorem dX3_isCountedAt_30 : decode cX3_isCountedAt 30 = .ok (.iload_n 3, 1) := by decide +kernel
theorem dX3_isCountedAt_31 : decode cX3_isCountedAt 31 = .ok (.if_icmp .ne 5, 3) := by decide +kernel
theorem dX3_isCountedAt_34 : decode cX3_isCountedAt 34 = .ok (.iconst 1, 1) := by decide +kernel
theorem dX3_isCountedAt_35 : decode cX3_isCountedAt 35 = .ok (.ireturn, 1) := by decide +kernel
theorem dX3_isCountedAt_36 : decode cX3_isCountedAt 36 = .ok (.iinc 4 1, 3) := by decide +kernel
theorem dX3_isCountedAt_39 : decode cX3_isCountedAt 39 = .ok (.goto (-36), 3) := by decide +kernel
theorem dX3_isCountedAt_42 : decode cX3_isCountedAt 42 = .ok (.iconst 0, 1) := by decide +kernel
theorem dX3_isCountedAt_43 : decode cX3_isCountedAt 43 = .ok (.ireturn, 1) := by decide +kernel
theorem dX3_isPostedBehind_0 : decode cX3_isPostedBehind 0 = .ok (.iconst 0, 1) := by decide +kernel
theorem dX3_isPostedBehind_1 : decode cX3_isPostedBehind 1 = .ok (.istore 4, 2) := by decide +kernel
theorem dX3_isPostedBehind_3 : decode cX3_isPostedBehind 3 = .ok (.iload 4, 2) := by decide +kernel
theorem dX3_isPostedBehind_5 : decode cX3_isPostedBehind 5 = .ok (.aload_n 0, 1) := by decide +kernel
theorem dX3_isPostedBehind_6 : decode cX3_isPostedBehind 6 = .ok (.getfield 9, 3) := by decide +kernel
theorem dX3_isPostedBehind_9 : decode cX3_isPostedBehind 9 = .ok (.if_icmp .ge 43, 3) := by decide +kernel
theorem dX3_isPostedBehind_12 : decode cX3_isPostedBehind 12 = .ok (.aload_n 0, 1) := by decide +kernel
theorem dX3_isPostedBehind_13 : decode cX3_isPostedBehind 13 = .ok (.iload 4, 2) := by decide +kernel
theorem dX3_isPostedBehind_15 : decode cX3_isPostedBehind 15 = .ok (.iload_n 1, 1) := by decide +kernel
theorem dX3_isPostedBehind_16 : decode cX3_isPostedBehind 16 = .ok (.iload_n 2, 1) := by decide +kernel
theorem dX3_isPostedBehind_17 : decode cX3_isPostedBehind 17 = .ok (.invokevirtual 35, 3) := by decide +kernel
theorem dX3_isPostedBehind_20 : decode cX3_isPostedBehind 20 = .ok (.ifCond .eq 26, 3) := by decide +kernel
theorem dX3_isPostedBehind_23 : decode cX3_isPostedBehind 23 = .ok (.aload_n 0, 1) := by decide +kernel
theorem dX3_isPostedBehind_24 : decode cX3_isPostedBehind 24 = .ok (.getfield 31, 3) := by decide +kernel
theorem dX3_isPostedBehind_27 : decode cX3_isPostedBehind 27 = .ok (.iload 4, 2) := by decide +kernel
theorem dX3_isPostedBehind_29 : decode cX3_isPostedBehind 29 = .ok (.baload, 1) := by decide +kernel
theorem dX3_isPostedBehind_30 : decode cX3_isPostedBehind 30 = .ok (.ifCond .eq 16, 3) := by decide +kernel
theorem dX3_isPostedBehind_33 : decode cX3_isPostedBehind 33 = .ok (.aload_n 0, 1) := by decide +kernel
theorem dX3_isPostedBehind_34 : decode cX3_isPostedBehind 34 = .ok (.getfield 22, 3) := by decide +kernel
theorem dX3_isPostedBehind_37 : decode cX3_isPostedBehind 37 = .ok (.iload 4, 2) := by decide +kernel
theorem dX3_isPostedBehind_39 : decode cX3_isPostedBehind 39 = .ok (.iaload, 1) := by decide +kernel
theorem dX3_isPostedBehind_40 : decode cX3_isPostedBehind 40 = .ok (.iload_n 3, 1) := by decide +kernel
theorem dX3_isPostedBehind_41 : decode cX3_isPostedBehind 41 = .ok (.if_icmp .le 5, 3) := by decide +kernel
theorem dX3_isPostedBehind_44 : decode cX3_isPostedBehind 44 = .ok (.iconst 1, 1) := by decide +kernel
theorem dX3_isPostedBehind_45 : decode cX3_isPostedBehind 45 = .ok (.ireturn, 1) := by decide +kernel
theorem dX3_isPostedBehind_46 : decode cX3_isPostedBehind 46 = .ok (.iinc 4 1, 3) := by decide +kernel
theorem dX3_isPostedBehind_49 : decode cX3_isPostedBehind 49 = .ok (.goto (-46), 3) := by decide +kernel
theorem dX3_isPostedBehind_52 : decode cX3_isPostedBehind 52 = .ok (.iconst 0, 1) := by decide +kernel
theorem dX3_isPostedBehind_53 : decode cX3_isPostedBehind 53 = .ok (.ireturn, 1) := by decide +kernel
theorem dX3_openFirst_0 : decode cX3_openFirst 0 = .ok (.iconst (-1), 1) := by decide +kernel
theorem dX3_openFirst_1 : decode cX3_openFirst 1 = .ok (.istore_n 3, 1) := by decide +kernel
theorem dX3_openFirst_2 : decode cX3_openFirst 2 = .ok (.iconst 0, 1) := by decide +kernel
theorem dX3_openFirst_3 : decode cX3_openFirst 3 = .ok (.istore 4, 2) := by decide +kernel
theorem dX3_openFirst_5 : decode cX3_openFirst 5 = .ok (.iload 4, 2) := by decide +kernel
theorem dX3_openFirst_7 : decode cX3_openFirst 7 = .ok (.aload_n 0, 1) := by decide +kernel
theorem dX3_openFirst_8 : decode cX3_openFirst 8 = .ok (.getfield 9, 3) := by decide +kernel
theorem dX3_openFirst_11 : decode cX3_openFirst 11 = .ok (.if_icmp .ge 44, 3) := by decide +kernel
theorem dX3_openFirst_14 : decode cX3_openFirst 14 = .ok (.aload_n 0, 1) := by decide +kernel
theorem dX3_openFirst_15 : decode cX3_openFirst 15 = .ok (.iload 4, 2) := by decide +kernel
theorem dX3_openFirst_17 : decode cX3_openFirst 17 = .ok (.iload_n 1, 1) := by decide +kernel
theorem dX3_openFirst_18 : decode cX3_openFirst 18 = .ok (.iload_n 2, 1) := by decide +kernel
theorem dX3_openFirst_19 : decode cX3_openFirst 19 = .ok (.invokevirtual 39, 3) := by decide +kernel
theorem dX3_openFirst_22 : decode cX3_openFirst 22 = .ok (.ifCond .eq 27, 3) := by decide +kernel
theorem dX3_openFirst_25 : decode cX3_openFirst 25 = .ok (.iload_n 3, 1) := by decide +kernel
theorem dX3_openFirst_26 : decode cX3_openFirst 26 = .ok (.iconst (-1), 1) := by decide +kernel
theorem dX3_openFirst_27 : decode cX3_openFirst 27 = .ok (.if_icmp .eq 19, 3) := by decide +kernel
theorem dX3_openFirst_30 : decode cX3_openFirst 30 = .ok (.aload_n 0, 1) := by decide +kernel
theorem dX3_openFirst_31 : decode cX3_openFirst 31 = .ok (.getfield 22, 3) := by decide +kernel
theorem dX3_openFirst_34 : decode cX3_openFirst 34 = .ok (.iload 4, 2) := by decide +kernel
theorem dX3_openFirst_36 : decode cX3_openFirst 36 = .ok (.iaload, 1) := by decide +kernel
theorem dX3_openFirst_37 : decode cX3_openFirst 37 = .ok (.aload_n 0, 1) := by decide +kernel
theorem dX3_openFirst_38 : decode cX3_openFirst 38 = .ok (.getfield 22, 3) := by decide +kernel
theorem dX3_openFirst_41 : decode cX3_openFirst 41 = .ok (.iload_n 3, 1) := by decide +kernel
theorem dX3_openFirst_42 : decode cX3_openFirst 42 = .ok (.iaload, 1) := by decide +kernel
theorem dX3_openFirst_43 : decode cX3_openFirst 43 = .ok (.if_icmp .ge 6, 3) := by decide +kernel
theorem dX3_openFirst_46 : decode cX3_openFirst 46 = .ok (.iload 4, 2) := by decide +kernel
theorem dX3_openFirst_48 : decode cX3_openFirst 48 = .ok (.istore_n 3, 1) := by decide +kernel
theorem dX3_openFirst_49 : decode cX3_openFirst 49 = .ok (.iinc 4 1, 3) := by decide +kernel
theorem dX3_openFirst_52 : decode cX3_openFirst 52 = .ok (.goto (-47), 3) := by decide +kernel
theorem dX3_openFirst_55 : decode cX3_openFirst 55 = .ok (.iload_n 3, 1) := by decide +kernel
theorem dX3_openFirst_56 : decode cX3_openFirst 56 = .ok (.ireturn, 1) := by decide +kernel
theorem dX3_openAhead_0 : decode cX3_openAhead 0 = .ok (.iconst (-1), 1) := by decide +kernel
theorem dX3_openAhead_1 : decode cX3_openAhead 1 = .ok (.istore 4, 2) := by decide +kernel
theorem dX3_openAhead_3 : decode cX3_openAhead 3 = .ok (.iconst 0, 1) := by decide +kernel
theorem dX3_openAhead_4 : decode cX3_openAhead 4 = .ok (.istore 5, 2) := by decide +kernel
theorem dX3_openAhead_6 : decode cX3_openAhead 6 = .ok (.iload 5, 2) := by decide +kernel
theorem dX3_openAhead_8 : decode cX3_openAhead 8 = .ok (.aload_n 0, 1) := by decide +kernel
theorem dX3_openAhead_9 : decode cX3_openAhead 9 = .ok (.getfield 9, 3) := by decide +kernel
theorem dX3_openAhead_12 : decode cX3_openAhead 12 = .ok (.if_icmp .ge 58, 3) := by decide +kernel
theorem dX3_openAhead_15 : decode cX3_openAhead 15 = .ok (.aload_n 0, 1) := by decide +kernel
theorem dX3_openAhead_16 : decode cX3_openAhead 16 = .ok (.iload 5, 2) := by decide +kernel
theorem dX3_openAhead_18 : decode cX3_openAhead 18 = .ok (.iload_n 1, 1) := by decide +kernel
theorem dX3_openAhead_19 : decode cX3_openAhead 19 = .ok (.iload_n 2, 1) := by decide +kernel
theorem dX3_openAhead_20 : decode cX3_openAhead 20 = .ok (.invokevirtual 39, 3) := by decide +kernel
theorem dX3_openAhead_23 : decode cX3_openAhead 23 = .ok (.ifCond .eq 41, 3) := by decide +kernel
theorem dX3_openAhead_26 : decode cX3_openAhead 26 = .ok (.aload_n 0, 1) := by decide +kernel
theorem dX3_openAhead_27 : decode cX3_openAhead 27 = .ok (.getfield 22, 3) := by decide +kernel
theorem dX3_openAhead_30 : decode cX3_openAhead 30 = .ok (.iload 5, 2) := by decide +kernel
theorem dX3_openAhead_32 : decode cX3_openAhead 32 = .ok (.iaload, 1) := by decide +kernel
theorem dX3_openAhead_33 : decode cX3_openAhead 33 = .ok (.iload_n 3, 1) := by decide +kernel
theorem dX3_openAhead_34 : decode cX3_openAhead 34 = .ok (.if_icmp .ge 30, 3) := by decide +kernel
theorem dX3_openAhead_37 : decode cX3_openAhead 37 = .ok (.iload 4, 2) := by decide +kernel
theorem dX3_openAhead_39 : decode cX3_openAhead 39 = .ok (.iconst (-1), 1) := by decide +kernel
theorem dX3_openAhead_40 : decode cX3_openAhead 40 = .ok (.if_icmp .eq 20, 3) := by decide +kernel
theorem dX3_openAhead_43 : decode cX3_openAhead 43 = .ok (.aload_n 0, 1) := by decide +kernel
theorem dX3_openAhead_44 : decode cX3_openAhead 44 = .ok (.getfield 22, 3) := by decide +kernel
theorem dX3_openAhead_47 : decode cX3_openAhead 47 = .ok (.iload 5, 2) := by decide +kernel
theorem dX3_openAhead_49 : decode cX3_openAhead 49 = .ok (.iaload, 1) := by decide +kernel
theorem dX3_openAhead_50 : decode cX3_openAhead 50 = .ok (.aload_n 0, 1) := by decide +kernel
theorem dX3_openAhead_51 : decode cX3_openAhead 51 = .ok (.getfield 22, 3) := by decide +kernel
theorem dX3_openAhead_54 : decode cX3_openAhead 54 = .ok (.iload 4, 2) := by decide +kernel
theorem dX3_openAhead_56 : decode cX3_openAhead 56 = .ok (.iaload, 1) := by decide +kernel
theorem dX3_openAhead_57 : decode cX3_openAhead 57 = .ok (.if_icmp .le 7, 3) := by decide +kernel
theorem dX3_openAhead_60 : decode cX3_openAhead 60 = .ok (.iload 5, 2) := by decide +kernel
theorem dX3_openAhead_62 : decode cX3_openAhead 62 = .ok (.istore 4, 2) := by decide +kernel
theorem dX3_openAhead_64 : decode cX3_openAhead 64 = .ok (.iinc 5 1, 3) := by decide +kernel
theorem dX3_openAhead_67 : decode cX3_openAhead 67 = .ok (.goto (-61), 3) := by decide +kernel
theorem dX3_openAhead_70 : decode cX3_openAhead 70 = .ok (.iload 4, 2) := by decide +kernel
theorem dX3_openAhead_72 : decode cX3_openAhead 72 = .ok (.ireturn, 1) := by decide +kernel
theorem dX3_postUpTo_0 : decode cX3_postUpTo 0 = .ok (.lconst 0, 1) := by decide +kernel
theorem dX3_postUpTo_1 : decode cX3_postUpTo 1 = .ok (.lstore 4, 2) := by decide +kernel
theorem dX3_postUpTo_3 : decode cX3_postUpTo 3 = .ok (.iconst 0, 1) := by decide +kernel
theorem dX3_postUpTo_4 : decode cX3_postUpTo 4 = .ok (.istore 6, 2) := by decide +kernel
theorem dX3_postUpTo_6 : decode cX3_postUpTo 6 = .ok (.iload 6, 2) := by decide +kernel
theorem dX3_postUpTo_8 : decode cX3_postUpTo 8 = .ok (.aload_n 0, 1) := by decide +kernel
theorem dX3_postUpTo_9 : decode cX3_postUpTo 9 = .ok (.getfield 9, 3) := by decide +kernel
theorem dX3_postUpTo_12 : decode cX3_postUpTo 12 = .ok (.if_icmp .ge 48, 3) := by decide +kernel
theorem dX3_postUpTo_15 : decode cX3_postUpTo 15 = .ok (.aload_n 0, 1) := by decide +kernel
theorem dX3_postUpTo_16 : decode cX3_postUpTo 16 = .ok (.iload 6, 2) := by decide +kernel
theorem dX3_postUpTo_18 : decode cX3_postUpTo 18 = .ok (.iload_n 1, 1) := by decide +kernel
theorem dX3_postUpTo_19 : decode cX3_postUpTo 19 = .ok (.iload_n 2, 1) := by decide +kernel
theorem dX3_postUpTo_20 : decode cX3_postUpTo 20 = .ok (.invokevirtual 39, 3) := by decide +kernel
theorem dX3_postUpTo_23 : decode cX3_postUpTo 23 = .ok (.ifCond .eq 31, 3) := by decide +kernel
theorem dX3_postUpTo_26 : decode cX3_postUpTo 26 = .ok (.aload_n 0, 1) := by decide +kernel
theorem dX3_postUpTo_27 : decode cX3_postUpTo 27 = .ok (.getfield 22, 3) := by decide +kernel
theorem dX3_postUpTo_30 : decode cX3_postUpTo 30 = .ok (.iload 6, 2) := by decide +kernel
theorem dX3_postUpTo_32 : decode cX3_postUpTo 32 = .ok (.iaload, 1) := by decide +kernel
theorem dX3_postUpTo_33 : decode cX3_postUpTo 33 = .ok (.iload_n 3, 1) := by decide +kernel
theorem dX3_postUpTo_34 : decode cX3_postUpTo 34 = .ok (.if_icmp .gt 20, 3) := by decide +kernel
theorem dX3_postUpTo_37 : decode cX3_postUpTo 37 = .ok (.aload_n 0, 1) := by decide +kernel
theorem dX3_postUpTo_38 : decode cX3_postUpTo 38 = .ok (.getfield 31, 3) := by decide +kernel
theorem dX3_postUpTo_41 : decode cX3_postUpTo 41 = .ok (.iload 6, 2) := by decide +kernel
theorem dX3_postUpTo_43 : decode cX3_postUpTo 43 = .ok (.iconst 1, 1) := by decide +kernel
theorem dX3_postUpTo_44 : decode cX3_postUpTo 44 = .ok (.bastore, 1) := by decide +kernel
theorem dX3_postUpTo_45 : decode cX3_postUpTo 45 = .ok (.lload 4, 2) := by decide +kernel
theorem dX3_postUpTo_47 : decode cX3_postUpTo 47 = .ok (.lconst 1, 1) := by decide +kernel
theorem dX3_postUpTo_48 : decode cX3_postUpTo 48 = .ok (.iload 6, 2) := by decide +kernel
theorem dX3_postUpTo_50 : decode cX3_postUpTo 50 = .ok (.lshl, 1) := by decide +kernel
theorem dX3_postUpTo_51 : decode cX3_postUpTo 51 = .ok (.lor, 1) := by decide +kernel
theorem dX3_postUpTo_52 : decode cX3_postUpTo 52 = .ok (.lstore 4, 2) := by decide +kernel
theorem dX3_postUpTo_54 : decode cX3_postUpTo 54 = .ok (.iinc 6 1, 3) := by decide +kernel
theorem dX3_postUpTo_57 : decode cX3_postUpTo 57 = .ok (.goto (-51), 3) := by decide +kernel
theorem dX3_postUpTo_60 : decode cX3_postUpTo 60 = .ok (.lload 4, 2) := by decide +kernel
theorem dX3_postUpTo_62 : decode cX3_postUpTo 62 = .ok (.lreturn, 1) := by decide +kernel
theorem dX3_reopen_0 : decode cX3_reopen 0 = .ok (.iconst 0, 1) := by decide +kernel
theorem dX3_reopen_1 : decode cX3_reopen 1 = .ok (.istore_n 3, 1) := by decide +kernel
theorem dX3_reopen_2 : decode cX3_reopen 2 = .ok (.iload_n 3, 1) := by decide +kernel
theorem dX3_reopen_3 : decode cX3_reopen 3 = .ok (.aload_n 0, 1) := by decide +kernel
theorem dX3_reopen_4 : decode cX3_reopen 4 = .ok (.getfield 9, 3) := by decide +kernel
theorem dX3_reopen_7 : decode cX3_reopen 7 = .ok (.if_icmp .ge 26, 3) := by decide +kernel
theorem dX3_reopen_10 : decode cX3_reopen 10 = .ok (.lload_n 1, 1) := by decide +kernel
theorem dX3_reopen_11 : decode cX3_reopen 11 = .ok (.iload_n 3, 1) := by decide +kernel
theorem dX3_reopen_12 : decode cX3_reopen 12 = .ok (.lshr, 1) := by decide +kernel
theorem dX3_reopen_13 : decode cX3_reopen 13 = .ok (.lconst 1, 1) := by decide +kernel
theorem dX3_reopen_14 : decode cX3_reopen 14 = .ok (.land, 1) := by decide +kernel
theorem dX3_reopen_15 : decode cX3_reopen 15 = .ok (.lconst 1, 1) := by decide +kernel
theorem dX3_reopen_16 : decode cX3_reopen 16 = .ok (.lcmp, 1) := by decide +kernel
theorem dX3_reopen_17 : decode cX3_reopen 17 = .ok (.ifCond .ne 10, 3) := by decide +kernel
theorem dX3_reopen_20 : decode cX3_reopen 20 = .ok (.aload_n 0, 1) := by decide +kernel
theorem dX3_reopen_21 : decode cX3_reopen 21 = .ok (.getfield 31, 3) := by decide +kernel
theorem dX3_reopen_24 : decode cX3_reopen 24 = .ok (.iload_n 3, 1) := by decide +kernel
theorem dX3_reopen_25 : decode cX3_reopen 25 = .ok (.iconst 0, 1) := by decide +kernel
theorem dX3_reopen_26 : decode cX3_reopen 26 = .ok (.bastore, 1) := by decide +kernel
theorem dX3_reopen_27 : decode cX3_reopen 27 = .ok (.iinc 3 1, 3) := by decide +kernel
theorem dX3_reopen_30 : decode cX3_reopen 30 = .ok (.goto (-28), 3) := by decide +kernel
theorem dX3_reopen_33 : decode cX3_reopen 33 = .ok (.return_, 1) := by decide +kernel
theorem dX3_insert_0 : decode cX3_insert 0 = .ok (.aload_n 0, 1) := by decide +kernel
theorem dX3_insert_1 : decode cX3_insert 1 = .ok (.getfield 9, 3) := by decide +kernel
theorem dX3_insert_4 : decode cX3_insert 4 = .ok (.bipush 40, 2) := by decide +kernel
theorem dX3_insert_6 : decode cX3_insert 6 = .ok (.if_icmp .ge 15, 3) := by decide +kernel
theorem dX3_insert_9 : decode cX3_insert 9 = .ok (.iload_n 1, 1) := by decide +kernel
theorem dX3_insert_10 : decode cX3_insert 10 = .ok (.ifCond .lt 11, 3) := by decide +kernel
theorem dX3_insert_13 : decode cX3_insert 13 = .ok (.iload_n 1, 1) := by decide +kernel
theorem dX3_insert_14 : decode cX3_insert 14 = .ok (.aload_n 0, 1) := by decide +kernel
theorem dX3_insert_15 : decode cX3_insert 15 = .ok (.getfield 9, 3) := by decide +kernel
theorem dX3_insert_18 : decode cX3_insert 18 = .ok (.if_icmp .le 4, 3) := by decide +kernel
theorem dX3_insert_21 : decode cX3_insert 21 = .ok (.return_, 1) := by decide +kernel
theorem dX3_insert_22 : decode cX3_insert 22 = .ok (.aload_n 0, 1) := by decide +kernel
theorem dX3_insert_23 : decode cX3_insert 23 = .ok (.getfield 9, 3) := by decide +kernel
theorem dX3_insert_26 : decode cX3_insert 26 = .ok (.istore 7, 2) := by decide +kernel
theorem dX3_insert_28 : decode cX3_insert 28 = .ok (.iload 7, 2) := by decide +kernel
theorem dX3_insert_30 : decode cX3_insert 30 = .ok (.iload_n 1, 1) := by decide +kernel
theorem dX3_insert_31 : decode cX3_insert 31 = .ok (.if_icmp .le 19, 3) := by decide +kernel
theorem dX3_insert_34 : decode cX3_insert 34 = .ok (.aload_n 0, 1) := by decide +kernel
theorem dX3_insert_35 : decode cX3_insert 35 = .ok (.iload 7, 2) := by decide +kernel
theorem dX3_insert_37 : decode cX3_insert 37 = .ok (.iconst 1, 1) := by decide +kernel
theorem dX3_insert_38 : decode cX3_insert 38 = .ok (.isub, 1) := by decide +kernel
theorem dX3_insert_39 : decode cX3_insert 39 = .ok (.iload 7, 2) := by decide +kernel
theorem dX3_insert_41 : decode cX3_insert 41 = .ok (.invokevirtual 42, 3) := by decide +kernel
theorem dX3_insert_44 : decode cX3_insert 44 = .ok (.iinc 7 (-1), 3) := by decide +kernel
theorem dX3_insert_47 : decode cX3_insert 47 = .ok (.goto (-19), 3) := by decide +kernel
theorem dX3_insert_50 : decode cX3_insert 50 = .ok (.aload_n 0, 1) := by decide +kernel
theorem dX3_insert_51 : decode cX3_insert 51 = .ok (.getfield 15, 3) := by decide +kernel
theorem dX3_insert_54 : decode cX3_insert 54 = .ok (.iload_n 1, 1) := by decide +kernel
theorem dX3_insert_55 : decode cX3_insert 55 = .ok (.iload_n 2, 1) := by decide +kernel
theorem dX3_insert_56 : decode cX3_insert 56 = .ok (.iastore, 1) := by decide +kernel
theorem dX3_insert_57 : decode cX3_insert 57 = .ok (.aload_n 0, 1) := by decide +kernel
theorem dX3_insert_58 : decode cX3_insert 58 = .ok (.getfield 19, 3) := by decide +kernel
theorem dX3_insert_61 : decode cX3_insert 61 = .ok (.iload_n 1, 1) := by decide +kernel
theorem dX3_insert_62 : decode cX3_insert 62 = .ok (.iload_n 3, 1) := by decide +kernel
theorem dX3_insert_63 : decode cX3_insert 63 = .ok (.iastore, 1) := by decide +kernel
theorem dX3_insert_64 : decode cX3_insert 64 = .ok (.aload_n 0, 1) := by decide +kernel
theorem dX3_insert_65 : decode cX3_insert 65 = .ok (.getfield 22, 3) := by decide +kernel
theorem dX3_insert_68 : decode cX3_insert 68 = .ok (.iload_n 1, 1) := by decide +kernel
theorem dX3_insert_69 : decode cX3_insert 69 = .ok (.iload 4, 2) := by decide +kernel
theorem dX3_insert_71 : decode cX3_insert 71 = .ok (.iastore, 1) := by decide +kernel
theorem dX3_insert_72 : decode cX3_insert 72 = .ok (.aload_n 0, 1) := by decide +kernel
theorem dX3_insert_73 : decode cX3_insert 73 = .ok (.getfield 25, 3) := by decide +kernel
theorem dX3_insert_76 : decode cX3_insert 76 = .ok (.iload_n 1, 1) := by decide +kernel
theorem dX3_insert_77 : decode cX3_insert 77 = .ok (.iload 5, 2) := by decide +kernel
theorem dX3_insert_79 : decode cX3_insert 79 = .ok (.iastore, 1) := by decide +kernel
theorem dX3_insert_80 : decode cX3_insert 80 = .ok (.aload_n 0, 1) := by decide +kernel
theorem dX3_insert_81 : decode cX3_insert 81 = .ok (.getfield 28, 3) := by decide +kernel
theorem dX3_insert_84 : decode cX3_insert 84 = .ok (.iload_n 1, 1) := by decide +kernel
theorem dX3_insert_85 : decode cX3_insert 85 = .ok (.iload 6, 2) := by decide +kernel
theorem dX3_insert_87 : decode cX3_insert 87 = .ok (.iastore, 1) := by decide +kernel
theorem dX3_insert_88 : decode cX3_insert 88 = .ok (.aload_n 0, 1) := by decide +kernel
theorem dX3_insert_89 : decode cX3_insert 89 = .ok (.getfield 31, 3) := by decide +kernel
theorem dX3_insert_92 : decode cX3_insert 92 = .ok (.iload_n 1, 1) := by decide +kernel
theorem dX3_insert_93 : decode cX3_insert 93 = .ok (.iconst 0, 1) := by decide +kernel
theorem dX3_insert_94 : decode cX3_insert 94 = .ok (.bastore, 1) := by decide +kernel
theorem dX3_insert_95 : decode cX3_insert 95 = .ok (.aload_n 0, 1) := by decide +kernel
theorem dX3_insert_96 : decode cX3_insert 96 = .ok (.dup, 1) := by decide +kernel
theorem dX3_insert_97 : decode cX3_insert 97 = .ok (.getfield 9, 3) := by decide +kernel
theorem dX3_insert_100 : decode cX3_insert 100 = .ok (.iconst 1, 1) := by decide +kernel
theorem dX3_insert_101 : decode cX3_insert 101 = .ok (.iadd, 1) := by decide +kernel
theorem dX3_insert_102 : decode cX3_insert 102 = .ok (.putfield 9, 3) := by decide +kernel
theorem dX3_insert_105 : decode cX3_insert 105 = .ok (.return_, 1) := by decide +kernel
theorem dX3_remove_0 : decode cX3_remove 0 = .ok (.aload_n 0, 1) := by decide +kernel
theorem dX3_remove_1 : decode cX3_remove 1 = .ok (.iload_n 1, 1) := by decide +kernel
theorem dX3_remove_2 : decode cX3_remove 2 = .ok (.invokevirtual 46, 3) := by decide +kernel
theorem dX3_remove_5 : decode cX3_remove 5 = .ok (.ifCond .ne 4, 3) := by decide +kernel
theorem dX3_remove_8 : decode cX3_remove 8 = .ok (.return_, 1) := by decide +kernel
theorem dX3_remove_9 : decode cX3_remove 9 = .ok (.iload_n 1, 1) := by decide +kernel
theorem dX3_remove_10 : decode cX3_remove 10 = .ok (.istore_n 2, 1) := by decide +kernel
theorem dX3_remove_11 : decode cX3_remove 11 = .ok (.iload_n 2, 1) := by decide +kernel
theorem dX3_remove_12 : decode cX3_remove 12 = .ok (.aload_n 0, 1) := by decide +kernel
theorem dX3_remove_13 : decode cX3_remove 13 = .ok (.getfield 9, 3) := by decide +kernel
theorem dX3_remove_16 : decode cX3_remove 16 = .ok (.iconst 1, 1) := by decide +kernel
theorem dX3_remove_17 : decode cX3_remove 17 = .ok (.isub, 1) := by decide +kernel
theorem dX3_remove_18 : decode cX3_remove 18 = .ok (.if_icmp .ge 17, 3) := by decide +kernel
theorem dX3_remove_21 : decode cX3_remove 21 = .ok (.aload_n 0, 1) := by decide +kernel
theorem dX3_remove_22 : decode cX3_remove 22 = .ok (.iload_n 2, 1) := by decide +kernel
theorem dX3_remove_23 : decode cX3_remove 23 = .ok (.iconst 1, 1) := by decide +kernel
theorem dX3_remove_24 : decode cX3_remove 24 = .ok (.iadd, 1) := by decide +kernel
theorem dX3_remove_25 : decode cX3_remove 25 = .ok (.iload_n 2, 1) := by decide +kernel
theorem dX3_remove_26 : decode cX3_remove 26 = .ok (.invokevirtual 42, 3) := by decide +kernel
theorem dX3_remove_29 : decode cX3_remove 29 = .ok (.iinc 2 1, 3) := by decide +kernel
theorem dX3_remove_32 : decode cX3_remove 32 = .ok (.goto (-21), 3) := by decide +kernel
theorem dX3_remove_35 : decode cX3_remove 35 = .ok (.aload_n 0, 1) := by decide +kernel
theorem dX3_remove_36 : decode cX3_remove 36 = .ok (.dup, 1) := by decide +kernel
theorem dX3_remove_37 : decode cX3_remove 37 = .ok (.getfield 9, 3) := by decide +kernel
theorem dX3_remove_40 : decode cX3_remove 40 = .ok (.iconst 1, 1) := by decide +kernel
theorem dX3_remove_41 : decode cX3_remove 41 = .ok (.isub, 1) := by decide +kernel
theorem dX3_remove_42 : decode cX3_remove 42 = .ok (.putfield 9, 3) := by decide +kernel
theorem dX3_remove_45 : decode cX3_remove 45 = .ok (.return_, 1) := by decide +kernel
theorem dX3_copy_0 : decode cX3_copy 0 = .ok (.aload_n 0, 1) := by decide +kernel
theorem dX3_copy_1 : decode cX3_copy 1 = .ok (.getfield 15, 3) := by decide +kernel
theorem dX3_copy_4 : decode cX3_copy 4 = .ok (.iload_n 2, 1) := by decide +kernel
theorem dX3_copy_5 : decode cX3_copy 5 = .ok (.aload_n 0, 1) := by decide +kernel
theorem dX3_copy_6 : decode cX3_copy 6 = .ok (.getfield 15, 3) := by decide +kernel
theorem dX3_copy_9 : decode cX3_copy 9 = .ok (.iload_n 1, 1) := by decide +kernel
theorem dX3_copy_10 : decode cX3_copy 10 = .ok (.iaload, 1) := by decide +kernel
theorem dX3_copy_11 : decode cX3_copy 11 = .ok (.iastore, 1) := by decide +kernel
theorem dX3_copy_12 : decode cX3_copy 12 = .ok (.aload_n 0, 1) := by decide +kernel
theorem dX3_copy_13 : decode cX3_copy 13 = .ok (.getfield 19, 3) := by decide +kernel
theorem dX3_copy_16 : decode cX3_copy 16 = .ok (.iload_n 2, 1) := by decide +kernel
theorem dX3_copy_17 : decode cX3_copy 17 = .ok (.aload_n 0, 1) := by decide +kernel
theorem dX3_copy_18 : decode cX3_copy 18 = .ok (.getfield 19, 3) := by decide +kernel
theorem dX3_copy_21 : decode cX3_copy 21 = .ok (.iload_n 1, 1) := by decide +kernel
theorem dX3_copy_22 : decode cX3_copy 22 = .ok (.iaload, 1) := by decide +kernel
theorem dX3_copy_23 : decode cX3_copy 23 = .ok (.iastore, 1) := by decide +kernel
theorem dX3_copy_24 : decode cX3_copy 24 = .ok (.aload_n 0, 1) := by decide +kernel
theorem dX3_copy_25 : decode cX3_copy 25 = .ok (.getfield 22, 3) := by decide +kernel
theorem dX3_copy_28 : decode cX3_copy 28 = .ok (.iload_n 2, 1) := by decide +kernel
theorem dX3_copy_29 : decode cX3_copy 29 = .ok (.aload_n 0, 1) := by decide +kernel
theorem dX3_copy_30 : decode cX3_copy 30 = .ok (.getfield 22, 3) := by decide +kernel
theorem dX3_copy_33 : decode cX3_copy 33 = .ok (.iload_n 1, 1) := by decide +kernel
theorem dX3_copy_34 : decode cX3_copy 34 = .ok (.iaload, 1) := by decide +kernel
theorem dX3_copy_35 : decode cX3_copy 35 = .ok (.iastore, 1) := by decide +kernel
theorem dX3_copy_36 : decode cX3_copy 36 = .ok (.aload_n 0, 1) := by decide +kernel
theorem dX3_copy_37 : decode cX3_copy 37 = .ok (.getfield 25, 3) := by decide +kernel
theorem dX3_copy_40 : decode cX3_copy 40 = .ok (.iload_n 2, 1) := by decide +kernel
theorem dX3_copy_41 : decode cX3_copy 41 = .ok (.aload_n 0, 1) := by decide +kernel
theorem dX3_copy_42 : decode cX3_copy 42 = .ok (.getfield 25, 3) := by decide +kernel
theorem dX3_copy_45 : decode cX3_copy 45 = .ok (.iload_n 1, 1) := by decide +kernel
theorem dX3_copy_46 : decode cX3_copy 46 = .ok (.iaload, 1) := by decide +kernel
theorem dX3_copy_47 : decode cX3_copy 47 = .ok (.iastore, 1) := by decide +kernel
theorem dX3_copy_48 : decode cX3_copy 48 = .ok (.aload_n 0, 1) := by decide +kernel
theorem dX3_copy_49 : decode cX3_copy 49 = .ok (.getfield 28, 3) := by decide +kernel
theorem dX3_copy_52 : decode cX3_copy 52 = .ok (.iload_n 2, 1) := by decide +kernel
theorem dX3_copy_53 : decode cX3_copy 53 = .ok (.aload_n 0, 1) := by decide +kernel
theorem dX3_copy_54 : decode cX3_copy 54 = .ok (.getfield 28, 3) := by decide +kernel
theorem dX3_copy_57 : decode cX3_copy 57 = .ok (.iload_n 1, 1) := by decide +kernel
theorem dX3_copy_58 : decode cX3_copy 58 = .ok (.iaload, 1) := by decide +kernel
theorem dX3_copy_59 : decode cX3_copy 59 = .ok (.iastore, 1) := by decide +kernel
theorem dX3_copy_60 : decode cX3_copy 60 = .ok (.aload_n 0, 1) := by decide +kernel
theorem dX3_copy_61 : decode cX3_copy 61 = .ok (.getfield 31, 3) := by decide +kernel
theorem dX3_copy_64 : decode cX3_copy 64 = .ok (.iload_n 2, 1) := by decide +kernel
theorem dX3_copy_65 : decode cX3_copy 65 = .ok (.aload_n 0, 1) := by decide +kernel
theorem dX3_copy_66 : decode cX3_copy 66 = .ok (.getfield 31, 3) := by decide +kernel
theorem dX3_copy_69 : decode cX3_copy 69 = .ok (.iload_n 1, 1) := by decide +kernel
theorem dX3_copy_70 : decode cX3_copy 70 = .ok (.baload, 1) := by decide +kernel
theorem dX3_copy_71 : decode cX3_copy 71 = .ok (.bastore, 1) := by decide +kernel
theorem dX3_copy_72 : decode cX3_copy 72 = .ok (.return_, 1) := by decide +kernel
