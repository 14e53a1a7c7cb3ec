theorem dX8_init_0 : decode cX8_init 0 = .ok (.aload_n 0, 1) := by decide +kernel
theorem dX8_init_1 : decode cX8_init 1 = .ok (.invokespecial 3, 3) := by decide +kernel
theorem dX8_init_4 : decode cX8_init 4 = .ok (.aload_n 0, 1) := by decide +kernel
theorem dX8_init_5 : decode cX8_init 5 = .ok (.new 9, 3) := by decide +kernel
theorem dX8_init_8 : decode cX8_init 8 = .ok (.dup, 1) := by decide +kernel
theorem dX8_init_9 : decode cX8_init 9 = .ok (.invokespecial 11, 3) := by decide +kernel
theorem dX8_init_12 : decode cX8_init 12 = .ok (.putfield 12, 3) := by decide +kernel
theorem dX8_init_15 : decode cX8_init 15 = .ok (.aload_n 0, 1) := by decide +kernel
theorem dX8_init_16 : decode cX8_init 16 = .ok (.new 16, 3) := by decide +kernel
theorem dX8_init_19 : decode cX8_init 19 = .ok (.dup, 1) := by decide +kernel
theorem dX8_init_20 : decode cX8_init 20 = .ok (.invokespecial 18, 3) := by decide +kernel
theorem dX8_init_23 : decode cX8_init 23 = .ok (.putfield 19, 3) := by decide +kernel
theorem dX8_init_26 : decode cX8_init 26 = .ok (.aload_n 0, 1) := by decide +kernel
theorem dX8_init_27 : decode cX8_init 27 = .ok (.new 16, 3) := by decide +kernel
theorem dX8_init_30 : decode cX8_init 30 = .ok (.dup, 1) := by decide +kernel
theorem dX8_init_31 : decode cX8_init 31 = .ok (.invokespecial 18, 3) := by decide +kernel
theorem dX8_init_34 : decode cX8_init 34 = .ok (.putfield 23, 3) := by decide +kernel
theorem dX8_init_37 : decode cX8_init 37 = .ok (.aload_n 0, 1) := by decide +kernel
theorem dX8_init_38 : decode cX8_init 38 = .ok (.new 26, 3) := by decide +kernel
theorem dX8_init_41 : decode cX8_init 41 = .ok (.dup, 1) := by decide +kernel
theorem dX8_init_42 : decode cX8_init 42 = .ok (.invokespecial 28, 3) := by decide +kernel
theorem dX8_init_45 : decode cX8_init 45 = .ok (.putfield 29, 3) := by decide +kernel
theorem dX8_init_48 : decode cX8_init 48 = .ok (.aload_n 0, 1) := by decide +kernel
theorem dX8_init_49 : decode cX8_init 49 = .ok (.new 33, 3) := by decide +kernel
theorem dX8_init_52 : decode cX8_init 52 = .ok (.dup, 1) := by decide +kernel
theorem dX8_init_53 : decode cX8_init 53 = .ok (.invokespecial 35, 3) := by decide +kernel
theorem dX8_init_56 : decode cX8_init 56 = .ok (.putfield 36, 3) := by decide +kernel
theorem dX8_init_59 : decode cX8_init 59 = .ok (.aload_n 0, 1) := by decide +kernel
theorem dX8_init_60 : decode cX8_init 60 = .ok (.new 40, 3) := by decide +kernel
theorem dX8_init_63 : decode cX8_init 63 = .ok (.dup, 1) := by decide +kernel
theorem dX8_init_64 : decode cX8_init 64 = .ok (.invokespecial 42, 3) := by decide +kernel
theorem dX8_init_67 : decode cX8_init 67 = .ok (.putfield 43, 3) := by decide +kernel
theorem dX8_init_70 : decode cX8_init 70 = .ok (.aload_n 0, 1) := by decide +kernel
theorem dX8_init_71 : decode cX8_init 71 = .ok (.new 47, 3) := by decide +kernel
theorem dX8_init_74 : decode cX8_init 74 = .ok (.dup, 1) := by decide +kernel
theorem dX8_init_75 : decode cX8_init 75 = .ok (.invokespecial 49, 3) := by decide +kernel
theorem dX8_init_78 : decode cX8_init 78 = .ok (.putfield 50, 3) := by decide +kernel
theorem dX8_init_81 : decode cX8_init 81 = .ok (.return_, 1) := by decide +kernel
theorem dX8_feed_0 : decode cX8_feed 0 = .ok (.aload_n 0, 1) := by decide +kernel
theorem dX8_feed_1 : decode cX8_feed 1 = .ok (.getfield 12, 3) := by decide +kernel
theorem dX8_feed_4 : decode cX8_feed 4 = .ok (.getfield 54, 3) := by decide +kernel
theorem dX8_feed_7 : decode cX8_feed 7 = .ok (.astore 6, 2) := by decide +kernel
theorem dX8_feed_9 : decode cX8_feed 9 = .ok (.aload 6, 2) := by decide +kernel
theorem dX8_feed_11 : decode cX8_feed 11 = .ok (.invokevirtual 58, 3) := by decide +kernel
theorem dX8_feed_14 : decode cX8_feed 14 = .ok (.ifCond .ne 5, 3) := by decide +kernel
theorem dX8_feed_17 : decode cX8_feed 17 = .ok (.iconst (-1), 1) := by decide +kernel
theorem dX8_feed_18 : decode cX8_feed 18 = .ok (.ireturn, 1) := by decide +kernel
theorem dX8_feed_19 : decode cX8_feed 19 = .ok (.aload 6, 2) := by decide +kernel
theorem dX8_feed_21 : decode cX8_feed 21 = .ok (.iload_n 1, 1) := by decide +kernel
theorem dX8_feed_22 : decode cX8_feed 22 = .ok (.invokevirtual 64, 3) := by decide +kernel
theorem dX8_feed_25 : decode cX8_feed 25 = .ok (.aload 6, 2) := by decide +kernel
theorem dX8_feed_27 : decode cX8_feed 27 = .ok (.iload_n 2, 1) := by decide +kernel
theorem dX8_feed_28 : decode cX8_feed 28 = .ok (.invokevirtual 64, 3) := by decide +kernel
theorem dX8_feed_31 : decode cX8_feed 31 = .ok (.aload 6, 2) := by decide +kernel
theorem dX8_feed_33 : decode cX8_feed 33 = .ok (.iload_n 3, 1) := by decide +kernel
theorem dX8_feed_34 : decode cX8_feed 34 = .ok (.invokevirtual 64, 3) := by decide +kernel
theorem dX8_feed_37 : decode cX8_feed 37 = .ok (.aload 6, 2) := by decide +kernel
theorem dX8_feed_39 : decode cX8_feed 39 = .ok (.iload 4, 2) := by decide +kernel
theorem dX8_feed_41 : decode cX8_feed 41 = .ok (.invokevirtual 64, 3) := by decide +kernel
theorem dX8_feed_44 : decode cX8_feed 44 = .ok (.aload 6, 2) := by decide +kernel
theorem dX8_feed_46 : decode cX8_feed 46 = .ok (.iload 5, 2) := by decide +kernel
theorem dX8_feed_48 : decode cX8_feed 48 = .ok (.invokevirtual 64, 3) := by decide +kernel
theorem dX8_feed_51 : decode cX8_feed 51 = .ok (.aload 6, 2) := by decide +kernel
theorem dX8_feed_53 : decode cX8_feed 53 = .ok (.getfield 68, 3) := by decide +kernel
theorem dX8_feed_56 : decode cX8_feed 56 = .ok (.ireturn, 1) := by decide +kernel
theorem dX8_end_0 : decode cX8_end 0 = .ok (.iload_n 1, 1) := by decide +kernel
theorem dX8_end_1 : decode cX8_end 1 = .ok (.ifCond .lt 17, 3) := by decide +kernel
theorem dX8_end_4 : decode cX8_end 4 = .ok (.iload_n 1, 1) := by decide +kernel
theorem dX8_end_5 : decode cX8_end 5 = .ok (.aload_n 0, 1) := by decide +kernel
theorem dX8_end_6 : decode cX8_end 6 = .ok (.getfield 12, 3) := by decide +kernel
theorem dX8_end_9 : decode cX8_end 9 = .ok (.getfield 54, 3) := by decide +kernel
theorem dX8_end_12 : decode cX8_end 12 = .ok (.getfield 68, 3) := by decide +kernel
theorem dX8_end_15 : decode cX8_end 15 = .ok (.if_icmp .le 5, 3) := by decide +kernel
theorem dX8_end_18 : decode cX8_end 18 = .ok (.iconst 0, 1) := by decide +kernel
theorem dX8_end_19 : decode cX8_end 19 = .ok (.ireturn, 1) := by decide +kernel
theorem dX8_end_20 : decode cX8_end 20 = .ok (.aload_n 0, 1) := by decide +kernel
theorem dX8_end_21 : decode cX8_end 21 = .ok (.getfield 12, 3) := by decide +kernel
theorem dX8_end_24 : decode cX8_end 24 = .ok (.getfield 54, 3) := by decide +kernel
theorem dX8_end_27 : decode cX8_end 27 = .ok (.iload_n 1, 1) := by decide +kernel
theorem dX8_end_28 : decode cX8_end 28 = .ok (.putfield 68, 3) := by decide +kernel
theorem dX8_end_31 : decode cX8_end 31 = .ok (.iconst 1, 1) := by decide +kernel
theorem dX8_end_32 : decode cX8_end 32 = .ok (.ireturn, 1) := by decide +kernel
theorem dX8_text_0 : decode cX8_text 0 = .ok (.aload_n 0, 1) := by decide +kernel
theorem dX8_text_1 : decode cX8_text 1 = .ok (.getfield 12, 3) := by decide +kernel
theorem dX8_text_4 : decode cX8_text 4 = .ok (.aload_n 0, 1) := by decide +kernel
theorem dX8_text_5 : decode cX8_text 5 = .ok (.getfield 23, 3) := by decide +kernel
theorem dX8_text_8 : decode cX8_text 8 = .ok (.invokevirtual 72, 3) := by decide +kernel
theorem dX8_text_11 : decode cX8_text 11 = .ok (.istore_n 1, 1) := by decide +kernel
theorem dX8_text_12 : decode cX8_text 12 = .ok (.aload_n 0, 1) := by decide +kernel
theorem dX8_text_13 : decode cX8_text 13 = .ok (.getfield 12, 3) := by decide +kernel
theorem dX8_text_16 : decode cX8_text 16 = .ok (.getfield 54, 3) := by decide +kernel
theorem dX8_text_19 : decode cX8_text 19 = .ok (.iconst 0, 1) := by decide +kernel
theorem dX8_text_20 : decode cX8_text 20 = .ok (.putfield 68, 3) := by decide +kernel
theorem dX8_text_23 : decode cX8_text 23 = .ok (.iload_n 1, 1) := by decide +kernel
theorem dX8_text_24 : decode cX8_text 24 = .ok (.ifCond .ne 13, 3) := by decide +kernel
theorem dX8_text_27 : decode cX8_text 27 = .ok (.iconst (-1), 1) := by decide +kernel
theorem dX8_text_28 : decode cX8_text 28 = .ok (.aload_n 0, 1) := by decide +kernel
theorem dX8_text_29 : decode cX8_text 29 = .ok (.getfield 12, 3) := by decide +kernel
theorem dX8_text_32 : decode cX8_text 32 = .ok (.getfield 76, 3) := by decide +kernel
theorem dX8_text_35 : decode cX8_text 35 = .ok (.isub, 1) := by decide +kernel
theorem dX8_text_36 : decode cX8_text 36 = .ok (.ireturn, 1) := by decide +kernel
theorem dX8_text_37 : decode cX8_text 37 = .ok (.aload_n 0, 1) := by decide +kernel
theorem dX8_text_38 : decode cX8_text 38 = .ok (.getfield 23, 3) := by decide +kernel
theorem dX8_text_41 : decode cX8_text 41 = .ok (.astore_n 2, 1) := by decide +kernel
theorem dX8_text_42 : decode cX8_text 42 = .ok (.aload_n 0, 1) := by decide +kernel
theorem dX8_text_43 : decode cX8_text 43 = .ok (.aload_n 0, 1) := by decide +kernel
theorem dX8_text_44 : decode cX8_text 44 = .ok (.getfield 19, 3) := by decide +kernel
theorem dX8_text_47 : decode cX8_text 47 = .ok (.putfield 23, 3) := by decide +kernel
theorem dX8_text_50 : decode cX8_text 50 = .ok (.aload_n 0, 1) := by decide +kernel
theorem dX8_text_51 : decode cX8_text 51 = .ok (.aload_n 2, 1) := by decide +kernel
theorem dX8_text_52 : decode cX8_text 52 = .ok (.putfield 19, 3) := by decide +kernel
theorem dX8_text_55 : decode cX8_text 55 = .ok (.aload_n 0, 1) := by decide +kernel
theorem dX8_text_56 : decode cX8_text 56 = .ok (.getfield 29, 3) := by decide +kernel
theorem dX8_text_59 : decode cX8_text 59 = .ok (.iconst 0, 1) := by decide +kernel
theorem dX8_text_60 : decode cX8_text 60 = .ok (.putfield 79, 3) := by decide +kernel
theorem dX8_text_63 : decode cX8_text 63 = .ok (.aload_n 0, 1) := by decide +kernel
theorem dX8_text_64 : decode cX8_text 64 = .ok (.getfield 36, 3) := by decide +kernel
theorem dX8_text_67 : decode cX8_text 67 = .ok (.iconst 0, 1) := by decide +kernel
theorem dX8_text_68 : decode cX8_text 68 = .ok (.putfield 82, 3) := by decide +kernel
theorem dX8_text_71 : decode cX8_text 71 = .ok (.aload_n 0, 1) := by decide +kernel
theorem dX8_text_72 : decode cX8_text 72 = .ok (.getfield 43, 3) := by decide +kernel
theorem dX8_text_75 : decode cX8_text 75 = .ok (.iconst 0, 1) := by decide +kernel
theorem dX8_text_76 : decode cX8_text 76 = .ok (.putfield 83, 3) := by decide +kernel
theorem dX8_text_79 : decode cX8_text 79 = .ok (.aload_n 0, 1) := by decide +kernel
theorem dX8_text_80 : decode cX8_text 80 = .ok (.getfield 12, 3) := by decide +kernel
theorem dX8_text_83 : decode cX8_text 83 = .ok (.getfield 84, 3) := by decide +kernel
theorem dX8_text_86 : decode cX8_text 86 = .ok (.ireturn, 1) := by decide +kernel
theorem dX8_fault_0 : decode cX8_fault 0 = .ok (.aload_n 0, 1) := by decide +kernel
theorem dX8_fault_1 : decode cX8_fault 1 = .ok (.getfield 12, 3) := by decide +kernel
theorem dX8_fault_4 : decode cX8_fault 4 = .ok (.getfield 87, 3) := by decide +kernel
theorem dX8_fault_7 : decode cX8_fault 7 = .ok (.ireturn, 1) := by decide +kernel
theorem dX8_now_0 : decode cX8_now 0 = .ok (.iload_n 1, 1) := by decide +kernel
theorem dX8_now_1 : decode cX8_now 1 = .ok (.tableswitch 114 0 7 #[47, 55, 63, 71, 79, 87, 95, 103], 47) := by decide +kernel
theorem dX8_now_48 : decode cX8_now 48 = .ok (.aload_n 0, 1) := by decide +kernel
theorem dX8_now_49 : decode cX8_now 49 = .ok (.getfield 19, 3) := by decide +kernel
theorem dX8_now_52 : decode cX8_now 52 = .ok (.getfield 90, 3) := by decide +kernel
theorem dX8_now_55 : decode cX8_now 55 = .ok (.ireturn, 1) := by decide +kernel
theorem dX8_now_56 : decode cX8_now 56 = .ok (.aload_n 0, 1) := by decide +kernel
theorem dX8_now_57 : decode cX8_now 57 = .ok (.getfield 19, 3) := by decide +kernel
theorem dX8_now_60 : decode cX8_now 60 = .ok (.getfield 93, 3) := by decide +kernel
theorem dX8_now_63 : decode cX8_now 63 = .ok (.ireturn, 1) := by decide +kernel
theorem dX8_now_64 : decode cX8_now 64 = .ok (.aload_n 0, 1) := by decide +kernel
theorem dX8_now_65 : decode cX8_now 65 = .ok (.getfield 19, 3) := by decide +kernel
theorem dX8_now_68 : decode cX8_now 68 = .ok (.getfield 96, 3) := by decide +kernel
theorem dX8_now_71 : decode cX8_now 71 = .ok (.ireturn, 1) := by decide +kernel
theorem dX8_now_72 : decode cX8_now 72 = .ok (.aload_n 0, 1) := by decide +kernel
theorem dX8_now_73 : decode cX8_now 73 = .ok (.getfield 29, 3) := by decide +kernel
theorem dX8_now_76 : decode cX8_now 76 = .ok (.getfield 79, 3) := by decide +kernel
theorem dX8_now_79 : decode cX8_now 79 = .ok (.ireturn, 1) := by decide +kernel
theorem dX8_now_80 : decode cX8_now 80 = .ok (.aload_n 0, 1) := by decide +kernel
theorem dX8_now_81 : decode cX8_now 81 = .ok (.getfield 29, 3) := by decide +kernel
theorem dX8_now_84 : decode cX8_now 84 = .ok (.invokevirtual 99, 3) := by decide +kernel
theorem dX8_now_87 : decode cX8_now 87 = .ok (.ireturn, 1) := by decide +kernel
theorem dX8_now_88 : decode cX8_now 88 = .ok (.aload_n 0, 1) := by decide +kernel
theorem dX8_now_89 : decode cX8_now 89 = .ok (.getfield 36, 3) := by decide +kernel
theorem dX8_now_92 : decode cX8_now 92 = .ok (.getfield 82, 3) := by decide +kernel
theorem dX8_now_95 : decode cX8_now 95 = .ok (.ireturn, 1) := by decide +kernel
theorem dX8_now_96 : decode cX8_now 96 = .ok (.aload_n 0, 1) := by decide +kernel
theorem dX8_now_97 : decode cX8_now 97 = .ok (.getfield 43, 3) := by decide +kernel
theorem dX8_now_100 : decode cX8_now 100 = .ok (.getfield 83, 3) := by decide +kernel
theorem dX8_now_103 : decode cX8_now 103 = .ok (.ireturn, 1) := by decide +kernel
theorem dX8_now_104 : decode cX8_now 104 = .ok (.aload_n 0, 1) := by decide +kernel
theorem dX8_now_105 : decode cX8_now 105 = .ok (.getfield 12, 3) := by decide +kernel
theorem dX8_now_108 : decode cX8_now 108 = .ok (.getfield 54, 3) := by decide +kernel
theorem dX8_now_111 : decode cX8_now 111 = .ok (.getfield 68, 3) := by decide +kernel
theorem dX8_now_114 : decode cX8_now 114 = .ok (.ireturn, 1) := by decide +kernel
theorem dX8_now_115 : decode cX8_now 115 = .ok (.iconst (-1), 1) := by decide +kernel
theorem dX8_now_116 : decode cX8_now 116 = .ok (.ireturn, 1) := by decide +kernel
theorem dX8_item_0 : decode cX8_item 0 = .ok (.aload_n 0, 1) := by decide +kernel
theorem dX8_item_1 : decode cX8_item 1 = .ok (.getfield 19, 3) := by decide +kernel
theorem dX8_item_4 : decode cX8_item 4 = .ok (.iload_n 1, 1) := by decide +kernel
theorem dX8_item_5 : decode cX8_item 5 = .ok (.invokevirtual 103, 3) := by decide +kernel
theorem dX8_item_8 : decode cX8_item 8 = .ok (.ifCond .ne 5, 3) := by decide +kernel
theorem dX8_item_11 : decode cX8_item 11 = .ok (.iconst (-1), 1) := by decide +kernel
theorem dX8_item_12 : decode cX8_item 12 = .ok (.ireturn, 1) := by decide +kernel
theorem dX8_item_13 : decode cX8_item 13 = .ok (.iload_n 2, 1) := by decide +kernel
theorem dX8_item_14 : decode cX8_item 14 = .ok (.lookupswitch 46 #[(0, 26), (1, 36)], 26) := by decide +kernel
theorem dX8_item_40 : decode cX8_item 40 = .ok (.aload_n 0, 1) := by decide +kernel
theorem dX8_item_41 : decode cX8_item 41 = .ok (.getfield 19, 3) := by decide +kernel
theorem dX8_item_44 : decode cX8_item 44 = .ok (.getfield 107, 3) := by decide +kernel
theorem dX8_item_47 : decode cX8_item 47 = .ok (.iload_n 1, 1) := by decide +kernel
theorem dX8_item_48 : decode cX8_item 48 = .ok (.iaload, 1) := by decide +kernel
theorem dX8_item_49 : decode cX8_item 49 = .ok (.ireturn, 1) := by decide +kernel
theorem dX8_item_50 : decode cX8_item 50 = .ok (.aload_n 0, 1) := by decide +kernel
theorem dX8_item_51 : decode cX8_item 51 = .ok (.getfield 19, 3) := by decide +kernel
theorem dX8_item_54 : decode cX8_item 54 = .ok (.getfield 111, 3) := by decide +kernel
theorem dX8_item_57 : decode cX8_item 57 = .ok (.iload_n 1, 1) := by decide +kernel
theorem dX8_item_58 : decode cX8_item 58 = .ok (.iaload, 1) := by decide +kernel
theorem dX8_item_59 : decode cX8_item 59 = .ok (.ireturn, 1) := by decide +kernel
theorem dX8_item_60 : decode cX8_item 60 = .ok (.iconst (-1), 1) := by decide +kernel
theorem dX8_item_61 : decode cX8_item 61 = .ok (.ireturn, 1) := by decide +kernel
theorem dX8_move_0 : decode cX8_move 0 = .ok (.aload_n 0, 1) := by decide +kernel
theorem dX8_move_1 : decode cX8_move 1 = .ok (.getfield 19, 3) := by decide +kernel
theorem dX8_move_4 : decode cX8_move 4 = .ok (.iload_n 1, 1) := by decide +kernel
theorem dX8_move_5 : decode cX8_move 5 = .ok (.invokevirtual 114, 3) := by decide +kernel
theorem dX8_move_8 : decode cX8_move 8 = .ok (.ifCond .ne 13, 3) := by decide +kernel
theorem dX8_move_11 : decode cX8_move 11 = .ok (.new 117, 3) := by decide +kernel
theorem dX8_move_14 : decode cX8_move 14 = .ok (.dup, 1) := by decide +kernel
theorem dX8_move_15 : decode cX8_move 15 = .ok (.ldc 119, 2) := by decide +kernel
theorem dX8_move_17 : decode cX8_move 17 = .ok (.invokespecial 121, 3) := by decide +kernel
theorem dX8_move_20 : decode cX8_move 20 = .ok (.athrow, 1) := by decide +kernel
theorem dX8_move_21 : decode cX8_move 21 = .ok (.iload_n 2, 1) := by decide +kernel
theorem dX8_move_22 : decode cX8_move 22 = .ok (.tableswitch 210 0 22 #[106, 116, 210, 210, 210, 210, 210, 210, 210, 210, 126, 140, 154, 210, 210, 210, 210, 210, 210, 210, 168, 182, 196], 106) := by decide +kernel
theorem dX8_move_128 : decode cX8_move 128 = .ok (.aload_n 0, 1) := by decide +kernel
theorem dX8_move_129 : decode cX8_move 129 = .ok (.getfield 19, 3) := by decide +kernel
theorem dX8_move_132 : decode cX8_move 132 = .ok (.getfield 124, 3) := by decide +kernel
theorem dX8_move_135 : decode cX8_move 135 = .ok (.iload_n 1, 1) := by decide +kernel
theorem dX8_move_136 : decode cX8_move 136 = .ok (.iaload, 1) := by decide +kernel
theorem dX8_move_137 : decode cX8_move 137 = .ok (.ireturn, 1) := by decide +kernel
theorem dX8_move_138 : decode cX8_move 138 = .ok (.aload_n 0, 1) := by decide +kernel
theorem dX8_move_139 : decode cX8_move 139 = .ok (.getfield 19, 3) := by decide +kernel
theorem dX8_move_142 : decode cX8_move 142 = .ok (.getfield 127, 3) := by decide +kernel
theorem dX8_move_145 : decode cX8_move 145 = .ok (.iload_n 1, 1) := by decide +kernel
theorem dX8_move_146 : decode cX8_move 146 = .ok (.iaload, 1) := by decide +kernel
theorem dX8_move_147 : decode cX8_move 147 = .ok (.ireturn, 1) := by decide +kernel
theorem dX8_move_148 : decode cX8_move 148 = .ok (.aload_n 0, 1) := by decide +kernel
theorem dX8_move_149 : decode cX8_move 149 = .ok (.getfield 19, 3) := by decide +kernel
theorem dX8_move_152 : decode cX8_move 152 = .ok (.getfield 130, 3) := by decide +kernel
theorem dX8_move_155 : decode cX8_move 155 = .ok (.iload_n 1, 1) := by decide +kernel
theorem dX8_move_156 : decode cX8_move 156 = .ok (.iconst 0, 1) := by decide +kernel
theorem dX8_move_157 : decode cX8_move 157 = .ok (.invokestatic 133, 3) := by decide +kernel
theorem dX8_move_160 : decode cX8_move 160 = .ok (.iaload, 1) := by decide +kernel
theorem dX8_move_161 : decode cX8_move 161 = .ok (.ireturn, 1) := by decide +kernel
theorem dX8_move_162 : decode cX8_move 162 = .ok (.aload_n 0, 1) := by decide +kernel
theorem dX8_move_163 : decode cX8_move 163 = .ok (.getfield 19, 3) := by decide +kernel
theorem dX8_move_166 : decode cX8_move 166 = .ok (.getfield 137, 3) := by decide +kernel
theorem dX8_move_169 : decode cX8_move 169 = .ok (.iload_n 1, 1) := by decide +kernel
theorem dX8_move_170 : decode cX8_move 170 = .ok (.iconst 0, 1) := by decide +kernel
theorem dX8_move_171 : decode cX8_move 171 = .ok (.invokestatic 133, 3) := by decide +kernel
theorem dX8_move_174 : decode cX8_move 174 = .ok (.iaload, 1) := by decide +kernel
theorem dX8_move_175 : decode cX8_move 175 = .ok (.ireturn, 1) := by decide +kernel
theorem dX8_move_176 : decode cX8_move 176 = .ok (.aload_n 0, 1) := by decide +kernel
theorem dX8_move_177 : decode cX8_move 177 = .ok (.getfield 19, 3) := by decide +kernel
theorem dX8_move_180 : decode cX8_move 180 = .ok (.getfield 140, 3) := by decide +kernel
theorem dX8_move_183 : decode cX8_move 183 = .ok (.iload_n 1, 1) := by decide +kernel
theorem dX8_move_184 : decode cX8_move 184 = .ok (.iconst 0, 1) := by decide +kernel
theorem dX8_move_185 : decode cX8_move 185 = .ok (.invokestatic 133, 3) := by decide +kernel
theorem dX8_move_188 : decode cX8_move 188 = .ok (.iaload, 1) := by decide +kernel
theorem dX8_move_189 : decode cX8_move 189 = .ok (.ireturn, 1) := by decide +kernel
theorem dX8_move_190 : decode cX8_move 190 = .ok (.aload_n 0, 1) := by decide +kernel
theorem dX8_move_191 : decode cX8_move 191 = .ok (.getfield 19, 3) := by decide +kernel
theorem dX8_move_194 : decode cX8_move 194 = .ok (.getfield 130, 3) := by decide +kernel
theorem dX8_move_197 : decode cX8_move 197 = .ok (.iload_n 1, 1) := by decide +kernel
theorem dX8_move_198 : decode cX8_move 198 = .ok (.iconst 1, 1) := by decide +kernel
theorem dX8_move_199 : decode cX8_move 199 = .ok (.invokestatic 133, 3) := by decide +kernel
theorem dX8_move_202 : decode cX8_move 202 = .ok (.iaload, 1) := by decide +kernel
theorem dX8_move_203 : decode cX8_move 203 = .ok (.ireturn, 1) := by decide +kernel
theorem dX8_move_204 : decode cX8_move 204 = .ok (.aload_n 0, 1) := by decide +kernel
theorem dX8_move_205 : decode cX8_move 205 = .ok (.getfield 19, 3) := by decide +kernel
theorem dX8_move_208 : decode cX8_move 208 = .ok (.getfield 137, 3) := by decide +kernel
theorem dX8_move_211 : decode cX8_move 211 = .ok (.iload_n 1, 1) := by decide +kernel
theorem dX8_move_212 : decode cX8_move 212 = .ok (.iconst 1, 1) := by decide +kernel
theorem dX8_move_213 : decode cX8_move 213 = .ok (.invokestatic 133, 3) := by decide +kernel
theorem dX8_move_216 : decode cX8_move 216 = .ok (.iaload, 1) := by decide +kernel
theorem dX8_move_217 : decode cX8_move 217 = .ok (.ireturn, 1) := by decide +kernel
theorem dX8_move_218 : decode cX8_move 218 = .ok (.aload_n 0, 1) := by decide +kernel
theorem dX8_move_219 : decode cX8_move 219 = .ok (.getfield 19, 3) := by decide +kernel
theorem dX8_move_222 : decode cX8_move 222 = .ok (.getfield 140, 3) := by decide +kernel
theorem dX8_move_225 : decode cX8_move 225 = .ok (.iload_n 1, 1) := by decide +kernel
theorem dX8_move_226 : decode cX8_move 226 = .ok (.iconst 1, 1) := by decide +kernel
theorem dX8_move_227 : decode cX8_move 227 = .ok (.invokestatic 133, 3) := by decide +kernel
theorem dX8_move_230 : decode cX8_move 230 = .ok (.iaload, 1) := by decide +kernel
theorem dX8_move_231 : decode cX8_move 231 = .ok (.ireturn, 1) := by decide +kernel
theorem dX8_move_232 : decode cX8_move 232 = .ok (.new 117, 3) := by decide +kernel
theorem dX8_move_235 : decode cX8_move 235 = .ok (.dup, 1) := by decide +kernel
theorem dX8_move_236 : decode cX8_move 236 = .ok (.ldc 143, 2) := by decide +kernel
theorem dX8_move_238 : decode cX8_move 238 = .ok (.invokespecial 121, 3) := by decide +kernel
theorem dX8_move_241 : decode cX8_move 241 = .ok (.athrow, 1) := by decide +kernel
theorem dX8_book_0 : decode cX8_book 0 = .ok (.aload_n 0, 1) := by decide +kernel
theorem dX8_book_1 : decode cX8_book 1 = .ok (.getfield 19, 3) := by decide +kernel
theorem dX8_book_4 : decode cX8_book 4 = .ok (.iload_n 1, 1) := by decide +kernel
theorem dX8_book_5 : decode cX8_book 5 = .ok (.iload_n 2, 1) := by decide +kernel
theorem dX8_book_6 : decode cX8_book 6 = .ok (.invokevirtual 145, 3) := by decide +kernel
theorem dX8_book_9 : decode cX8_book 9 = .ok (.ifCond .eq 10, 3) := by decide +kernel
theorem dX8_book_12 : decode cX8_book 12 = .ok (.iload_n 3, 1) := by decide +kernel
theorem dX8_book_13 : decode cX8_book 13 = .ok (.invokestatic 149, 3) := by decide +kernel
theorem dX8_book_16 : decode cX8_book 16 = .ok (.ifCond .ne 6, 3) := by decide +kernel
theorem dX8_book_19 : decode cX8_book 19 = .ok (.ldc 152, 2) := by decide +kernel
theorem dX8_book_21 : decode cX8_book 21 = .ok (.ireturn, 1) := by decide +kernel
theorem dX8_book_22 : decode cX8_book 22 = .ok (.aload_n 0, 1) := by decide +kernel
theorem dX8_book_23 : decode cX8_book 23 = .ok (.getfield 50, 3) := by decide +kernel
theorem dX8_book_26 : decode cX8_book 26 = .ok (.aload_n 0, 1) := by decide +kernel
theorem dX8_book_27 : decode cX8_book 27 = .ok (.getfield 19, 3) := by decide +kernel
theorem dX8_book_30 : decode cX8_book 30 = .ok (.aload_n 0, 1) := by decide +kernel
theorem dX8_book_31 : decode cX8_book 31 = .ok (.getfield 36, 3) := by decide +kernel
theorem dX8_book_34 : decode cX8_book 34 = .ok (.iload_n 1, 1) := by decide +kernel
theorem dX8_book_35 : decode cX8_book 35 = .ok (.iload_n 2, 1) := by decide +kernel
theorem dX8_book_36 : decode cX8_book 36 = .ok (.iload_n 3, 1) := by decide +kernel
theorem dX8_book_37 : decode cX8_book 37 = .ok (.invokevirtual 153, 3) := by decide +kernel
theorem dX8_book_40 : decode cX8_book 40 = .ok (.iload 4, 2) := by decide +kernel
theorem dX8_book_42 : decode cX8_book 42 = .ok (.tableswitch 62 0 3 #[30, 38, 46, 54], 30) := by decide +kernel
theorem dX8_book_72 : decode cX8_book 72 = .ok (.aload_n 0, 1) := by decide +kernel
theorem dX8_book_73 : decode cX8_book 73 = .ok (.getfield 50, 3) := by decide +kernel
theorem dX8_book_76 : decode cX8_book 76 = .ok (.getfield 157, 3) := by decide +kernel
theorem dX8_book_79 : decode cX8_book 79 = .ok (.ireturn, 1) := by decide +kernel
theorem dX8_book_80 : decode cX8_book 80 = .ok (.aload_n 0, 1) := by decide +kernel
theorem dX8_book_81 : decode cX8_book 81 = .ok (.getfield 50, 3) := by decide +kernel
theorem dX8_book_84 : decode cX8_book 84 = .ok (.getfield 160, 3) := by decide +kernel
theorem dX8_book_87 : decode cX8_book 87 = .ok (.ireturn, 1) := by decide +kernel
theorem dX8_book_88 : decode cX8_book 88 = .ok (.aload_n 0, 1) := by decide +kernel
theorem dX8_book_89 : decode cX8_book 89 = .ok (.getfield 50, 3) := by decide +kernel
theorem dX8_book_92 : decode cX8_book 92 = .ok (.getfield 163, 3) := by decide +kernel
theorem dX8_book_95 : decode cX8_book 95 = .ok (.ireturn, 1) := by decide +kernel
theorem dX8_book_96 : decode cX8_book 96 = .ok (.aload_n 0, 1) := by decide +kernel
theorem dX8_book_97 : decode cX8_book 97 = .ok (.getfield 50, 3) := by decide +kernel
theorem dX8_book_100 : decode cX8_book 100 = .ok (.getfield 166, 3) := by decide +kernel
theorem dX8_book_103 : decode cX8_book 103 = .ok (.ireturn, 1) := by decide +kernel
theorem dX8_book_104 : decode cX8_book 104 = .ok (.ldc 152, 2) := by decide +kernel
theorem dX8_book_106 : decode cX8_book 106 = .ok (.ireturn, 1) := by decide +kernel
theorem dX8_transit_0 : decode cX8_transit 0 = .ok (.aload_n 0, 1) := by decide +kernel
theorem dX8_transit_1 : decode cX8_transit 1 = .ok (.getfield 19, 3) := by decide +kernel
theorem dX8_transit_4 : decode cX8_transit 4 = .ok (.iload_n 1, 1) := by decide +kernel
theorem dX8_transit_5 : decode cX8_transit 5 = .ok (.invokevirtual 103, 3) := by decide +kernel
theorem dX8_transit_8 : decode cX8_transit 8 = .ok (.ifCond .eq 19, 3) := by decide +kernel
theorem dX8_transit_11 : decode cX8_transit 11 = .ok (.iload_n 2, 1) := by decide +kernel
theorem dX8_transit_12 : decode cX8_transit 12 = .ok (.invokestatic 149, 3) := by decide +kernel
theorem dX8_transit_15 : decode cX8_transit 15 = .ok (.ifCond .eq 12, 3) := by decide +kernel
theorem dX8_transit_18 : decode cX8_transit 18 = .ok (.iload_n 3, 1) := by decide +kernel
theorem dX8_transit_19 : decode cX8_transit 19 = .ok (.ifCond .lt 8, 3) := by decide +kernel
theorem dX8_transit_22 : decode cX8_transit 22 = .ok (.iload_n 3, 1) := by decide +kernel
theorem dX8_transit_23 : decode cX8_transit 23 = .ok (.iconst 1, 1) := by decide +kernel
theorem dX8_transit_24 : decode cX8_transit 24 = .ok (.if_icmp .le 5, 3) := by decide +kernel
theorem dX8_transit_27 : decode cX8_transit 27 = .ok (.iconst (-1), 1) := by decide +kernel
theorem dX8_transit_28 : decode cX8_transit 28 = .ok (.ireturn, 1) := by decide +kernel
theorem dX8_transit_29 : decode cX8_transit 29 = .ok (.iconst 0, 1) := by decide +kernel
theorem dX8_transit_30 : decode cX8_transit 30 = .ok (.istore 4, 2) := by decide +kernel
theorem dX8_transit_32 : decode cX8_transit 32 = .ok (.iconst 0, 1) := by decide +kernel
theorem dX8_transit_33 : decode cX8_transit 33 = .ok (.istore 5, 2) := by decide +kernel
theorem dX8_transit_35 : decode cX8_transit 35 = .ok (.iload 5, 2) := by decide +kernel
theorem dX8_transit_37 : decode cX8_transit 37 = .ok (.aload_n 0, 1) := by decide +kernel
theorem dX8_transit_38 : decode cX8_transit 38 = .ok (.getfield 19, 3) := by decide +kernel
theorem dX8_transit_41 : decode cX8_transit 41 = .ok (.getfield 96, 3) := by decide +kernel
theorem dX8_transit_44 : decode cX8_transit 44 = .ok (.if_icmp .ge 57, 3) := by decide +kernel
theorem dX8_transit_47 : decode cX8_transit 47 = .ok (.aload_n 0, 1) := by decide +kernel
theorem dX8_transit_48 : decode cX8_transit 48 = .ok (.getfield 19, 3) := by decide +kernel
theorem dX8_transit_51 : decode cX8_transit 51 = .ok (.getfield 124, 3) := by decide +kernel
theorem dX8_transit_54 : decode cX8_transit 54 = .ok (.iload 5, 2) := by decide +kernel
theorem dX8_transit_56 : decode cX8_transit 56 = .ok (.iaload, 1) := by decide +kernel
theorem dX8_transit_57 : decode cX8_transit 57 = .ok (.iload_n 1, 1) := by decide +kernel
theorem dX8_transit_58 : decode cX8_transit 58 = .ok (.if_icmp .ne 37, 3) := by decide +kernel
theorem dX8_transit_61 : decode cX8_transit 61 = .ok (.aload_n 0, 1) := by decide +kernel
theorem dX8_transit_62 : decode cX8_transit 62 = .ok (.iload 5, 2) := by decide +kernel
theorem dX8_transit_64 : decode cX8_transit 64 = .ok (.iload_n 2, 1) := by decide +kernel
theorem dX8_transit_65 : decode cX8_transit 65 = .ok (.iload_n 3, 1) := by decide +kernel
theorem dX8_transit_66 : decode cX8_transit 66 = .ok (.ifCond .ne 7, 3) := by decide +kernel
theorem dX8_transit_69 : decode cX8_transit 69 = .ok (.iconst 1, 1) := by decide +kernel
theorem dX8_transit_70 : decode cX8_transit 70 = .ok (.goto 4, 3) := by decide +kernel
theorem dX8_transit_73 : decode cX8_transit 73 = .ok (.iconst 0, 1) := by decide +kernel
theorem dX8_transit_74 : decode cX8_transit 74 = .ok (.invokevirtual 169, 3) := by decide +kernel
theorem dX8_transit_77 : decode cX8_transit 77 = .ok (.ifCond .eq 18, 3) := by decide +kernel
theorem dX8_transit_80 : decode cX8_transit 80 = .ok (.iload 4, 2) := by decide +kernel
theorem dX8_transit_82 : decode cX8_transit 82 = .ok (.aload_n 0, 1) := by decide +kernel
theorem dX8_transit_83 : decode cX8_transit 83 = .ok (.getfield 19, 3) := by decide +kernel
theorem dX8_transit_86 : decode cX8_transit 86 = .ok (.getfield 127, 3) := by decide +kernel
theorem dX8_transit_89 : decode cX8_transit 89 = .ok (.iload 5, 2) := by decide +kernel
theorem dX8_transit_91 : decode cX8_transit 91 = .ok (.iaload, 1) := by decide +kernel
theorem dX8_transit_92 : decode cX8_transit 92 = .ok (.iadd, 1) := by decide +kernel
theorem dX8_transit_93 : decode cX8_transit 93 = .ok (.istore 4, 2) := by decide +kernel
theorem dX8_transit_95 : decode cX8_transit 95 = .ok (.iinc 5 1, 3) := by decide +kernel
theorem dX8_transit_98 : decode cX8_transit 98 = .ok (.goto (-63), 3) := by decide +kernel
theorem dX8_transit_101 : decode cX8_transit 101 = .ok (.iload 4, 2) := by decide +kernel
theorem dX8_transit_103 : decode cX8_transit 103 = .ok (.ireturn, 1) := by decide +kernel
theorem dX8_below_0 : decode cX8_below 0 = .ok (.aload_n 0, 1) := by decide +kernel
theorem dX8_below_1 : decode cX8_below 1 = .ok (.getfield 19, 3) := by decide +kernel
theorem dX8_below_4 : decode cX8_below 4 = .ok (.iload_n 1, 1) := by decide +kernel
theorem dX8_below_5 : decode cX8_below 5 = .ok (.iload_n 2, 1) := by decide +kernel
theorem dX8_below_6 : decode cX8_below 6 = .ok (.invokevirtual 145, 3) := by decide +kernel
theorem dX8_below_9 : decode cX8_below 9 = .ok (.ifCond .ne 5, 3) := by decide +kernel
theorem dX8_below_12 : decode cX8_below 12 = .ok (.iconst (-1), 1) := by decide +kernel
theorem dX8_below_13 : decode cX8_below 13 = .ok (.ireturn, 1) := by decide +kernel
theorem dX8_below_14 : decode cX8_below 14 = .ok (.sipush 1000, 3) := by decide +kernel
theorem dX8_below_17 : decode cX8_below 17 = .ok (.istore_n 3, 1) := by decide +kernel
theorem dX8_below_18 : decode cX8_below 18 = .ok (.iconst 0, 1) := by decide +kernel
theorem dX8_below_19 : decode cX8_below 19 = .ok (.istore 4, 2) := by decide +kernel
theorem dX8_below_21 : decode cX8_below 21 = .ok (.iload 4, 2) := by decide +kernel
theorem dX8_below_23 : decode cX8_below 23 = .ok (.aload_n 0, 1) := by decide +kernel
theorem dX8_below_24 : decode cX8_below 24 = .ok (.getfield 19, 3) := by decide +kernel
theorem dX8_below_27 : decode cX8_below 27 = .ok (.getfield 96, 3) := by decide +kernel
theorem dX8_below_30 : decode cX8_below 30 = .ok (.if_icmp .ge 89, 3) := by decide +kernel
theorem dX8_below_33 : decode cX8_below 33 = .ok (.iload 4, 2) := by decide +kernel
theorem dX8_below_35 : decode cX8_below 35 = .ok (.iconst 0, 1) := by decide +kernel
theorem dX8_below_36 : decode cX8_below 36 = .ok (.invokestatic 133, 3) := by decide +kernel
theorem dX8_below_39 : decode cX8_below 39 = .ok (.istore 5, 2) := by decide +kernel
theorem dX8_below_41 : decode cX8_below 41 = .ok (.aload_n 0, 1) := by decide +kernel
theorem dX8_below_42 : decode cX8_below 42 = .ok (.getfield 19, 3) := by decide +kernel
theorem dX8_below_45 : decode cX8_below 45 = .ok (.getfield 124, 3) := by decide +kernel
theorem dX8_below_48 : decode cX8_below 48 = .ok (.iload 4, 2) := by decide +kernel
theorem dX8_below_50 : decode cX8_below 50 = .ok (.iaload, 1) := by decide +kernel
theorem dX8_below_51 : decode cX8_below 51 = .ok (.iload_n 2, 1) := by decide +kernel
theorem dX8_below_52 : decode cX8_below 52 = .ok (.if_icmp .ne 61, 3) := by decide +kernel
theorem dX8_below_55 : decode cX8_below 55 = .ok (.aload_n 0, 1) := by decide +kernel
theorem dX8_below_56 : decode cX8_below 56 = .ok (.getfield 19, 3) := by decide +kernel
theorem dX8_below_59 : decode cX8_below 59 = .ok (.getfield 130, 3) := by decide +kernel
theorem dX8_below_62 : decode cX8_below 62 = .ok (.iload 5, 2) := by decide +kernel
theorem dX8_below_64 : decode cX8_below 64 = .ok (.iaload, 1) := by decide +kernel
theorem dX8_below_65 : decode cX8_below 65 = .ok (.iload_n 1, 1) := by decide +kernel
theorem dX8_below_66 : decode cX8_below 66 = .ok (.if_icmp .ne 47, 3) := by decide +kernel
theorem dX8_below_69 : decode cX8_below 69 = .ok (.aload_n 0, 1) := by decide +kernel
theorem dX8_below_70 : decode cX8_below 70 = .ok (.getfield 19, 3) := by decide +kernel
theorem dX8_below_73 : decode cX8_below 73 = .ok (.getfield 140, 3) := by decide +kernel
theorem dX8_below_76 : decode cX8_below 76 = .ok (.iload 5, 2) := by decide +kernel
theorem dX8_below_78 : decode cX8_below 78 = .ok (.iaload, 1) := by decide +kernel
theorem dX8_below_79 : decode cX8_below 79 = .ok (.iload_n 3, 1) := by decide +kernel
theorem dX8_below_80 : decode cX8_below 80 = .ok (.if_icmp .ge 33, 3) := by decide +kernel
theorem dX8_below_83 : decode cX8_below 83 = .ok (.aload_n 0, 1) := by decide +kernel
theorem dX8_below_84 : decode cX8_below 84 = .ok (.iload_n 1, 1) := by decide +kernel
theorem dX8_below_85 : decode cX8_below 85 = .ok (.iload_n 2, 1) := by decide +kernel
theorem dX8_below_86 : decode cX8_below 86 = .ok (.aload_n 0, 1) := by decide +kernel
theorem dX8_below_87 : decode cX8_below 87 = .ok (.getfield 19, 3) := by decide +kernel
theorem dX8_below_90 : decode cX8_below 90 = .ok (.getfield 140, 3) := by decide +kernel
theorem dX8_below_93 : decode cX8_below 93 = .ok (.iload 5, 2) := by decide +kernel
theorem dX8_below_95 : decode cX8_below 95 = .ok (.iaload, 1) := by decide +kernel
theorem dX8_below_96 : decode cX8_below 96 = .ok (.invokevirtual 173, 3) := by decide +kernel
theorem dX8_below_99 : decode cX8_below 99 = .ok (.ifCond .eq 14, 3) := by decide +kernel
theorem dX8_below_102 : decode cX8_below 102 = .ok (.aload_n 0, 1) := by decide +kernel
theorem dX8_below_103 : decode cX8_below 103 = .ok (.getfield 19, 3) := by decide +kernel
theorem dX8_below_106 : decode cX8_below 106 = .ok (.getfield 140, 3) := by decide +kernel
theorem dX8_below_109 : decode cX8_below 109 = .ok (.iload 5, 2) := by decide +kernel
theorem dX8_below_111 : decode cX8_below 111 = .ok (.iaload, 1) := by decide +kernel
theorem dX8_below_112 : decode cX8_below 112 = .ok (.istore_n 3, 1) := by decide +kernel
theorem dX8_below_113 : decode cX8_below 113 = .ok (.iinc 4 1, 3) := by decide +kernel
theorem dX8_below_116 : decode cX8_below 116 = .ok (.goto (-95), 3) := by decide +kernel
theorem dX8_below_119 : decode cX8_below 119 = .ok (.iconst 0, 1) := by decide +kernel
theorem dX8_below_120 : decode cX8_below 120 = .ok (.istore 4, 2) := by decide +kernel
theorem dX8_below_122 : decode cX8_below 122 = .ok (.iload 4, 2) := by decide +kernel
theorem dX8_below_124 : decode cX8_below 124 = .ok (.aload_n 0, 1) := by decide +kernel
theorem dX8_below_125 : decode cX8_below 125 = .ok (.getfield 36, 3) := by decide +kernel
theorem dX8_below_128 : decode cX8_below 128 = .ok (.getfield 82, 3) := by decide +kernel
theorem dX8_below_131 : decode cX8_below 131 = .ok (.if_icmp .ge 67, 3) := by decide +kernel
theorem dX8_below_134 : decode cX8_below 134 = .ok (.aload_n 0, 1) := by decide +kernel
theorem dX8_below_135 : decode cX8_below 135 = .ok (.getfield 36, 3) := by decide +kernel
theorem dX8_below_138 : decode cX8_below 138 = .ok (.iload 4, 2) := by decide +kernel
theorem dX8_below_140 : decode cX8_below 140 = .ok (.iload_n 1, 1) := by decide +kernel
theorem dX8_below_141 : decode cX8_below 141 = .ok (.iload_n 2, 1) := by decide +kernel
theorem dX8_below_142 : decode cX8_below 142 = .ok (.invokevirtual 177, 3) := by decide +kernel
theorem dX8_below_145 : decode cX8_below 145 = .ok (.ifCond .eq 47, 3) := by decide +kernel
theorem dX8_below_148 : decode cX8_below 148 = .ok (.aload_n 0, 1) := by decide +kernel
theorem dX8_below_149 : decode cX8_below 149 = .ok (.getfield 36, 3) := by decide +kernel
theorem dX8_below_152 : decode cX8_below 152 = .ok (.getfield 180, 3) := by decide +kernel
theorem dX8_below_155 : decode cX8_below 155 = .ok (.iload 4, 2) := by decide +kernel
theorem dX8_below_157 : decode cX8_below 157 = .ok (.iaload, 1) := by decide +kernel
theorem dX8_below_158 : decode cX8_below 158 = .ok (.iload_n 3, 1) := by decide +kernel
theorem dX8_below_159 : decode cX8_below 159 = .ok (.if_icmp .ge 33, 3) := by decide +kernel
theorem dX8_below_162 : decode cX8_below 162 = .ok (.aload_n 0, 1) := by decide +kernel
theorem dX8_below_163 : decode cX8_below 163 = .ok (.iload_n 1, 1) := by decide +kernel
theorem dX8_below_164 : decode cX8_below 164 = .ok (.iload_n 2, 1) := by decide +kernel
theorem dX8_below_165 : decode cX8_below 165 = .ok (.aload_n 0, 1) := by decide +kernel
theorem dX8_below_166 : decode cX8_below 166 = .ok (.getfield 36, 3) := by decide +kernel
theorem dX8_below_169 : decode cX8_below 169 = .ok (.getfield 180, 3) := by decide +kernel
theorem dX8_below_172 : decode cX8_below 172 = .ok (.iload 4, 2) := by decide +kernel
theorem dX8_below_174 : decode cX8_below 174 = .ok (.iaload, 1) := by decide +kernel
theorem dX8_below_175 : decode cX8_below 175 = .ok (.invokevirtual 173, 3) := by decide +kernel
theorem dX8_below_178 : decode cX8_below 178 = .ok (.ifCond .eq 14, 3) := by decide +kernel
theorem dX8_below_181 : decode cX8_below 181 = .ok (.aload_n 0, 1) := by decide +kernel
theorem dX8_below_182 : decode cX8_below 182 = .ok (.getfield 36, 3) := by decide +kernel
theorem dX8_below_185 : decode cX8_below 185 = .ok (.getfield 180, 3) := by decide +kernel
theorem dX8_below_188 : decode cX8_below 188 = .ok (.iload 4, 2) := by decide +kernel
theorem dX8_below_190 : decode cX8_below 190 = .ok (.iaload, 1) := by decide +kernel
theorem dX8_below_191 : decode cX8_below 191 = .ok (.istore_n 3, 1) := by decide +kernel
theorem dX8_below_192 : decode cX8_below 192 = .ok (.iinc 4 1, 3) := by decide +kernel
theorem dX8_below_195 : decode cX8_below 195 = .ok (.goto (-73), 3) := by decide +kernel
theorem dX8_below_198 : decode cX8_below 198 = .ok (.iload_n 3, 1) := by decide +kernel
theorem dX8_below_199 : decode cX8_below 199 = .ok (.sipush 999, 3) := by decide +kernel
theorem dX8_below_202 : decode cX8_below 202 = .ok (.if_icmp .le 7, 3) := by decide +kernel
theorem dX8_below_205 : decode cX8_below 205 = .ok (.iconst (-1), 1) := by decide +kernel
theorem dX8_below_206 : decode cX8_below 206 = .ok (.goto 4, 3) := by decide +kernel
theorem dX8_below_209 : decode cX8_below 209 = .ok (.iload_n 3, 1) := by decide +kernel
theorem dX8_below_210 : decode cX8_below 210 = .ok (.ireturn, 1) := by decide +kernel
theorem dX8_count_0 : decode cX8_count 0 = .ok (.aload_n 0, 1) := by decide +kernel
theorem dX8_count_1 : decode cX8_count 1 = .ok (.getfield 29, 3) := by decide +kernel
theorem dX8_count_4 : decode cX8_count 4 = .ok (.iload_n 1, 1) := by decide +kernel
theorem dX8_count_5 : decode cX8_count 5 = .ok (.invokevirtual 183, 3) := by decide +kernel
theorem dX8_count_8 : decode cX8_count 8 = .ok (.ifCond .ne 13, 3) := by decide +kernel
theorem dX8_count_11 : decode cX8_count 11 = .ok (.new 117, 3) := by decide +kernel
theorem dX8_count_14 : decode cX8_count 14 = .ok (.dup, 1) := by decide +kernel
theorem dX8_count_15 : decode cX8_count 15 = .ok (.ldc 186, 2) := by decide +kernel
theorem dX8_count_17 : decode cX8_count 17 = .ok (.invokespecial 121, 3) := by decide +kernel
theorem dX8_count_20 : decode cX8_count 20 = .ok (.athrow, 1) := by decide +kernel
theorem dX8_count_21 : decode cX8_count 21 = .ok (.iload_n 2, 1) := by decide +kernel
theorem dX8_count_22 : decode cX8_count 22 = .ok (.tableswitch 116 0 6 #[42, 52, 62, 72, 82, 92, 110], 42) := by decide +kernel
theorem dX8_count_64 : decode cX8_count 64 = .ok (.aload_n 0, 1) := by decide +kernel
theorem dX8_count_65 : decode cX8_count 65 = .ok (.getfield 29, 3) := by decide +kernel
theorem dX8_count_68 : decode cX8_count 68 = .ok (.getfield 188, 3) := by decide +kernel
theorem dX8_count_71 : decode cX8_count 71 = .ok (.iload_n 1, 1) := by decide +kernel
theorem dX8_count_72 : decode cX8_count 72 = .ok (.iaload, 1) := by decide +kernel
theorem dX8_count_73 : decode cX8_count 73 = .ok (.ireturn, 1) := by decide +kernel
theorem dX8_count_74 : decode cX8_count 74 = .ok (.aload_n 0, 1) := by decide +kernel
theorem dX8_count_75 : decode cX8_count 75 = .ok (.getfield 29, 3) := by decide +kernel
theorem dX8_count_78 : decode cX8_count 78 = .ok (.getfield 191, 3) := by decide +kernel
theorem dX8_count_81 : decode cX8_count 81 = .ok (.iload_n 1, 1) := by decide +kernel
theorem dX8_count_82 : decode cX8_count 82 = .ok (.iaload, 1) := by decide +kernel
theorem dX8_count_83 : decode cX8_count 83 = .ok (.ireturn, 1) := by decide +kernel
theorem dX8_count_84 : decode cX8_count 84 = .ok (.aload_n 0, 1) := by decide +kernel
theorem dX8_count_85 : decode cX8_count 85 = .ok (.getfield 29, 3) := by decide +kernel
theorem dX8_count_88 : decode cX8_count 88 = .ok (.getfield 194, 3) := by decide +kernel
theorem dX8_count_91 : decode cX8_count 91 = .ok (.iload_n 1, 1) := by decide +kernel
theorem dX8_count_92 : decode cX8_count 92 = .ok (.iaload, 1) := by decide +kernel
theorem dX8_count_93 : decode cX8_count 93 = .ok (.ireturn, 1) := by decide +kernel
theorem dX8_count_94 : decode cX8_count 94 = .ok (.aload_n 0, 1) := by decide +kernel
theorem dX8_count_95 : decode cX8_count 95 = .ok (.getfield 29, 3) := by decide +kernel
theorem dX8_count_98 : decode cX8_count 98 = .ok (.getfield 195, 3) := by decide +kernel
theorem dX8_count_101 : decode cX8_count 101 = .ok (.iload_n 1, 1) := by decide +kernel
theorem dX8_count_102 : decode cX8_count 102 = .ok (.iaload, 1) := by decide +kernel
theorem dX8_count_103 : decode cX8_count 103 = .ok (.ireturn, 1) := by decide +kernel
theorem dX8_count_104 : decode cX8_count 104 = .ok (.aload_n 0, 1) := by decide +kernel
theorem dX8_count_105 : decode cX8_count 105 = .ok (.getfield 29, 3) := by decide +kernel
theorem dX8_count_108 : decode cX8_count 108 = .ok (.getfield 198, 3) := by decide +kernel
theorem dX8_count_111 : decode cX8_count 111 = .ok (.iload_n 1, 1) := by decide +kernel
theorem dX8_count_112 : decode cX8_count 112 = .ok (.iaload, 1) := by decide +kernel
theorem dX8_count_113 : decode cX8_count 113 = .ok (.ireturn, 1) := by decide +kernel
theorem dX8_count_114 : decode cX8_count 114 = .ok (.aload_n 0, 1) := by decide +kernel
theorem dX8_count_115 : decode cX8_count 115 = .ok (.getfield 29, 3) := by decide +kernel
theorem dX8_count_118 : decode cX8_count 118 = .ok (.getfield 201, 3) := by decide +kernel
theorem dX8_count_121 : decode cX8_count 121 = .ok (.iload_n 1, 1) := by decide +kernel
theorem dX8_count_122 : decode cX8_count 122 = .ok (.baload, 1) := by decide +kernel
theorem dX8_count_123 : decode cX8_count 123 = .ok (.ifCond .eq 7, 3) := by decide +kernel
theorem dX8_count_126 : decode cX8_count 126 = .ok (.iconst 1, 1) := by decide +kernel
theorem dX8_count_127 : decode cX8_count 127 = .ok (.goto 4, 3) := by decide +kernel
theorem dX8_count_130 : decode cX8_count 130 = .ok (.iconst 0, 1) := by decide +kernel
theorem dX8_count_131 : decode cX8_count 131 = .ok (.ireturn, 1) := by decide +kernel
theorem dX8_count_132 : decode cX8_count 132 = .ok (.aload_n 0, 1) := by decide +kernel
theorem dX8_count_133 : decode cX8_count 133 = .ok (.iload_n 1, 1) := by decide +kernel
theorem dX8_count_134 : decode cX8_count 134 = .ok (.invokevirtual 205, 3) := by decide +kernel
theorem dX8_count_137 : decode cX8_count 137 = .ok (.ireturn, 1) := by decide +kernel
theorem dX8_count_138 : decode cX8_count 138 = .ok (.new 117, 3) := by decide +kernel
theorem dX8_count_141 : decode cX8_count 141 = .ok (.dup, 1) := by decide +kernel
theorem dX8_count_142 : decode cX8_count 142 = .ok (.ldc 209, 2) := by decide +kernel
theorem dX8_count_144 : decode cX8_count 144 = .ok (.invokespecial 121, 3) := by decide +kernel
theorem dX8_count_147 : decode cX8_count 147 = .ok (.athrow, 1) := by decide +kernel
theorem dX8_difference_0 : decode cX8_difference 0 = .ok (.aload_n 0, 1) := by decide +kernel
theorem dX8_difference_1 : decode cX8_difference 1 = .ok (.getfield 29, 3) := by decide +kernel
theorem dX8_difference_4 : decode cX8_difference 4 = .ok (.iload_n 1, 1) := by decide +kernel
theorem dX8_difference_5 : decode cX8_difference 5 = .ok (.invokevirtual 183, 3) := by decide +kernel
theorem dX8_difference_8 : decode cX8_difference 8 = .ok (.ifCond .eq 11, 3) := by decide +kernel
theorem dX8_difference_11 : decode cX8_difference 11 = .ok (.aload_n 0, 1) := by decide +kernel
theorem dX8_difference_12 : decode cX8_difference 12 = .ok (.iload_n 1, 1) := by decide +kernel
theorem dX8_difference_13 : decode cX8_difference 13 = .ok (.invokevirtual 211, 3) := by decide +kernel
theorem dX8_difference_16 : decode cX8_difference 16 = .ok (.goto 5, 3) := by decide +kernel
theorem dX8_difference_19 : decode cX8_difference 19 = .ok (.ldc 152, 2) := by decide +kernel
theorem dX8_difference_21 : decode cX8_difference 21 = .ok (.ireturn, 1) := by decide +kernel
theorem dX8_share_0 : decode cX8_share 0 = .ok (.aload_n 0, 1) := by decide +kernel
theorem dX8_share_1 : decode cX8_share 1 = .ok (.getfield 29, 3) := by decide +kernel
theorem dX8_share_4 : decode cX8_share 4 = .ok (.iload_n 1, 1) := by decide +kernel
theorem dX8_share_5 : decode cX8_share 5 = .ok (.invokevirtual 183, 3) := by decide +kernel
theorem dX8_share_8 : decode cX8_share 8 = .ok (.ifCond .ne 6, 3) := by decide +kernel
theorem dX8_share_11 : decode cX8_share 11 = .ok (.ldc 152, 2) := by decide +kernel
theorem dX8_share_13 : decode cX8_share 13 = .ok (.ireturn, 1) := by decide +kernel
theorem dX8_share_14 : decode cX8_share 14 = .ok (.aload_n 0, 1) := by decide +kernel
theorem dX8_share_15 : decode cX8_share 15 = .ok (.iload_n 1, 1) := by decide +kernel
theorem dX8_share_16 : decode cX8_share 16 = .ok (.invokevirtual 211, 3) := by decide +kernel
theorem dX8_share_19 : decode cX8_share 19 = .ok (.istore_n 2, 1) := by decide +kernel
theorem dX8_share_20 : decode cX8_share 20 = .ok (.aload_n 0, 1) := by decide +kernel
theorem dX8_share_21 : decode cX8_share 21 = .ok (.getfield 50, 3) := by decide +kernel
theorem dX8_share_24 : decode cX8_share 24 = .ok (.getfield 157, 3) := by decide +kernel
theorem dX8_share_27 : decode cX8_share 27 = .ok (.ifCond .ne 5, 3) := by decide +kernel
theorem dX8_share_30 : decode cX8_share 30 = .ok (.iconst 0, 1) := by decide +kernel
theorem dX8_share_31 : decode cX8_share 31 = .ok (.ireturn, 1) := by decide +kernel
theorem dX8_share_32 : decode cX8_share 32 = .ok (.ldc 214, 2) := by decide +kernel
theorem dX8_share_34 : decode cX8_share 34 = .ok (.iload_n 2, 1) := by decide +kernel
theorem dX8_share_35 : decode cX8_share 35 = .ok (.i2f, 1) := by decide +kernel
theorem dX8_share_36 : decode cX8_share 36 = .ok (.fmul, 1) := by decide +kernel
theorem dX8_share_37 : decode cX8_share 37 = .ok (.aload_n 0, 1) := by decide +kernel
theorem dX8_share_38 : decode cX8_share 38 = .ok (.getfield 50, 3) := by decide +kernel
theorem dX8_share_41 : decode cX8_share 41 = .ok (.getfield 157, 3) := by decide +kernel
theorem dX8_share_44 : decode cX8_share 44 = .ok (.i2f, 1) := by decide +kernel
theorem dX8_share_45 : decode cX8_share 45 = .ok (.fdiv, 1) := by decide +kernel
theorem dX8_share_46 : decode cX8_share 46 = .ok (.f2i, 1) := by decide +kernel
theorem dX8_share_47 : decode cX8_share 47 = .ok (.ireturn, 1) := by decide +kernel
theorem dX8_chosen_0 : decode cX8_chosen 0 = .ok (.aload_n 0, 1) := by decide +kernel
theorem dX8_chosen_1 : decode cX8_chosen 1 = .ok (.getfield 19, 3) := by decide +kernel
theorem dX8_chosen_4 : decode cX8_chosen 4 = .ok (.iload_n 1, 1) := by decide +kernel
theorem dX8_chosen_5 : decode cX8_chosen 5 = .ok (.iload_n 2, 1) := by decide +kernel
theorem dX8_chosen_6 : decode cX8_chosen 6 = .ok (.invokevirtual 145, 3) := by decide +kernel
theorem dX8_chosen_9 : decode cX8_chosen 9 = .ok (.ifCond .eq 12, 3) := by decide +kernel
theorem dX8_chosen_12 : decode cX8_chosen 12 = .ok (.aload_n 0, 1) := by decide +kernel
theorem dX8_chosen_13 : decode cX8_chosen 13 = .ok (.iload_n 1, 1) := by decide +kernel
theorem dX8_chosen_14 : decode cX8_chosen 14 = .ok (.iload_n 2, 1) := by decide +kernel
theorem dX8_chosen_15 : decode cX8_chosen 15 = .ok (.invokevirtual 215, 3) := by decide +kernel
theorem dX8_chosen_18 : decode cX8_chosen 18 = .ok (.goto 4, 3) := by decide +kernel
theorem dX8_chosen_21 : decode cX8_chosen 21 = .ok (.iconst (-1), 1) := by decide +kernel
theorem dX8_chosen_22 : decode cX8_chosen 22 = .ok (.ireturn, 1) := by decide +kernel
theorem dX8_due_0 : decode cX8_due 0 = .ok (.iconst 0, 1) := by decide +kernel
theorem dX8_due_1 : decode cX8_due 1 = .ok (.istore_n 1, 1) := by decide +kernel
theorem dX8_due_2 : decode cX8_due 2 = .ok (.iconst 0, 1) := by decide +kernel
theorem dX8_due_3 : decode cX8_due 3 = .ok (.istore_n 2, 1) := by decide +kernel
theorem dX8_due_4 : decode cX8_due 4 = .ok (.iload_n 2, 1) := by decide +kernel
theorem dX8_due_5 : decode cX8_due 5 = .ok (.aload_n 0, 1) := by decide +kernel
theorem dX8_due_6 : decode cX8_due 6 = .ok (.getfield 19, 3) := by decide +kernel
theorem dX8_due_9 : decode cX8_due 9 = .ok (.getfield 90, 3) := by decide +kernel
theorem dX8_due_12 : decode cX8_due 12 = .ok (.if_icmp .ge 42, 3) := by decide +kernel
theorem dX8_due_15 : decode cX8_due 15 = .ok (.iconst 0, 1) := by decide +kernel
theorem dX8_due_16 : decode cX8_due 16 = .ok (.istore_n 3, 1) := by decide +kernel
theorem dX8_due_17 : decode cX8_due 17 = .ok (.iload_n 3, 1) := by decide +kernel
theorem dX8_due_18 : decode cX8_due 18 = .ok (.aload_n 0, 1) := by decide +kernel
theorem dX8_due_19 : decode cX8_due 19 = .ok (.getfield 19, 3) := by decide +kernel
theorem dX8_due_22 : decode cX8_due 22 = .ok (.getfield 93, 3) := by decide +kernel
theorem dX8_due_25 : decode cX8_due 25 = .ok (.if_icmp .ge 23, 3) := by decide +kernel
theorem dX8_due_28 : decode cX8_due 28 = .ok (.aload_n 0, 1) := by decide +kernel
theorem dX8_due_29 : decode cX8_due 29 = .ok (.iload_n 2, 1) := by decide +kernel
theorem dX8_due_30 : decode cX8_due 30 = .ok (.iload_n 3, 1) := by decide +kernel
theorem dX8_due_31 : decode cX8_due 31 = .ok (.invokevirtual 215, 3) := by decide +kernel
theorem dX8_due_34 : decode cX8_due 34 = .ok (.bipush (-2), 2) := by decide +kernel
theorem dX8_due_36 : decode cX8_due 36 = .ok (.if_icmp .ne 6, 3) := by decide +kernel
theorem dX8_due_39 : decode cX8_due 39 = .ok (.iinc 1 1, 3) := by decide +kernel
theorem dX8_due_42 : decode cX8_due 42 = .ok (.iinc 3 1, 3) := by decide +kernel
theorem dX8_due_45 : decode cX8_due 45 = .ok (.goto (-28), 3) := by decide +kernel
theorem dX8_due_48 : decode cX8_due 48 = .ok (.iinc 2 1, 3) := by decide +kernel
theorem dX8_due_51 : decode cX8_due 51 = .ok (.goto (-47), 3) := by decide +kernel
theorem dX8_due_54 : decode cX8_due 54 = .ok (.iload_n 1, 1) := by decide +kernel
theorem dX8_due_55 : decode cX8_due 55 = .ok (.ireturn, 1) := by decide +kernel
theorem dX8_explained_0 : decode cX8_explained 0 = .ok (.aload_n 0, 1) := by decide +kernel
theorem dX8_explained_1 : decode cX8_explained 1 = .ok (.getfield 29, 3) := by decide +kernel
theorem dX8_explained_4 : decode cX8_explained 4 = .ok (.iload_n 1, 1) := by decide +kernel
theorem dX8_explained_5 : decode cX8_explained 5 = .ok (.invokevirtual 183, 3) := by decide +kernel
theorem dX8_explained_8 : decode cX8_explained 8 = .ok (.ifCond .ne 5, 3) := by decide +kernel
theorem dX8_explained_11 : decode cX8_explained 11 = .ok (.iconst (-1), 1) := by decide +kernel
theorem dX8_explained_12 : decode cX8_explained 12 = .ok (.ireturn, 1) := by decide +kernel
theorem dX8_explained_13 : decode cX8_explained 13 = .ok (.aload_n 0, 1) := by decide +kernel
theorem dX8_explained_14 : decode cX8_explained 14 = .ok (.iload_n 1, 1) := by decide +kernel
theorem dX8_explained_15 : decode cX8_explained 15 = .ok (.invokevirtual 218, 3) := by decide +kernel
theorem dX8_explained_18 : decode cX8_explained 18 = .ok (.aload_n 0, 1) := by decide +kernel
theorem dX8_explained_19 : decode cX8_explained 19 = .ok (.getfield 50, 3) := by decide +kernel
theorem dX8_explained_22 : decode cX8_explained 22 = .ok (.getfield 166, 3) := by decide +kernel
theorem dX8_explained_25 : decode cX8_explained 25 = .ok (.bipush 10, 2) := by decide +kernel
theorem dX8_explained_27 : decode cX8_explained 27 = .ok (.if_icmp .le 6, 3) := by decide +kernel
theorem dX8_explained_30 : decode cX8_explained 30 = .ok (.bipush (-2), 2) := by decide +kernel
theorem dX8_explained_32 : decode cX8_explained 32 = .ok (.ireturn, 1) := by decide +kernel
theorem dX8_explained_33 : decode cX8_explained 33 = .ok (.iconst 0, 1) := by decide +kernel
theorem dX8_explained_34 : decode cX8_explained 34 = .ok (.istore_n 3, 1) := by decide +kernel
theorem dX8_explained_35 : decode cX8_explained 35 = .ok (.iconst 0, 1) := by decide +kernel
theorem dX8_explained_36 : decode cX8_explained 36 = .ok (.istore 4, 2) := by decide +kernel
theorem dX8_explained_38 : decode cX8_explained 38 = .ok (.iload 4, 2) := by decide +kernel
theorem dX8_explained_40 : decode cX8_explained 40 = .ok (.iconst 1, 1) := by decide +kernel
theorem dX8_explained_41 : decode cX8_explained 41 = .ok (.aload_n 0, 1) := by decide +kernel
theorem dX8_explained_42 : decode cX8_explained 42 = .ok (.getfield 50, 3) := by decide +kernel
theorem dX8_explained_45 : decode cX8_explained 45 = .ok (.getfield 166, 3) := by decide +kernel
theorem dX8_explained_48 : decode cX8_explained 48 = .ok (.ishl, 1) := by decide +kernel
theorem dX8_explained_49 : decode cX8_explained 49 = .ok (.if_icmp .ge 41, 3) := by decide +kernel
theorem dX8_explained_52 : decode cX8_explained 52 = .ok (.aload_n 0, 1) := by decide +kernel
theorem dX8_explained_53 : decode cX8_explained 53 = .ok (.getfield 50, 3) := by decide +kernel
theorem dX8_explained_56 : decode cX8_explained 56 = .ok (.iload 4, 2) := by decide +kernel
theorem dX8_explained_58 : decode cX8_explained 58 = .ok (.invokevirtual 221, 3) := by decide +kernel
theorem dX8_explained_61 : decode cX8_explained 61 = .ok (.aload_n 0, 1) := by decide +kernel
theorem dX8_explained_62 : decode cX8_explained 62 = .ok (.getfield 29, 3) := by decide +kernel
theorem dX8_explained_65 : decode cX8_explained 65 = .ok (.getfield 195, 3) := by decide +kernel
theorem dX8_explained_68 : decode cX8_explained 68 = .ok (.iload_n 1, 1) := by decide +kernel
theorem dX8_explained_69 : decode cX8_explained 69 = .ok (.iaload, 1) := by decide +kernel
theorem dX8_explained_70 : decode cX8_explained 70 = .ok (.if_icmp .ne 14, 3) := by decide +kernel
theorem dX8_explained_73 : decode cX8_explained 73 = .ok (.iload_n 3, 1) := by decide +kernel
theorem dX8_explained_74 : decode cX8_explained 74 = .ok (.iload_n 2, 1) := by decide +kernel
theorem dX8_explained_75 : decode cX8_explained 75 = .ok (.if_icmp .ne 6, 3) := by decide +kernel
theorem dX8_explained_78 : decode cX8_explained 78 = .ok (.iload 4, 2) := by decide +kernel
theorem dX8_explained_80 : decode cX8_explained 80 = .ok (.ireturn, 1) := by decide +kernel
theorem dX8_explained_81 : decode cX8_explained 81 = .ok (.iinc 3 1, 3) := by decide +kernel
theorem dX8_explained_84 : decode cX8_explained 84 = .ok (.iinc 4 1, 3) := by decide +kernel
theorem dX8_explained_87 : decode cX8_explained 87 = .ok (.goto (-49), 3) := by decide +kernel
theorem dX8_explained_90 : decode cX8_explained 90 = .ok (.iload_n 2, 1) := by decide +kernel
theorem dX8_explained_91 : decode cX8_explained 91 = .ok (.iconst (-1), 1) := by decide +kernel
theorem dX8_explained_92 : decode cX8_explained 92 = .ok (.if_icmp .ne 7, 3) := by decide +kernel
theorem dX8_explained_95 : decode cX8_explained 95 = .ok (.iload_n 3, 1) := by decide +kernel
theorem dX8_explained_96 : decode cX8_explained 96 = .ok (.goto 4, 3) := by decide +kernel
theorem dX8_explained_99 : decode cX8_explained 99 = .ok (.iconst (-1), 1) := by decide +kernel
theorem dX8_explained_100 : decode cX8_explained 100 = .ok (.ireturn, 1) := by decide +kernel
theorem dX8_adjusted_0 : decode cX8_adjusted 0 = .ok (.iload_n 1, 1) := by decide +kernel
theorem dX8_adjusted_1 : decode cX8_adjusted 1 = .ok (.ifCond .lt 14, 3) := by decide +kernel
theorem dX8_adjusted_4 : decode cX8_adjusted 4 = .ok (.iload_n 1, 1) := by decide +kernel
theorem dX8_adjusted_5 : decode cX8_adjusted 5 = .ok (.aload_n 0, 1) := by decide +kernel
theorem dX8_adjusted_6 : decode cX8_adjusted 6 = .ok (.getfield 36, 3) := by decide +kernel
theorem dX8_adjusted_9 : decode cX8_adjusted 9 = .ok (.getfield 82, 3) := by decide +kernel
theorem dX8_adjusted_12 : decode cX8_adjusted 12 = .ok (.if_icmp .lt 6, 3) := by decide +kernel
theorem dX8_adjusted_15 : decode cX8_adjusted 15 = .ok (.ldc 152, 2) := by decide +kernel
theorem dX8_adjusted_17 : decode cX8_adjusted 17 = .ok (.ireturn, 1) := by decide +kernel
theorem dX8_adjusted_18 : decode cX8_adjusted 18 = .ok (.iload_n 2, 1) := by decide +kernel
theorem dX8_adjusted_19 : decode cX8_adjusted 19 = .ok (.tableswitch 69 0 3 #[29, 39, 49, 59], 29) := by decide +kernel
theorem dX8_adjusted_48 : decode cX8_adjusted 48 = .ok (.aload_n 0, 1) := by decide +kernel
theorem dX8_adjusted_49 : decode cX8_adjusted 49 = .ok (.getfield 36, 3) := by decide +kernel
theorem dX8_adjusted_52 : decode cX8_adjusted 52 = .ok (.getfield 224, 3) := by decide +kernel
theorem dX8_adjusted_55 : decode cX8_adjusted 55 = .ok (.iload_n 1, 1) := by decide +kernel
theorem dX8_adjusted_56 : decode cX8_adjusted 56 = .ok (.iaload, 1) := by decide +kernel
theorem dX8_adjusted_57 : decode cX8_adjusted 57 = .ok (.ireturn, 1) := by decide +kernel
theorem dX8_adjusted_58 : decode cX8_adjusted 58 = .ok (.aload_n 0, 1) := by decide +kernel
theorem dX8_adjusted_59 : decode cX8_adjusted 59 = .ok (.getfield 36, 3) := by decide +kernel
theorem dX8_adjusted_62 : decode cX8_adjusted 62 = .ok (.getfield 225, 3) := by decide +kernel
theorem dX8_adjusted_65 : decode cX8_adjusted 65 = .ok (.iload_n 1, 1) := by decide +kernel
theorem dX8_adjusted_66 : decode cX8_adjusted 66 = .ok (.iaload, 1) := by decide +kernel
theorem dX8_adjusted_67 : decode cX8_adjusted 67 = .ok (.ireturn, 1) := by decide +kernel
theorem dX8_adjusted_68 : decode cX8_adjusted 68 = .ok (.aload_n 0, 1) := by decide +kernel
theorem dX8_adjusted_69 : decode cX8_adjusted 69 = .ok (.getfield 36, 3) := by decide +kernel
theorem dX8_adjusted_72 : decode cX8_adjusted 72 = .ok (.getfield 180, 3) := by decide +kernel
theorem dX8_adjusted_75 : decode cX8_adjusted 75 = .ok (.iload_n 1, 1) := by decide +kernel
theorem dX8_adjusted_76 : decode cX8_adjusted 76 = .ok (.iaload, 1) := by decide +kernel
theorem dX8_adjusted_77 : decode cX8_adjusted 77 = .ok (.ireturn, 1) := by decide +kernel
theorem dX8_adjusted_78 : decode cX8_adjusted 78 = .ok (.aload_n 0, 1) := by decide +kernel
theorem dX8_adjusted_79 : decode cX8_adjusted 79 = .ok (.getfield 36, 3) := by decide +kernel
theorem dX8_adjusted_82 : decode cX8_adjusted 82 = .ok (.getfield 226, 3) := by decide +kernel
theorem dX8_adjusted_85 : decode cX8_adjusted 85 = .ok (.iload_n 1, 1) := by decide +kernel
theorem dX8_adjusted_86 : decode cX8_adjusted 86 = .ok (.iaload, 1) := by decide +kernel
theorem dX8_adjusted_87 : decode cX8_adjusted 87 = .ok (.ireturn, 1) := by decide +kernel
theorem dX8_adjusted_88 : decode cX8_adjusted 88 = .ok (.ldc 152, 2) := by decide +kernel
theorem dX8_adjusted_90 : decode cX8_adjusted 90 = .ok (.ireturn, 1) := by decide +kernel
theorem dX8_moves_0 : decode cX8_moves 0 = .ok (.aload_n 0, 1) := by decide +kernel
theorem dX8_moves_1 : decode cX8_moves 1 = .ok (.getfield 19, 3) := by decide +kernel
theorem dX8_moves_4 : decode cX8_moves 4 = .ok (.iload_n 1, 1) := by decide +kernel
theorem dX8_moves_5 : decode cX8_moves 5 = .ok (.invokevirtual 103, 3) := by decide +kernel
theorem dX8_moves_8 : decode cX8_moves 8 = .ok (.ifCond .eq 14, 3) := by decide +kernel
theorem dX8_moves_11 : decode cX8_moves 11 = .ok (.iload_n 2, 1) := by decide +kernel
theorem dX8_moves_12 : decode cX8_moves 12 = .ok (.iconst 1, 1) := by decide +kernel
theorem dX8_moves_13 : decode cX8_moves 13 = .ok (.if_icmp .lt 9, 3) := by decide +kernel
theorem dX8_moves_16 : decode cX8_moves 16 = .ok (.iload_n 2, 1) := by decide +kernel
theorem dX8_moves_17 : decode cX8_moves 17 = .ok (.bipush 99, 2) := by decide +kernel
theorem dX8_moves_19 : decode cX8_moves 19 = .ok (.if_icmp .le 5, 3) := by decide +kernel
theorem dX8_moves_22 : decode cX8_moves 22 = .ok (.iconst (-1), 1) := by decide +kernel
theorem dX8_moves_23 : decode cX8_moves 23 = .ok (.ireturn, 1) := by decide +kernel
theorem dX8_moves_24 : decode cX8_moves 24 = .ok (.aload_n 0, 1) := by decide +kernel
theorem dX8_moves_25 : decode cX8_moves 25 = .ok (.getfield 19, 3) := by decide +kernel
theorem dX8_moves_28 : decode cX8_moves 28 = .ok (.getfield 96, 3) := by decide +kernel
theorem dX8_moves_31 : decode cX8_moves 31 = .ok (.bipush 40, 2) := by decide +kernel
theorem dX8_moves_33 : decode cX8_moves 33 = .ok (.if_icmp .lt 6, 3) := by decide +kernel
theorem dX8_moves_36 : decode cX8_moves 36 = .ok (.bipush (-2), 2) := by decide +kernel
theorem dX8_moves_38 : decode cX8_moves 38 = .ok (.ireturn, 1) := by decide +kernel
theorem dX8_moves_39 : decode cX8_moves 39 = .ok (.aload_n 0, 1) := by decide +kernel
theorem dX8_moves_40 : decode cX8_moves 40 = .ok (.getfield 19, 3) := by decide +kernel
theorem dX8_moves_43 : decode cX8_moves 43 = .ok (.iload_n 1, 1) := by decide +kernel
theorem dX8_moves_44 : decode cX8_moves 44 = .ok (.iload_n 2, 1) := by decide +kernel
theorem dX8_moves_45 : decode cX8_moves 45 = .ok (.invokevirtual 229, 3) := by decide +kernel
theorem dX8_moves_48 : decode cX8_moves 48 = .ok (.istore_n 3, 1) := by decide +kernel
theorem dX8_moves_49 : decode cX8_moves 49 = .ok (.aload_n 0, 1) := by decide +kernel
theorem dX8_moves_50 : decode cX8_moves 50 = .ok (.getfield 43, 3) := by decide +kernel
theorem dX8_moves_53 : decode cX8_moves 53 = .ok (.iconst 0, 1) := by decide +kernel
theorem dX8_moves_54 : decode cX8_moves 54 = .ok (.iload_n 3, 1) := by decide +kernel
theorem dX8_moves_55 : decode cX8_moves 55 = .ok (.invokevirtual 234, 3) := by decide +kernel
theorem dX8_moves_58 : decode cX8_moves 58 = .ok (.pop, 1) := by decide +kernel
theorem dX8_moves_59 : decode cX8_moves 59 = .ok (.iload_n 3, 1) := by decide +kernel
theorem dX8_moves_60 : decode cX8_moves 60 = .ok (.ireturn, 1) := by decide +kernel
theorem dX8_leg_0 : decode cX8_leg 0 = .ok (.aload_n 0, 1) := by decide +kernel
theorem dX8_leg_1 : decode cX8_leg 1 = .ok (.getfield 19, 3) := by decide +kernel
theorem dX8_leg_4 : decode cX8_leg 4 = .ok (.iload_n 1, 1) := by decide +kernel
theorem dX8_leg_5 : decode cX8_leg 5 = .ok (.invokevirtual 114, 3) := by decide +kernel
theorem dX8_leg_8 : decode cX8_leg 8 = .ok (.ifCond .eq 31, 3) := by decide +kernel
theorem dX8_leg_11 : decode cX8_leg 11 = .ok (.iload_n 2, 1) := by decide +kernel
theorem dX8_leg_12 : decode cX8_leg 12 = .ok (.invokestatic 238, 3) := by decide +kernel
theorem dX8_leg_15 : decode cX8_leg 15 = .ok (.ifCond .eq 24, 3) := by decide +kernel
theorem dX8_leg_18 : decode cX8_leg 18 = .ok (.aload_n 0, 1) := by decide +kernel
theorem dX8_leg_19 : decode cX8_leg 19 = .ok (.getfield 19, 3) := by decide +kernel
theorem dX8_leg_22 : decode cX8_leg 22 = .ok (.iload_n 3, 1) := by decide +kernel
theorem dX8_leg_23 : decode cX8_leg 23 = .ok (.invokevirtual 241, 3) := by decide +kernel
theorem dX8_leg_26 : decode cX8_leg 26 = .ok (.ifCond .eq 13, 3) := by decide +kernel
theorem dX8_leg_29 : decode cX8_leg 29 = .ok (.iload 4, 2) := by decide +kernel
theorem dX8_leg_31 : decode cX8_leg 31 = .ok (.iload 5, 2) := by decide +kernel
theorem dX8_leg_33 : decode cX8_leg 33 = .ok (.invokestatic 244, 3) := by decide +kernel
theorem dX8_leg_36 : decode cX8_leg 36 = .ok (.ifCond .ne 5, 3) := by decide +kernel
theorem dX8_leg_39 : decode cX8_leg 39 = .ok (.iconst 0, 1) := by decide +kernel
theorem dX8_leg_40 : decode cX8_leg 40 = .ok (.ireturn, 1) := by decide +kernel
theorem dX8_leg_41 : decode cX8_leg 41 = .ok (.aload_n 0, 1) := by decide +kernel
theorem dX8_leg_42 : decode cX8_leg 42 = .ok (.getfield 19, 3) := by decide +kernel
theorem dX8_leg_45 : decode cX8_leg 45 = .ok (.iload_n 1, 1) := by decide +kernel
theorem dX8_leg_46 : decode cX8_leg 46 = .ok (.iload_n 2, 1) := by decide +kernel
theorem dX8_leg_47 : decode cX8_leg 47 = .ok (.invokestatic 133, 3) := by decide +kernel
theorem dX8_leg_50 : decode cX8_leg 50 = .ok (.invokevirtual 247, 3) := by decide +kernel
theorem dX8_leg_53 : decode cX8_leg 53 = .ok (.ifCond .eq 5, 3) := by decide +kernel
theorem dX8_leg_56 : decode cX8_leg 56 = .ok (.iconst 0, 1) := by decide +kernel
theorem dX8_leg_57 : decode cX8_leg 57 = .ok (.ireturn, 1) := by decide +kernel
theorem dX8_leg_58 : decode cX8_leg 58 = .ok (.aload_n 0, 1) := by decide +kernel
theorem dX8_leg_59 : decode cX8_leg 59 = .ok (.getfield 19, 3) := by decide +kernel
theorem dX8_leg_62 : decode cX8_leg 62 = .ok (.iload_n 1, 1) := by decide +kernel
theorem dX8_leg_63 : decode cX8_leg 63 = .ok (.iload_n 2, 1) := by decide +kernel
theorem dX8_leg_64 : decode cX8_leg 64 = .ok (.invokestatic 133, 3) := by decide +kernel
theorem dX8_leg_67 : decode cX8_leg 67 = .ok (.iload_n 3, 1) := by decide +kernel
theorem dX8_leg_68 : decode cX8_leg 68 = .ok (.iload 4, 2) := by decide +kernel
theorem dX8_leg_70 : decode cX8_leg 70 = .ok (.iload 5, 2) := by decide +kernel
theorem dX8_leg_72 : decode cX8_leg 72 = .ok (.invokevirtual 250, 3) := by decide +kernel
theorem dX8_leg_75 : decode cX8_leg 75 = .ok (.aload_n 0, 1) := by decide +kernel
theorem dX8_leg_76 : decode cX8_leg 76 = .ok (.getfield 43, 3) := by decide +kernel
theorem dX8_leg_79 : decode cX8_leg 79 = .ok (.iconst 1, 1) := by decide +kernel
theorem dX8_leg_80 : decode cX8_leg 80 = .ok (.iload_n 1, 1) := by decide +kernel
theorem dX8_leg_81 : decode cX8_leg 81 = .ok (.iload_n 2, 1) := by decide +kernel
theorem dX8_leg_82 : decode cX8_leg 82 = .ok (.invokestatic 133, 3) := by decide +kernel
theorem dX8_leg_85 : decode cX8_leg 85 = .ok (.invokevirtual 234, 3) := by decide +kernel
theorem dX8_leg_88 : decode cX8_leg 88 = .ok (.pop, 1) := by decide +kernel
theorem dX8_leg_89 : decode cX8_leg 89 = .ok (.iconst 1, 1) := by decide +kernel
theorem dX8_leg_90 : decode cX8_leg 90 = .ok (.ireturn, 1) := by decide +kernel
theorem dX8_narrow_0 : decode cX8_narrow 0 = .ok (.aload_n 0, 1) := by decide +kernel
theorem dX8_narrow_1 : decode cX8_narrow 1 = .ok (.getfield 19, 3) := by decide +kernel
theorem dX8_narrow_4 : decode cX8_narrow 4 = .ok (.iload_n 1, 1) := by decide +kernel
theorem dX8_narrow_5 : decode cX8_narrow 5 = .ok (.invokevirtual 114, 3) := by decide +kernel
theorem dX8_narrow_8 : decode cX8_narrow 8 = .ok (.ifCond .eq 25, 3) := by decide +kernel
theorem dX8_narrow_11 : decode cX8_narrow 11 = .ok (.iload_n 2, 1) := by decide +kernel
theorem dX8_narrow_12 : decode cX8_narrow 12 = .ok (.invokestatic 238, 3) := by decide +kernel
theorem dX8_narrow_15 : decode cX8_narrow 15 = .ok (.ifCond .eq 18, 3) := by decide +kernel
theorem dX8_narrow_18 : decode cX8_narrow 18 = .ok (.aload_n 0, 1) := by decide +kernel
theorem dX8_narrow_19 : decode cX8_narrow 19 = .ok (.getfield 19, 3) := by decide +kernel
theorem dX8_narrow_22 : decode cX8_narrow 22 = .ok (.iload_n 1, 1) := by decide +kernel
theorem dX8_narrow_23 : decode cX8_narrow 23 = .ok (.iload_n 2, 1) := by decide +kernel
theorem dX8_narrow_24 : decode cX8_narrow 24 = .ok (.invokestatic 133, 3) := by decide +kernel
theorem dX8_narrow_27 : decode cX8_narrow 27 = .ok (.invokevirtual 247, 3) := by decide +kernel
theorem dX8_narrow_30 : decode cX8_narrow 30 = .ok (.ifCond .ne 5, 3) := by decide +kernel
theorem dX8_narrow_33 : decode cX8_narrow 33 = .ok (.iconst (-1), 1) := by decide +kernel
theorem dX8_narrow_34 : decode cX8_narrow 34 = .ok (.ireturn, 1) := by decide +kernel
theorem dX8_narrow_35 : decode cX8_narrow 35 = .ok (.iload_n 1, 1) := by decide +kernel
theorem dX8_narrow_36 : decode cX8_narrow 36 = .ok (.iload_n 2, 1) := by decide +kernel
theorem dX8_narrow_37 : decode cX8_narrow 37 = .ok (.invokestatic 133, 3) := by decide +kernel
theorem dX8_narrow_40 : decode cX8_narrow 40 = .ok (.istore 5, 2) := by decide +kernel
theorem dX8_narrow_42 : decode cX8_narrow 42 = .ok (.aload_n 0, 1) := by decide +kernel
theorem dX8_narrow_43 : decode cX8_narrow 43 = .ok (.getfield 19, 3) := by decide +kernel
theorem dX8_narrow_46 : decode cX8_narrow 46 = .ok (.getfield 137, 3) := by decide +kernel
theorem dX8_narrow_49 : decode cX8_narrow 49 = .ok (.iload 5, 2) := by decide +kernel
theorem dX8_narrow_51 : decode cX8_narrow 51 = .ok (.iaload, 1) := by decide +kernel
theorem dX8_narrow_52 : decode cX8_narrow 52 = .ok (.istore 6, 2) := by decide +kernel
theorem dX8_narrow_54 : decode cX8_narrow 54 = .ok (.aload_n 0, 1) := by decide +kernel
theorem dX8_narrow_55 : decode cX8_narrow 55 = .ok (.getfield 19, 3) := by decide +kernel
theorem dX8_narrow_58 : decode cX8_narrow 58 = .ok (.getfield 140, 3) := by decide +kernel
theorem dX8_narrow_61 : decode cX8_narrow 61 = .ok (.iload 5, 2) := by decide +kernel
theorem dX8_narrow_63 : decode cX8_narrow 63 = .ok (.iaload, 1) := by decide +kernel
theorem dX8_narrow_64 : decode cX8_narrow 64 = .ok (.istore 7, 2) := by decide +kernel
theorem dX8_narrow_66 : decode cX8_narrow 66 = .ok (.iload_n 3, 1) := by decide +kernel
theorem dX8_narrow_67 : decode cX8_narrow 67 = .ok (.iload 6, 2) := by decide +kernel
theorem dX8_narrow_69 : decode cX8_narrow 69 = .ok (.if_icmp .lt 16, 3) := by decide +kernel
theorem dX8_narrow_72 : decode cX8_narrow 72 = .ok (.iload 4, 2) := by decide +kernel
theorem dX8_narrow_74 : decode cX8_narrow 74 = .ok (.iload 7, 2) := by decide +kernel
theorem dX8_narrow_76 : decode cX8_narrow 76 = .ok (.if_icmp .gt 9, 3) := by decide +kernel
theorem dX8_narrow_79 : decode cX8_narrow 79 = .ok (.iload_n 3, 1) := by decide +kernel
theorem dX8_narrow_80 : decode cX8_narrow 80 = .ok (.iload 4, 2) := by decide +kernel
theorem dX8_narrow_82 : decode cX8_narrow 82 = .ok (.if_icmp .le 5, 3) := by decide +kernel
theorem dX8_narrow_85 : decode cX8_narrow 85 = .ok (.iconst (-1), 1) := by decide +kernel
theorem dX8_narrow_86 : decode cX8_narrow 86 = .ok (.ireturn, 1) := by decide +kernel
theorem dX8_narrow_87 : decode cX8_narrow 87 = .ok (.aload_n 0, 1) := by decide +kernel
theorem dX8_narrow_88 : decode cX8_narrow 88 = .ok (.getfield 43, 3) := by decide +kernel
theorem dX8_narrow_91 : decode cX8_narrow 91 = .ok (.iconst 2, 1) := by decide +kernel
theorem dX8_narrow_92 : decode cX8_narrow 92 = .ok (.iload 5, 2) := by decide +kernel
theorem dX8_narrow_94 : decode cX8_narrow 94 = .ok (.invokevirtual 234, 3) := by decide +kernel
theorem dX8_narrow_97 : decode cX8_narrow 97 = .ok (.astore 8, 2) := by decide +kernel
theorem dX8_narrow_99 : decode cX8_narrow 99 = .ok (.aload 8, 2) := by decide +kernel
theorem dX8_narrow_101 : decode cX8_narrow 101 = .ok (.iload 6, 2) := by decide +kernel
theorem dX8_narrow_103 : decode cX8_narrow 103 = .ok (.putfield 254, 3) := by decide +kernel
theorem dX8_narrow_106 : decode cX8_narrow 106 = .ok (.aload 8, 2) := by decide +kernel
theorem dX8_narrow_108 : decode cX8_narrow 108 = .ok (.iload 7, 2) := by decide +kernel
theorem dX8_narrow_110 : decode cX8_narrow 110 = .ok (.putfield 257, 3) := by decide +kernel
theorem dX8_narrow_113 : decode cX8_narrow 113 = .ok (.aload_n 0, 1) := by decide +kernel
theorem dX8_narrow_114 : decode cX8_narrow 114 = .ok (.getfield 19, 3) := by decide +kernel
theorem dX8_narrow_117 : decode cX8_narrow 117 = .ok (.iload 5, 2) := by decide +kernel
theorem dX8_narrow_119 : decode cX8_narrow 119 = .ok (.iload_n 3, 1) := by decide +kernel
theorem dX8_narrow_120 : decode cX8_narrow 120 = .ok (.iload 4, 2) := by decide +kernel
theorem dX8_narrow_122 : decode cX8_narrow 122 = .ok (.invokevirtual 260, 3) := by decide +kernel
theorem dX8_narrow_125 : decode cX8_narrow 125 = .ok (.iload 7, 2) := by decide +kernel
theorem dX8_narrow_127 : decode cX8_narrow 127 = .ok (.iload 6, 2) := by decide +kernel
theorem dX8_narrow_129 : decode cX8_narrow 129 = .ok (.isub, 1) := by decide +kernel
theorem dX8_narrow_130 : decode cX8_narrow 130 = .ok (.iload 4, 2) := by decide +kernel
theorem dX8_narrow_132 : decode cX8_narrow 132 = .ok (.iload_n 3, 1) := by decide +kernel
theorem dX8_narrow_133 : decode cX8_narrow 133 = .ok (.isub, 1) := by decide +kernel
theorem dX8_narrow_134 : decode cX8_narrow 134 = .ok (.isub, 1) := by decide +kernel
theorem dX8_narrow_135 : decode cX8_narrow 135 = .ok (.ireturn, 1) := by decide +kernel
theorem dX8_counts_0 : decode cX8_counts 0 = .ok (.aload_n 0, 1) := by decide +kernel
theorem dX8_counts_1 : decode cX8_counts 1 = .ok (.getfield 19, 3) := by decide +kernel
theorem dX8_counts_4 : decode cX8_counts 4 = .ok (.iload_n 1, 1) := by decide +kernel
theorem dX8_counts_5 : decode cX8_counts 5 = .ok (.iload_n 2, 1) := by decide +kernel
theorem dX8_counts_6 : decode cX8_counts 6 = .ok (.invokevirtual 145, 3) := by decide +kernel
theorem dX8_counts_9 : decode cX8_counts 9 = .ok (.ifCond .eq 34, 3) := by decide +kernel
theorem dX8_counts_12 : decode cX8_counts 12 = .ok (.iload_n 3, 1) := by decide +kernel
theorem dX8_counts_13 : decode cX8_counts 13 = .ok (.invokestatic 149, 3) := by decide +kernel
theorem dX8_counts_16 : decode cX8_counts 16 = .ok (.ifCond .eq 27, 3) := by decide +kernel
theorem dX8_counts_19 : decode cX8_counts 19 = .ok (.iload 4, 2) := by decide +kernel
theorem dX8_counts_21 : decode cX8_counts 21 = .ok (.ifCond .lt 22, 3) := by decide +kernel
theorem dX8_counts_24 : decode cX8_counts 24 = .ok (.iload 4, 2) := by decide +kernel
theorem dX8_counts_26 : decode cX8_counts 26 = .ok (.sipush 9999, 3) := by decide +kernel
theorem dX8_counts_29 : decode cX8_counts 29 = .ok (.if_icmp .gt 14, 3) := by decide +kernel
theorem dX8_counts_32 : decode cX8_counts 32 = .ok (.iload 5, 2) := by decide +kernel
theorem dX8_counts_34 : decode cX8_counts 34 = .ok (.ifCond .lt 9, 3) := by decide +kernel
theorem dX8_counts_37 : decode cX8_counts 37 = .ok (.iload 5, 2) := by decide +kernel
theorem dX8_counts_39 : decode cX8_counts 39 = .ok (.iconst 3, 1) := by decide +kernel
theorem dX8_counts_40 : decode cX8_counts 40 = .ok (.if_icmp .le 5, 3) := by decide +kernel
theorem dX8_counts_43 : decode cX8_counts 43 = .ok (.iconst (-1), 1) := by decide +kernel
theorem dX8_counts_44 : decode cX8_counts 44 = .ok (.ireturn, 1) := by decide +kernel
theorem dX8_counts_45 : decode cX8_counts 45 = .ok (.aload_n 0, 1) := by decide +kernel
theorem dX8_counts_46 : decode cX8_counts 46 = .ok (.getfield 29, 3) := by decide +kernel
theorem dX8_counts_49 : decode cX8_counts 49 = .ok (.iload_n 1, 1) := by decide +kernel
theorem dX8_counts_50 : decode cX8_counts 50 = .ok (.iload_n 2, 1) := by decide +kernel
theorem dX8_counts_51 : decode cX8_counts 51 = .ok (.iload_n 3, 1) := by decide +kernel
theorem dX8_counts_52 : decode cX8_counts 52 = .ok (.invokevirtual 264, 3) := by decide +kernel
theorem dX8_counts_55 : decode cX8_counts 55 = .ok (.ifCond .eq 6, 3) := by decide +kernel
theorem dX8_counts_58 : decode cX8_counts 58 = .ok (.bipush (-2), 2) := by decide +kernel
theorem dX8_counts_60 : decode cX8_counts 60 = .ok (.ireturn, 1) := by decide +kernel
theorem dX8_counts_61 : decode cX8_counts 61 = .ok (.aload_n 0, 1) := by decide +kernel
theorem dX8_counts_62 : decode cX8_counts 62 = .ok (.getfield 29, 3) := by decide +kernel
theorem dX8_counts_65 : decode cX8_counts 65 = .ok (.iload_n 1, 1) := by decide +kernel
theorem dX8_counts_66 : decode cX8_counts 66 = .ok (.iload_n 2, 1) := by decide +kernel
theorem dX8_counts_67 : decode cX8_counts 67 = .ok (.iload_n 3, 1) := by decide +kernel
theorem dX8_counts_68 : decode cX8_counts 68 = .ok (.invokevirtual 267, 3) := by decide +kernel
theorem dX8_counts_71 : decode cX8_counts 71 = .ok (.istore 6, 2) := by decide +kernel
theorem dX8_counts_73 : decode cX8_counts 73 = .ok (.iload 6, 2) := by decide +kernel
theorem dX8_counts_75 : decode cX8_counts 75 = .ok (.iconst (-1), 1) := by decide +kernel
theorem dX8_counts_76 : decode cX8_counts 76 = .ok (.if_icmp .eq 21, 3) := by decide +kernel
theorem dX8_counts_79 : decode cX8_counts 79 = .ok (.aload_n 0, 1) := by decide +kernel
theorem dX8_counts_80 : decode cX8_counts 80 = .ok (.getfield 29, 3) := by decide +kernel
theorem dX8_counts_83 : decode cX8_counts 83 = .ok (.getfield 198, 3) := by decide +kernel
theorem dX8_counts_86 : decode cX8_counts 86 = .ok (.iload 6, 2) := by decide +kernel
theorem dX8_counts_88 : decode cX8_counts 88 = .ok (.iaload, 1) := by decide +kernel
theorem dX8_counts_89 : decode cX8_counts 89 = .ok (.iload 5, 2) := by decide +kernel
theorem dX8_counts_91 : decode cX8_counts 91 = .ok (.if_icmp .ne 6, 3) := by decide +kernel
theorem dX8_counts_94 : decode cX8_counts 94 = .ok (.bipush (-3), 2) := by decide +kernel
theorem dX8_counts_96 : decode cX8_counts 96 = .ok (.ireturn, 1) := by decide +kernel
theorem dX8_counts_97 : decode cX8_counts 97 = .ok (.aload_n 0, 1) := by decide +kernel
theorem dX8_counts_98 : decode cX8_counts 98 = .ok (.getfield 29, 3) := by decide +kernel
theorem dX8_counts_101 : decode cX8_counts 101 = .ok (.iload_n 1, 1) := by decide +kernel
theorem dX8_counts_102 : decode cX8_counts 102 = .ok (.iload_n 2, 1) := by decide +kernel
theorem dX8_counts_103 : decode cX8_counts 103 = .ok (.iload_n 3, 1) := by decide +kernel
theorem dX8_counts_104 : decode cX8_counts 104 = .ok (.invokevirtual 271, 3) := by decide +kernel
theorem dX8_counts_107 : decode cX8_counts 107 = .ok (.ifCond .eq 6, 3) := by decide +kernel
theorem dX8_counts_110 : decode cX8_counts 110 = .ok (.bipush (-4), 2) := by decide +kernel
theorem dX8_counts_112 : decode cX8_counts 112 = .ok (.ireturn, 1) := by decide +kernel
theorem dX8_counts_113 : decode cX8_counts 113 = .ok (.aload_n 0, 1) := by decide +kernel
theorem dX8_counts_114 : decode cX8_counts 114 = .ok (.getfield 29, 3) := by decide +kernel
theorem dX8_counts_117 : decode cX8_counts 117 = .ok (.getfield 79, 3) := by decide +kernel
theorem dX8_counts_120 : decode cX8_counts 120 = .ok (.bipush 40, 2) := by decide +kernel
theorem dX8_counts_122 : decode cX8_counts 122 = .ok (.if_icmp .lt 6, 3) := by decide +kernel
theorem dX8_counts_125 : decode cX8_counts 125 = .ok (.bipush (-5), 2) := by decide +kernel
theorem dX8_counts_127 : decode cX8_counts 127 = .ok (.ireturn, 1) := by decide +kernel
theorem dX8_counts_128 : decode cX8_counts 128 = .ok (.aload_n 0, 1) := by decide +kernel
theorem dX8_counts_129 : decode cX8_counts 129 = .ok (.getfield 29, 3) := by decide +kernel
theorem dX8_counts_132 : decode cX8_counts 132 = .ok (.getfield 79, 3) := by decide +kernel
theorem dX8_counts_135 : decode cX8_counts 135 = .ok (.istore 7, 2) := by decide +kernel
theorem dX8_counts_137 : decode cX8_counts 137 = .ok (.aload_n 0, 1) := by decide +kernel
theorem dX8_counts_138 : decode cX8_counts 138 = .ok (.getfield 29, 3) := by decide +kernel
theorem dX8_counts_141 : decode cX8_counts 141 = .ok (.iload 7, 2) := by decide +kernel
theorem dX8_counts_143 : decode cX8_counts 143 = .ok (.iload_n 1, 1) := by decide +kernel
theorem dX8_counts_144 : decode cX8_counts 144 = .ok (.iload_n 2, 1) := by decide +kernel
theorem dX8_counts_145 : decode cX8_counts 145 = .ok (.iload_n 3, 1) := by decide +kernel
theorem dX8_counts_146 : decode cX8_counts 146 = .ok (.iload 4, 2) := by decide +kernel
theorem dX8_counts_148 : decode cX8_counts 148 = .ok (.iload 5, 2) := by decide +kernel
theorem dX8_counts_150 : decode cX8_counts 150 = .ok (.invokevirtual 274, 3) := by decide +kernel
theorem dX8_counts_153 : decode cX8_counts 153 = .ok (.aload_n 0, 1) := by decide +kernel
theorem dX8_counts_154 : decode cX8_counts 154 = .ok (.getfield 43, 3) := by decide +kernel
theorem dX8_counts_157 : decode cX8_counts 157 = .ok (.iconst 3, 1) := by decide +kernel
theorem dX8_counts_158 : decode cX8_counts 158 = .ok (.iload 7, 2) := by decide +kernel
theorem dX8_counts_160 : decode cX8_counts 160 = .ok (.invokevirtual 234, 3) := by decide +kernel
theorem dX8_counts_163 : decode cX8_counts 163 = .ok (.pop, 1) := by decide +kernel
theorem dX8_counts_164 : decode cX8_counts 164 = .ok (.iload 7, 2) := by decide +kernel
theorem dX8_counts_166 : decode cX8_counts 166 = .ok (.ireturn, 1) := by decide +kernel
theorem dX8_post_0 : decode cX8_post 0 = .ok (.aload_n 0, 1) := by decide +kernel
theorem dX8_post_1 : decode cX8_post 1 = .ok (.getfield 19, 3) := by decide +kernel
theorem dX8_post_4 : decode cX8_post 4 = .ok (.iload_n 1, 1) := by decide +kernel
theorem dX8_post_5 : decode cX8_post 5 = .ok (.iload_n 2, 1) := by decide +kernel
theorem dX8_post_6 : decode cX8_post 6 = .ok (.invokevirtual 145, 3) := by decide +kernel
theorem dX8_post_9 : decode cX8_post 9 = .ok (.ifCond .eq 12, 3) := by decide +kernel
theorem dX8_post_12 : decode cX8_post 12 = .ok (.aload_n 0, 1) := by decide +kernel
theorem dX8_post_13 : decode cX8_post 13 = .ok (.iload_n 1, 1) := by decide +kernel
theorem dX8_post_14 : decode cX8_post 14 = .ok (.iload_n 2, 1) := by decide +kernel
theorem dX8_post_15 : decode cX8_post 15 = .ok (.invokevirtual 215, 3) := by decide +kernel
theorem dX8_post_18 : decode cX8_post 18 = .ok (.goto 4, 3) := by decide +kernel
theorem dX8_post_21 : decode cX8_post 21 = .ok (.iconst (-1), 1) := by decide +kernel
theorem dX8_post_22 : decode cX8_post 22 = .ok (.istore_n 3, 1) := by decide +kernel
theorem dX8_post_23 : decode cX8_post 23 = .ok (.iload_n 3, 1) := by decide +kernel
theorem dX8_post_24 : decode cX8_post 24 = .ok (.ifCond .ge 6, 3) := by decide +kernel
theorem dX8_post_27 : decode cX8_post 27 = .ok (.ldc 152, 2) := by decide +kernel
theorem dX8_post_29 : decode cX8_post 29 = .ok (.ireturn, 1) := by decide +kernel
theorem dX8_post_30 : decode cX8_post 30 = .ok (.aload_n 0, 1) := by decide +kernel
theorem dX8_post_31 : decode cX8_post 31 = .ok (.getfield 29, 3) := by decide +kernel
theorem dX8_post_34 : decode cX8_post 34 = .ok (.getfield 194, 3) := by decide +kernel
theorem dX8_post_37 : decode cX8_post 37 = .ok (.iload_n 3, 1) := by decide +kernel
theorem dX8_post_38 : decode cX8_post 38 = .ok (.iaload, 1) := by decide +kernel
theorem dX8_post_39 : decode cX8_post 39 = .ok (.istore 4, 2) := by decide +kernel
theorem dX8_post_41 : decode cX8_post 41 = .ok (.aload_n 0, 1) := by decide +kernel
theorem dX8_post_42 : decode cX8_post 42 = .ok (.iload_n 3, 1) := by decide +kernel
theorem dX8_post_43 : decode cX8_post 43 = .ok (.invokevirtual 211, 3) := by decide +kernel
theorem dX8_post_46 : decode cX8_post 46 = .ok (.istore 5, 2) := by decide +kernel
theorem dX8_post_48 : decode cX8_post 48 = .ok (.aload_n 0, 1) := by decide +kernel
theorem dX8_post_49 : decode cX8_post 49 = .ok (.getfield 36, 3) := by decide +kernel
theorem dX8_post_52 : decode cX8_post 52 = .ok (.iload_n 1, 1) := by decide +kernel
theorem dX8_post_53 : decode cX8_post 53 = .ok (.iload_n 2, 1) := by decide +kernel
theorem dX8_post_54 : decode cX8_post 54 = .ok (.iload 4, 2) := by decide +kernel
theorem dX8_post_56 : decode cX8_post 56 = .ok (.iload 5, 2) := by decide +kernel
theorem dX8_post_58 : decode cX8_post 58 = .ok (.invokevirtual 278, 3) := by decide +kernel
theorem dX8_post_61 : decode cX8_post 61 = .ok (.aload_n 0, 1) := by decide +kernel
theorem dX8_post_62 : decode cX8_post 62 = .ok (.getfield 43, 3) := by decide +kernel
theorem dX8_post_65 : decode cX8_post 65 = .ok (.iconst 4, 1) := by decide +kernel
theorem dX8_post_66 : decode cX8_post 66 = .ok (.iload_n 3, 1) := by decide +kernel
theorem dX8_post_67 : decode cX8_post 67 = .ok (.invokevirtual 234, 3) := by decide +kernel
theorem dX8_post_70 : decode cX8_post 70 = .ok (.astore 6, 2) := by decide +kernel
theorem dX8_post_72 : decode cX8_post 72 = .ok (.aload 6, 2) := by decide +kernel
theorem dX8_post_74 : decode cX8_post 74 = .ok (.aload_n 0, 1) := by decide +kernel
theorem dX8_post_75 : decode cX8_post 75 = .ok (.getfield 29, 3) := by decide +kernel
theorem dX8_post_78 : decode cX8_post 78 = .ok (.iload_n 1, 1) := by decide +kernel
theorem dX8_post_79 : decode cX8_post 79 = .ok (.iload_n 2, 1) := by decide +kernel
theorem dX8_post_80 : decode cX8_post 80 = .ok (.iload 4, 2) := by decide +kernel
theorem dX8_post_82 : decode cX8_post 82 = .ok (.invokevirtual 280, 3) := by decide +kernel
theorem dX8_post_85 : decode cX8_post 85 = .ok (.putfield 284, 3) := by decide +kernel
theorem dX8_post_88 : decode cX8_post 88 = .ok (.iload 5, 2) := by decide +kernel
theorem dX8_post_90 : decode cX8_post 90 = .ok (.ireturn, 1) := by decide +kernel
theorem dX8_drop_0 : decode cX8_drop 0 = .ok (.aload_n 0, 1) := by decide +kernel
theorem dX8_drop_1 : decode cX8_drop 1 = .ok (.getfield 29, 3) := by decide +kernel
theorem dX8_drop_4 : decode cX8_drop 4 = .ok (.iload_n 1, 1) := by decide +kernel
theorem dX8_drop_5 : decode cX8_drop 5 = .ok (.invokevirtual 183, 3) := by decide +kernel
theorem dX8_drop_8 : decode cX8_drop 8 = .ok (.ifCond .eq 15, 3) := by decide +kernel
theorem dX8_drop_11 : decode cX8_drop 11 = .ok (.aload_n 0, 1) := by decide +kernel
theorem dX8_drop_12 : decode cX8_drop 12 = .ok (.getfield 29, 3) := by decide +kernel
theorem dX8_drop_15 : decode cX8_drop 15 = .ok (.getfield 201, 3) := by decide +kernel
theorem dX8_drop_18 : decode cX8_drop 18 = .ok (.iload_n 1, 1) := by decide +kernel
theorem dX8_drop_19 : decode cX8_drop 19 = .ok (.baload, 1) := by decide +kernel
theorem dX8_drop_20 : decode cX8_drop 20 = .ok (.ifCond .eq 5, 3) := by decide +kernel
theorem dX8_drop_23 : decode cX8_drop 23 = .ok (.iconst 0, 1) := by decide +kernel
theorem dX8_drop_24 : decode cX8_drop 24 = .ok (.ireturn, 1) := by decide +kernel
theorem dX8_drop_25 : decode cX8_drop 25 = .ok (.aload_n 0, 1) := by decide +kernel
theorem dX8_drop_26 : decode cX8_drop 26 = .ok (.getfield 43, 3) := by decide +kernel
theorem dX8_drop_29 : decode cX8_drop 29 = .ok (.iconst 5, 1) := by decide +kernel
theorem dX8_drop_30 : decode cX8_drop 30 = .ok (.iload_n 1, 1) := by decide +kernel
theorem dX8_drop_31 : decode cX8_drop 31 = .ok (.invokevirtual 234, 3) := by decide +kernel
theorem dX8_drop_34 : decode cX8_drop 34 = .ok (.astore_n 2, 1) := by decide +kernel
theorem dX8_drop_35 : decode cX8_drop 35 = .ok (.aload_n 2, 1) := by decide +kernel
theorem dX8_drop_36 : decode cX8_drop 36 = .ok (.aload_n 0, 1) := by decide +kernel
theorem dX8_drop_37 : decode cX8_drop 37 = .ok (.getfield 29, 3) := by decide +kernel
theorem dX8_drop_40 : decode cX8_drop 40 = .ok (.getfield 188, 3) := by decide +kernel
theorem dX8_drop_43 : decode cX8_drop 43 = .ok (.iload_n 1, 1) := by decide +kernel
theorem dX8_drop_44 : decode cX8_drop 44 = .ok (.iaload, 1) := by decide +kernel
theorem dX8_drop_45 : decode cX8_drop 45 = .ok (.putfield 287, 3) := by decide +kernel
theorem dX8_drop_48 : decode cX8_drop 48 = .ok (.aload_n 2, 1) := by decide +kernel
theorem dX8_drop_49 : decode cX8_drop 49 = .ok (.aload_n 0, 1) := by decide +kernel
theorem dX8_drop_50 : decode cX8_drop 50 = .ok (.getfield 29, 3) := by decide +kernel
theorem dX8_drop_53 : decode cX8_drop 53 = .ok (.getfield 191, 3) := by decide +kernel
theorem dX8_drop_56 : decode cX8_drop 56 = .ok (.iload_n 1, 1) := by decide +kernel
theorem dX8_drop_57 : decode cX8_drop 57 = .ok (.iaload, 1) := by decide +kernel
theorem dX8_drop_58 : decode cX8_drop 58 = .ok (.putfield 289, 3) := by decide +kernel
theorem dX8_drop_61 : decode cX8_drop 61 = .ok (.aload_n 2, 1) := by decide +kernel
theorem dX8_drop_62 : decode cX8_drop 62 = .ok (.aload_n 0, 1) := by decide +kernel
theorem dX8_drop_63 : decode cX8_drop 63 = .ok (.getfield 29, 3) := by decide +kernel
theorem dX8_drop_66 : decode cX8_drop 66 = .ok (.getfield 194, 3) := by decide +kernel
theorem dX8_drop_69 : decode cX8_drop 69 = .ok (.iload_n 1, 1) := by decide +kernel
theorem dX8_drop_70 : decode cX8_drop 70 = .ok (.iaload, 1) := by decide +kernel
theorem dX8_drop_71 : decode cX8_drop 71 = .ok (.putfield 291, 3) := by decide +kernel
theorem dX8_drop_74 : decode cX8_drop 74 = .ok (.aload_n 2, 1) := by decide +kernel
theorem dX8_drop_75 : decode cX8_drop 75 = .ok (.aload_n 0, 1) := by decide +kernel
theorem dX8_drop_76 : decode cX8_drop 76 = .ok (.getfield 29, 3) := by decide +kernel
theorem dX8_drop_79 : decode cX8_drop 79 = .ok (.getfield 195, 3) := by decide +kernel
theorem dX8_drop_82 : decode cX8_drop 82 = .ok (.iload_n 1, 1) := by decide +kernel
theorem dX8_drop_83 : decode cX8_drop 83 = .ok (.iaload, 1) := by decide +kernel
theorem dX8_drop_84 : decode cX8_drop 84 = .ok (.putfield 293, 3) := by decide +kernel
theorem dX8_drop_87 : decode cX8_drop 87 = .ok (.aload_n 2, 1) := by decide +kernel
theorem dX8_drop_88 : decode cX8_drop 88 = .ok (.aload_n 0, 1) := by decide +kernel
theorem dX8_drop_89 : decode cX8_drop 89 = .ok (.getfield 29, 3) := by decide +kernel
theorem dX8_drop_92 : decode cX8_drop 92 = .ok (.getfield 198, 3) := by decide +kernel
theorem dX8_drop_95 : decode cX8_drop 95 = .ok (.iload_n 1, 1) := by decide +kernel
theorem dX8_drop_96 : decode cX8_drop 96 = .ok (.iaload, 1) := by decide +kernel
theorem dX8_drop_97 : decode cX8_drop 97 = .ok (.putfield 295, 3) := by decide +kernel
theorem dX8_drop_100 : decode cX8_drop 100 = .ok (.aload_n 0, 1) := by decide +kernel
theorem dX8_drop_101 : decode cX8_drop 101 = .ok (.getfield 29, 3) := by decide +kernel
theorem dX8_drop_104 : decode cX8_drop 104 = .ok (.iload_n 1, 1) := by decide +kernel
theorem dX8_drop_105 : decode cX8_drop 105 = .ok (.invokevirtual 297, 3) := by decide +kernel
theorem dX8_drop_108 : decode cX8_drop 108 = .ok (.iconst 1, 1) := by decide +kernel
theorem dX8_drop_109 : decode cX8_drop 109 = .ok (.ireturn, 1) := by decide +kernel
theorem dX8_undo_0 : decode cX8_undo 0 = .ok (.aload_n 0, 1) := by decide +kernel
theorem dX8_undo_1 : decode cX8_undo 1 = .ok (.getfield 43, 3) := by decide +kernel
theorem dX8_undo_4 : decode cX8_undo 4 = .ok (.getfield 83, 3) := by decide +kernel
theorem dX8_undo_7 : decode cX8_undo 7 = .ok (.ifCond .gt 5, 3) := by decide +kernel
theorem dX8_undo_10 : decode cX8_undo 10 = .ok (.iconst (-1), 1) := by decide +kernel
theorem dX8_undo_11 : decode cX8_undo 11 = .ok (.ireturn, 1) := by decide +kernel
theorem dX8_undo_12 : decode cX8_undo 12 = .ok (.aload_n 0, 1) := by decide +kernel
theorem dX8_undo_13 : decode cX8_undo 13 = .ok (.aload_n 0, 1) := by decide +kernel
theorem dX8_undo_14 : decode cX8_undo 14 = .ok (.getfield 43, 3) := by decide +kernel
theorem dX8_undo_17 : decode cX8_undo 17 = .ok (.invokevirtual 300, 3) := by decide +kernel
theorem dX8_undo_20 : decode cX8_undo 20 = .ok (.invokevirtual 304, 3) := by decide +kernel
theorem dX8_undo_23 : decode cX8_undo 23 = .ok (.aload_n 0, 1) := by decide +kernel
theorem dX8_undo_24 : decode cX8_undo 24 = .ok (.getfield 43, 3) := by decide +kernel
theorem dX8_undo_27 : decode cX8_undo 27 = .ok (.getfield 83, 3) := by decide +kernel
theorem dX8_undo_30 : decode cX8_undo 30 = .ok (.ireturn, 1) := by decide +kernel
theorem dX8_takeBack_0 : decode cX8_takeBack 0 = .ok (.aload_n 1, 1) := by decide +kernel
theorem dX8_takeBack_1 : decode cX8_takeBack 1 = .ok (.getfield 308, 3) := by decide +kernel
theorem dX8_takeBack_4 : decode cX8_takeBack 4 = .ok (.tableswitch 155 0 5 #[40, 50, 64, 86, 100, 121], 40) := by decide +kernel
theorem dX8_takeBack_44 : decode cX8_takeBack 44 = .ok (.aload_n 0, 1) := by decide +kernel
theorem dX8_takeBack_45 : decode cX8_takeBack 45 = .ok (.getfield 19, 3) := by decide +kernel
theorem dX8_takeBack_48 : decode cX8_takeBack 48 = .ok (.invokevirtual 311, 3) := by decide +kernel
theorem dX8_takeBack_51 : decode cX8_takeBack 51 = .ok (.goto 108, 3) := by decide +kernel
theorem dX8_takeBack_54 : decode cX8_takeBack 54 = .ok (.aload_n 0, 1) := by decide +kernel
theorem dX8_takeBack_55 : decode cX8_takeBack 55 = .ok (.getfield 19, 3) := by decide +kernel
theorem dX8_takeBack_58 : decode cX8_takeBack 58 = .ok (.aload_n 1, 1) := by decide +kernel
theorem dX8_takeBack_59 : decode cX8_takeBack 59 = .ok (.getfield 314, 3) := by decide +kernel
theorem dX8_takeBack_62 : decode cX8_takeBack 62 = .ok (.invokevirtual 317, 3) := by decide +kernel
theorem dX8_takeBack_65 : decode cX8_takeBack 65 = .ok (.goto 94, 3) := by decide +kernel
theorem dX8_takeBack_68 : decode cX8_takeBack 68 = .ok (.aload_n 0, 1) := by decide +kernel
theorem dX8_takeBack_69 : decode cX8_takeBack 69 = .ok (.getfield 19, 3) := by decide +kernel
theorem dX8_takeBack_72 : decode cX8_takeBack 72 = .ok (.aload_n 1, 1) := by decide +kernel
theorem dX8_takeBack_73 : decode cX8_takeBack 73 = .ok (.getfield 314, 3) := by decide +kernel
theorem dX8_takeBack_76 : decode cX8_takeBack 76 = .ok (.aload_n 1, 1) := by decide +kernel
theorem dX8_takeBack_77 : decode cX8_takeBack 77 = .ok (.getfield 254, 3) := by decide +kernel
theorem dX8_takeBack_80 : decode cX8_takeBack 80 = .ok (.aload_n 1, 1) := by decide +kernel
theorem dX8_takeBack_81 : decode cX8_takeBack 81 = .ok (.getfield 257, 3) := by decide +kernel
theorem dX8_takeBack_84 : decode cX8_takeBack 84 = .ok (.invokevirtual 260, 3) := by decide +kernel
theorem dX8_takeBack_87 : decode cX8_takeBack 87 = .ok (.goto 72, 3) := by decide +kernel
theorem dX8_takeBack_90 : decode cX8_takeBack 90 = .ok (.aload_n 0, 1) := by decide +kernel
theorem dX8_takeBack_91 : decode cX8_takeBack 91 = .ok (.getfield 29, 3) := by decide +kernel
theorem dX8_takeBack_94 : decode cX8_takeBack 94 = .ok (.aload_n 1, 1) := by decide +kernel
theorem dX8_takeBack_95 : decode cX8_takeBack 95 = .ok (.getfield 314, 3) := by decide +kernel
theorem dX8_takeBack_98 : decode cX8_takeBack 98 = .ok (.invokevirtual 297, 3) := by decide +kernel
theorem dX8_takeBack_101 : decode cX8_takeBack 101 = .ok (.goto 58, 3) := by decide +kernel
theorem dX8_takeBack_104 : decode cX8_takeBack 104 = .ok (.aload_n 0, 1) := by decide +kernel
theorem dX8_takeBack_105 : decode cX8_takeBack 105 = .ok (.getfield 36, 3) := by decide +kernel
theorem dX8_takeBack_108 : decode cX8_takeBack 108 = .ok (.invokevirtual 320, 3) := by decide +kernel
theorem dX8_takeBack_111 : decode cX8_takeBack 111 = .ok (.aload_n 0, 1) := by decide +kernel
theorem dX8_takeBack_112 : decode cX8_takeBack 112 = .ok (.getfield 29, 3) := by decide +kernel
theorem dX8_takeBack_115 : decode cX8_takeBack 115 = .ok (.aload_n 1, 1) := by decide +kernel
theorem dX8_takeBack_116 : decode cX8_takeBack 116 = .ok (.getfield 284, 3) := by decide +kernel
theorem dX8_takeBack_119 : decode cX8_takeBack 119 = .ok (.invokevirtual 323, 3) := by decide +kernel
theorem dX8_takeBack_122 : decode cX8_takeBack 122 = .ok (.goto 37, 3) := by decide +kernel
theorem dX8_takeBack_125 : decode cX8_takeBack 125 = .ok (.aload_n 0, 1) := by decide +kernel
theorem dX8_takeBack_126 : decode cX8_takeBack 126 = .ok (.getfield 29, 3) := by decide +kernel
theorem dX8_takeBack_129 : decode cX8_takeBack 129 = .ok (.aload_n 1, 1) := by decide +kernel
theorem dX8_takeBack_130 : decode cX8_takeBack 130 = .ok (.getfield 314, 3) := by decide +kernel
theorem dX8_takeBack_133 : decode cX8_takeBack 133 = .ok (.aload_n 1, 1) := by decide +kernel
theorem dX8_takeBack_134 : decode cX8_takeBack 134 = .ok (.getfield 287, 3) := by decide +kernel
theorem dX8_takeBack_137 : decode cX8_takeBack 137 = .ok (.aload_n 1, 1) := by decide +kernel
theorem dX8_takeBack_138 : decode cX8_takeBack 138 = .ok (.getfield 289, 3) := by decide +kernel
theorem dX8_takeBack_141 : decode cX8_takeBack 141 = .ok (.aload_n 1, 1) := by decide +kernel
theorem dX8_takeBack_142 : decode cX8_takeBack 142 = .ok (.getfield 291, 3) := by decide +kernel
theorem dX8_takeBack_145 : decode cX8_takeBack 145 = .ok (.aload_n 1, 1) := by decide +kernel
theorem dX8_takeBack_146 : decode cX8_takeBack 146 = .ok (.getfield 293, 3) := by decide +kernel
theorem dX8_takeBack_149 : decode cX8_takeBack 149 = .ok (.aload_n 1, 1) := by decide +kernel
theorem dX8_takeBack_150 : decode cX8_takeBack 150 = .ok (.getfield 295, 3) := by decide +kernel
theorem dX8_takeBack_153 : decode cX8_takeBack 153 = .ok (.invokevirtual 274, 3) := by decide +kernel
theorem dX8_takeBack_156 : decode cX8_takeBack 156 = .ok (.goto 3, 3) := by decide +kernel
theorem dX8_takeBack_159 : decode cX8_takeBack 159 = .ok (.return_, 1) := by decide +kernel
theorem dX8_isInstant_0 : decode cX8_isInstant 0 = .ok (.iload_n 0, 1) := by decide +kernel
theorem dX8_isInstant_1 : decode cX8_isInstant 1 = .ok (.ifCond .lt 14, 3) := by decide +kernel
theorem dX8_isInstant_4 : decode cX8_isInstant 4 = .ok (.iload_n 0, 1) := by decide +kernel
theorem dX8_isInstant_5 : decode cX8_isInstant 5 = .ok (.sipush 999, 3) := by decide +kernel
theorem dX8_isInstant_8 : decode cX8_isInstant 8 = .ok (.if_icmp .gt 7, 3) := by decide +kernel
theorem dX8_isInstant_11 : decode cX8_isInstant 11 = .ok (.iconst 1, 1) := by decide +kernel
theorem dX8_isInstant_12 : decode cX8_isInstant 12 = .ok (.goto 4, 3) := by decide +kernel
theorem dX8_isInstant_15 : decode cX8_isInstant 15 = .ok (.iconst 0, 1) := by decide +kernel
theorem dX8_isInstant_16 : decode cX8_isInstant 16 = .ok (.ireturn, 1) := by decide +kernel
theorem dX8_isSpan_0 : decode cX8_isSpan 0 = .ok (.iload_n 0, 1) := by decide +kernel
theorem dX8_isSpan_1 : decode cX8_isSpan 1 = .ok (.invokestatic 149, 3) := by decide +kernel
theorem dX8_isSpan_4 : decode cX8_isSpan 4 = .ok (.ifCond .eq 19, 3) := by decide +kernel
theorem dX8_isSpan_7 : decode cX8_isSpan 7 = .ok (.iload_n 1, 1) := by decide +kernel
theorem dX8_isSpan_8 : decode cX8_isSpan 8 = .ok (.invokestatic 149, 3) := by decide +kernel
theorem dX8_isSpan_11 : decode cX8_isSpan 11 = .ok (.ifCond .eq 12, 3) := by decide +kernel
theorem dX8_isSpan_14 : decode cX8_isSpan 14 = .ok (.iload_n 0, 1) := by decide +kernel
theorem dX8_isSpan_15 : decode cX8_isSpan 15 = .ok (.iload_n 1, 1) := by decide +kernel
theorem dX8_isSpan_16 : decode cX8_isSpan 16 = .ok (.if_icmp .gt 7, 3) := by decide +kernel
theorem dX8_isSpan_19 : decode cX8_isSpan 19 = .ok (.iconst 1, 1) := by decide +kernel
theorem dX8_isSpan_20 : decode cX8_isSpan 20 = .ok (.goto 4, 3) := by decide +kernel
theorem dX8_isSpan_23 : decode cX8_isSpan 23 = .ok (.iconst 0, 1) := by decide +kernel
theorem dX8_isSpan_24 : decode cX8_isSpan 24 = .ok (.ireturn, 1) := by decide +kernel
theorem dX8_isLeg_0 : decode cX8_isLeg 0 = .ok (.iload_n 0, 1) := by decide +kernel
theorem dX8_isLeg_1 : decode cX8_isLeg 1 = .ok (.ifCond .eq 8, 3) := by decide +kernel
theorem dX8_isLeg_4 : decode cX8_isLeg 4 = .ok (.iload_n 0, 1) := by decide +kernel
theorem dX8_isLeg_5 : decode cX8_isLeg 5 = .ok (.iconst 1, 1) := by decide +kernel
theorem dX8_isLeg_6 : decode cX8_isLeg 6 = .ok (.if_icmp .ne 7, 3) := by decide +kernel
theorem dX8_isLeg_9 : decode cX8_isLeg 9 = .ok (.iconst 1, 1) := by decide +kernel
theorem dX8_isLeg_10 : decode cX8_isLeg 10 = .ok (.goto 4, 3) := by decide +kernel
theorem dX8_isLeg_13 : decode cX8_isLeg 13 = .ok (.iconst 0, 1) := by decide +kernel
theorem dX8_isLeg_14 : decode cX8_isLeg 14 = .ok (.ireturn, 1) := by decide +kernel
theorem dX8_legOf_0 : decode cX8_legOf 0 = .ok (.iconst 2, 1) := by decide +kernel
theorem dX8_legOf_1 : decode cX8_legOf 1 = .ok (.iload_n 0, 1) := by decide +kernel
theorem dX8_legOf_2 : decode cX8_legOf 2 = .ok (.imul, 1) := by decide +kernel
theorem dX8_legOf_3 : decode cX8_legOf 3 = .ok (.iload_n 1, 1) := by decide +kernel
theorem dX8_legOf_4 : decode cX8_legOf 4 = .ok (.iadd, 1) := by decide +kernel
theorem dX8_legOf_5 : decode cX8_legOf 5 = .ok (.ireturn, 1) := by decide +kernel
theorem dX8_isInTransit_0 : decode cX8_isInTransit 0 = .ok (.iload_n 1, 1) := by decide +kernel
theorem dX8_isInTransit_1 : decode cX8_isInTransit 1 = .ok (.iconst 0, 1) := by decide +kernel
theorem dX8_isInTransit_2 : decode cX8_isInTransit 2 = .ok (.invokestatic 133, 3) := by decide +kernel
theorem dX8_isInTransit_5 : decode cX8_isInTransit 5 = .ok (.istore 4, 2) := by decide +kernel
theorem dX8_isInTransit_7 : decode cX8_isInTransit 7 = .ok (.iload_n 1, 1) := by decide +kernel
theorem dX8_isInTransit_8 : decode cX8_isInTransit 8 = .ok (.iconst 1, 1) := by decide +kernel
theorem dX8_isInTransit_9 : decode cX8_isInTransit 9 = .ok (.invokestatic 133, 3) := by decide +kernel
theorem dX8_isInTransit_12 : decode cX8_isInTransit 12 = .ok (.istore 5, 2) := by decide +kernel
theorem dX8_isInTransit_14 : decode cX8_isInTransit 14 = .ok (.aload_n 0, 1) := by decide +kernel
theorem dX8_isInTransit_15 : decode cX8_isInTransit 15 = .ok (.getfield 19, 3) := by decide +kernel
theorem dX8_isInTransit_18 : decode cX8_isInTransit 18 = .ok (.iload 4, 2) := by decide +kernel
theorem dX8_isInTransit_20 : decode cX8_isInTransit 20 = .ok (.invokevirtual 247, 3) := by decide +kernel
theorem dX8_isInTransit_23 : decode cX8_isInTransit 23 = .ok (.ifCond .eq 59, 3) := by decide +kernel
theorem dX8_isInTransit_26 : decode cX8_isInTransit 26 = .ok (.aload_n 0, 1) := by decide +kernel
theorem dX8_isInTransit_27 : decode cX8_isInTransit 27 = .ok (.getfield 19, 3) := by decide +kernel
theorem dX8_isInTransit_30 : decode cX8_isInTransit 30 = .ok (.iload 5, 2) := by decide +kernel
theorem dX8_isInTransit_32 : decode cX8_isInTransit 32 = .ok (.invokevirtual 247, 3) := by decide +kernel
theorem dX8_isInTransit_35 : decode cX8_isInTransit 35 = .ok (.ifCond .eq 47, 3) := by decide +kernel
theorem dX8_isInTransit_38 : decode cX8_isInTransit 38 = .ok (.aload_n 0, 1) := by decide +kernel
theorem dX8_isInTransit_39 : decode cX8_isInTransit 39 = .ok (.getfield 19, 3) := by decide +kernel
theorem dX8_isInTransit_42 : decode cX8_isInTransit 42 = .ok (.iload 4, 2) := by decide +kernel
theorem dX8_isInTransit_44 : decode cX8_isInTransit 44 = .ok (.iload_n 2, 1) := by decide +kernel
theorem dX8_isInTransit_45 : decode cX8_isInTransit 45 = .ok (.invokevirtual 327, 3) := by decide +kernel
theorem dX8_isInTransit_48 : decode cX8_isInTransit 48 = .ok (.ifCond .eq 34, 3) := by decide +kernel
theorem dX8_isInTransit_51 : decode cX8_isInTransit 51 = .ok (.aload_n 0, 1) := by decide +kernel
theorem dX8_isInTransit_52 : decode cX8_isInTransit 52 = .ok (.getfield 19, 3) := by decide +kernel
theorem dX8_isInTransit_55 : decode cX8_isInTransit 55 = .ok (.iload 5, 2) := by decide +kernel
theorem dX8_isInTransit_57 : decode cX8_isInTransit 57 = .ok (.iload_n 2, 1) := by decide +kernel
theorem dX8_isInTransit_58 : decode cX8_isInTransit 58 = .ok (.invokevirtual 327, 3) := by decide +kernel
theorem dX8_isInTransit_61 : decode cX8_isInTransit 61 = .ok (.ifCond .ne 21, 3) := by decide +kernel
theorem dX8_isInTransit_64 : decode cX8_isInTransit 64 = .ok (.aload_n 0, 1) := by decide +kernel
theorem dX8_isInTransit_65 : decode cX8_isInTransit 65 = .ok (.getfield 19, 3) := by decide +kernel
theorem dX8_isInTransit_68 : decode cX8_isInTransit 68 = .ok (.iload 5, 2) := by decide +kernel
theorem dX8_isInTransit_70 : decode cX8_isInTransit 70 = .ok (.iload_n 2, 1) := by decide +kernel
theorem dX8_isInTransit_71 : decode cX8_isInTransit 71 = .ok (.invokevirtual 330, 3) := by decide +kernel
theorem dX8_isInTransit_74 : decode cX8_isInTransit 74 = .ok (.iload_n 3, 1) := by decide +kernel
theorem dX8_isInTransit_75 : decode cX8_isInTransit 75 = .ok (.if_icmp .ne 7, 3) := by decide +kernel
theorem dX8_isInTransit_78 : decode cX8_isInTransit 78 = .ok (.iconst 1, 1) := by decide +kernel
theorem dX8_isInTransit_79 : decode cX8_isInTransit 79 = .ok (.goto 4, 3) := by decide +kernel
theorem dX8_isInTransit_82 : decode cX8_isInTransit 82 = .ok (.iconst 0, 1) := by decide +kernel
theorem dX8_isInTransit_83 : decode cX8_isInTransit 83 = .ok (.ireturn, 1) := by decide +kernel
theorem dX8_isBelow_0 : decode cX8_isBelow 0 = .ok (.aload_n 0, 1) := by decide +kernel
theorem dX8_isBelow_1 : decode cX8_isBelow 1 = .ok (.getfield 50, 3) := by decide +kernel
theorem dX8_isBelow_4 : decode cX8_isBelow 4 = .ok (.aload_n 0, 1) := by decide +kernel
theorem dX8_isBelow_5 : decode cX8_isBelow 5 = .ok (.getfield 19, 3) := by decide +kernel
theorem dX8_isBelow_8 : decode cX8_isBelow 8 = .ok (.aload_n 0, 1) := by decide +kernel
theorem dX8_isBelow_9 : decode cX8_isBelow 9 = .ok (.getfield 36, 3) := by decide +kernel
theorem dX8_isBelow_12 : decode cX8_isBelow 12 = .ok (.iload_n 1, 1) := by decide +kernel
theorem dX8_isBelow_13 : decode cX8_isBelow 13 = .ok (.iload_n 2, 1) := by decide +kernel
theorem dX8_isBelow_14 : decode cX8_isBelow 14 = .ok (.iload_n 3, 1) := by decide +kernel
theorem dX8_isBelow_15 : decode cX8_isBelow 15 = .ok (.invokevirtual 153, 3) := by decide +kernel
theorem dX8_isBelow_18 : decode cX8_isBelow 18 = .ok (.aload_n 0, 1) := by decide +kernel
theorem dX8_isBelow_19 : decode cX8_isBelow 19 = .ok (.getfield 50, 3) := by decide +kernel
theorem dX8_isBelow_22 : decode cX8_isBelow 22 = .ok (.getfield 163, 3) := by decide +kernel
theorem dX8_isBelow_25 : decode cX8_isBelow 25 = .ok (.ifCond .ge 7, 3) := by decide +kernel
theorem dX8_isBelow_28 : decode cX8_isBelow 28 = .ok (.iconst 1, 1) := by decide +kernel
theorem dX8_isBelow_29 : decode cX8_isBelow 29 = .ok (.goto 4, 3) := by decide +kernel
theorem dX8_isBelow_32 : decode cX8_isBelow 32 = .ok (.iconst 0, 1) := by decide +kernel
theorem dX8_isBelow_33 : decode cX8_isBelow 33 = .ok (.ireturn, 1) := by decide +kernel
theorem dX8_turnTo_0 : decode cX8_turnTo 0 = .ok (.aload_n 0, 1) := by decide +kernel
theorem dX8_turnTo_1 : decode cX8_turnTo 1 = .ok (.getfield 50, 3) := by decide +kernel
theorem dX8_turnTo_4 : decode cX8_turnTo 4 = .ok (.aload_n 0, 1) := by decide +kernel
theorem dX8_turnTo_5 : decode cX8_turnTo 5 = .ok (.getfield 19, 3) := by decide +kernel
theorem dX8_turnTo_8 : decode cX8_turnTo 8 = .ok (.aload_n 0, 1) := by decide +kernel
theorem dX8_turnTo_9 : decode cX8_turnTo 9 = .ok (.getfield 36, 3) := by decide +kernel
theorem dX8_turnTo_12 : decode cX8_turnTo 12 = .ok (.aload_n 0, 1) := by decide +kernel
theorem dX8_turnTo_13 : decode cX8_turnTo 13 = .ok (.getfield 29, 3) := by decide +kernel
theorem dX8_turnTo_16 : decode cX8_turnTo 16 = .ok (.getfield 188, 3) := by decide +kernel
theorem dX8_turnTo_19 : decode cX8_turnTo 19 = .ok (.iload_n 1, 1) := by decide +kernel
theorem dX8_turnTo_20 : decode cX8_turnTo 20 = .ok (.iaload, 1) := by decide +kernel
theorem dX8_turnTo_21 : decode cX8_turnTo 21 = .ok (.aload_n 0, 1) := by decide +kernel
theorem dX8_turnTo_22 : decode cX8_turnTo 22 = .ok (.getfield 29, 3) := by decide +kernel
theorem dX8_turnTo_25 : decode cX8_turnTo 25 = .ok (.getfield 191, 3) := by decide +kernel
theorem dX8_turnTo_28 : decode cX8_turnTo 28 = .ok (.iload_n 1, 1) := by decide +kernel
theorem dX8_turnTo_29 : decode cX8_turnTo 29 = .ok (.iaload, 1) := by decide +kernel
theorem dX8_turnTo_30 : decode cX8_turnTo 30 = .ok (.aload_n 0, 1) := by decide +kernel
theorem dX8_turnTo_31 : decode cX8_turnTo 31 = .ok (.getfield 29, 3) := by decide +kernel
theorem dX8_turnTo_34 : decode cX8_turnTo 34 = .ok (.getfield 194, 3) := by decide +kernel
theorem dX8_turnTo_37 : decode cX8_turnTo 37 = .ok (.iload_n 1, 1) := by decide +kernel
theorem dX8_turnTo_38 : decode cX8_turnTo 38 = .ok (.iaload, 1) := by decide +kernel
theorem dX8_turnTo_39 : decode cX8_turnTo 39 = .ok (.invokevirtual 153, 3) := by decide +kernel
theorem dX8_turnTo_42 : decode cX8_turnTo 42 = .ok (.return_, 1) := by decide +kernel
theorem dX8_differenceOf_0 : decode cX8_differenceOf 0 = .ok (.aload_n 0, 1) := by decide +kernel
theorem dX8_differenceOf_1 : decode cX8_differenceOf 1 = .ok (.iload_n 1, 1) := by decide +kernel
theorem dX8_differenceOf_2 : decode cX8_differenceOf 2 = .ok (.invokevirtual 218, 3) := by decide +kernel
theorem dX8_differenceOf_5 : decode cX8_differenceOf 5 = .ok (.aload_n 0, 1) := by decide +kernel
theorem dX8_differenceOf_6 : decode cX8_differenceOf 6 = .ok (.getfield 29, 3) := by decide +kernel
theorem dX8_differenceOf_9 : decode cX8_differenceOf 9 = .ok (.getfield 195, 3) := by decide +kernel
theorem dX8_differenceOf_12 : decode cX8_differenceOf 12 = .ok (.iload_n 1, 1) := by decide +kernel
theorem dX8_differenceOf_13 : decode cX8_differenceOf 13 = .ok (.iaload, 1) := by decide +kernel
theorem dX8_differenceOf_14 : decode cX8_differenceOf 14 = .ok (.istore_n 2, 1) := by decide +kernel
theorem dX8_differenceOf_15 : decode cX8_differenceOf 15 = .ok (.iload_n 2, 1) := by decide +kernel
theorem dX8_differenceOf_16 : decode cX8_differenceOf 16 = .ok (.aload_n 0, 1) := by decide +kernel
theorem dX8_differenceOf_17 : decode cX8_differenceOf 17 = .ok (.getfield 50, 3) := by decide +kernel
theorem dX8_differenceOf_20 : decode cX8_differenceOf 20 = .ok (.getfield 163, 3) := by decide +kernel
theorem dX8_differenceOf_23 : decode cX8_differenceOf 23 = .ok (.if_icmp .le 13, 3) := by decide +kernel
theorem dX8_differenceOf_26 : decode cX8_differenceOf 26 = .ok (.iload_n 2, 1) := by decide +kernel
theorem dX8_differenceOf_27 : decode cX8_differenceOf 27 = .ok (.aload_n 0, 1) := by decide +kernel
theorem dX8_differenceOf_28 : decode cX8_differenceOf 28 = .ok (.getfield 50, 3) := by decide +kernel
theorem dX8_differenceOf_31 : decode cX8_differenceOf 31 = .ok (.getfield 163, 3) := by decide +kernel
theorem dX8_differenceOf_34 : decode cX8_differenceOf 34 = .ok (.isub, 1) := by decide +kernel
theorem dX8_differenceOf_35 : decode cX8_differenceOf 35 = .ok (.ireturn, 1) := by decide +kernel
theorem dX8_differenceOf_36 : decode cX8_differenceOf 36 = .ok (.iload_n 2, 1) := by decide +kernel
theorem dX8_differenceOf_37 : decode cX8_differenceOf 37 = .ok (.aload_n 0, 1) := by decide +kernel
theorem dX8_differenceOf_38 : decode cX8_differenceOf 38 = .ok (.getfield 50, 3) := by decide +kernel
theorem dX8_differenceOf_41 : decode cX8_differenceOf 41 = .ok (.getfield 160, 3) := by decide +kernel
theorem dX8_differenceOf_44 : decode cX8_differenceOf 44 = .ok (.if_icmp .ge 15, 3) := by decide +kernel
theorem dX8_differenceOf_47 : decode cX8_differenceOf 47 = .ok (.iload_n 2, 1) := by decide +kernel
theorem dX8_differenceOf_48 : decode cX8_differenceOf 48 = .ok (.aload_n 0, 1) := by decide +kernel
theorem dX8_differenceOf_49 : decode cX8_differenceOf 49 = .ok (.getfield 50, 3) := by decide +kernel
theorem dX8_differenceOf_52 : decode cX8_differenceOf 52 = .ok (.getfield 160, 3) := by decide +kernel
theorem dX8_differenceOf_55 : decode cX8_differenceOf 55 = .ok (.isub, 1) := by decide +kernel
theorem dX8_differenceOf_56 : decode cX8_differenceOf 56 = .ok (.goto 4, 3) := by decide +kernel
theorem dX8_differenceOf_59 : decode cX8_differenceOf 59 = .ok (.iconst 0, 1) := by decide +kernel
theorem dX8_differenceOf_60 : decode cX8_differenceOf 60 = .ok (.ireturn, 1) := by decide +kernel
theorem dX8_allowedFor_0 : decode cX8_allowedFor 0 = .ok (.aload_n 0, 1) := by decide +kernel
theorem dX8_allowedFor_1 : decode cX8_allowedFor 1 = .ok (.iload_n 1, 1) := by decide +kernel
theorem dX8_allowedFor_2 : decode cX8_allowedFor 2 = .ok (.invokevirtual 218, 3) := by decide +kernel
theorem dX8_allowedFor_5 : decode cX8_allowedFor 5 = .ok (.aload_n 0, 1) := by decide +kernel
theorem dX8_allowedFor_6 : decode cX8_allowedFor 6 = .ok (.getfield 29, 3) := by decide +kernel
theorem dX8_allowedFor_9 : decode cX8_allowedFor 9 = .ok (.getfield 191, 3) := by decide +kernel
theorem dX8_allowedFor_12 : decode cX8_allowedFor 12 = .ok (.iload_n 1, 1) := by decide +kernel
theorem dX8_allowedFor_13 : decode cX8_allowedFor 13 = .ok (.iaload, 1) := by decide +kernel
theorem dX8_allowedFor_14 : decode cX8_allowedFor 14 = .ok (.istore_n 2, 1) := by decide +kernel
theorem dX8_allowedFor_15 : decode cX8_allowedFor 15 = .ok (.aload_n 0, 1) := by decide +kernel
theorem dX8_allowedFor_16 : decode cX8_allowedFor 16 = .ok (.getfield 19, 3) := by decide +kernel
theorem dX8_allowedFor_19 : decode cX8_allowedFor 19 = .ok (.getfield 111, 3) := by decide +kernel
theorem dX8_allowedFor_22 : decode cX8_allowedFor 22 = .ok (.iload_n 2, 1) := by decide +kernel
theorem dX8_allowedFor_23 : decode cX8_allowedFor 23 = .ok (.iaload, 1) := by decide +kernel
theorem dX8_allowedFor_24 : decode cX8_allowedFor 24 = .ok (.aload_n 0, 1) := by decide +kernel
theorem dX8_allowedFor_25 : decode cX8_allowedFor 25 = .ok (.getfield 50, 3) := by decide +kernel
theorem dX8_allowedFor_28 : decode cX8_allowedFor 28 = .ok (.getfield 157, 3) := by decide +kernel
theorem dX8_allowedFor_31 : decode cX8_allowedFor 31 = .ok (.iconst 0, 1) := by decide +kernel
theorem dX8_allowedFor_32 : decode cX8_allowedFor 32 = .ok (.invokestatic 333, 3) := by decide +kernel
theorem dX8_allowedFor_35 : decode cX8_allowedFor 35 = .ok (.imul, 1) := by decide +kernel
theorem dX8_allowedFor_36 : decode cX8_allowedFor 36 = .ok (.bipush 100, 2) := by decide +kernel
theorem dX8_allowedFor_38 : decode cX8_allowedFor 38 = .ok (.idiv, 1) := by decide +kernel
theorem dX8_allowedFor_39 : decode cX8_allowedFor 39 = .ok (.istore_n 3, 1) := by decide +kernel
theorem dX8_allowedFor_40 : decode cX8_allowedFor 40 = .ok (.aload_n 0, 1) := by decide +kernel
theorem dX8_allowedFor_41 : decode cX8_allowedFor 41 = .ok (.getfield 19, 3) := by decide +kernel
theorem dX8_allowedFor_44 : decode cX8_allowedFor 44 = .ok (.getfield 107, 3) := by decide +kernel
theorem dX8_allowedFor_47 : decode cX8_allowedFor 47 = .ok (.iload_n 2, 1) := by decide +kernel
theorem dX8_allowedFor_48 : decode cX8_allowedFor 48 = .ok (.iaload, 1) := by decide +kernel
theorem dX8_allowedFor_49 : decode cX8_allowedFor 49 = .ok (.iload_n 3, 1) := by decide +kernel
theorem dX8_allowedFor_50 : decode cX8_allowedFor 50 = .ok (.invokestatic 333, 3) := by decide +kernel
theorem dX8_allowedFor_53 : decode cX8_allowedFor 53 = .ok (.ireturn, 1) := by decide +kernel
theorem dX8_chosenOf_0 : decode cX8_chosenOf 0 = .ok (.aload_n 0, 1) := by decide +kernel
theorem dX8_chosenOf_1 : decode cX8_chosenOf 1 = .ok (.getfield 29, 3) := by decide +kernel
theorem dX8_chosenOf_4 : decode cX8_chosenOf 4 = .ok (.iload_n 1, 1) := by decide +kernel
theorem dX8_chosenOf_5 : decode cX8_chosenOf 5 = .ok (.iload_n 2, 1) := by decide +kernel
theorem dX8_chosenOf_6 : decode cX8_chosenOf 6 = .ok (.invokevirtual 338, 3) := by decide +kernel
theorem dX8_chosenOf_9 : decode cX8_chosenOf 9 = .ok (.istore_n 3, 1) := by decide +kernel
theorem dX8_chosenOf_10 : decode cX8_chosenOf 10 = .ok (.iload_n 3, 1) := by decide +kernel
theorem dX8_chosenOf_11 : decode cX8_chosenOf 11 = .ok (.iconst (-1), 1) := by decide +kernel
theorem dX8_chosenOf_12 : decode cX8_chosenOf 12 = .ok (.if_icmp .ne 5, 3) := by decide +kernel
theorem dX8_chosenOf_15 : decode cX8_chosenOf 15 = .ok (.iconst (-1), 1) := by decide +kernel
theorem dX8_chosenOf_16 : decode cX8_chosenOf 16 = .ok (.ireturn, 1) := by decide +kernel
theorem dX8_chosenOf_17 : decode cX8_chosenOf 17 = .ok (.aload_n 0, 1) := by decide +kernel
theorem dX8_chosenOf_18 : decode cX8_chosenOf 18 = .ok (.iload_n 3, 1) := by decide +kernel
theorem dX8_chosenOf_19 : decode cX8_chosenOf 19 = .ok (.invokevirtual 211, 3) := by decide +kernel
theorem dX8_chosenOf_22 : decode cX8_chosenOf 22 = .ok (.invokestatic 341, 3) := by decide +kernel
theorem dX8_chosenOf_25 : decode cX8_chosenOf 25 = .ok (.aload_n 0, 1) := by decide +kernel
theorem dX8_chosenOf_26 : decode cX8_chosenOf 26 = .ok (.iload_n 3, 1) := by decide +kernel
theorem dX8_chosenOf_27 : decode cX8_chosenOf 27 = .ok (.invokevirtual 205, 3) := by decide +kernel
theorem dX8_chosenOf_30 : decode cX8_chosenOf 30 = .ok (.if_icmp .gt 5, 3) := by decide +kernel
theorem dX8_chosenOf_33 : decode cX8_chosenOf 33 = .ok (.iload_n 3, 1) := by decide +kernel
theorem dX8_chosenOf_34 : decode cX8_chosenOf 34 = .ok (.ireturn, 1) := by decide +kernel
theorem dX8_chosenOf_35 : decode cX8_chosenOf 35 = .ok (.aload_n 0, 1) := by decide +kernel
theorem dX8_chosenOf_36 : decode cX8_chosenOf 36 = .ok (.getfield 29, 3) := by decide +kernel
theorem dX8_chosenOf_39 : decode cX8_chosenOf 39 = .ok (.iload_n 1, 1) := by decide +kernel
theorem dX8_chosenOf_40 : decode cX8_chosenOf 40 = .ok (.iload_n 2, 1) := by decide +kernel
theorem dX8_chosenOf_41 : decode cX8_chosenOf 41 = .ok (.sipush 1000, 3) := by decide +kernel
theorem dX8_chosenOf_44 : decode cX8_chosenOf 44 = .ok (.invokevirtual 267, 3) := by decide +kernel
theorem dX8_chosenOf_47 : decode cX8_chosenOf 47 = .ok (.istore 4, 2) := by decide +kernel
theorem dX8_chosenOf_49 : decode cX8_chosenOf 49 = .ok (.iload 4, 2) := by decide +kernel
theorem dX8_chosenOf_51 : decode cX8_chosenOf 51 = .ok (.iconst (-1), 1) := by decide +kernel
theorem dX8_chosenOf_52 : decode cX8_chosenOf 52 = .ok (.if_icmp .eq 9, 3) := by decide +kernel
theorem dX8_chosenOf_55 : decode cX8_chosenOf 55 = .ok (.iload 4, 2) := by decide +kernel
theorem dX8_chosenOf_57 : decode cX8_chosenOf 57 = .ok (.iload_n 3, 1) := by decide +kernel
theorem dX8_chosenOf_58 : decode cX8_chosenOf 58 = .ok (.if_icmp .ne 6, 3) := by decide +kernel
theorem dX8_chosenOf_61 : decode cX8_chosenOf 61 = .ok (.bipush (-2), 2) := by decide +kernel
theorem dX8_chosenOf_63 : decode cX8_chosenOf 63 = .ok (.ireturn, 1) := by decide +kernel
theorem dX8_chosenOf_64 : decode cX8_chosenOf 64 = .ok (.aload_n 0, 1) := by decide +kernel
theorem dX8_chosenOf_65 : decode cX8_chosenOf 65 = .ok (.getfield 29, 3) := by decide +kernel
theorem dX8_chosenOf_68 : decode cX8_chosenOf 68 = .ok (.iload_n 1, 1) := by decide +kernel
theorem dX8_chosenOf_69 : decode cX8_chosenOf 69 = .ok (.iload_n 2, 1) := by decide +kernel
theorem dX8_chosenOf_70 : decode cX8_chosenOf 70 = .ok (.aload_n 0, 1) := by decide +kernel
theorem dX8_chosenOf_71 : decode cX8_chosenOf 71 = .ok (.getfield 29, 3) := by decide +kernel
theorem dX8_chosenOf_74 : decode cX8_chosenOf 74 = .ok (.getfield 194, 3) := by decide +kernel
theorem dX8_chosenOf_77 : decode cX8_chosenOf 77 = .ok (.iload 4, 2) := by decide +kernel
theorem dX8_chosenOf_79 : decode cX8_chosenOf 79 = .ok (.iaload, 1) := by decide +kernel
theorem dX8_chosenOf_80 : decode cX8_chosenOf 80 = .ok (.invokevirtual 267, 3) := by decide +kernel
theorem dX8_chosenOf_83 : decode cX8_chosenOf 83 = .ok (.istore 5, 2) := by decide +kernel
theorem dX8_chosenOf_85 : decode cX8_chosenOf 85 = .ok (.iload 5, 2) := by decide +kernel
theorem dX8_chosenOf_87 : decode cX8_chosenOf 87 = .ok (.iconst (-1), 1) := by decide +kernel
theorem dX8_chosenOf_88 : decode cX8_chosenOf 88 = .ok (.if_icmp .eq 9, 3) := by decide +kernel
theorem dX8_chosenOf_91 : decode cX8_chosenOf 91 = .ok (.iload 5, 2) := by decide +kernel
theorem dX8_chosenOf_93 : decode cX8_chosenOf 93 = .ok (.iload_n 3, 1) := by decide +kernel
theorem dX8_chosenOf_94 : decode cX8_chosenOf 94 = .ok (.if_icmp .ne 39, 3) := by decide +kernel
theorem dX8_chosenOf_97 : decode cX8_chosenOf 97 = .ok (.aload_n 0, 1) := by decide +kernel
theorem dX8_chosenOf_98 : decode cX8_chosenOf 98 = .ok (.iload_n 3, 1) := by decide +kernel
theorem dX8_chosenOf_99 : decode cX8_chosenOf 99 = .ok (.invokevirtual 211, 3) := by decide +kernel
theorem dX8_chosenOf_102 : decode cX8_chosenOf 102 = .ok (.aload_n 0, 1) := by decide +kernel
theorem dX8_chosenOf_103 : decode cX8_chosenOf 103 = .ok (.iload 4, 2) := by decide +kernel
theorem dX8_chosenOf_105 : decode cX8_chosenOf 105 = .ok (.invokevirtual 211, 3) := by decide +kernel
theorem dX8_chosenOf_108 : decode cX8_chosenOf 108 = .ok (.isub, 1) := by decide +kernel
theorem dX8_chosenOf_109 : decode cX8_chosenOf 109 = .ok (.invokestatic 341, 3) := by decide +kernel
theorem dX8_chosenOf_112 : decode cX8_chosenOf 112 = .ok (.istore 6, 2) := by decide +kernel
theorem dX8_chosenOf_114 : decode cX8_chosenOf 114 = .ok (.iload 6, 2) := by decide +kernel
theorem dX8_chosenOf_116 : decode cX8_chosenOf 116 = .ok (.aload_n 0, 1) := by decide +kernel
theorem dX8_chosenOf_117 : decode cX8_chosenOf 117 = .ok (.iload 4, 2) := by decide +kernel
theorem dX8_chosenOf_119 : decode cX8_chosenOf 119 = .ok (.invokevirtual 205, 3) := by decide +kernel
theorem dX8_chosenOf_122 : decode cX8_chosenOf 122 = .ok (.if_icmp .gt 8, 3) := by decide +kernel
theorem dX8_chosenOf_125 : decode cX8_chosenOf 125 = .ok (.iload 4, 2) := by decide +kernel
theorem dX8_chosenOf_127 : decode cX8_chosenOf 127 = .ok (.goto 5, 3) := by decide +kernel
theorem dX8_chosenOf_130 : decode cX8_chosenOf 130 = .ok (.bipush (-2), 2) := by decide +kernel
theorem dX8_chosenOf_132 : decode cX8_chosenOf 132 = .ok (.ireturn, 1) := by decide +kernel
theorem dX8_chosenOf_133 : decode cX8_chosenOf 133 = .ok (.aload_n 0, 1) := by decide +kernel
theorem dX8_chosenOf_134 : decode cX8_chosenOf 134 = .ok (.getfield 29, 3) := by decide +kernel
theorem dX8_chosenOf_137 : decode cX8_chosenOf 137 = .ok (.iload_n 1, 1) := by decide +kernel
theorem dX8_chosenOf_138 : decode cX8_chosenOf 138 = .ok (.iload_n 2, 1) := by decide +kernel
theorem dX8_chosenOf_139 : decode cX8_chosenOf 139 = .ok (.aload_n 0, 1) := by decide +kernel
theorem dX8_chosenOf_140 : decode cX8_chosenOf 140 = .ok (.getfield 29, 3) := by decide +kernel
theorem dX8_chosenOf_143 : decode cX8_chosenOf 143 = .ok (.getfield 194, 3) := by decide +kernel
theorem dX8_chosenOf_146 : decode cX8_chosenOf 146 = .ok (.iload 5, 2) := by decide +kernel
theorem dX8_chosenOf_148 : decode cX8_chosenOf 148 = .ok (.iaload, 1) := by decide +kernel
theorem dX8_chosenOf_149 : decode cX8_chosenOf 149 = .ok (.invokevirtual 267, 3) := by decide +kernel
theorem dX8_chosenOf_152 : decode cX8_chosenOf 152 = .ok (.istore 6, 2) := by decide +kernel
theorem dX8_chosenOf_154 : decode cX8_chosenOf 154 = .ok (.iload 6, 2) := by decide +kernel
theorem dX8_chosenOf_156 : decode cX8_chosenOf 156 = .ok (.iconst (-1), 1) := by decide +kernel
theorem dX8_chosenOf_157 : decode cX8_chosenOf 157 = .ok (.if_icmp .ne 6, 3) := by decide +kernel
theorem dX8_chosenOf_160 : decode cX8_chosenOf 160 = .ok (.bipush (-2), 2) := by decide +kernel
theorem dX8_chosenOf_162 : decode cX8_chosenOf 162 = .ok (.ireturn, 1) := by decide +kernel
theorem dX8_chosenOf_163 : decode cX8_chosenOf 163 = .ok (.aload_n 0, 1) := by decide +kernel
theorem dX8_chosenOf_164 : decode cX8_chosenOf 164 = .ok (.iload 6, 2) := by decide +kernel
theorem dX8_chosenOf_166 : decode cX8_chosenOf 166 = .ok (.invokevirtual 211, 3) := by decide +kernel
theorem dX8_chosenOf_169 : decode cX8_chosenOf 169 = .ok (.istore 7, 2) := by decide +kernel
theorem dX8_chosenOf_171 : decode cX8_chosenOf 171 = .ok (.aload_n 0, 1) := by decide +kernel
theorem dX8_chosenOf_172 : decode cX8_chosenOf 172 = .ok (.iload 5, 2) := by decide +kernel
theorem dX8_chosenOf_174 : decode cX8_chosenOf 174 = .ok (.invokevirtual 211, 3) := by decide +kernel
theorem dX8_chosenOf_177 : decode cX8_chosenOf 177 = .ok (.istore 8, 2) := by decide +kernel
theorem dX8_chosenOf_179 : decode cX8_chosenOf 179 = .ok (.iload 7, 2) := by decide +kernel
theorem dX8_chosenOf_181 : decode cX8_chosenOf 181 = .ok (.iload 8, 2) := by decide +kernel
theorem dX8_chosenOf_183 : decode cX8_chosenOf 183 = .ok (.aload_n 0, 1) := by decide +kernel
theorem dX8_chosenOf_184 : decode cX8_chosenOf 184 = .ok (.iload 4, 2) := by decide +kernel
theorem dX8_chosenOf_186 : decode cX8_chosenOf 186 = .ok (.invokevirtual 211, 3) := by decide +kernel
theorem dX8_chosenOf_189 : decode cX8_chosenOf 189 = .ok (.invokestatic 344, 3) := by decide +kernel
theorem dX8_chosenOf_192 : decode cX8_chosenOf 192 = .ok (.istore 9, 2) := by decide +kernel
theorem dX8_chosenOf_194 : decode cX8_chosenOf 194 = .ok (.iload 7, 2) := by decide +kernel
theorem dX8_chosenOf_196 : decode cX8_chosenOf 196 = .ok (.iload 9, 2) := by decide +kernel
theorem dX8_chosenOf_198 : decode cX8_chosenOf 198 = .ok (.if_icmp .ne 6, 3) := by decide +kernel
theorem dX8_chosenOf_201 : decode cX8_chosenOf 201 = .ok (.iload 6, 2) := by decide +kernel
theorem dX8_chosenOf_203 : decode cX8_chosenOf 203 = .ok (.ireturn, 1) := by decide +kernel
theorem dX8_chosenOf_204 : decode cX8_chosenOf 204 = .ok (.iload 8, 2) := by decide +kernel
theorem dX8_chosenOf_206 : decode cX8_chosenOf 206 = .ok (.iload 9, 2) := by decide +kernel
theorem dX8_chosenOf_208 : decode cX8_chosenOf 208 = .ok (.if_icmp .ne 8, 3) := by decide +kernel
theorem dX8_chosenOf_211 : decode cX8_chosenOf 211 = .ok (.iload 5, 2) := by decide +kernel
theorem dX8_chosenOf_213 : decode cX8_chosenOf 213 = .ok (.goto 5, 3) := by decide +kernel
theorem dX8_chosenOf_216 : decode cX8_chosenOf 216 = .ok (.iload 4, 2) := by decide +kernel
theorem dX8_chosenOf_218 : decode cX8_chosenOf 218 = .ok (.ireturn, 1) := by decide +kernel
theorem dX8_middleOf_0 : decode cX8_middleOf 0 = .ok (.iload_n 0, 1) := by decide +kernel
theorem dX8_middleOf_1 : decode cX8_middleOf 1 = .ok (.iload_n 1, 1) := by decide +kernel
theorem dX8_middleOf_2 : decode cX8_middleOf 2 = .ok (.invokestatic 347, 3) := by decide +kernel
theorem dX8_middleOf_5 : decode cX8_middleOf 5 = .ok (.iload_n 0, 1) := by decide +kernel
theorem dX8_middleOf_6 : decode cX8_middleOf 6 = .ok (.iload_n 1, 1) := by decide +kernel
theorem dX8_middleOf_7 : decode cX8_middleOf 7 = .ok (.invokestatic 333, 3) := by decide +kernel
theorem dX8_middleOf_10 : decode cX8_middleOf 10 = .ok (.iload_n 2, 1) := by decide +kernel
theorem dX8_middleOf_11 : decode cX8_middleOf 11 = .ok (.invokestatic 347, 3) := by decide +kernel
theorem dX8_middleOf_14 : decode cX8_middleOf 14 = .ok (.invokestatic 333, 3) := by decide +kernel
theorem dX8_middleOf_17 : decode cX8_middleOf 17 = .ok (.ireturn, 1) := by decide +kernel
