theorem dX7_init_0 : decode cX7_init 0 = .ok (.aload_n 0, 1) := by decide +kernel
theorem dX7_init_1 : decode cX7_init 1 = .ok (.invokespecial 3, 3) := by decide +kernel
theorem dX7_init_4 : decode cX7_init 4 = .ok (.aload_n 0, 1) := by decide +kernel
theorem dX7_init_5 : decode cX7_init 5 = .ok (.new 9, 3) := by decide +kernel
theorem dX7_init_8 : decode cX7_init 8 = .ok (.dup, 1) := by decide +kernel
theorem dX7_init_9 : decode cX7_init 9 = .ok (.invokespecial 11, 3) := by decide +kernel
theorem dX7_init_12 : decode cX7_init 12 = .ok (.putfield 12, 3) := by decide +kernel
theorem dX7_init_15 : decode cX7_init 15 = .ok (.aload_n 0, 1) := by decide +kernel
theorem dX7_init_16 : decode cX7_init 16 = .ok (.iconst 0, 1) := by decide +kernel
theorem dX7_init_17 : decode cX7_init 17 = .ok (.putfield 18, 3) := by decide +kernel
theorem dX7_init_20 : decode cX7_init 20 = .ok (.aload_n 0, 1) := by decide +kernel
theorem dX7_init_21 : decode cX7_init 21 = .ok (.bipush (-2), 2) := by decide +kernel
theorem dX7_init_23 : decode cX7_init 23 = .ok (.putfield 22, 3) := by decide +kernel
theorem dX7_init_26 : decode cX7_init 26 = .ok (.aload_n 0, 1) := by decide +kernel
theorem dX7_init_27 : decode cX7_init 27 = .ok (.iconst 0, 1) := by decide +kernel
theorem dX7_init_28 : decode cX7_init 28 = .ok (.putfield 25, 3) := by decide +kernel
theorem dX7_init_31 : decode cX7_init 31 = .ok (.aload_n 0, 1) := by decide +kernel
theorem dX7_init_32 : decode cX7_init 32 = .ok (.iconst 0, 1) := by decide +kernel
theorem dX7_init_33 : decode cX7_init 33 = .ok (.putfield 28, 3) := by decide +kernel
theorem dX7_init_36 : decode cX7_init 36 = .ok (.aload_n 0, 1) := by decide +kernel
theorem dX7_init_37 : decode cX7_init 37 = .ok (.iconst 0, 1) := by decide +kernel
theorem dX7_init_38 : decode cX7_init 38 = .ok (.putfield 31, 3) := by decide +kernel
theorem dX7_init_41 : decode cX7_init 41 = .ok (.aload_n 0, 1) := by decide +kernel
theorem dX7_init_42 : decode cX7_init 42 = .ok (.iconst 0, 1) := by decide +kernel
theorem dX7_init_43 : decode cX7_init 43 = .ok (.putfield 34, 3) := by decide +kernel
theorem dX7_init_46 : decode cX7_init 46 = .ok (.aload_n 0, 1) := by decide +kernel
theorem dX7_init_47 : decode cX7_init 47 = .ok (.iconst 0, 1) := by decide +kernel
theorem dX7_init_48 : decode cX7_init 48 = .ok (.putfield 37, 3) := by decide +kernel
theorem dX7_init_51 : decode cX7_init 51 = .ok (.return_, 1) := by decide +kernel
theorem dX7_readText_0 : decode cX7_readText 0 = .ok (.aload_n 0, 1) := by decide +kernel
theorem dX7_readText_1 : decode cX7_readText 1 = .ok (.getfield 12, 3) := by decide +kernel
theorem dX7_readText_4 : decode cX7_readText 4 = .ok (.invokevirtual 40, 3) := by decide +kernel
theorem dX7_readText_7 : decode cX7_readText 7 = .ok (.aload_n 1, 1) := by decide +kernel
theorem dX7_readText_8 : decode cX7_readText 8 = .ok (.invokevirtual 43, 3) := by decide +kernel
theorem dX7_readText_11 : decode cX7_readText 11 = .ok (.aload_n 0, 1) := by decide +kernel
theorem dX7_readText_12 : decode cX7_readText 12 = .ok (.iconst 0, 1) := by decide +kernel
theorem dX7_readText_13 : decode cX7_readText 13 = .ok (.putfield 18, 3) := by decide +kernel
theorem dX7_readText_16 : decode cX7_readText 16 = .ok (.aload_n 0, 1) := by decide +kernel
theorem dX7_readText_17 : decode cX7_readText 17 = .ok (.iconst 0, 1) := by decide +kernel
theorem dX7_readText_18 : decode cX7_readText 18 = .ok (.putfield 31, 3) := by decide +kernel
theorem dX7_readText_21 : decode cX7_readText 21 = .ok (.aload_n 0, 1) := by decide +kernel
theorem dX7_readText_22 : decode cX7_readText 22 = .ok (.iconst 0, 1) := by decide +kernel
theorem dX7_readText_23 : decode cX7_readText 23 = .ok (.putfield 34, 3) := by decide +kernel
theorem dX7_readText_26 : decode cX7_readText 26 = .ok (.aload_n 0, 1) := by decide +kernel
theorem dX7_readText_27 : decode cX7_readText 27 = .ok (.invokevirtual 48, 3) := by decide +kernel
theorem dX7_readText_30 : decode cX7_readText 30 = .ok (.aload_n 0, 1) := by decide +kernel
theorem dX7_readText_31 : decode cX7_readText 31 = .ok (.aload_n 1, 1) := by decide +kernel
theorem dX7_readText_32 : decode cX7_readText 32 = .ok (.invokevirtual 51, 3) := by decide +kernel
theorem dX7_readText_35 : decode cX7_readText 35 = .ok (.ifCond .eq 38, 3) := by decide +kernel
theorem dX7_readText_38 : decode cX7_readText 38 = .ok (.aload_n 0, 1) := by decide +kernel
theorem dX7_readText_39 : decode cX7_readText 39 = .ok (.aload_n 1, 1) := by decide +kernel
theorem dX7_readText_40 : decode cX7_readText 40 = .ok (.invokevirtual 55, 3) := by decide +kernel
theorem dX7_readText_43 : decode cX7_readText 43 = .ok (.ifCond .eq 30, 3) := by decide +kernel
theorem dX7_readText_46 : decode cX7_readText 46 = .ok (.aload_n 0, 1) := by decide +kernel
theorem dX7_readText_47 : decode cX7_readText 47 = .ok (.aload_n 1, 1) := by decide +kernel
theorem dX7_readText_48 : decode cX7_readText 48 = .ok (.invokevirtual 58, 3) := by decide +kernel
theorem dX7_readText_51 : decode cX7_readText 51 = .ok (.ifCond .eq 22, 3) := by decide +kernel
theorem dX7_readText_54 : decode cX7_readText 54 = .ok (.aload_n 0, 1) := by decide +kernel
theorem dX7_readText_55 : decode cX7_readText 55 = .ok (.aload_n 1, 1) := by decide +kernel
theorem dX7_readText_56 : decode cX7_readText 56 = .ok (.invokevirtual 61, 3) := by decide +kernel
theorem dX7_readText_59 : decode cX7_readText 59 = .ok (.ifCond .eq 14, 3) := by decide +kernel
theorem dX7_readText_62 : decode cX7_readText 62 = .ok (.aload_n 0, 1) := by decide +kernel
theorem dX7_readText_63 : decode cX7_readText 63 = .ok (.invokevirtual 64, 3) := by decide +kernel
theorem dX7_readText_66 : decode cX7_readText 66 = .ok (.ifCond .eq 7, 3) := by decide +kernel
theorem dX7_readText_69 : decode cX7_readText 69 = .ok (.iconst 1, 1) := by decide +kernel
theorem dX7_readText_70 : decode cX7_readText 70 = .ok (.goto 4, 3) := by decide +kernel
theorem dX7_readText_73 : decode cX7_readText 73 = .ok (.iconst 0, 1) := by decide +kernel
theorem dX7_readText_74 : decode cX7_readText 74 = .ok (.ireturn, 1) := by decide +kernel
theorem dX7_readShelves_0 : decode cX7_readShelves 0 = .ok (.aload_n 0, 1) := by decide +kernel
theorem dX7_readShelves_1 : decode cX7_readShelves 1 = .ok (.bipush (-5), 2) := by decide +kernel
theorem dX7_readShelves_3 : decode cX7_readShelves 3 = .ok (.invokevirtual 68, 3) := by decide +kernel
theorem dX7_readShelves_6 : decode cX7_readShelves 6 = .ok (.ifCond .eq 13, 3) := by decide +kernel
theorem dX7_readShelves_9 : decode cX7_readShelves 9 = .ok (.aload_n 0, 1) := by decide +kernel
theorem dX7_readShelves_10 : decode cX7_readShelves 10 = .ok (.iconst 1, 1) := by decide +kernel
theorem dX7_readShelves_11 : decode cX7_readShelves 11 = .ok (.bipush 6, 2) := by decide +kernel
theorem dX7_readShelves_13 : decode cX7_readShelves 13 = .ok (.invokevirtual 72, 3) := by decide +kernel
theorem dX7_readShelves_16 : decode cX7_readShelves 16 = .ok (.ifCond .ne 5, 3) := by decide +kernel
theorem dX7_readShelves_19 : decode cX7_readShelves 19 = .ok (.iconst 0, 1) := by decide +kernel
theorem dX7_readShelves_20 : decode cX7_readShelves 20 = .ok (.ireturn, 1) := by decide +kernel
theorem dX7_readShelves_21 : decode cX7_readShelves 21 = .ok (.aload_n 1, 1) := by decide +kernel
theorem dX7_readShelves_22 : decode cX7_readShelves 22 = .ok (.aload_n 0, 1) := by decide +kernel
theorem dX7_readShelves_23 : decode cX7_readShelves 23 = .ok (.getfield 28, 3) := by decide +kernel
theorem dX7_readShelves_26 : decode cX7_readShelves 26 = .ok (.putfield 76, 3) := by decide +kernel
theorem dX7_readShelves_29 : decode cX7_readShelves 29 = .ok (.aload_n 0, 1) := by decide +kernel
theorem dX7_readShelves_30 : decode cX7_readShelves 30 = .ok (.invokevirtual 79, 3) := by decide +kernel
theorem dX7_readShelves_33 : decode cX7_readShelves 33 = .ok (.ireturn, 1) := by decide +kernel
theorem dX7_readItems_0 : decode cX7_readItems 0 = .ok (.iconst 0, 1) := by decide +kernel
theorem dX7_readItems_1 : decode cX7_readItems 1 = .ok (.istore_n 2, 1) := by decide +kernel
theorem dX7_readItems_2 : decode cX7_readItems 2 = .ok (.iload_n 2, 1) := by decide +kernel
theorem dX7_readItems_3 : decode cX7_readItems 3 = .ok (.iconst 5, 1) := by decide +kernel
theorem dX7_readItems_4 : decode cX7_readItems 4 = .ok (.if_icmp .gt 42, 3) := by decide +kernel
theorem dX7_readItems_7 : decode cX7_readItems 7 = .ok (.aload_n 0, 1) := by decide +kernel
theorem dX7_readItems_8 : decode cX7_readItems 8 = .ok (.getfield 22, 3) := by decide +kernel
theorem dX7_readItems_11 : decode cX7_readItems 11 = .ok (.bipush (-6), 2) := by decide +kernel
theorem dX7_readItems_13 : decode cX7_readItems 13 = .ok (.if_icmp .ne 33, 3) := by decide +kernel
theorem dX7_readItems_16 : decode cX7_readItems 16 = .ok (.aload_n 1, 1) := by decide +kernel
theorem dX7_readItems_17 : decode cX7_readItems 17 = .ok (.getfield 82, 3) := by decide +kernel
theorem dX7_readItems_20 : decode cX7_readItems 20 = .ok (.iconst 5, 1) := by decide +kernel
theorem dX7_readItems_21 : decode cX7_readItems 21 = .ok (.if_icmp .lt 9, 3) := by decide +kernel
theorem dX7_readItems_24 : decode cX7_readItems 24 = .ok (.aload_n 0, 1) := by decide +kernel
theorem dX7_readItems_25 : decode cX7_readItems 25 = .ok (.iconst 3, 1) := by decide +kernel
theorem dX7_readItems_26 : decode cX7_readItems 26 = .ok (.invokevirtual 85, 3) := by decide +kernel
theorem dX7_readItems_29 : decode cX7_readItems 29 = .ok (.ireturn, 1) := by decide +kernel
theorem dX7_readItems_30 : decode cX7_readItems 30 = .ok (.aload_n 0, 1) := by decide +kernel
theorem dX7_readItems_31 : decode cX7_readItems 31 = .ok (.aload_n 1, 1) := by decide +kernel
theorem dX7_readItems_32 : decode cX7_readItems 32 = .ok (.invokevirtual 88, 3) := by decide +kernel
theorem dX7_readItems_35 : decode cX7_readItems 35 = .ok (.ifCond .ne 5, 3) := by decide +kernel
theorem dX7_readItems_38 : decode cX7_readItems 38 = .ok (.iconst 0, 1) := by decide +kernel
theorem dX7_readItems_39 : decode cX7_readItems 39 = .ok (.ireturn, 1) := by decide +kernel
theorem dX7_readItems_40 : decode cX7_readItems 40 = .ok (.iinc 2 1, 3) := by decide +kernel
theorem dX7_readItems_43 : decode cX7_readItems 43 = .ok (.goto (-41), 3) := by decide +kernel
theorem dX7_readItems_46 : decode cX7_readItems 46 = .ok (.iconst 1, 1) := by decide +kernel
theorem dX7_readItems_47 : decode cX7_readItems 47 = .ok (.ireturn, 1) := by decide +kernel
theorem dX7_readItem_0 : decode cX7_readItem 0 = .ok (.aload_n 0, 1) := by decide +kernel
theorem dX7_readItem_1 : decode cX7_readItem 1 = .ok (.bipush (-6), 2) := by decide +kernel
theorem dX7_readItem_3 : decode cX7_readItem 3 = .ok (.invokevirtual 68, 3) := by decide +kernel
theorem dX7_readItem_6 : decode cX7_readItem 6 = .ok (.ifCond .eq 13, 3) := by decide +kernel
theorem dX7_readItem_9 : decode cX7_readItem 9 = .ok (.aload_n 0, 1) := by decide +kernel
theorem dX7_readItem_10 : decode cX7_readItem 10 = .ok (.iconst 0, 1) := by decide +kernel
theorem dX7_readItem_11 : decode cX7_readItem 11 = .ok (.bipush 99, 2) := by decide +kernel
theorem dX7_readItem_13 : decode cX7_readItem 13 = .ok (.invokevirtual 72, 3) := by decide +kernel
theorem dX7_readItem_16 : decode cX7_readItem 16 = .ok (.ifCond .ne 5, 3) := by decide +kernel
theorem dX7_readItem_19 : decode cX7_readItem 19 = .ok (.iconst 0, 1) := by decide +kernel
theorem dX7_readItem_20 : decode cX7_readItem 20 = .ok (.ireturn, 1) := by decide +kernel
theorem dX7_readItem_21 : decode cX7_readItem 21 = .ok (.aload_n 0, 1) := by decide +kernel
theorem dX7_readItem_22 : decode cX7_readItem 22 = .ok (.getfield 28, 3) := by decide +kernel
theorem dX7_readItem_25 : decode cX7_readItem 25 = .ok (.istore_n 2, 1) := by decide +kernel
theorem dX7_readItem_26 : decode cX7_readItem 26 = .ok (.aload_n 0, 1) := by decide +kernel
theorem dX7_readItem_27 : decode cX7_readItem 27 = .ok (.iconst 0, 1) := by decide +kernel
theorem dX7_readItem_28 : decode cX7_readItem 28 = .ok (.bipush 99, 2) := by decide +kernel
theorem dX7_readItem_30 : decode cX7_readItem 30 = .ok (.invokevirtual 72, 3) := by decide +kernel
theorem dX7_readItem_33 : decode cX7_readItem 33 = .ok (.ifCond .ne 5, 3) := by decide +kernel
theorem dX7_readItem_36 : decode cX7_readItem 36 = .ok (.iconst 0, 1) := by decide +kernel
theorem dX7_readItem_37 : decode cX7_readItem 37 = .ok (.ireturn, 1) := by decide +kernel
theorem dX7_readItem_38 : decode cX7_readItem 38 = .ok (.aload_n 1, 1) := by decide +kernel
theorem dX7_readItem_39 : decode cX7_readItem 39 = .ok (.iload_n 2, 1) := by decide +kernel
theorem dX7_readItem_40 : decode cX7_readItem 40 = .ok (.aload_n 0, 1) := by decide +kernel
theorem dX7_readItem_41 : decode cX7_readItem 41 = .ok (.getfield 28, 3) := by decide +kernel
theorem dX7_readItem_44 : decode cX7_readItem 44 = .ok (.invokevirtual 91, 3) := by decide +kernel
theorem dX7_readItem_47 : decode cX7_readItem 47 = .ok (.aload_n 0, 1) := by decide +kernel
theorem dX7_readItem_48 : decode cX7_readItem 48 = .ok (.invokevirtual 79, 3) := by decide +kernel
theorem dX7_readItem_51 : decode cX7_readItem 51 = .ok (.ireturn, 1) := by decide +kernel
theorem dX7_readStocks_0 : decode cX7_readStocks 0 = .ok (.iconst 0, 1) := by decide +kernel
theorem dX7_readStocks_1 : decode cX7_readStocks 1 = .ok (.istore_n 2, 1) := by decide +kernel
theorem dX7_readStocks_2 : decode cX7_readStocks 2 = .ok (.iload_n 2, 1) := by decide +kernel
theorem dX7_readStocks_3 : decode cX7_readStocks 3 = .ok (.bipush 30, 2) := by decide +kernel
theorem dX7_readStocks_5 : decode cX7_readStocks 5 = .ok (.if_icmp .gt 28, 3) := by decide +kernel
theorem dX7_readStocks_8 : decode cX7_readStocks 8 = .ok (.aload_n 0, 1) := by decide +kernel
theorem dX7_readStocks_9 : decode cX7_readStocks 9 = .ok (.getfield 22, 3) := by decide +kernel
theorem dX7_readStocks_12 : decode cX7_readStocks 12 = .ok (.bipush (-7), 2) := by decide +kernel
theorem dX7_readStocks_14 : decode cX7_readStocks 14 = .ok (.if_icmp .ne 19, 3) := by decide +kernel
theorem dX7_readStocks_17 : decode cX7_readStocks 17 = .ok (.aload_n 0, 1) := by decide +kernel
theorem dX7_readStocks_18 : decode cX7_readStocks 18 = .ok (.aload_n 1, 1) := by decide +kernel
theorem dX7_readStocks_19 : decode cX7_readStocks 19 = .ok (.invokevirtual 95, 3) := by decide +kernel
theorem dX7_readStocks_22 : decode cX7_readStocks 22 = .ok (.ifCond .ne 5, 3) := by decide +kernel
theorem dX7_readStocks_25 : decode cX7_readStocks 25 = .ok (.iconst 0, 1) := by decide +kernel
theorem dX7_readStocks_26 : decode cX7_readStocks 26 = .ok (.ireturn, 1) := by decide +kernel
theorem dX7_readStocks_27 : decode cX7_readStocks 27 = .ok (.iinc 2 1, 3) := by decide +kernel
theorem dX7_readStocks_30 : decode cX7_readStocks 30 = .ok (.goto (-28), 3) := by decide +kernel
theorem dX7_readStocks_33 : decode cX7_readStocks 33 = .ok (.iconst 1, 1) := by decide +kernel
theorem dX7_readStocks_34 : decode cX7_readStocks 34 = .ok (.ireturn, 1) := by decide +kernel
theorem dX7_readStock_0 : decode cX7_readStock 0 = .ok (.aload_n 0, 1) := by decide +kernel
theorem dX7_readStock_1 : decode cX7_readStock 1 = .ok (.bipush (-7), 2) := by decide +kernel
theorem dX7_readStock_3 : decode cX7_readStock 3 = .ok (.invokevirtual 68, 3) := by decide +kernel
theorem dX7_readStock_6 : decode cX7_readStock 6 = .ok (.ifCond .eq 17, 3) := by decide +kernel
theorem dX7_readStock_9 : decode cX7_readStock 9 = .ok (.aload_n 0, 1) := by decide +kernel
theorem dX7_readStock_10 : decode cX7_readStock 10 = .ok (.iconst 0, 1) := by decide +kernel
theorem dX7_readStock_11 : decode cX7_readStock 11 = .ok (.aload_n 1, 1) := by decide +kernel
theorem dX7_readStock_12 : decode cX7_readStock 12 = .ok (.getfield 76, 3) := by decide +kernel
theorem dX7_readStock_15 : decode cX7_readStock 15 = .ok (.iconst 1, 1) := by decide +kernel
theorem dX7_readStock_16 : decode cX7_readStock 16 = .ok (.isub, 1) := by decide +kernel
theorem dX7_readStock_17 : decode cX7_readStock 17 = .ok (.invokevirtual 72, 3) := by decide +kernel
theorem dX7_readStock_20 : decode cX7_readStock 20 = .ok (.ifCond .ne 5, 3) := by decide +kernel
theorem dX7_readStock_23 : decode cX7_readStock 23 = .ok (.iconst 0, 1) := by decide +kernel
theorem dX7_readStock_24 : decode cX7_readStock 24 = .ok (.ireturn, 1) := by decide +kernel
theorem dX7_readStock_25 : decode cX7_readStock 25 = .ok (.aload_n 0, 1) := by decide +kernel
theorem dX7_readStock_26 : decode cX7_readStock 26 = .ok (.getfield 28, 3) := by decide +kernel
theorem dX7_readStock_29 : decode cX7_readStock 29 = .ok (.istore_n 2, 1) := by decide +kernel
theorem dX7_readStock_30 : decode cX7_readStock 30 = .ok (.aload_n 1, 1) := by decide +kernel
theorem dX7_readStock_31 : decode cX7_readStock 31 = .ok (.iload_n 2, 1) := by decide +kernel
theorem dX7_readStock_32 : decode cX7_readStock 32 = .ok (.aload_n 0, 1) := by decide +kernel
theorem dX7_readStock_33 : decode cX7_readStock 33 = .ok (.getfield 22, 3) := by decide +kernel
theorem dX7_readStock_36 : decode cX7_readStock 36 = .ok (.invokevirtual 98, 3) := by decide +kernel
theorem dX7_readStock_39 : decode cX7_readStock 39 = .ok (.ifCond .eq 9, 3) := by decide +kernel
theorem dX7_readStock_42 : decode cX7_readStock 42 = .ok (.aload_n 0, 1) := by decide +kernel
theorem dX7_readStock_43 : decode cX7_readStock 43 = .ok (.iconst 2, 1) := by decide +kernel
theorem dX7_readStock_44 : decode cX7_readStock 44 = .ok (.invokevirtual 85, 3) := by decide +kernel
theorem dX7_readStock_47 : decode cX7_readStock 47 = .ok (.ireturn, 1) := by decide +kernel
theorem dX7_readStock_48 : decode cX7_readStock 48 = .ok (.aload_n 0, 1) := by decide +kernel
theorem dX7_readStock_49 : decode cX7_readStock 49 = .ok (.iconst 0, 1) := by decide +kernel
theorem dX7_readStock_50 : decode cX7_readStock 50 = .ok (.aload_n 1, 1) := by decide +kernel
theorem dX7_readStock_51 : decode cX7_readStock 51 = .ok (.getfield 82, 3) := by decide +kernel
theorem dX7_readStock_54 : decode cX7_readStock 54 = .ok (.iconst 1, 1) := by decide +kernel
theorem dX7_readStock_55 : decode cX7_readStock 55 = .ok (.isub, 1) := by decide +kernel
theorem dX7_readStock_56 : decode cX7_readStock 56 = .ok (.invokevirtual 72, 3) := by decide +kernel
theorem dX7_readStock_59 : decode cX7_readStock 59 = .ok (.ifCond .ne 5, 3) := by decide +kernel
theorem dX7_readStock_62 : decode cX7_readStock 62 = .ok (.iconst 0, 1) := by decide +kernel
theorem dX7_readStock_63 : decode cX7_readStock 63 = .ok (.ireturn, 1) := by decide +kernel
theorem dX7_readStock_64 : decode cX7_readStock 64 = .ok (.aload_n 0, 1) := by decide +kernel
theorem dX7_readStock_65 : decode cX7_readStock 65 = .ok (.getfield 28, 3) := by decide +kernel
theorem dX7_readStock_68 : decode cX7_readStock 68 = .ok (.istore_n 3, 1) := by decide +kernel
theorem dX7_readStock_69 : decode cX7_readStock 69 = .ok (.aload_n 0, 1) := by decide +kernel
theorem dX7_readStock_70 : decode cX7_readStock 70 = .ok (.iconst 0, 1) := by decide +kernel
theorem dX7_readStock_71 : decode cX7_readStock 71 = .ok (.sipush 999, 3) := by decide +kernel
theorem dX7_readStock_74 : decode cX7_readStock 74 = .ok (.invokevirtual 72, 3) := by decide +kernel
theorem dX7_readStock_77 : decode cX7_readStock 77 = .ok (.ifCond .ne 5, 3) := by decide +kernel
theorem dX7_readStock_80 : decode cX7_readStock 80 = .ok (.iconst 0, 1) := by decide +kernel
theorem dX7_readStock_81 : decode cX7_readStock 81 = .ok (.ireturn, 1) := by decide +kernel
theorem dX7_readStock_82 : decode cX7_readStock 82 = .ok (.aload_n 1, 1) := by decide +kernel
theorem dX7_readStock_83 : decode cX7_readStock 83 = .ok (.iload_n 2, 1) := by decide +kernel
theorem dX7_readStock_84 : decode cX7_readStock 84 = .ok (.iload_n 3, 1) := by decide +kernel
theorem dX7_readStock_85 : decode cX7_readStock 85 = .ok (.aload_n 0, 1) := by decide +kernel
theorem dX7_readStock_86 : decode cX7_readStock 86 = .ok (.getfield 28, 3) := by decide +kernel
theorem dX7_readStock_89 : decode cX7_readStock 89 = .ok (.invokevirtual 101, 3) := by decide +kernel
theorem dX7_readStock_92 : decode cX7_readStock 92 = .ok (.aload_n 0, 1) := by decide +kernel
theorem dX7_readStock_93 : decode cX7_readStock 93 = .ok (.invokevirtual 79, 3) := by decide +kernel
theorem dX7_readStock_96 : decode cX7_readStock 96 = .ok (.ireturn, 1) := by decide +kernel
theorem dX7_readMoves_0 : decode cX7_readMoves 0 = .ok (.iconst 0, 1) := by decide +kernel
theorem dX7_readMoves_1 : decode cX7_readMoves 1 = .ok (.istore_n 2, 1) := by decide +kernel
theorem dX7_readMoves_2 : decode cX7_readMoves 2 = .ok (.iload_n 2, 1) := by decide +kernel
theorem dX7_readMoves_3 : decode cX7_readMoves 3 = .ok (.bipush 16, 2) := by decide +kernel
theorem dX7_readMoves_5 : decode cX7_readMoves 5 = .ok (.if_icmp .gt 43, 3) := by decide +kernel
theorem dX7_readMoves_8 : decode cX7_readMoves 8 = .ok (.aload_n 0, 1) := by decide +kernel
theorem dX7_readMoves_9 : decode cX7_readMoves 9 = .ok (.getfield 22, 3) := by decide +kernel
theorem dX7_readMoves_12 : decode cX7_readMoves 12 = .ok (.bipush (-8), 2) := by decide +kernel
theorem dX7_readMoves_14 : decode cX7_readMoves 14 = .ok (.if_icmp .ne 34, 3) := by decide +kernel
theorem dX7_readMoves_17 : decode cX7_readMoves 17 = .ok (.aload_n 1, 1) := by decide +kernel
theorem dX7_readMoves_18 : decode cX7_readMoves 18 = .ok (.getfield 105, 3) := by decide +kernel
theorem dX7_readMoves_21 : decode cX7_readMoves 21 = .ok (.bipush 16, 2) := by decide +kernel
theorem dX7_readMoves_23 : decode cX7_readMoves 23 = .ok (.if_icmp .lt 9, 3) := by decide +kernel
theorem dX7_readMoves_26 : decode cX7_readMoves 26 = .ok (.aload_n 0, 1) := by decide +kernel
theorem dX7_readMoves_27 : decode cX7_readMoves 27 = .ok (.iconst 3, 1) := by decide +kernel
theorem dX7_readMoves_28 : decode cX7_readMoves 28 = .ok (.invokevirtual 85, 3) := by decide +kernel
theorem dX7_readMoves_31 : decode cX7_readMoves 31 = .ok (.ireturn, 1) := by decide +kernel
theorem dX7_readMoves_32 : decode cX7_readMoves 32 = .ok (.aload_n 0, 1) := by decide +kernel
theorem dX7_readMoves_33 : decode cX7_readMoves 33 = .ok (.aload_n 1, 1) := by decide +kernel
theorem dX7_readMoves_34 : decode cX7_readMoves 34 = .ok (.invokevirtual 108, 3) := by decide +kernel
theorem dX7_readMoves_37 : decode cX7_readMoves 37 = .ok (.ifCond .ne 5, 3) := by decide +kernel
theorem dX7_readMoves_40 : decode cX7_readMoves 40 = .ok (.iconst 0, 1) := by decide +kernel
theorem dX7_readMoves_41 : decode cX7_readMoves 41 = .ok (.ireturn, 1) := by decide +kernel
theorem dX7_readMoves_42 : decode cX7_readMoves 42 = .ok (.iinc 2 1, 3) := by decide +kernel
theorem dX7_readMoves_45 : decode cX7_readMoves 45 = .ok (.goto (-43), 3) := by decide +kernel
theorem dX7_readMoves_48 : decode cX7_readMoves 48 = .ok (.iconst 1, 1) := by decide +kernel
theorem dX7_readMoves_49 : decode cX7_readMoves 49 = .ok (.ireturn, 1) := by decide +kernel
theorem dX7_readMove_0 : decode cX7_readMove 0 = .ok (.aload_n 0, 1) := by decide +kernel
theorem dX7_readMove_1 : decode cX7_readMove 1 = .ok (.bipush (-8), 2) := by decide +kernel
theorem dX7_readMove_3 : decode cX7_readMove 3 = .ok (.invokevirtual 68, 3) := by decide +kernel
theorem dX7_readMove_6 : decode cX7_readMove 6 = .ok (.ifCond .eq 17, 3) := by decide +kernel
theorem dX7_readMove_9 : decode cX7_readMove 9 = .ok (.aload_n 0, 1) := by decide +kernel
theorem dX7_readMove_10 : decode cX7_readMove 10 = .ok (.iconst 0, 1) := by decide +kernel
theorem dX7_readMove_11 : decode cX7_readMove 11 = .ok (.aload_n 1, 1) := by decide +kernel
theorem dX7_readMove_12 : decode cX7_readMove 12 = .ok (.getfield 82, 3) := by decide +kernel
theorem dX7_readMove_15 : decode cX7_readMove 15 = .ok (.iconst 1, 1) := by decide +kernel
theorem dX7_readMove_16 : decode cX7_readMove 16 = .ok (.isub, 1) := by decide +kernel
theorem dX7_readMove_17 : decode cX7_readMove 17 = .ok (.invokevirtual 72, 3) := by decide +kernel
theorem dX7_readMove_20 : decode cX7_readMove 20 = .ok (.ifCond .ne 5, 3) := by decide +kernel
theorem dX7_readMove_23 : decode cX7_readMove 23 = .ok (.iconst 0, 1) := by decide +kernel
theorem dX7_readMove_24 : decode cX7_readMove 24 = .ok (.ireturn, 1) := by decide +kernel
theorem dX7_readMove_25 : decode cX7_readMove 25 = .ok (.aload_n 0, 1) := by decide +kernel
theorem dX7_readMove_26 : decode cX7_readMove 26 = .ok (.getfield 28, 3) := by decide +kernel
theorem dX7_readMove_29 : decode cX7_readMove 29 = .ok (.istore_n 2, 1) := by decide +kernel
theorem dX7_readMove_30 : decode cX7_readMove 30 = .ok (.aload_n 0, 1) := by decide +kernel
theorem dX7_readMove_31 : decode cX7_readMove 31 = .ok (.iconst 1, 1) := by decide +kernel
theorem dX7_readMove_32 : decode cX7_readMove 32 = .ok (.bipush 99, 2) := by decide +kernel
theorem dX7_readMove_34 : decode cX7_readMove 34 = .ok (.invokevirtual 72, 3) := by decide +kernel
theorem dX7_readMove_37 : decode cX7_readMove 37 = .ok (.ifCond .ne 5, 3) := by decide +kernel
theorem dX7_readMove_40 : decode cX7_readMove 40 = .ok (.iconst 0, 1) := by decide +kernel
theorem dX7_readMove_41 : decode cX7_readMove 41 = .ok (.ireturn, 1) := by decide +kernel
theorem dX7_readMove_42 : decode cX7_readMove 42 = .ok (.aload_n 1, 1) := by decide +kernel
theorem dX7_readMove_43 : decode cX7_readMove 43 = .ok (.iload_n 2, 1) := by decide +kernel
theorem dX7_readMove_44 : decode cX7_readMove 44 = .ok (.aload_n 0, 1) := by decide +kernel
theorem dX7_readMove_45 : decode cX7_readMove 45 = .ok (.getfield 28, 3) := by decide +kernel
theorem dX7_readMove_48 : decode cX7_readMove 48 = .ok (.invokevirtual 111, 3) := by decide +kernel
theorem dX7_readMove_51 : decode cX7_readMove 51 = .ok (.istore_n 3, 1) := by decide +kernel
theorem dX7_readMove_52 : decode cX7_readMove 52 = .ok (.aload_n 0, 1) := by decide +kernel
theorem dX7_readMove_53 : decode cX7_readMove 53 = .ok (.getfield 22, 3) := by decide +kernel
theorem dX7_readMove_56 : decode cX7_readMove 56 = .ok (.bipush (-9), 2) := by decide +kernel
theorem dX7_readMove_58 : decode cX7_readMove 58 = .ok (.if_icmp .ne 20, 3) := by decide +kernel
theorem dX7_readMove_61 : decode cX7_readMove 61 = .ok (.aload_n 0, 1) := by decide +kernel
theorem dX7_readMove_62 : decode cX7_readMove 62 = .ok (.aload_n 1, 1) := by decide +kernel
theorem dX7_readMove_63 : decode cX7_readMove 63 = .ok (.bipush (-9), 2) := by decide +kernel
theorem dX7_readMove_65 : decode cX7_readMove 65 = .ok (.iload_n 3, 1) := by decide +kernel
theorem dX7_readMove_66 : decode cX7_readMove 66 = .ok (.iconst 0, 1) := by decide +kernel
theorem dX7_readMove_67 : decode cX7_readMove 67 = .ok (.invokestatic 115, 3) := by decide +kernel
theorem dX7_readMove_70 : decode cX7_readMove 70 = .ok (.invokevirtual 118, 3) := by decide +kernel
theorem dX7_readMove_73 : decode cX7_readMove 73 = .ok (.ifCond .ne 5, 3) := by decide +kernel
theorem dX7_readMove_76 : decode cX7_readMove 76 = .ok (.iconst 0, 1) := by decide +kernel
theorem dX7_readMove_77 : decode cX7_readMove 77 = .ok (.ireturn, 1) := by decide +kernel
theorem dX7_readMove_78 : decode cX7_readMove 78 = .ok (.aload_n 0, 1) := by decide +kernel
theorem dX7_readMove_79 : decode cX7_readMove 79 = .ok (.getfield 22, 3) := by decide +kernel
theorem dX7_readMove_82 : decode cX7_readMove 82 = .ok (.bipush (-10), 2) := by decide +kernel
theorem dX7_readMove_84 : decode cX7_readMove 84 = .ok (.if_icmp .ne 20, 3) := by decide +kernel
theorem dX7_readMove_87 : decode cX7_readMove 87 = .ok (.aload_n 0, 1) := by decide +kernel
theorem dX7_readMove_88 : decode cX7_readMove 88 = .ok (.aload_n 1, 1) := by decide +kernel
theorem dX7_readMove_89 : decode cX7_readMove 89 = .ok (.bipush (-10), 2) := by decide +kernel
theorem dX7_readMove_91 : decode cX7_readMove 91 = .ok (.iload_n 3, 1) := by decide +kernel
theorem dX7_readMove_92 : decode cX7_readMove 92 = .ok (.iconst 1, 1) := by decide +kernel
theorem dX7_readMove_93 : decode cX7_readMove 93 = .ok (.invokestatic 115, 3) := by decide +kernel
theorem dX7_readMove_96 : decode cX7_readMove 96 = .ok (.invokevirtual 118, 3) := by decide +kernel
theorem dX7_readMove_99 : decode cX7_readMove 99 = .ok (.ifCond .ne 5, 3) := by decide +kernel
theorem dX7_readMove_102 : decode cX7_readMove 102 = .ok (.iconst 0, 1) := by decide +kernel
theorem dX7_readMove_103 : decode cX7_readMove 103 = .ok (.ireturn, 1) := by decide +kernel
theorem dX7_readMove_104 : decode cX7_readMove 104 = .ok (.aload_n 0, 1) := by decide +kernel
theorem dX7_readMove_105 : decode cX7_readMove 105 = .ok (.invokevirtual 79, 3) := by decide +kernel
theorem dX7_readMove_108 : decode cX7_readMove 108 = .ok (.ireturn, 1) := by decide +kernel
theorem dX7_readLeg_0 : decode cX7_readLeg 0 = .ok (.aload_n 0, 1) := by decide +kernel
theorem dX7_readLeg_1 : decode cX7_readLeg 1 = .ok (.iload_n 2, 1) := by decide +kernel
theorem dX7_readLeg_2 : decode cX7_readLeg 2 = .ok (.invokevirtual 68, 3) := by decide +kernel
theorem dX7_readLeg_5 : decode cX7_readLeg 5 = .ok (.ifCond .eq 17, 3) := by decide +kernel
theorem dX7_readLeg_8 : decode cX7_readLeg 8 = .ok (.aload_n 0, 1) := by decide +kernel
theorem dX7_readLeg_9 : decode cX7_readLeg 9 = .ok (.iconst 0, 1) := by decide +kernel
theorem dX7_readLeg_10 : decode cX7_readLeg 10 = .ok (.aload_n 1, 1) := by decide +kernel
theorem dX7_readLeg_11 : decode cX7_readLeg 11 = .ok (.getfield 76, 3) := by decide +kernel
theorem dX7_readLeg_14 : decode cX7_readLeg 14 = .ok (.iconst 1, 1) := by decide +kernel
theorem dX7_readLeg_15 : decode cX7_readLeg 15 = .ok (.isub, 1) := by decide +kernel
theorem dX7_readLeg_16 : decode cX7_readLeg 16 = .ok (.invokevirtual 72, 3) := by decide +kernel
theorem dX7_readLeg_19 : decode cX7_readLeg 19 = .ok (.ifCond .ne 5, 3) := by decide +kernel
theorem dX7_readLeg_22 : decode cX7_readLeg 22 = .ok (.iconst 0, 1) := by decide +kernel
theorem dX7_readLeg_23 : decode cX7_readLeg 23 = .ok (.ireturn, 1) := by decide +kernel
theorem dX7_readLeg_24 : decode cX7_readLeg 24 = .ok (.aload_n 0, 1) := by decide +kernel
theorem dX7_readLeg_25 : decode cX7_readLeg 25 = .ok (.getfield 28, 3) := by decide +kernel
theorem dX7_readLeg_28 : decode cX7_readLeg 28 = .ok (.istore 4, 2) := by decide +kernel
theorem dX7_readLeg_30 : decode cX7_readLeg 30 = .ok (.aload_n 0, 1) := by decide +kernel
theorem dX7_readLeg_31 : decode cX7_readLeg 31 = .ok (.iconst 0, 1) := by decide +kernel
theorem dX7_readLeg_32 : decode cX7_readLeg 32 = .ok (.sipush 999, 3) := by decide +kernel
theorem dX7_readLeg_35 : decode cX7_readLeg 35 = .ok (.invokevirtual 72, 3) := by decide +kernel
theorem dX7_readLeg_38 : decode cX7_readLeg 38 = .ok (.ifCond .ne 5, 3) := by decide +kernel
theorem dX7_readLeg_41 : decode cX7_readLeg 41 = .ok (.iconst 0, 1) := by decide +kernel
theorem dX7_readLeg_42 : decode cX7_readLeg 42 = .ok (.ireturn, 1) := by decide +kernel
theorem dX7_readLeg_43 : decode cX7_readLeg 43 = .ok (.aload_n 0, 1) := by decide +kernel
theorem dX7_readLeg_44 : decode cX7_readLeg 44 = .ok (.getfield 28, 3) := by decide +kernel
theorem dX7_readLeg_47 : decode cX7_readLeg 47 = .ok (.istore 5, 2) := by decide +kernel
theorem dX7_readLeg_49 : decode cX7_readLeg 49 = .ok (.aload_n 0, 1) := by decide +kernel
theorem dX7_readLeg_50 : decode cX7_readLeg 50 = .ok (.iload 5, 2) := by decide +kernel
theorem dX7_readLeg_52 : decode cX7_readLeg 52 = .ok (.sipush 999, 3) := by decide +kernel
theorem dX7_readLeg_55 : decode cX7_readLeg 55 = .ok (.invokevirtual 72, 3) := by decide +kernel
theorem dX7_readLeg_58 : decode cX7_readLeg 58 = .ok (.ifCond .ne 5, 3) := by decide +kernel
theorem dX7_readLeg_61 : decode cX7_readLeg 61 = .ok (.iconst 0, 1) := by decide +kernel
theorem dX7_readLeg_62 : decode cX7_readLeg 62 = .ok (.ireturn, 1) := by decide +kernel
theorem dX7_readLeg_63 : decode cX7_readLeg 63 = .ok (.aload_n 1, 1) := by decide +kernel
theorem dX7_readLeg_64 : decode cX7_readLeg 64 = .ok (.iload_n 3, 1) := by decide +kernel
theorem dX7_readLeg_65 : decode cX7_readLeg 65 = .ok (.iload 4, 2) := by decide +kernel
theorem dX7_readLeg_67 : decode cX7_readLeg 67 = .ok (.iload 5, 2) := by decide +kernel
theorem dX7_readLeg_69 : decode cX7_readLeg 69 = .ok (.aload_n 0, 1) := by decide +kernel
theorem dX7_readLeg_70 : decode cX7_readLeg 70 = .ok (.getfield 28, 3) := by decide +kernel
theorem dX7_readLeg_73 : decode cX7_readLeg 73 = .ok (.invokevirtual 122, 3) := by decide +kernel
theorem dX7_readLeg_76 : decode cX7_readLeg 76 = .ok (.iconst 1, 1) := by decide +kernel
theorem dX7_readLeg_77 : decode cX7_readLeg 77 = .ok (.ireturn, 1) := by decide +kernel
theorem dX7_readEnd_0 : decode cX7_readEnd 0 = .ok (.aload_n 0, 1) := by decide +kernel
theorem dX7_readEnd_1 : decode cX7_readEnd 1 = .ok (.getfield 22, 3) := by decide +kernel
theorem dX7_readEnd_4 : decode cX7_readEnd 4 = .ok (.bipush (-2), 2) := by decide +kernel
theorem dX7_readEnd_6 : decode cX7_readEnd 6 = .ok (.if_icmp .ne 16, 3) := by decide +kernel
theorem dX7_readEnd_9 : decode cX7_readEnd 9 = .ok (.aload_n 0, 1) := by decide +kernel
theorem dX7_readEnd_10 : decode cX7_readEnd 10 = .ok (.getfield 12, 3) := by decide +kernel
theorem dX7_readEnd_13 : decode cX7_readEnd 13 = .ok (.getfield 126, 3) := by decide +kernel
theorem dX7_readEnd_16 : decode cX7_readEnd 16 = .ok (.sipush 600, 3) := by decide +kernel
theorem dX7_readEnd_19 : decode cX7_readEnd 19 = .ok (.if_icmp .le 11, 3) := by decide +kernel
theorem dX7_readEnd_22 : decode cX7_readEnd 22 = .ok (.aload_n 0, 1) := by decide +kernel
theorem dX7_readEnd_23 : decode cX7_readEnd 23 = .ok (.iconst 1, 1) := by decide +kernel
theorem dX7_readEnd_24 : decode cX7_readEnd 24 = .ok (.invokevirtual 85, 3) := by decide +kernel
theorem dX7_readEnd_27 : decode cX7_readEnd 27 = .ok (.ifCond .eq 7, 3) := by decide +kernel
theorem dX7_readEnd_30 : decode cX7_readEnd 30 = .ok (.iconst 1, 1) := by decide +kernel
theorem dX7_readEnd_31 : decode cX7_readEnd 31 = .ok (.goto 4, 3) := by decide +kernel
theorem dX7_readEnd_34 : decode cX7_readEnd 34 = .ok (.iconst 0, 1) := by decide +kernel
theorem dX7_readEnd_35 : decode cX7_readEnd 35 = .ok (.ireturn, 1) := by decide +kernel
theorem dX7_takeLineEnd_0 : decode cX7_takeLineEnd 0 = .ok (.aload_n 0, 1) := by decide +kernel
theorem dX7_takeLineEnd_1 : decode cX7_takeLineEnd 1 = .ok (.dup, 1) := by decide +kernel
theorem dX7_takeLineEnd_2 : decode cX7_takeLineEnd 2 = .ok (.getfield 31, 3) := by decide +kernel
theorem dX7_takeLineEnd_5 : decode cX7_takeLineEnd 5 = .ok (.iconst 1, 1) := by decide +kernel
theorem dX7_takeLineEnd_6 : decode cX7_takeLineEnd 6 = .ok (.iadd, 1) := by decide +kernel
theorem dX7_takeLineEnd_7 : decode cX7_takeLineEnd 7 = .ok (.putfield 31, 3) := by decide +kernel
theorem dX7_takeLineEnd_10 : decode cX7_takeLineEnd 10 = .ok (.aload_n 0, 1) := by decide +kernel
theorem dX7_takeLineEnd_11 : decode cX7_takeLineEnd 11 = .ok (.bipush (-3), 2) := by decide +kernel
theorem dX7_takeLineEnd_13 : decode cX7_takeLineEnd 13 = .ok (.invokevirtual 68, 3) := by decide +kernel
theorem dX7_takeLineEnd_16 : decode cX7_takeLineEnd 16 = .ok (.ireturn, 1) := by decide +kernel
theorem dX7_take_0 : decode cX7_take 0 = .ok (.aload_n 0, 1) := by decide +kernel
theorem dX7_take_1 : decode cX7_take 1 = .ok (.getfield 22, 3) := by decide +kernel
theorem dX7_take_4 : decode cX7_take 4 = .ok (.iload_n 1, 1) := by decide +kernel
theorem dX7_take_5 : decode cX7_take 5 = .ok (.if_icmp .eq 9, 3) := by decide +kernel
theorem dX7_take_8 : decode cX7_take 8 = .ok (.aload_n 0, 1) := by decide +kernel
theorem dX7_take_9 : decode cX7_take 9 = .ok (.iconst 1, 1) := by decide +kernel
theorem dX7_take_10 : decode cX7_take 10 = .ok (.invokevirtual 85, 3) := by decide +kernel
theorem dX7_take_13 : decode cX7_take 13 = .ok (.ireturn, 1) := by decide +kernel
theorem dX7_take_14 : decode cX7_take 14 = .ok (.aload_n 0, 1) := by decide +kernel
theorem dX7_take_15 : decode cX7_take 15 = .ok (.invokevirtual 48, 3) := by decide +kernel
theorem dX7_take_18 : decode cX7_take 18 = .ok (.iconst 1, 1) := by decide +kernel
theorem dX7_take_19 : decode cX7_take 19 = .ok (.ireturn, 1) := by decide +kernel
theorem dX7_takeNumber_0 : decode cX7_takeNumber 0 = .ok (.aload_n 0, 1) := by decide +kernel
theorem dX7_takeNumber_1 : decode cX7_takeNumber 1 = .ok (.getfield 22, 3) := by decide +kernel
theorem dX7_takeNumber_4 : decode cX7_takeNumber 4 = .ok (.ifCond .ge 9, 3) := by decide +kernel
theorem dX7_takeNumber_7 : decode cX7_takeNumber 7 = .ok (.aload_n 0, 1) := by decide +kernel
theorem dX7_takeNumber_8 : decode cX7_takeNumber 8 = .ok (.iconst 1, 1) := by decide +kernel
theorem dX7_takeNumber_9 : decode cX7_takeNumber 9 = .ok (.invokevirtual 85, 3) := by decide +kernel
theorem dX7_takeNumber_12 : decode cX7_takeNumber 12 = .ok (.ireturn, 1) := by decide +kernel
theorem dX7_takeNumber_13 : decode cX7_takeNumber 13 = .ok (.aload_n 0, 1) := by decide +kernel
theorem dX7_takeNumber_14 : decode cX7_takeNumber 14 = .ok (.getfield 22, 3) := by decide +kernel
theorem dX7_takeNumber_17 : decode cX7_takeNumber 17 = .ok (.iload_n 1, 1) := by decide +kernel
theorem dX7_takeNumber_18 : decode cX7_takeNumber 18 = .ok (.if_icmp .lt 11, 3) := by decide +kernel
theorem dX7_takeNumber_21 : decode cX7_takeNumber 21 = .ok (.aload_n 0, 1) := by decide +kernel
theorem dX7_takeNumber_22 : decode cX7_takeNumber 22 = .ok (.getfield 22, 3) := by decide +kernel
theorem dX7_takeNumber_25 : decode cX7_takeNumber 25 = .ok (.iload_n 2, 1) := by decide +kernel
theorem dX7_takeNumber_26 : decode cX7_takeNumber 26 = .ok (.if_icmp .le 9, 3) := by decide +kernel
theorem dX7_takeNumber_29 : decode cX7_takeNumber 29 = .ok (.aload_n 0, 1) := by decide +kernel
theorem dX7_takeNumber_30 : decode cX7_takeNumber 30 = .ok (.iconst 2, 1) := by decide +kernel
theorem dX7_takeNumber_31 : decode cX7_takeNumber 31 = .ok (.invokevirtual 85, 3) := by decide +kernel
theorem dX7_takeNumber_34 : decode cX7_takeNumber 34 = .ok (.ireturn, 1) := by decide +kernel
theorem dX7_takeNumber_35 : decode cX7_takeNumber 35 = .ok (.aload_n 0, 1) := by decide +kernel
theorem dX7_takeNumber_36 : decode cX7_takeNumber 36 = .ok (.aload_n 0, 1) := by decide +kernel
theorem dX7_takeNumber_37 : decode cX7_takeNumber 37 = .ok (.getfield 22, 3) := by decide +kernel
theorem dX7_takeNumber_40 : decode cX7_takeNumber 40 = .ok (.putfield 28, 3) := by decide +kernel
theorem dX7_takeNumber_43 : decode cX7_takeNumber 43 = .ok (.aload_n 0, 1) := by decide +kernel
theorem dX7_takeNumber_44 : decode cX7_takeNumber 44 = .ok (.invokevirtual 48, 3) := by decide +kernel
theorem dX7_takeNumber_47 : decode cX7_takeNumber 47 = .ok (.iconst 1, 1) := by decide +kernel
theorem dX7_takeNumber_48 : decode cX7_takeNumber 48 = .ok (.ireturn, 1) := by decide +kernel
theorem dX7_advance_0 : decode cX7_advance 0 = .ok (.aload_n 0, 1) := by decide +kernel
theorem dX7_advance_1 : decode cX7_advance 1 = .ok (.getfield 18, 3) := by decide +kernel
theorem dX7_advance_4 : decode cX7_advance 4 = .ok (.aload_n 0, 1) := by decide +kernel
theorem dX7_advance_5 : decode cX7_advance 5 = .ok (.getfield 12, 3) := by decide +kernel
theorem dX7_advance_8 : decode cX7_advance 8 = .ok (.getfield 129, 3) := by decide +kernel
theorem dX7_advance_11 : decode cX7_advance 11 = .ok (.if_icmp .ge 60, 3) := by decide +kernel
theorem dX7_advance_14 : decode cX7_advance 14 = .ok (.aload_n 0, 1) := by decide +kernel
theorem dX7_advance_15 : decode cX7_advance 15 = .ok (.getfield 18, 3) := by decide +kernel
theorem dX7_advance_18 : decode cX7_advance 18 = .ok (.aload_n 0, 1) := by decide +kernel
theorem dX7_advance_19 : decode cX7_advance 19 = .ok (.getfield 12, 3) := by decide +kernel
theorem dX7_advance_22 : decode cX7_advance 22 = .ok (.getfield 132, 3) := by decide +kernel
theorem dX7_advance_25 : decode cX7_advance 25 = .ok (.arraylength, 1) := by decide +kernel
theorem dX7_advance_26 : decode cX7_advance 26 = .ok (.if_icmp .ge 45, 3) := by decide +kernel
theorem dX7_advance_29 : decode cX7_advance 29 = .ok (.aload_n 0, 1) := by decide +kernel
theorem dX7_advance_30 : decode cX7_advance 30 = .ok (.aload_n 0, 1) := by decide +kernel
theorem dX7_advance_31 : decode cX7_advance 31 = .ok (.getfield 12, 3) := by decide +kernel
theorem dX7_advance_34 : decode cX7_advance 34 = .ok (.getfield 132, 3) := by decide +kernel
theorem dX7_advance_37 : decode cX7_advance 37 = .ok (.aload_n 0, 1) := by decide +kernel
theorem dX7_advance_38 : decode cX7_advance 38 = .ok (.getfield 18, 3) := by decide +kernel
theorem dX7_advance_41 : decode cX7_advance 41 = .ok (.iaload, 1) := by decide +kernel
theorem dX7_advance_42 : decode cX7_advance 42 = .ok (.putfield 22, 3) := by decide +kernel
theorem dX7_advance_45 : decode cX7_advance 45 = .ok (.aload_n 0, 1) := by decide +kernel
theorem dX7_advance_46 : decode cX7_advance 46 = .ok (.aload_n 0, 1) := by decide +kernel
theorem dX7_advance_47 : decode cX7_advance 47 = .ok (.getfield 12, 3) := by decide +kernel
theorem dX7_advance_50 : decode cX7_advance 50 = .ok (.getfield 136, 3) := by decide +kernel
theorem dX7_advance_53 : decode cX7_advance 53 = .ok (.aload_n 0, 1) := by decide +kernel
theorem dX7_advance_54 : decode cX7_advance 54 = .ok (.getfield 18, 3) := by decide +kernel
theorem dX7_advance_57 : decode cX7_advance 57 = .ok (.iaload, 1) := by decide +kernel
theorem dX7_advance_58 : decode cX7_advance 58 = .ok (.putfield 25, 3) := by decide +kernel
theorem dX7_advance_61 : decode cX7_advance 61 = .ok (.aload_n 0, 1) := by decide +kernel
theorem dX7_advance_62 : decode cX7_advance 62 = .ok (.dup, 1) := by decide +kernel
theorem dX7_advance_63 : decode cX7_advance 63 = .ok (.getfield 18, 3) := by decide +kernel
theorem dX7_advance_66 : decode cX7_advance 66 = .ok (.iconst 1, 1) := by decide +kernel
theorem dX7_advance_67 : decode cX7_advance 67 = .ok (.iadd, 1) := by decide +kernel
theorem dX7_advance_68 : decode cX7_advance 68 = .ok (.putfield 18, 3) := by decide +kernel
theorem dX7_advance_71 : decode cX7_advance 71 = .ok (.return_, 1) := by decide +kernel
theorem dX7_fail_0 : decode cX7_fail 0 = .ok (.aload_n 0, 1) := by decide +kernel
theorem dX7_fail_1 : decode cX7_fail 1 = .ok (.iload_n 1, 1) := by decide +kernel
theorem dX7_fail_2 : decode cX7_fail 2 = .ok (.putfield 34, 3) := by decide +kernel
theorem dX7_fail_5 : decode cX7_fail 5 = .ok (.aload_n 0, 1) := by decide +kernel
theorem dX7_fail_6 : decode cX7_fail 6 = .ok (.aload_n 0, 1) := by decide +kernel
theorem dX7_fail_7 : decode cX7_fail 7 = .ok (.getfield 25, 3) := by decide +kernel
theorem dX7_fail_10 : decode cX7_fail 10 = .ok (.putfield 37, 3) := by decide +kernel
theorem dX7_fail_13 : decode cX7_fail 13 = .ok (.iconst 0, 1) := by decide +kernel
theorem dX7_fail_14 : decode cX7_fail 14 = .ok (.ireturn, 1) := by decide +kernel
