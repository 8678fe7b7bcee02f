theorem dX1_copy_0 : decode cX1_copy 0 = .ok (.aload_n 0, 1) := by decide +kernel
theorem dX1_copy_1 : decode cX1_copy 1 = .ok (.aload_n 1, 1) := by decide +kernel
theorem dX1_copy_10 : decode cX1_copy 10 = .ok (.getfield 15, 3) := by decide +kernel
theorem dX1_copy_102 : decode cX1_copy 102 = .ok (.iconst 0, 1) := by decide +kernel
theorem dX1_copy_103 : decode cX1_copy 103 = .ok (.iconst 4, 1) := by decide +kernel
theorem dX1_copy_104 : decode cX1_copy 104 = .ok (.invokestatic 61, 3) := by decide +kernel
theorem dX1_copy_107 : decode cX1_copy 107 = .ok (.return_, 1) := by decide +kernel
theorem dX1_copy_13 : decode cX1_copy 13 = .ok (.putfield 15, 3) := by decide +kernel
theorem dX1_copy_16 : decode cX1_copy 16 = .ok (.aload_n 0, 1) := by decide +kernel
theorem dX1_copy_17 : decode cX1_copy 17 = .ok (.aload_n 1, 1) := by decide +kernel
theorem dX1_copy_18 : decode cX1_copy 18 = .ok (.getfield 18, 3) := by decide +kernel
theorem dX1_copy_2 : decode cX1_copy 2 = .ok (.getfield 9, 3) := by decide +kernel
theorem dX1_copy_21 : decode cX1_copy 21 = .ok (.putfield 18, 3) := by decide +kernel
theorem dX1_copy_24 : decode cX1_copy 24 = .ok (.aload_n 0, 1) := by decide +kernel
theorem dX1_copy_25 : decode cX1_copy 25 = .ok (.aload_n 1, 1) := by decide +kernel
theorem dX1_copy_26 : decode cX1_copy 26 = .ok (.getfield 21, 3) := by decide +kernel
theorem dX1_copy_29 : decode cX1_copy 29 = .ok (.putfield 21, 3) := by decide +kernel
theorem dX1_copy_32 : decode cX1_copy 32 = .ok (.aload_n 0, 1) := by decide +kernel
theorem dX1_copy_33 : decode cX1_copy 33 = .ok (.aload_n 1, 1) := by decide +kernel
theorem dX1_copy_34 : decode cX1_copy 34 = .ok (.getfield 24, 3) := by decide +kernel
theorem dX1_copy_37 : decode cX1_copy 37 = .ok (.putfield 24, 3) := by decide +kernel
theorem dX1_copy_40 : decode cX1_copy 40 = .ok (.aload_n 0, 1) := by decide +kernel
theorem dX1_copy_41 : decode cX1_copy 41 = .ok (.aload_n 1, 1) := by decide +kernel
theorem dX1_copy_42 : decode cX1_copy 42 = .ok (.getfield 27, 3) := by decide +kernel
theorem dX1_copy_45 : decode cX1_copy 45 = .ok (.putfield 27, 3) := by decide +kernel
theorem dX1_copy_48 : decode cX1_copy 48 = .ok (.aload_n 0, 1) := by decide +kernel
theorem dX1_copy_49 : decode cX1_copy 49 = .ok (.aload_n 1, 1) := by decide +kernel
theorem dX1_copy_5 : decode cX1_copy 5 = .ok (.putfield 9, 3) := by decide +kernel
theorem dX1_copy_50 : decode cX1_copy 50 = .ok (.getfield 30, 3) := by decide +kernel
theorem dX1_copy_53 : decode cX1_copy 53 = .ok (.putfield 30, 3) := by decide +kernel
theorem dX1_copy_56 : decode cX1_copy 56 = .ok (.aload_n 0, 1) := by decide +kernel
theorem dX1_copy_57 : decode cX1_copy 57 = .ok (.aload_n 1, 1) := by decide +kernel
theorem dX1_copy_58 : decode cX1_copy 58 = .ok (.getfield 33, 3) := by decide +kernel
theorem dX1_copy_61 : decode cX1_copy 61 = .ok (.putfield 33, 3) := by decide +kernel
theorem dX1_copy_64 : decode cX1_copy 64 = .ok (.aload_n 1, 1) := by decide +kernel
theorem dX1_copy_65 : decode cX1_copy 65 = .ok (.getfield 36, 3) := by decide +kernel
theorem dX1_copy_68 : decode cX1_copy 68 = .ok (.iconst 0, 1) := by decide +kernel
theorem dX1_copy_69 : decode cX1_copy 69 = .ok (.aload_n 0, 1) := by decide +kernel
theorem dX1_copy_70 : decode cX1_copy 70 = .ok (.getfield 36, 3) := by decide +kernel
theorem dX1_copy_73 : decode cX1_copy 73 = .ok (.iconst 0, 1) := by decide +kernel
theorem dX1_copy_74 : decode cX1_copy 74 = .ok (.bipush 12, 2) := by decide +kernel
theorem dX1_copy_76 : decode cX1_copy 76 = .ok (.invokestatic 61, 3) := by decide +kernel
theorem dX1_copy_79 : decode cX1_copy 79 = .ok (.aload_n 1, 1) := by decide +kernel
theorem dX1_copy_8 : decode cX1_copy 8 = .ok (.aload_n 0, 1) := by decide +kernel
theorem dX1_copy_80 : decode cX1_copy 80 = .ok (.getfield 40, 3) := by decide +kernel
theorem dX1_copy_83 : decode cX1_copy 83 = .ok (.iconst 0, 1) := by decide +kernel
theorem dX1_copy_84 : decode cX1_copy 84 = .ok (.aload_n 0, 1) := by decide +kernel
theorem dX1_copy_85 : decode cX1_copy 85 = .ok (.getfield 40, 3) := by decide +kernel
theorem dX1_copy_88 : decode cX1_copy 88 = .ok (.iconst 0, 1) := by decide +kernel
theorem dX1_copy_89 : decode cX1_copy 89 = .ok (.iconst 4, 1) := by decide +kernel
theorem dX1_copy_9 : decode cX1_copy 9 = .ok (.aload_n 1, 1) := by decide +kernel
theorem dX1_copy_90 : decode cX1_copy 90 = .ok (.invokestatic 61, 3) := by decide +kernel
theorem dX1_copy_93 : decode cX1_copy 93 = .ok (.aload_n 1, 1) := by decide +kernel
theorem dX1_copy_94 : decode cX1_copy 94 = .ok (.getfield 43, 3) := by decide +kernel
theorem dX1_copy_97 : decode cX1_copy 97 = .ok (.iconst 0, 1) := by decide +kernel
theorem dX1_copy_98 : decode cX1_copy 98 = .ok (.aload_n 0, 1) := by decide +kernel
theorem dX1_copy_99 : decode cX1_copy 99 = .ok (.getfield 43, 3) := by decide +kernel
theorem dX2_take_0 : decode cX2_take 0 = .ok (.aload_n 0, 1) := by decide +kernel
theorem dX2_take_1 : decode cX2_take 1 = .ok (.aload_n 1, 1) := by decide +kernel
theorem dX2_take_10 : decode cX2_take 10 = .ok (.aload_n 0, 1) := by decide +kernel
theorem dX2_take_11 : decode cX2_take 11 = .ok (.iconst 0, 1) := by decide +kernel
theorem dX2_take_12 : decode cX2_take 12 = .ok (.putfield 9, 3) := by decide +kernel
theorem dX2_take_15 : decode cX2_take 15 = .ok (.aload_n 0, 1) := by decide +kernel
theorem dX2_take_16 : decode cX2_take 16 = .ok (.iconst 1, 1) := by decide +kernel
theorem dX2_take_17 : decode cX2_take 17 = .ok (.putfield 15, 3) := by decide +kernel
theorem dX2_take_2 : decode cX2_take 2 = .ok (.putfield 44, 3) := by decide +kernel
theorem dX2_take_20 : decode cX2_take 20 = .ok (.aload_n 0, 1) := by decide +kernel
theorem dX2_take_21 : decode cX2_take 21 = .ok (.iconst 1, 1) := by decide +kernel
theorem dX2_take_22 : decode cX2_take 22 = .ok (.putfield 18, 3) := by decide +kernel
theorem dX2_take_25 : decode cX2_take 25 = .ok (.aload_n 0, 1) := by decide +kernel
theorem dX2_take_26 : decode cX2_take 26 = .ok (.iconst (-1), 1) := by decide +kernel
theorem dX2_take_27 : decode cX2_take 27 = .ok (.putfield 28, 3) := by decide +kernel
theorem dX2_take_30 : decode cX2_take 30 = .ok (.aload_n 0, 1) := by decide +kernel
theorem dX2_take_31 : decode cX2_take 31 = .ok (.iconst (-1), 1) := by decide +kernel
theorem dX2_take_32 : decode cX2_take 32 = .ok (.putfield 31, 3) := by decide +kernel
theorem dX2_take_35 : decode cX2_take 35 = .ok (.aload_n 0, 1) := by decide +kernel
theorem dX2_take_36 : decode cX2_take 36 = .ok (.iconst 0, 1) := by decide +kernel
theorem dX2_take_37 : decode cX2_take 37 = .ok (.putfield 37, 3) := by decide +kernel
theorem dX2_take_40 : decode cX2_take 40 = .ok (.return_, 1) := by decide +kernel
theorem dX2_take_5 : decode cX2_take 5 = .ok (.aload_n 0, 1) := by decide +kernel
theorem dX2_take_6 : decode cX2_take 6 = .ok (.aload_n 2, 1) := by decide +kernel
theorem dX2_take_7 : decode cX2_take 7 = .ok (.putfield 48, 3) := by decide +kernel
theorem dX4_guestNamed_0 : decode cX4_guestNamed 0 = .ok (.iconst 0, 1) := by decide +kernel
theorem dX4_guestNamed_1 : decode cX4_guestNamed 1 = .ok (.istore_n 2, 1) := by decide +kernel
theorem dX4_guestNamed_2 : decode cX4_guestNamed 2 = .ok (.iload_n 2, 1) := by decide +kernel
theorem dX4_guestNamed_28 : decode cX4_guestNamed 28 = .ok (.iconst (-1), 1) := by decide +kernel
theorem dX4_guestNamed_29 : decode cX4_guestNamed 29 = .ok (.ireturn, 1) := by decide +kernel
theorem dX4_guestNamed_3 : decode cX4_guestNamed 3 = .ok (.aload_n 0, 1) := by decide +kernel
theorem dX4_guestNamed_4 : decode cX4_guestNamed 4 = .ok (.getfield 21, 3) := by decide +kernel
theorem dX4_guestNamed_7 : decode cX4_guestNamed 7 = .ok (.if_icmp .ge 21, 3) := by decide +kernel
theorem dX5_remember_0 : decode cX5_remember 0 = .ok (.aload_n 0, 1) := by decide +kernel
theorem dX5_remember_1 : decode cX5_remember 1 = .ok (.getfield 9, 3) := by decide +kernel
theorem dX5_remember_102 : decode cX5_remember 102 = .ok (.iastore, 1) := by decide +kernel
theorem dX5_remember_103 : decode cX5_remember 103 = .ok (.aload_n 0, 1) := by decide +kernel
theorem dX5_remember_104 : decode cX5_remember 104 = .ok (.dup, 1) := by decide +kernel
theorem dX5_remember_105 : decode cX5_remember 105 = .ok (.getfield 9, 3) := by decide +kernel
theorem dX5_remember_108 : decode cX5_remember 108 = .ok (.iconst 1, 1) := by decide +kernel
theorem dX5_remember_109 : decode cX5_remember 109 = .ok (.iadd, 1) := by decide +kernel
theorem dX5_remember_110 : decode cX5_remember 110 = .ok (.putfield 9, 3) := by decide +kernel
theorem dX5_remember_113 : decode cX5_remember 113 = .ok (.return_, 1) := by decide +kernel
theorem dX5_remember_4 : decode cX5_remember 4 = .ok (.bipush 20, 2) := by decide +kernel
theorem dX5_remember_6 : decode cX5_remember 6 = .ok (.if_icmp .ne 58, 3) := by decide +kernel
theorem dX5_remember_64 : decode cX5_remember 64 = .ok (.aload_n 0, 1) := by decide +kernel
theorem dX5_remember_65 : decode cX5_remember 65 = .ok (.getfield 15, 3) := by decide +kernel
theorem dX5_remember_68 : decode cX5_remember 68 = .ok (.aload_n 0, 1) := by decide +kernel
theorem dX5_remember_69 : decode cX5_remember 69 = .ok (.getfield 9, 3) := by decide +kernel
theorem dX5_remember_72 : decode cX5_remember 72 = .ok (.aload_n 1, 1) := by decide +kernel
theorem dX5_remember_73 : decode cX5_remember 73 = .ok (.getfield 31, 3) := by decide +kernel
theorem dX5_remember_76 : decode cX5_remember 76 = .ok (.iastore, 1) := by decide +kernel
theorem dX5_remember_77 : decode cX5_remember 77 = .ok (.aload_n 0, 1) := by decide +kernel
theorem dX5_remember_78 : decode cX5_remember 78 = .ok (.getfield 19, 3) := by decide +kernel
theorem dX5_remember_81 : decode cX5_remember 81 = .ok (.aload_n 0, 1) := by decide +kernel
theorem dX5_remember_82 : decode cX5_remember 82 = .ok (.getfield 9, 3) := by decide +kernel
theorem dX5_remember_85 : decode cX5_remember 85 = .ok (.aload_n 1, 1) := by decide +kernel
theorem dX5_remember_86 : decode cX5_remember 86 = .ok (.getfield 36, 3) := by decide +kernel
theorem dX5_remember_89 : decode cX5_remember 89 = .ok (.iastore, 1) := by decide +kernel
theorem dX5_remember_90 : decode cX5_remember 90 = .ok (.aload_n 0, 1) := by decide +kernel
theorem dX5_remember_91 : decode cX5_remember 91 = .ok (.getfield 22, 3) := by decide +kernel
theorem dX5_remember_94 : decode cX5_remember 94 = .ok (.aload_n 0, 1) := by decide +kernel
theorem dX5_remember_95 : decode cX5_remember 95 = .ok (.getfield 9, 3) := by decide +kernel
theorem dX5_remember_98 : decode cX5_remember 98 = .ok (.aload_n 1, 1) := by decide +kernel
theorem dX5_remember_99 : decode cX5_remember 99 = .ok (.getfield 38, 3) := by decide +kernel
theorem dX7_fault_0 : decode cX7_fault 0 = .ok (.iload_n 1, 1) := by decide +kernel
theorem dX7_fault_1 : decode cX7_fault 1 = .ok (.ifCond .ne 8, 3) := by decide +kernel
theorem dX7_fault_10 : decode cX7_fault 10 = .ok (.iconst 1, 1) := by decide +kernel
theorem dX7_fault_11 : decode cX7_fault 11 = .ok (.if_icmp .ne 10, 3) := by decide +kernel
theorem dX7_fault_14 : decode cX7_fault 14 = .ok (.aload_n 0, 1) := by decide +kernel
theorem dX7_fault_15 : decode cX7_fault 15 = .ok (.getfield 22, 3) := by decide +kernel
theorem dX7_fault_18 : decode cX7_fault 18 = .ok (.goto 4, 3) := by decide +kernel
theorem dX7_fault_21 : decode cX7_fault 21 = .ok (.iconst (-1), 1) := by decide +kernel
theorem dX7_fault_22 : decode cX7_fault 22 = .ok (.ireturn, 1) := by decide +kernel
theorem dX7_fault_4 : decode cX7_fault 4 = .ok (.aload_n 0, 1) := by decide +kernel
theorem dX7_fault_5 : decode cX7_fault 5 = .ok (.getfield 19, 3) := by decide +kernel
theorem dX7_fault_8 : decode cX7_fault 8 = .ok (.ireturn, 1) := by decide +kernel
theorem dX7_fault_9 : decode cX7_fault 9 = .ok (.iload_n 1, 1) := by decide +kernel
theorem dX7_isGroove_0 : decode cX7_isGroove 0 = .ok (.iload_n 1, 1) := by decide +kernel
theorem dX7_isGroove_1 : decode cX7_isGroove 1 = .ok (.ifCond .lt 18, 3) := by decide +kernel
theorem dX7_isGroove_12 : decode cX7_isGroove 12 = .ok (.if_icmp .ge 7, 3) := by decide +kernel
theorem dX7_isGroove_19 : decode cX7_isGroove 19 = .ok (.iconst 0, 1) := by decide +kernel
theorem dX7_isGroove_20 : decode cX7_isGroove 20 = .ok (.ireturn, 1) := by decide +kernel
theorem dX7_isGroove_4 : decode cX7_isGroove 4 = .ok (.iload_n 1, 1) := by decide +kernel
theorem dX7_isGroove_5 : decode cX7_isGroove 5 = .ok (.aload_n 0, 1) := by decide +kernel
theorem dX7_isGroove_6 : decode cX7_isGroove 6 = .ok (.getfield 28, 3) := by decide +kernel
theorem dX7_isGroove_9 : decode cX7_isGroove 9 = .ok (.getfield 196, 3) := by decide +kernel
theorem dX7_named_0 : decode cX7_named 0 = .ok (.aload_n 0, 1) := by decide +kernel
theorem dX7_named_1 : decode cX7_named 1 = .ok (.getfield 28, 3) := by decide +kernel
theorem dX7_named_4 : decode cX7_named 4 = .ok (.iload_n 1, 1) := by decide +kernel
theorem dX7_named_5 : decode cX7_named 5 = .ok (.invokevirtual 121, 3) := by decide +kernel
theorem dX7_named_8 : decode cX7_named 8 = .ok (.ireturn, 1) := by decide +kernel
theorem dX7_tryNow_0 : decode cX7_tryNow 0 = .ok (.aload_n 0, 1) := by decide +kernel
theorem dX7_tryNow_1 : decode cX7_tryNow 1 = .ok (.getfield 61, 3) := by decide +kernel
theorem dX7_tryNow_11 : decode cX7_tryNow 11 = .ok (.aload_n 0, 1) := by decide +kernel
theorem dX7_tryNow_12 : decode cX7_tryNow 12 = .ok (.getfield 72, 3) := by decide +kernel
theorem dX7_tryNow_15 : decode cX7_tryNow 15 = .ok (.aload_n 0, 1) := by decide +kernel
theorem dX7_tryNow_16 : decode cX7_tryNow 16 = .ok (.getfield 28, 3) := by decide +kernel
theorem dX7_tryNow_19 : decode cX7_tryNow 19 = .ok (.aload_n 0, 1) := by decide +kernel
theorem dX7_tryNow_20 : decode cX7_tryNow 20 = .ok (.getfield 61, 3) := by decide +kernel
theorem dX7_tryNow_23 : decode cX7_tryNow 23 = .ok (.invokevirtual 159, 3) := by decide +kernel
theorem dX7_tryNow_26 : decode cX7_tryNow 26 = .ok (.aload_n 0, 1) := by decide +kernel
theorem dX7_tryNow_27 : decode cX7_tryNow 27 = .ok (.getfield 72, 3) := by decide +kernel
theorem dX7_tryNow_30 : decode cX7_tryNow 30 = .ok (.iload_n 1, 1) := by decide +kernel
theorem dX7_tryNow_31 : decode cX7_tryNow 31 = .ok (.putfield 251, 3) := by decide +kernel
theorem dX7_tryNow_34 : decode cX7_tryNow 34 = .ok (.return_, 1) := by decide +kernel
theorem dX7_tryNow_4 : decode cX7_tryNow 4 = .ok (.aload_n 0, 1) := by decide +kernel
theorem dX7_tryNow_5 : decode cX7_tryNow 5 = .ok (.getfield 47, 3) := by decide +kernel
theorem dX7_tryNow_8 : decode cX7_tryNow 8 = .ok (.invokevirtual 248, 3) := by decide +kernel
theorem dX7_weigh_0 : decode cX7_weigh 0 = .ok (.iload_n 1, 1) := by decide +kernel
theorem dX7_weigh_1 : decode cX7_weigh 1 = .ok (.iconst 0, 1) := by decide +kernel
theorem dX7_weigh_10 : decode cX7_weigh 10 = .ok (.iload_n 1, 1) := by decide +kernel
theorem dX7_weigh_11 : decode cX7_weigh 11 = .ok (.aload_n 0, 1) := by decide +kernel
theorem dX7_weigh_12 : decode cX7_weigh 12 = .ok (.getfield 47, 3) := by decide +kernel
theorem dX7_weigh_15 : decode cX7_weigh 15 = .ok (.getfield 209, 3) := by decide +kernel
theorem dX7_weigh_18 : decode cX7_weigh 18 = .ok (.if_icmp .ne 5, 3) := by decide +kernel
theorem dX7_weigh_2 : decode cX7_weigh 2 = .ok (.bipush 9, 2) := by decide +kernel
theorem dX7_weigh_21 : decode cX7_weigh 21 = .ok (.iconst 0, 1) := by decide +kernel
theorem dX7_weigh_22 : decode cX7_weigh 22 = .ok (.ireturn, 1) := by decide +kernel
theorem dX7_weigh_23 : decode cX7_weigh 23 = .ok (.aload_n 0, 1) := by decide +kernel
theorem dX7_weigh_24 : decode cX7_weigh 24 = .ok (.getfield 79, 3) := by decide +kernel
theorem dX7_weigh_27 : decode cX7_weigh 27 = .ok (.aload_n 0, 1) := by decide +kernel
theorem dX7_weigh_28 : decode cX7_weigh 28 = .ok (.getfield 47, 3) := by decide +kernel
theorem dX7_weigh_31 : decode cX7_weigh 31 = .ok (.invokevirtual 212, 3) := by decide +kernel
theorem dX7_weigh_34 : decode cX7_weigh 34 = .ok (.aload_n 0, 1) := by decide +kernel
theorem dX7_weigh_35 : decode cX7_weigh 35 = .ok (.getfield 47, 3) := by decide +kernel
theorem dX7_weigh_38 : decode cX7_weigh 38 = .ok (.iload_n 1, 1) := by decide +kernel
theorem dX7_weigh_39 : decode cX7_weigh 39 = .ok (.putfield 209, 3) := by decide +kernel
theorem dX7_weigh_4 : decode cX7_weigh 4 = .ok (.invokestatic 205, 3) := by decide +kernel
theorem dX7_weigh_42 : decode cX7_weigh 42 = .ok (.iconst 1, 1) := by decide +kernel
theorem dX7_weigh_43 : decode cX7_weigh 43 = .ok (.ireturn, 1) := by decide +kernel
theorem dX7_weigh_7 : decode cX7_weigh 7 = .ok (.ifCond .eq 14, 3) := by decide +kernel
theorem dX7_within_0 : decode cX7_within 0 = .ok (.iload_n 0, 1) := by decide +kernel
theorem dX7_within_1 : decode cX7_within 1 = .ok (.iload_n 1, 1) := by decide +kernel
theorem dX7_within_10 : decode cX7_within 10 = .ok (.iconst 1, 1) := by decide +kernel
theorem dX7_within_11 : decode cX7_within 11 = .ok (.goto 4, 3) := by decide +kernel
theorem dX7_within_14 : decode cX7_within 14 = .ok (.iconst 0, 1) := by decide +kernel
theorem dX7_within_15 : decode cX7_within 15 = .ok (.ireturn, 1) := by decide +kernel
theorem dX7_within_2 : decode cX7_within 2 = .ok (.if_icmp .lt 12, 3) := by decide +kernel
theorem dX7_within_5 : decode cX7_within 5 = .ok (.iload_n 0, 1) := by decide +kernel
theorem dX7_within_6 : decode cX7_within 6 = .ok (.iload_n 2, 1) := by decide +kernel
theorem dX7_within_7 : decode cX7_within 7 = .ok (.if_icmp .gt 7, 3) := by decide +kernel
set_option maxRecDepth 20000 in
theorem ggX7_named_X4_guestNamed : GoodIn wsX7_named wsX4_guestNamed := goodIn_r _ [6, 7, 8, 26, 27, 28, 29, 30, 31, 32, 33, 34, 35, 36, 37, 38, 39, 40] (by decide +kernel) (by decide +kernel)
set_option maxRecDepth 20000 in
theorem gX7_named_X4_guestNamed : GoodIn wsX7_named (wsV RX7 121 RX4 yX4_guestNamed wsX4_guestNamed) := goodIn_app (goodIn_of _ (by decide +kernel)) ggX7_named_X4_guestNamed
set_option maxRecDepth 20000 in
theorem ggX7_tryNow_X1_copy : GoodIn wsX7_tryNow wsX1_copy := goodIn_r _ [9, 10, 11, 12, 13, 14, 15, 16, 17, 18, 19, 20, 21, 22, 23, 24, 67, 68, 69, 70, 71, 72, 73, 74, 75, 76, 77] (by decide +kernel) (by decide +kernel)
set_option maxRecDepth 20000 in
theorem gX7_tryNow_X1_copy : GoodIn wsX7_tryNow (wsV RX7 248 RX1 yX1_copy wsX1_copy) := goodIn_app (goodIn_of _ (by decide +kernel)) ggX7_tryNow_X1_copy
set_option maxRecDepth 20000 in
theorem ggX7_tryNow_X2_take : GoodIn wsX7_tryNow wsX2_take := goodIn_r _ [29, 30, 31, 32, 33, 34, 35, 36, 37, 55, 56, 57, 58, 59, 60, 61, 62, 63, 64, 65, 66] (by decide +kernel) (by decide +kernel)
set_option maxRecDepth 20000 in
theorem gX7_tryNow_X2_take : GoodIn wsX7_tryNow (wsV RX7 159 RX2 yX2_take wsX2_take) := goodIn_app (goodIn_of _ (by decide +kernel)) ggX7_tryNow_X2_take
set_option maxRecDepth 20000 in
theorem ggX7_weigh_X5_remember : GoodIn wsX7_weigh wsX5_remember := goodIn_r _ [11, 12, 13, 14, 15, 16, 17, 18, 19, 48, 49, 50, 51, 37, 38, 39, 40, 41, 42, 43, 44, 45, 46, 47] (by decide +kernel) (by decide +kernel)
set_option maxRecDepth 20000 in
theorem gX7_weigh_X5_remember : GoodIn wsX7_weigh (wsV RX7 212 RX5 yX5_remember wsX5_remember) := goodIn_app (goodIn_of _ (by decide +kernel)) ggX7_weigh_X5_remember
set_option maxRecDepth 20000 in
theorem ggX7_weigh_X7_within : GoodIn wsX7_weigh wsX7_within := goodIn_r _ [6] (by decide +kernel) (by decide +kernel)
set_option maxRecDepth 20000 in
theorem gX7_weigh_X7_within : GoodIn wsX7_weigh (va_wsS RX7 205 yX7_within wsX7_within) := goodIn_app (goodIn_of _ (by decide +kernel)) ggX7_weigh_X7_within
def sp_X7_within (p0 : Int32) (p1 : Int32) (p2 : Int32) : Int32 := (if p0 < p1 then 0 else (if p2 < p0 then 0 else 1))
set_option maxHeartbeats 4000000 in
set_option maxRecDepth 100000 in
theorem c_X7_within (l : Launch) (dC : Nat → ClassId) (dI : Nat → Nat → Nat) (p0 : Int32) (p1 : Int32) (p2 : Int32) (sz : Nat) : Met l yX7_within wsX7_within ({ frames := 0, cells := 0, slots := 0, locals := 0 }) (va_Pc [.int p0, .int p1, .int p2] (fun U => U.heap.size = sz ∧ va_P (dC, dI) vwCl [] U.heap ∧ va_K (dC, dI) vwCl [] U ∧ va_D (fun _ => True) [] ∧ nw_ok U)) (va_Qi (fun (r : Int32) (_ : Unit) => r = (sp_X7_within p0 p1 p2)) (fun (u : Unit) t => match u with | _ => va_P (dC, dI) vwCl [] t.heap ∧ va_K (dC, dI) vwCl [] t ∧ va_D (va_A [] sz) []) (va_A [] sz)) 0 0 (va_A [] sz) := by
  refine Met.ofW (cc := cX7_within) (maxL := 3) (ret := (some .boolean)) (by decide) rfl ?_
  intro p e s m args below meth c s₁ B hml hv
  obtain ⟨rfl, hsz, hP, hK, hD0, hN⟩ := hv
  have hx := B.exec
  have hb := B.bytes
  have hr := B.returns
  have hts := atoms_spec (ws := wsX7_within) B.pre
  have hown : s.vm.findClass RX7 = some m.cls := findClass_of_methodNamed B.named
  have hlocks := B.notSynchronized
  subst hsz
  have hD := hD0.self (sz := s.heap.size)
  generalize hAe : va_A [] s.heap.size = A at hD ⊢
  have hA : ∀ q : Nat, s.heap.size ≤ q → A q := fun q h => by rw [← hAe]; exact Or.inr h
  have hS : va_S A s.heap s.heap [] := va_S.rf
  have hP : va_P (dC, dI) vwCl [] s.heap := hP
  have hl := lv_entry ([.int p0, .int p1, .int p2]) (n := 3) (Nat.le_of_ble_eq_true rfl)
  rw [lg_entry_eq]
  generalize (lg_sl ([.int p0, .int p1, .int p2]) ++ List.replicate (3 - (lg_sl ([.int p0, .int p1, .int p2])).length) Slot.unset).toArray = ls at hl ⊢
  have hl : lv_has ls 3 [(0, .int p0), (1, .int p1), (2, .int p2)] := hl
  skip
  refine lv_iload_n hx hb dX7_within_0 rfl (lv_at hl 0 rfl) ?_
  refine lv_iload_n hx hb dX7_within_1 rfl (lv_at hl 1 rfl) ?_
  refine lv_icmp_lt (tgt := 14) hx hb dX7_within_2 (by decide) (fun c1 => ?_) (fun c1 => ?_)
  · skip
    refine lv_iconst (v := 0) hx hb dX7_within_14 (by decide) ?_
    have hP9 := hP.sub (ws' := []) [] rfl
    have hD9 := hD.sub (ws' := []) [] (by decide) rfl
    have hK9 := hK.sub (tys' := []) [] rfl
    exact W.zret (v := 0) hx hb hr rfl (fun t ht hW => ⟨⟨0, (), rfl, (by unfold sp_X7_within; rw [if_pos c1]), by rw [ht]; exact hP9, va_K.moved hW.alike hK9, hD9⟩, hS.F ht⟩) hS.2.2 dX7_within_15
  · skip
    refine lv_iload_n hx hb dX7_within_5 rfl (lv_at hl 0 rfl) ?_
    refine lv_iload_n hx hb dX7_within_6 rfl (lv_at hl 2 rfl) ?_
    refine lv_icmp_gt (tgt := 14) hx hb dX7_within_7 (by decide) (fun c2 => ?_) (fun c2 => ?_)
    · skip
      refine lv_iconst (v := 0) hx hb dX7_within_14 (by decide) ?_
      have hP9 := hP.sub (ws' := []) [] rfl
      have hD9 := hD.sub (ws' := []) [] (by decide) rfl
      have hK9 := hK.sub (tys' := []) [] rfl
      exact W.zret (v := 0) hx hb hr rfl (fun t ht hW => ⟨⟨0, (), rfl, (by unfold sp_X7_within; rw [if_neg c1, if_pos c2]), by rw [ht]; exact hP9, va_K.moved hW.alike hK9, hD9⟩, hS.F ht⟩) hS.2.2 dX7_within_15
    · skip
      refine lv_iconst (v := 1) hx hb dX7_within_10 (by decide) ?_
      refine lv_goto (tgt := 15) hx hb dX7_within_11 (by decide) ?_
      have hP9 := hP.sub (ws' := []) [] rfl
      have hD9 := hD.sub (ws' := []) [] (by decide) rfl
      have hK9 := hK.sub (tys' := []) [] rfl
      exact W.zret (v := 1) hx hb hr rfl (fun t ht hW => ⟨⟨1, (), rfl, (by unfold sp_X7_within; rw [if_neg c1, if_neg c2]), by rw [ht]; exact hP9, va_K.moved hW.alike hK9, hD9⟩, hS.F ht⟩) hS.2.2 dX7_within_15

set_option maxHeartbeats 4000000 in
set_option maxRecDepth 100000 in
theorem c_X7_isGroove (l : Launch) (dC : Nat → ClassId) (dI : Nat → Nat → Nat) (x : Nat) (p0 : Int32) (fd : Nat) (sh : Nat) (sp : Nat) (rd : Nat) (nw : Nat) (im : Nat) (tr : Nat) (ah : Nat) (pl : Nat) (st : Nat) (ev : Nat) (wp : Nat) (sh8 : Nat) (sh9 : Nat) (sh10 : Nat) (sh11 : Nat) (sh12 : Nat) (sh13 : Nat) (sh14 : Nat) (sz : Nat) : Met l yX7_isGroove wsX7_isGroove ({ frames := 0, cells := 0, slots := 0, locals := 0 }) (va_Pc [.ref x, .int p0] (fun U => U.heap.size = sz ∧ va_P (dC, dI) vwCl [(x, .inr (7, [.ref fd, .int 0, .int 0, .int (-1), .ref sh, .ref sp, .ref rd, .ref nw, .ref im, .int 0, .int (-1), .ref tr, .ref ah, .ref pl, .ref st, .ref ev, .ref wp])), (sh, .inr (4, [.int 0, .int 0, .int 0, .int 0, .int 3, .int 0, .int 0, .int 0, .ref sh8, .ref sh9, .ref sh10, .ref sh11, .ref sh12, .ref sh13, .ref sh14]))] U.heap ∧ va_K (dC, dI) vwCl [] U ∧ va_D (fun _ => True) [(x, .inr (7, [.ref fd, .int 0, .int 0, .int (-1), .ref sh, .ref sp, .ref rd, .ref nw, .ref im, .int 0, .int (-1), .ref tr, .ref ah, .ref pl, .ref st, .ref ev, .ref wp])), (sh, .inr (4, [.int 0, .int 0, .int 0, .int 0, .int 3, .int 0, .int 0, .int 0, .ref sh8, .ref sh9, .ref sh10, .ref sh11, .ref sh12, .ref sh13, .ref sh14]))] ∧ nw_ok U)) (va_Qi (fun (r : Int32) (_ : Unit) => r = 0) (fun (u : Unit) t => match u with | _ => va_P (dC, dI) vwCl [(x, .inr (7, [.ref fd, .int 0, .int 0, .int (-1), .ref sh, .ref sp, .ref rd, .ref nw, .ref im, .int 0, .int (-1), .ref tr, .ref ah, .ref pl, .ref st, .ref ev, .ref wp])), (sh, .inr (4, [.int 0, .int 0, .int 0, .int 0, .int 3, .int 0, .int 0, .int 0, .ref sh8, .ref sh9, .ref sh10, .ref sh11, .ref sh12, .ref sh13, .ref sh14]))] t.heap ∧ va_K (dC, dI) vwCl [] t ∧ va_D (va_A [(x, .inr (7, [.ref fd, .int 0, .int 0, .int (-1), .ref sh, .ref sp, .ref rd, .ref nw, .ref im, .int 0, .int (-1), .ref tr, .ref ah, .ref pl, .ref st, .ref ev, .ref wp])), (sh, .inr (4, [.int 0, .int 0, .int 0, .int 0, .int 3, .int 0, .int 0, .int 0, .ref sh8, .ref sh9, .ref sh10, .ref sh11, .ref sh12, .ref sh13, .ref sh14]))] sz) [(x, .inr (7, [.ref fd, .int 0, .int 0, .int (-1), .ref sh, .ref sp, .ref rd, .ref nw, .ref im, .int 0, .int (-1), .ref tr, .ref ah, .ref pl, .ref st, .ref ev, .ref wp])), (sh, .inr (4, [.int 0, .int 0, .int 0, .int 0, .int 3, .int 0, .int 0, .int 0, .ref sh8, .ref sh9, .ref sh10, .ref sh11, .ref sh12, .ref sh13, .ref sh14]))]) (va_A [(x, .inr (7, [.ref fd, .int 0, .int 0, .int (-1), .ref sh, .ref sp, .ref rd, .ref nw, .ref im, .int 0, .int (-1), .ref tr, .ref ah, .ref pl, .ref st, .ref ev, .ref wp])), (sh, .inr (4, [.int 0, .int 0, .int 0, .int 0, .int 3, .int 0, .int 0, .int 0, .ref sh8, .ref sh9, .ref sh10, .ref sh11, .ref sh12, .ref sh13, .ref sh14]))] sz)) 0 0 (va_A [(x, .inr (7, [.ref fd, .int 0, .int 0, .int (-1), .ref sh, .ref sp, .ref rd, .ref nw, .ref im, .int 0, .int (-1), .ref tr, .ref ah, .ref pl, .ref st, .ref ev, .ref wp])), (sh, .inr (4, [.int 0, .int 0, .int 0, .int 0, .int 3, .int 0, .int 0, .int 0, .ref sh8, .ref sh9, .ref sh10, .ref sh11, .ref sh12, .ref sh13, .ref sh14]))] sz) := by
  refine Met.ofW (cc := cX7_isGroove) (maxL := 2) (ret := (some .boolean)) (by decide) rfl ?_
  intro p e s m args below meth c s₁ B hml hv
  obtain ⟨rfl, hsz, hP, hK, hD0, hN⟩ := hv
  have hx := B.exec
  have hb := B.bytes
  have hr := B.returns
  have hts := atoms_spec (ws := wsX7_isGroove) B.pre
  have hown : s.vm.findClass RX7 = some m.cls := findClass_of_methodNamed B.named
  have hlocks := B.notSynchronized
  have hi4 : ∀ w ∈ wsX40, w ∈ wsX7_isGroove := by decide +kernel
  have hi7 : ∀ w ∈ wsX70, w ∈ wsX7_isGroove := by decide +kernel
  subst hsz
  have hD := hD0.self (sz := s.heap.size)
  generalize hAe : va_A [(x, .inr (7, [.ref fd, .int 0, .int 0, .int (-1), .ref sh, .ref sp, .ref rd, .ref nw, .ref im, .int 0, .int (-1), .ref tr, .ref ah, .ref pl, .ref st, .ref ev, .ref wp])), (sh, .inr (4, [.int 0, .int 0, .int 0, .int 0, .int 3, .int 0, .int 0, .int 0, .ref sh8, .ref sh9, .ref sh10, .ref sh11, .ref sh12, .ref sh13, .ref sh14]))] s.heap.size = A at hD ⊢
  have hA : ∀ q : Nat, s.heap.size ≤ q → A q := fun q h => by rw [← hAe]; exact Or.inr h
  have hS : va_S A s.heap s.heap [] := va_S.rf
  have hP : va_P (dC, dI) vwCl [(x, .inr (7, [.ref fd, .int 0, .int 0, .int (-1), .ref sh, .ref sp, .ref rd, .ref nw, .ref im, .int 0, .int (-1), .ref tr, .ref ah, .ref pl, .ref st, .ref ev, .ref wp])), (sh, .inr (4, [.int 0, .int 0, .int 0, .int 0, .int 3, .int 0, .int 0, .int 0, .ref sh8, .ref sh9, .ref sh10, .ref sh11, .ref sh12, .ref sh13, .ref sh14]))] s.heap := hP
  have hl := lv_entry ([.ref x, .int p0]) (n := 2) (Nat.le_of_ble_eq_true rfl)
  rw [lg_entry_eq]
  generalize (lg_sl ([.ref x, .int p0]) ++ List.replicate (2 - (lg_sl ([.ref x, .int p0])).length) Slot.unset).toArray = ls at hl ⊢
  have hl : lv_has ls 2 [(0, .ref x), (1, .int p0)] := hl
  skip
  refine lv_iload_n hx hb dX7_isGroove_0 rfl (lv_at hl 1 rfl) ?_
  refine lv_if_lt (tgt := 19) hx hb dX7_isGroove_1 (by decide) (fun c1 => ?_) (fun c1 => ?_)
  · skip
    refine lv_iconst (v := 0) hx hb dX7_isGroove_19 (by decide) ?_
    have hP9 := hP.sub (ws' := [(x, .inr (7, [.ref fd, .int 0, .int 0, .int (-1), .ref sh, .ref sp, .ref rd, .ref nw, .ref im, .int 0, .int (-1), .ref tr, .ref ah, .ref pl, .ref st, .ref ev, .ref wp])), (sh, .inr (4, [.int 0, .int 0, .int 0, .int 0, .int 3, .int 0, .int 0, .int 0, .ref sh8, .ref sh9, .ref sh10, .ref sh11, .ref sh12, .ref sh13, .ref sh14]))]) [0, 1] rfl
    have hD9 := hD.sub (ws' := [(x, .inr (7, [.ref fd, .int 0, .int 0, .int (-1), .ref sh, .ref sp, .ref rd, .ref nw, .ref im, .int 0, .int (-1), .ref tr, .ref ah, .ref pl, .ref st, .ref ev, .ref wp])), (sh, .inr (4, [.int 0, .int 0, .int 0, .int 0, .int 3, .int 0, .int 0, .int 0, .ref sh8, .ref sh9, .ref sh10, .ref sh11, .ref sh12, .ref sh13, .ref sh14]))]) [0, 1] (by decide) rfl
    have hK9 := hK.sub (tys' := []) [] rfl
    exact W.zret (v := 0) hx hb hr rfl (fun t ht hW => ⟨⟨0, (), rfl, (rfl), by rw [ht]; exact hP9, va_K.moved hW.alike hK9, hD9⟩, hS.F ht⟩) hS.2.2 dX7_isGroove_20
  · skip
    refine lv_iload_n hx hb dX7_isGroove_4 rfl (lv_at hl 1 rfl) ?_
    refine lv_aload_n hx hb dX7_isGroove_5 rfl (lv_at hl 0 rfl) ?_
    refine va_get (D := (dC, dI)) (ci := 7) (v := .ref sh) (C := RX7) (T := TX7) (N := 17) hx hb hts hi7 hown hK hP 0 rfl rfl 4 (by decide) (hts (.fieldLink RX7 28 "StuckGroove" "sheet" "LStuckGroove$Sheet;") (by decide +kernel)) (fun _ h9 => h9) rfl dX7_isGroove_6 ?_
    refine va_getN (D := (dC, dI)) (ci := 4) (v := .int 0) (C := RX4) (T := TX4) (N := 15) hx hb hts hi4 hown hK hP 1 rfl rfl 1 (by decide) (va_Nw.use rfl (hN.1 (RX7, 196, "StuckGroove$Sheet", "grooves", "I", "StuckGroove") (by decide +kernel))) (fun _ h9 => h9) rfl dX7_isGroove_9 ?_
    refine lv_icmp_ge (tgt := 19) hx hb dX7_isGroove_12 (by decide) (fun _ => ?_) (fun c2 => absurd (Int32.not_le.mp c2) c1)
    refine lv_iconst (v := 0) hx hb dX7_isGroove_19 (by decide) ?_
    have hP9 := hP.sub (ws' := [(x, .inr (7, [.ref fd, .int 0, .int 0, .int (-1), .ref sh, .ref sp, .ref rd, .ref nw, .ref im, .int 0, .int (-1), .ref tr, .ref ah, .ref pl, .ref st, .ref ev, .ref wp])), (sh, .inr (4, [.int 0, .int 0, .int 0, .int 0, .int 3, .int 0, .int 0, .int 0, .ref sh8, .ref sh9, .ref sh10, .ref sh11, .ref sh12, .ref sh13, .ref sh14]))]) [0, 1] rfl
    have hD9 := hD.sub (ws' := [(x, .inr (7, [.ref fd, .int 0, .int 0, .int (-1), .ref sh, .ref sp, .ref rd, .ref nw, .ref im, .int 0, .int (-1), .ref tr, .ref ah, .ref pl, .ref st, .ref ev, .ref wp])), (sh, .inr (4, [.int 0, .int 0, .int 0, .int 0, .int 3, .int 0, .int 0, .int 0, .ref sh8, .ref sh9, .ref sh10, .ref sh11, .ref sh12, .ref sh13, .ref sh14]))]) [0, 1] (by decide) rfl
    have hK9 := hK.sub (tys' := []) [] rfl
    exact W.zret (v := 0) hx hb hr rfl (fun t ht hW => ⟨⟨0, (), rfl, (rfl), by rw [ht]; exact hP9, va_K.moved hW.alike hK9, hD9⟩, hS.F ht⟩) hS.2.2 dX7_isGroove_20

def sp_X7_fault (p0 : Int32) : Int32 := (if p0 = 0 then 0 else (-1))
set_option maxHeartbeats 4000000 in
set_option maxRecDepth 100000 in
theorem c_X7_fault (l : Launch) (dC : Nat → ClassId) (dI : Nat → Nat → Nat) (x : Nat) (p0 : Int32) (fd : Nat) (sh : Nat) (sp : Nat) (rd : Nat) (nw : Nat) (im : Nat) (tr : Nat) (ah : Nat) (pl : Nat) (st : Nat) (ev : Nat) (wp : Nat) (sz : Nat) : Met l yX7_fault wsX7_fault ({ frames := 0, cells := 0, slots := 0, locals := 0 }) (va_Pc [.ref x, .int p0] (fun U => U.heap.size = sz ∧ va_P (dC, dI) vwCl [(x, .inr (7, [.ref fd, .int 0, .int 0, .int (-1), .ref sh, .ref sp, .ref rd, .ref nw, .ref im, .int 0, .int (-1), .ref tr, .ref ah, .ref pl, .ref st, .ref ev, .ref wp]))] U.heap ∧ va_K (dC, dI) vwCl [] U ∧ va_D (fun _ => True) [(x, .inr (7, [.ref fd, .int 0, .int 0, .int (-1), .ref sh, .ref sp, .ref rd, .ref nw, .ref im, .int 0, .int (-1), .ref tr, .ref ah, .ref pl, .ref st, .ref ev, .ref wp]))] ∧ nw_ok U)) (va_Qi (fun (r : Int32) (_ : Unit) => r = (sp_X7_fault p0)) (fun (u : Unit) t => match u with | _ => va_P (dC, dI) vwCl [] t.heap ∧ va_K (dC, dI) vwCl [] t ∧ va_D (va_A [(x, .inr (7, [.ref fd, .int 0, .int 0, .int (-1), .ref sh, .ref sp, .ref rd, .ref nw, .ref im, .int 0, .int (-1), .ref tr, .ref ah, .ref pl, .ref st, .ref ev, .ref wp]))] sz) []) (va_A [(x, .inr (7, [.ref fd, .int 0, .int 0, .int (-1), .ref sh, .ref sp, .ref rd, .ref nw, .ref im, .int 0, .int (-1), .ref tr, .ref ah, .ref pl, .ref st, .ref ev, .ref wp]))] sz)) 0 0 (va_A [(x, .inr (7, [.ref fd, .int 0, .int 0, .int (-1), .ref sh, .ref sp, .ref rd, .ref nw, .ref im, .int 0, .int (-1), .ref tr, .ref ah, .ref pl, .ref st, .ref ev, .ref wp]))] sz) := by
  refine Met.ofW (cc := cX7_fault) (maxL := 2) (ret := (some .int)) (by decide) rfl ?_
  intro p e s m args below meth c s₁ B hml hv
  obtain ⟨rfl, hsz, hP, hK, hD0, hN⟩ := hv
  have hx := B.exec
  have hb := B.bytes
  have hr := B.returns
  have hts := atoms_spec (ws := wsX7_fault) B.pre
  have hown : s.vm.findClass RX7 = some m.cls := findClass_of_methodNamed B.named
  have hlocks := B.notSynchronized
  have hi7 : ∀ w ∈ wsX70, w ∈ wsX7_fault := by decide +kernel
  subst hsz
  have hD := hD0.self (sz := s.heap.size)
  generalize hAe : va_A [(x, .inr (7, [.ref fd, .int 0, .int 0, .int (-1), .ref sh, .ref sp, .ref rd, .ref nw, .ref im, .int 0, .int (-1), .ref tr, .ref ah, .ref pl, .ref st, .ref ev, .ref wp]))] s.heap.size = A at hD ⊢
  have hA : ∀ q : Nat, s.heap.size ≤ q → A q := fun q h => by rw [← hAe]; exact Or.inr h
  have hS : va_S A s.heap s.heap [] := va_S.rf
  have hP : va_P (dC, dI) vwCl [(x, .inr (7, [.ref fd, .int 0, .int 0, .int (-1), .ref sh, .ref sp, .ref rd, .ref nw, .ref im, .int 0, .int (-1), .ref tr, .ref ah, .ref pl, .ref st, .ref ev, .ref wp]))] s.heap := hP
  have hl := lv_entry ([.ref x, .int p0]) (n := 2) (Nat.le_of_ble_eq_true rfl)
  rw [lg_entry_eq]
  generalize (lg_sl ([.ref x, .int p0]) ++ List.replicate (2 - (lg_sl ([.ref x, .int p0])).length) Slot.unset).toArray = ls at hl ⊢
  have hl : lv_has ls 2 [(0, .ref x), (1, .int p0)] := hl
  skip
  refine lv_iload_n hx hb dX7_fault_0 rfl (lv_at hl 1 rfl) ?_
  refine lv_if_ne (tgt := 9) hx hb dX7_fault_1 (by decide) (fun c1 => ?_) (fun c1 => ?_)
  · skip
    refine lv_iload_n hx hb dX7_fault_9 rfl (lv_at hl 1 rfl) ?_
    refine lv_iconst (v := 1) hx hb dX7_fault_10 (by decide) ?_
    refine lv_icmp_ne (tgt := 21) hx hb dX7_fault_11 (by decide) (fun c2 => ?_) (fun c2 => ?_)
    · skip
      refine lv_iconst (v := (-1)) hx hb dX7_fault_21 (by decide) ?_
      have hP9 := hP.sub (ws' := []) [] rfl
      have hD9 := hD.sub (ws' := []) [] (by decide) rfl
      have hK9 := hK.sub (tys' := []) [] rfl
      exact W.iret (v := (-1)) hx hb hr (fun t ht hW => ⟨⟨(-1), (), rfl, (by unfold sp_X7_fault; rw [if_neg c1]), by rw [ht]; exact hP9, va_K.moved hW.alike hK9, hD9⟩, hS.F ht⟩) hS.2.2 dX7_fault_22
    · skip
      refine lv_aload_n hx hb dX7_fault_14 rfl (lv_at hl 0 rfl) ?_
      refine va_get (D := (dC, dI)) (ci := 7) (v := .int (-1)) (C := RX7) (T := TX7) (N := 17) hx hb hts hi7 hown hK hP 0 rfl rfl 3 (by decide) (hts (.fieldLink RX7 22 "StuckGroove" "latestPlace" "I") (by decide +kernel)) (fun _ h9 => h9) rfl dX7_fault_15 ?_
      refine lv_goto (tgt := 22) hx hb dX7_fault_18 (by decide) ?_
      have hP9 := hP.sub (ws' := []) [] rfl
      have hD9 := hD.sub (ws' := []) [] (by decide) rfl
      have hK9 := hK.sub (tys' := []) [] rfl
      exact W.iret (v := (-1)) hx hb hr (fun t ht hW => ⟨⟨(-1), (), rfl, (by unfold sp_X7_fault; rw [if_neg c1]), by rw [ht]; exact hP9, va_K.moved hW.alike hK9, hD9⟩, hS.F ht⟩) hS.2.2 dX7_fault_22
  · skip
    refine lv_aload_n hx hb dX7_fault_4 rfl (lv_at hl 0 rfl) ?_
    refine va_get (D := (dC, dI)) (ci := 7) (v := .int 0) (C := RX7) (T := TX7) (N := 17) hx hb hts hi7 hown hK hP 0 rfl rfl 2 (by decide) (hts (.fieldLink RX7 19 "StuckGroove" "latestFault" "I") (by decide +kernel)) (fun _ h9 => h9) rfl dX7_fault_5 ?_
    have hP9 := hP.sub (ws' := []) [] rfl
    have hD9 := hD.sub (ws' := []) [] (by decide) rfl
    have hK9 := hK.sub (tys' := []) [] rfl
    exact W.iret (v := 0) hx hb hr (fun t ht hW => ⟨⟨0, (), rfl, (by unfold sp_X7_fault; rw [if_pos c1]), by rw [ht]; exact hP9, va_K.moved hW.alike hK9, hD9⟩, hS.F ht⟩) hS.2.2 dX7_fault_8

set_option maxHeartbeats 4000000 in
set_option maxRecDepth 100000 in
theorem c_X4_guestNamed (l : Launch) (dC : Nat → ClassId) (dI : Nat → Nat → Nat) (sh : Nat) (p0 : Int32) (sh8 : Nat) (sh9 : Nat) (sh10 : Nat) (sh11 : Nat) (sh12 : Nat) (sh13 : Nat) (sh14 : Nat) (sz : Nat) : Met l yX4_guestNamed wsX4_guestNamed ({ frames := 0, cells := 0, slots := 0, locals := 0 }) (va_Pc [.ref sh, .int p0] (fun U => U.heap.size = sz ∧ va_P (dC, dI) vwCl [(sh, .inr (4, [.int 0, .int 0, .int 0, .int 0, .int 3, .int 0, .int 0, .int 0, .ref sh8, .ref sh9, .ref sh10, .ref sh11, .ref sh12, .ref sh13, .ref sh14]))] U.heap ∧ va_K (dC, dI) vwCl [] U ∧ va_D (fun _ => True) [(sh, .inr (4, [.int 0, .int 0, .int 0, .int 0, .int 3, .int 0, .int 0, .int 0, .ref sh8, .ref sh9, .ref sh10, .ref sh11, .ref sh12, .ref sh13, .ref sh14]))] ∧ nw_ok U)) (va_Qi (fun (r : Int32) (_ : Unit) => r = (-1)) (fun (u : Unit) t => match u with | _ => va_P (dC, dI) vwCl [(sh, .inr (4, [.int 0, .int 0, .int 0, .int 0, .int 3, .int 0, .int 0, .int 0, .ref sh8, .ref sh9, .ref sh10, .ref sh11, .ref sh12, .ref sh13, .ref sh14]))] t.heap ∧ va_K (dC, dI) vwCl [] t ∧ va_D (va_A [(sh, .inr (4, [.int 0, .int 0, .int 0, .int 0, .int 3, .int 0, .int 0, .int 0, .ref sh8, .ref sh9, .ref sh10, .ref sh11, .ref sh12, .ref sh13, .ref sh14]))] sz) [(sh, .inr (4, [.int 0, .int 0, .int 0, .int 0, .int 3, .int 0, .int 0, .int 0, .ref sh8, .ref sh9, .ref sh10, .ref sh11, .ref sh12, .ref sh13, .ref sh14]))]) (va_A [(sh, .inr (4, [.int 0, .int 0, .int 0, .int 0, .int 3, .int 0, .int 0, .int 0, .ref sh8, .ref sh9, .ref sh10, .ref sh11, .ref sh12, .ref sh13, .ref sh14]))] sz)) 0 0 (va_A [(sh, .inr (4, [.int 0, .int 0, .int 0, .int 0, .int 3, .int 0, .int 0, .int 0, .ref sh8, .ref sh9, .ref sh10, .ref sh11, .ref sh12, .ref sh13, .ref sh14]))] sz) := by
  refine Met.ofW (cc := cX4_guestNamed) (maxL := 3) (ret := (some .int)) (by decide) rfl ?_
  intro p e s m args below meth c s₁ B hml hv
  obtain ⟨rfl, hsz, hP, hK, hD0, hN⟩ := hv
  have hx := B.exec
  have hb := B.bytes
  have hr := B.returns
  have hts := atoms_spec (ws := wsX4_guestNamed) B.pre
  have hown : s.vm.findClass RX4 = some m.cls := findClass_of_methodNamed B.named
  have hlocks := B.notSynchronized
  have hi4 : ∀ w ∈ wsX40, w ∈ wsX4_guestNamed := by decide +kernel
  subst hsz
  have hD := hD0.self (sz := s.heap.size)
  generalize hAe : va_A [(sh, .inr (4, [.int 0, .int 0, .int 0, .int 0, .int 3, .int 0, .int 0, .int 0, .ref sh8, .ref sh9, .ref sh10, .ref sh11, .ref sh12, .ref sh13, .ref sh14]))] s.heap.size = A at hD ⊢
  have hA : ∀ q : Nat, s.heap.size ≤ q → A q := fun q h => by rw [← hAe]; exact Or.inr h
  have hS : va_S A s.heap s.heap [] := va_S.rf
  have hP : va_P (dC, dI) vwCl [(sh, .inr (4, [.int 0, .int 0, .int 0, .int 0, .int 3, .int 0, .int 0, .int 0, .ref sh8, .ref sh9, .ref sh10, .ref sh11, .ref sh12, .ref sh13, .ref sh14]))] s.heap := hP
  have hl := lv_entry ([.ref sh, .int p0]) (n := 3) (Nat.le_of_ble_eq_true rfl)
  rw [lg_entry_eq]
  generalize (lg_sl ([.ref sh, .int p0]) ++ List.replicate (3 - (lg_sl ([.ref sh, .int p0])).length) Slot.unset).toArray = ls at hl ⊢
  have hl : lv_has ls 3 [(0, .ref sh), (1, .int p0)] := hl
  skip
  refine lv_iconst (v := 0) hx hb dX4_guestNamed_0 (by decide) ?_
  refine lv_istore_n (lv' := [(2, .int 0), (0, .ref sh), (1, .int p0)]) hx hb dX4_guestNamed_1 rfl hl (by decide) rfl (fun ls hl => ?_)
  refine lv_iload_n hx hb dX4_guestNamed_2 rfl (lv_at hl 0 rfl) ?_
  refine lv_aload_n hx hb dX4_guestNamed_3 rfl (lv_at hl 1 rfl) ?_
  refine va_get (D := (dC, dI)) (ci := 4) (v := .int 0) (C := RX4) (T := TX4) (N := 15) hx hb hts hi4 hown hK hP 0 rfl rfl 3 (by decide) (hts (.fieldLink RX4 21 "StuckGroove$Sheet" "guests" "I") (by decide +kernel)) (fun _ h9 => h9) rfl dX4_guestNamed_4 ?_
  refine lv_icmp_ge (tgt := 28) hx hb dX4_guestNamed_7 (by decide) (fun _ => ?_) (fun c1 => absurd c1 (by decide))
  refine lv_iconst (v := (-1)) hx hb dX4_guestNamed_28 (by decide) ?_
  have hP9 := hP.sub (ws' := [(sh, .inr (4, [.int 0, .int 0, .int 0, .int 0, .int 3, .int 0, .int 0, .int 0, .ref sh8, .ref sh9, .ref sh10, .ref sh11, .ref sh12, .ref sh13, .ref sh14]))]) [0] rfl
  have hD9 := hD.sub (ws' := [(sh, .inr (4, [.int 0, .int 0, .int 0, .int 0, .int 3, .int 0, .int 0, .int 0, .ref sh8, .ref sh9, .ref sh10, .ref sh11, .ref sh12, .ref sh13, .ref sh14]))]) [0] (by decide) rfl
  have hK9 := hK.sub (tys' := []) [] rfl
  exact W.iret (v := (-1)) hx hb hr (fun t ht hW => ⟨⟨(-1), (), rfl, (rfl), by rw [ht]; exact hP9, va_K.moved hW.alike hK9, hD9⟩, hS.F ht⟩) hS.2.2 dX4_guestNamed_29

set_option maxHeartbeats 4000000 in
set_option maxRecDepth 100000 in
theorem c_X7_named (l : Launch) (dC : Nat → ClassId) (dI : Nat → Nat → Nat) (x : Nat) (p0 : Int32) (fd : Nat) (sh : Nat) (sp : Nat) (rd : Nat) (nw : Nat) (im : Nat) (tr : Nat) (ah : Nat) (pl : Nat) (st : Nat) (ev : Nat) (wp : Nat) (sh8 : Nat) (sh9 : Nat) (sh10 : Nat) (sh11 : Nat) (sh12 : Nat) (sh13 : Nat) (sh14 : Nat) (sz : Nat) : Met l yX7_named wsX7_named ({ frames := 1, cells := 0, slots := 0, locals := 22 }) (va_Pc [.ref x, .int p0] (fun U => U.heap.size = sz ∧ va_P (dC, dI) vwCl [(x, .inr (7, [.ref fd, .int 0, .int 0, .int (-1), .ref sh, .ref sp, .ref rd, .ref nw, .ref im, .int 0, .int (-1), .ref tr, .ref ah, .ref pl, .ref st, .ref ev, .ref wp])), (sh, .inr (4, [.int 0, .int 0, .int 0, .int 0, .int 3, .int 0, .int 0, .int 0, .ref sh8, .ref sh9, .ref sh10, .ref sh11, .ref sh12, .ref sh13, .ref sh14]))] U.heap ∧ va_K (dC, dI) vwCl [] U ∧ va_D (fun _ => True) [(x, .inr (7, [.ref fd, .int 0, .int 0, .int (-1), .ref sh, .ref sp, .ref rd, .ref nw, .ref im, .int 0, .int (-1), .ref tr, .ref ah, .ref pl, .ref st, .ref ev, .ref wp])), (sh, .inr (4, [.int 0, .int 0, .int 0, .int 0, .int 3, .int 0, .int 0, .int 0, .ref sh8, .ref sh9, .ref sh10, .ref sh11, .ref sh12, .ref sh13, .ref sh14]))] ∧ nw_ok U)) (va_Qi (fun (r : Int32) (_ : Unit) => r = (-1)) (fun (u : Unit) t => match u with | _ => va_P (dC, dI) vwCl [] t.heap ∧ va_K (dC, dI) vwCl [] t ∧ va_D (va_A [(x, .inr (7, [.ref fd, .int 0, .int 0, .int (-1), .ref sh, .ref sp, .ref rd, .ref nw, .ref im, .int 0, .int (-1), .ref tr, .ref ah, .ref pl, .ref st, .ref ev, .ref wp])), (sh, .inr (4, [.int 0, .int 0, .int 0, .int 0, .int 3, .int 0, .int 0, .int 0, .ref sh8, .ref sh9, .ref sh10, .ref sh11, .ref sh12, .ref sh13, .ref sh14]))] sz) []) (va_A [(x, .inr (7, [.ref fd, .int 0, .int 0, .int (-1), .ref sh, .ref sp, .ref rd, .ref nw, .ref im, .int 0, .int (-1), .ref tr, .ref ah, .ref pl, .ref st, .ref ev, .ref wp])), (sh, .inr (4, [.int 0, .int 0, .int 0, .int 0, .int 3, .int 0, .int 0, .int 0, .ref sh8, .ref sh9, .ref sh10, .ref sh11, .ref sh12, .ref sh13, .ref sh14]))] sz)) 0 0 (va_A [(x, .inr (7, [.ref fd, .int 0, .int 0, .int (-1), .ref sh, .ref sp, .ref rd, .ref nw, .ref im, .int 0, .int (-1), .ref tr, .ref ah, .ref pl, .ref st, .ref ev, .ref wp])), (sh, .inr (4, [.int 0, .int 0, .int 0, .int 0, .int 3, .int 0, .int 0, .int 0, .ref sh8, .ref sh9, .ref sh10, .ref sh11, .ref sh12, .ref sh13, .ref sh14]))] sz) := by
  refine Met.ofW (cc := cX7_named) (maxL := 2) (ret := (some .int)) (by decide) rfl ?_
  intro p e s m args below meth c s₁ B hml hv
  obtain ⟨rfl, hsz, hP, hK, hD0, hN⟩ := hv
  have hx := B.exec
  have hb := B.bytes
  have hr := B.returns
  have hts := atoms_spec (ws := wsX7_named) B.pre
  have hown : s.vm.findClass RX7 = some m.cls := findClass_of_methodNamed B.named
  have hlocks := B.notSynchronized
  have hi7 : ∀ w ∈ wsX70, w ∈ wsX7_named := by decide +kernel
  subst hsz
  have hD := hD0.self (sz := s.heap.size)
  generalize hAe : va_A [(x, .inr (7, [.ref fd, .int 0, .int 0, .int (-1), .ref sh, .ref sp, .ref rd, .ref nw, .ref im, .int 0, .int (-1), .ref tr, .ref ah, .ref pl, .ref st, .ref ev, .ref wp])), (sh, .inr (4, [.int 0, .int 0, .int 0, .int 0, .int 3, .int 0, .int 0, .int 0, .ref sh8, .ref sh9, .ref sh10, .ref sh11, .ref sh12, .ref sh13, .ref sh14]))] s.heap.size = A at hD ⊢
  have hA : ∀ q : Nat, s.heap.size ≤ q → A q := fun q h => by rw [← hAe]; exact Or.inr h
  have hS : va_S A s.heap s.heap [] := va_S.rf
  have hP : va_P (dC, dI) vwCl [(x, .inr (7, [.ref fd, .int 0, .int 0, .int (-1), .ref sh, .ref sp, .ref rd, .ref nw, .ref im, .int 0, .int (-1), .ref tr, .ref ah, .ref pl, .ref st, .ref ev, .ref wp])), (sh, .inr (4, [.int 0, .int 0, .int 0, .int 0, .int 3, .int 0, .int 0, .int 0, .ref sh8, .ref sh9, .ref sh10, .ref sh11, .ref sh12, .ref sh13, .ref sh14]))] s.heap := hP
  have hl := lv_entry ([.ref x, .int p0]) (n := 2) (Nat.le_of_ble_eq_true rfl)
  rw [lg_entry_eq]
  generalize (lg_sl ([.ref x, .int p0]) ++ List.replicate (2 - (lg_sl ([.ref x, .int p0])).length) Slot.unset).toArray = ls at hl ⊢
  have hl : lv_has ls 2 [(0, .ref x), (1, .int p0)] := hl
  skip
  refine lv_aload_n hx hb dX7_named_0 rfl (lv_at hl 0 rfl) ?_
  refine va_get (D := (dC, dI)) (ci := 7) (v := .ref sh) (C := RX7) (T := TX7) (N := 17) hx hb hts hi7 hown hK hP 0 rfl rfl 4 (by decide) (hts (.fieldLink RX7 28 "StuckGroove" "sheet" "LStuckGroove$Sheet;") (by decide +kernel)) (fun _ h9 => h9) rfl dX7_named_1 ?_
  refine lv_iload_n hx hb dX7_named_4 rfl (lv_at hl 1 rfl) ?_
  have hPc := hP.sub (ws' := [(sh, .inr (4, [.int 0, .int 0, .int 0, .int 0, .int 3, .int 0, .int 0, .int 0, .ref sh8, .ref sh9, .ref sh10, .ref sh11, .ref sh12, .ref sh13, .ref sh14]))]) [1] rfl
  have hDc := hD.sub (ws' := [(sh, .inr (4, [.int 0, .int 0, .int 0, .int 0, .int 3, .int 0, .int 0, .int 0, .ref sh8, .ref sh9, .ref sh10, .ref sh11, .ref sh12, .ref sh13, .ref sh14]))]) [1] (by decide) rfl
  have hKc := hK.sub (tys' := []) [] rfl
  have hFc := va_free (wc := [(sh, .inr (4, [.int 0, .int 0, .int 0, .int 0, .int 3, .int 0, .int 0, .int 0, .ref sh8, .ref sh9, .ref sh10, .ref sh11, .ref sh12, .ref sh13, .ref sh14]))]) hD hS hA [1] rfl
  refine va_calli (va_runV (As := [.int p0]) (rest := []) ⟨hx, hb, hml, hown, hts⟩ (c_X4_guestNamed l dC dI sh p0 sh8 sh9 sh10 sh11 sh12 sh13 sh14 s.heap.size) (cwV 1 hts gX7_named_X4_guestNamed rfl rfl rfl (by decide +kernel) ⟨Nat.le_of_ble_eq_true rfl, Nat.le_of_ble_eq_true rfl⟩) ⟨fun a U g mk q => by obtain ⟨q0, q1, qP, qK, qD, qN⟩ := q; exact ⟨q0, q1, qP, va_K.moved (u := U) (U := U.calling g mk a) (Vm.Alike.refl U.vm) qK, qD, nw_same (u := U) (U := U.calling g mk a) rfl qN⟩, va_recv hKc hPc (ci := 4) (q0 := 0) rfl rfl, fun U hU hW => ⟨rfl, by rw [hU], by rw [hU]; exact hPc, va_K.moved hW.alike hKc, hDc.weaken (fun _ _ _ _ => trivial), nw_warm hW hN⟩⟩ rfl rfl hl.1 rfl (lv_room (Nat.le_of_ble_eq_true rfl)) dX7_named_5 ⟨Nat.le_of_ble_eq_true rfl, Nat.le_of_ble_eq_true rfl⟩) hS (fun q _ h => hFc q h) hFc (fun r1 u2 t H1 locs ht hvm hw hB hz1 hk1 hS => ?_)
  obtain ⟨hP1, hK1, hD1⟩ := hB
  rw [ht] at hP1
  have hK1 := va_K.moved hvm.symm hK1
  obtain ⟨hP, hD⟩ := va_join (wr := [(x, .inr (7, [.ref fd, .int 0, .int 0, .int (-1), .ref sh, .ref sp, .ref rd, .ref nw, .ref im, .int 0, .int (-1), .ref tr, .ref ah, .ref pl, .ref st, .ref ev, .ref wp]))]) (w1 := [(sh, .inr (4, [.int 0, .int 0, .int 0, .int 0, .int 3, .int 0, .int 0, .int 0, .ref sh8, .ref sh9, .ref sh10, .ref sh11, .ref sh12, .ref sh13, .ref sh14]))]) hP hD [1] [0] rfl rfl (by decide) (by decide) hk1 hFc hP1 hD1
  have hK := (hK.sub (tys' := []) [] rfl).app hK1
  generalize H1 = H at hP hS ⊢
  have hP : va_P (dC, dI) vwCl [(x, .inr (7, [.ref fd, .int 0, .int 0, .int (-1), .ref sh, .ref sp, .ref rd, .ref nw, .ref im, .int 0, .int (-1), .ref tr, .ref ah, .ref pl, .ref st, .ref ev, .ref wp])), (sh, .inr (4, [.int 0, .int 0, .int 0, .int 0, .int 3, .int 0, .int 0, .int 0, .ref sh8, .ref sh9, .ref sh10, .ref sh11, .ref sh12, .ref sh13, .ref sh14]))] H := hP
  have hD : va_D A [(x, .inr (7, [.ref fd, .int 0, .int 0, .int (-1), .ref sh, .ref sp, .ref rd, .ref nw, .ref im, .int 0, .int (-1), .ref tr, .ref ah, .ref pl, .ref st, .ref ev, .ref wp])), (sh, .inr (4, [.int 0, .int 0, .int 0, .int 0, .int 3, .int 0, .int 0, .int 0, .ref sh8, .ref sh9, .ref sh10, .ref sh11, .ref sh12, .ref sh13, .ref sh14]))] := hD
  have hK : va_K (dC, dI) vwCl [] s := hK
  subst hw
  have hP9 := hP.sub (ws' := []) [] rfl
  have hD9 := hD.sub (ws' := []) [] (by decide) rfl
  have hK9 := hK.sub (tys' := []) [] rfl
  exact W.iret (v := (-1)) hx hb hr (fun t ht hW => ⟨⟨(-1), (), rfl, (rfl), by rw [ht]; exact hP9, va_K.moved hW.alike hK9, hD9⟩, hS.F ht⟩) hS.2.2 dX7_named_8

set_option maxHeartbeats 4000000 in
set_option maxRecDepth 100000 in
theorem c_X2_take (l : Launch) (dC : Nat → ClassId) (dI : Nat → Nat → Nat) (pl : Nat) (sh : Nat) (nd : Nat) (pl0 : Nat) (pl1 : Nat) (pl2 : Int32) (pl3 : Int32) (pl4 : Int32) (pl5 : Int32) (pl6 : Int32) (pl7 : Int32) (pl8 : Int32) (pl9 : Int32) (pl10 : Int32) (pl11 : Int64) (sz : Nat) : Met l yX2_take wsX2_take ({ frames := 0, cells := 0, slots := 0, locals := 0 }) (va_Pc [.ref pl, .ref sh, .ref nd] (fun U => U.heap.size = sz ∧ va_P (dC, dI) vwCl [(pl, .inr (2, [.ref pl0, .ref pl1, .int pl2, .int pl3, .int pl4, .int pl5, .int pl6, .int pl7, .int pl8, .int pl9, .int pl10, .long pl11]))] U.heap ∧ va_K (dC, dI) vwCl [] U ∧ va_D (fun _ => True) [(pl, .inr (2, [.ref pl0, .ref pl1, .int pl2, .int pl3, .int pl4, .int pl5, .int pl6, .int pl7, .int pl8, .int pl9, .int pl10, .long pl11]))] ∧ nw_ok U)) (va_Qv (fun (_ : Unit) => True) (fun (u : Unit) t => match u with | _ => va_P (dC, dI) vwCl [(pl, .inr (2, [.ref sh, .ref nd, .int 0, .int 1, .int 1, .int pl5, .int pl6, .int (-1), .int (-1), .int pl9, .int 0, .long pl11]))] t.heap ∧ va_K (dC, dI) vwCl [] t ∧ va_D (va_A [(pl, .inr (2, [.ref pl0, .ref pl1, .int pl2, .int pl3, .int pl4, .int pl5, .int pl6, .int pl7, .int pl8, .int pl9, .int pl10, .long pl11]))] sz) [(pl, .inr (2, [.ref sh, .ref nd, .int 0, .int 1, .int 1, .int pl5, .int pl6, .int (-1), .int (-1), .int pl9, .int 0, .long pl11]))]) (va_A [(pl, .inr (2, [.ref pl0, .ref pl1, .int pl2, .int pl3, .int pl4, .int pl5, .int pl6, .int pl7, .int pl8, .int pl9, .int pl10, .long pl11]))] sz)) 0 0 (va_A [(pl, .inr (2, [.ref pl0, .ref pl1, .int pl2, .int pl3, .int pl4, .int pl5, .int pl6, .int pl7, .int pl8, .int pl9, .int pl10, .long pl11]))] sz) := by
  refine Met.ofW (cc := cX2_take) (maxL := 3) (ret := none) (by decide) rfl ?_
  intro p e s m args below meth c s₁ B hml hv
  obtain ⟨rfl, hsz, hP, hK, hD0, hN⟩ := hv
  have hx := B.exec
  have hb := B.bytes
  have hr := B.returns
  have hts := atoms_spec (ws := wsX2_take) B.pre
  have hown : s.vm.findClass RX2 = some m.cls := findClass_of_methodNamed B.named
  have hlocks := B.notSynchronized
  have hi2 : ∀ w ∈ wsX20, w ∈ wsX2_take := by decide +kernel
  subst hsz
  have hD := hD0.self (sz := s.heap.size)
  generalize hAe : va_A [(pl, .inr (2, [.ref pl0, .ref pl1, .int pl2, .int pl3, .int pl4, .int pl5, .int pl6, .int pl7, .int pl8, .int pl9, .int pl10, .long pl11]))] s.heap.size = A at hD ⊢
  have hA : ∀ q : Nat, s.heap.size ≤ q → A q := fun q h => by rw [← hAe]; exact Or.inr h
  have hS : va_S A s.heap s.heap [] := va_S.rf
  have hP : va_P (dC, dI) vwCl [(pl, .inr (2, [.ref pl0, .ref pl1, .int pl2, .int pl3, .int pl4, .int pl5, .int pl6, .int pl7, .int pl8, .int pl9, .int pl10, .long pl11]))] s.heap := hP
  have hl := lv_entry ([.ref pl, .ref sh, .ref nd]) (n := 3) (Nat.le_of_ble_eq_true rfl)
  rw [lg_entry_eq]
  generalize (lg_sl ([.ref pl, .ref sh, .ref nd]) ++ List.replicate (3 - (lg_sl ([.ref pl, .ref sh, .ref nd])).length) Slot.unset).toArray = ls at hl ⊢
  have hl : lv_has ls 3 [(0, .ref pl), (1, .ref sh), (2, .ref nd)] := hl
  skip
  refine lv_aload_n hx hb dX2_take_0 rfl (lv_at hl 0 rfl) ?_
  refine lv_aload_n hx hb dX2_take_1 rfl (lv_at hl 1 rfl) ?_
  refine va_put (D := (dC, dI)) (ci := 2) (v := .ref sh) (ty := .object "StuckGroove$Sheet") (C := RX2) (T := TX2) (N := 12) hx hb hts hi2 tyX2 tyX2_ok nmX2 hown hK hP hD hS 0 rfl rfl 0 (by decide) (hts (.fieldLink RX2 44 "StuckGroove$Player" "sheet" "LStuckGroove$Sheet;") (by decide +kernel)) (fun _ h9 => h9) rfl (by decide +kernel) rfl rfl (Nat.le_of_ble_eq_true rfl) dX2_take_2 (fun H locs hP hD hS => ?_)
  have hP : va_P (dC, dI) vwCl [(pl, .inr (2, [.ref sh, .ref pl1, .int pl2, .int pl3, .int pl4, .int pl5, .int pl6, .int pl7, .int pl8, .int pl9, .int pl10, .long pl11]))] H := hP
  have hD : va_D A [(pl, .inr (2, [.ref sh, .ref pl1, .int pl2, .int pl3, .int pl4, .int pl5, .int pl6, .int pl7, .int pl8, .int pl9, .int pl10, .long pl11]))] := hD
  refine lv_aload_n hx hb dX2_take_5 rfl (lv_at hl 0 rfl) ?_
  refine lv_aload_n hx hb dX2_take_6 rfl (lv_at hl 2 rfl) ?_
  refine va_put (D := (dC, dI)) (ci := 2) (v := .ref nd) (ty := .object "StuckGroove$Needle") (C := RX2) (T := TX2) (N := 12) hx hb hts hi2 tyX2 tyX2_ok nmX2 hown hK hP hD hS 0 rfl rfl 1 (by decide) (hts (.fieldLink RX2 48 "StuckGroove$Player" "needle" "LStuckGroove$Needle;") (by decide +kernel)) (fun _ h9 => h9) rfl (by decide +kernel) rfl rfl (Nat.le_of_ble_eq_true rfl) dX2_take_7 (fun H locs hP hD hS => ?_)
  have hP : va_P (dC, dI) vwCl [(pl, .inr (2, [.ref sh, .ref nd, .int pl2, .int pl3, .int pl4, .int pl5, .int pl6, .int pl7, .int pl8, .int pl9, .int pl10, .long pl11]))] H := hP
  have hD : va_D A [(pl, .inr (2, [.ref sh, .ref nd, .int pl2, .int pl3, .int pl4, .int pl5, .int pl6, .int pl7, .int pl8, .int pl9, .int pl10, .long pl11]))] := hD
  refine lv_aload_n hx hb dX2_take_10 rfl (lv_at hl 0 rfl) ?_
  refine lv_iconst (v := 0) hx hb dX2_take_11 (by decide) ?_
  refine va_put (D := (dC, dI)) (ci := 2) (v := .int 0) (ty := .boolean) (C := RX2) (T := TX2) (N := 12) hx hb hts hi2 tyX2 tyX2_ok nmX2 hown hK hP hD hS 0 rfl rfl 2 (by decide) (hts (.fieldLink RX2 9 "StuckGroove$Player" "drawn" "Z") (by decide +kernel)) (fun _ h9 => h9) rfl (by decide +kernel) rfl rfl (Nat.le_of_ble_eq_true rfl) dX2_take_12 (fun H locs hP hD hS => ?_)
  have hP : va_P (dC, dI) vwCl [(pl, .inr (2, [.ref sh, .ref nd, .int 0, .int pl3, .int pl4, .int pl5, .int pl6, .int pl7, .int pl8, .int pl9, .int pl10, .long pl11]))] H := hP
  have hD : va_D A [(pl, .inr (2, [.ref sh, .ref nd, .int 0, .int pl3, .int pl4, .int pl5, .int pl6, .int pl7, .int pl8, .int pl9, .int pl10, .long pl11]))] := hD
  refine lv_aload_n hx hb dX2_take_15 rfl (lv_at hl 0 rfl) ?_
  refine lv_iconst (v := 1) hx hb dX2_take_16 (by decide) ?_
  refine va_put (D := (dC, dI)) (ci := 2) (v := .int 1) (ty := .boolean) (C := RX2) (T := TX2) (N := 12) hx hb hts hi2 tyX2 tyX2_ok nmX2 hown hK hP hD hS 0 rfl rfl 3 (by decide) (hts (.fieldLink RX2 15 "StuckGroove$Player" "wears" "Z") (by decide +kernel)) (fun _ h9 => h9) rfl (by decide +kernel) rfl rfl (Nat.le_of_ble_eq_true rfl) dX2_take_17 (fun H locs hP hD hS => ?_)
  have hP : va_P (dC, dI) vwCl [(pl, .inr (2, [.ref sh, .ref nd, .int 0, .int 1, .int pl4, .int pl5, .int pl6, .int pl7, .int pl8, .int pl9, .int pl10, .long pl11]))] H := hP
  have hD : va_D A [(pl, .inr (2, [.ref sh, .ref nd, .int 0, .int 1, .int pl4, .int pl5, .int pl6, .int pl7, .int pl8, .int pl9, .int pl10, .long pl11]))] := hD
  refine lv_aload_n hx hb dX2_take_20 rfl (lv_at hl 0 rfl) ?_
  refine lv_iconst (v := 1) hx hb dX2_take_21 (by decide) ?_
  refine va_put (D := (dC, dI)) (ci := 2) (v := .int 1) (ty := .int) (C := RX2) (T := TX2) (N := 12) hx hb hts hi2 tyX2 tyX2_ok nmX2 hown hK hP hD hS 0 rfl rfl 4 (by decide) (hts (.fieldLink RX2 18 "StuckGroove$Player" "listeners" "I") (by decide +kernel)) (fun _ h9 => h9) rfl (by decide +kernel) rfl rfl (Nat.le_of_ble_eq_true rfl) dX2_take_22 (fun H locs hP hD hS => ?_)
  have hP : va_P (dC, dI) vwCl [(pl, .inr (2, [.ref sh, .ref nd, .int 0, .int 1, .int 1, .int pl5, .int pl6, .int pl7, .int pl8, .int pl9, .int pl10, .long pl11]))] H := hP
  have hD : va_D A [(pl, .inr (2, [.ref sh, .ref nd, .int 0, .int 1, .int 1, .int pl5, .int pl6, .int pl7, .int pl8, .int pl9, .int pl10, .long pl11]))] := hD
  refine lv_aload_n hx hb dX2_take_25 rfl (lv_at hl 0 rfl) ?_
  refine lv_iconst (v := (-1)) hx hb dX2_take_26 (by decide) ?_
  refine va_put (D := (dC, dI)) (ci := 2) (v := .int (-1)) (ty := .int) (C := RX2) (T := TX2) (N := 12) hx hb hts hi2 tyX2 tyX2_ok nmX2 hown hK hP hD hS 0 rfl rfl 7 (by decide) (hts (.fieldLink RX2 28 "StuckGroove$Player" "gone" "I") (by decide +kernel)) (fun _ h9 => h9) rfl (by decide +kernel) rfl rfl (Nat.le_of_ble_eq_true rfl) dX2_take_27 (fun H locs hP hD hS => ?_)
  have hP : va_P (dC, dI) vwCl [(pl, .inr (2, [.ref sh, .ref nd, .int 0, .int 1, .int 1, .int pl5, .int pl6, .int (-1), .int pl8, .int pl9, .int pl10, .long pl11]))] H := hP
  have hD : va_D A [(pl, .inr (2, [.ref sh, .ref nd, .int 0, .int 1, .int 1, .int pl5, .int pl6, .int (-1), .int pl8, .int pl9, .int pl10, .long pl11]))] := hD
  refine lv_aload_n hx hb dX2_take_30 rfl (lv_at hl 0 rfl) ?_
  refine lv_iconst (v := (-1)) hx hb dX2_take_31 (by decide) ?_
  refine va_put (D := (dC, dI)) (ci := 2) (v := .int (-1)) (ty := .int) (C := RX2) (T := TX2) (N := 12) hx hb hts hi2 tyX2 tyX2_ok nmX2 hown hK hP hD hS 0 rfl rfl 8 (by decide) (hts (.fieldLink RX2 31 "StuckGroove$Player" "changed" "I") (by decide +kernel)) (fun _ h9 => h9) rfl (by decide +kernel) rfl rfl (Nat.le_of_ble_eq_true rfl) dX2_take_32 (fun H locs hP hD hS => ?_)
  have hP : va_P (dC, dI) vwCl [(pl, .inr (2, [.ref sh, .ref nd, .int 0, .int 1, .int 1, .int pl5, .int pl6, .int (-1), .int (-1), .int pl9, .int pl10, .long pl11]))] H := hP
  have hD : va_D A [(pl, .inr (2, [.ref sh, .ref nd, .int 0, .int 1, .int 1, .int pl5, .int pl6, .int (-1), .int (-1), .int pl9, .int pl10, .long pl11]))] := hD
  refine lv_aload_n hx hb dX2_take_35 rfl (lv_at hl 0 rfl) ?_
  refine lv_iconst (v := 0) hx hb dX2_take_36 (by decide) ?_
  refine va_put (D := (dC, dI)) (ci := 2) (v := .int 0) (ty := .boolean) (C := RX2) (T := TX2) (N := 12) hx hb hts hi2 tyX2 tyX2_ok nmX2 hown hK hP hD hS 0 rfl rfl 10 (by decide) (hts (.fieldLink RX2 37 "StuckGroove$Player" "wasBack" "Z") (by decide +kernel)) (fun _ h9 => h9) rfl (by decide +kernel) rfl rfl (Nat.le_of_ble_eq_true rfl) dX2_take_37 (fun H locs hP hD hS => ?_)
  have hP : va_P (dC, dI) vwCl [(pl, .inr (2, [.ref sh, .ref nd, .int 0, .int 1, .int 1, .int pl5, .int pl6, .int (-1), .int (-1), .int pl9, .int 0, .long pl11]))] H := hP
  have hD : va_D A [(pl, .inr (2, [.ref sh, .ref nd, .int 0, .int 1, .int 1, .int pl5, .int pl6, .int (-1), .int (-1), .int pl9, .int 0, .long pl11]))] := hD
  have hP9 := hP.sub (ws' := [(pl, .inr (2, [.ref sh, .ref nd, .int 0, .int 1, .int 1, .int pl5, .int pl6, .int (-1), .int (-1), .int pl9, .int 0, .long pl11]))]) [0] rfl
  have hD9 := hD.sub (ws' := [(pl, .inr (2, [.ref sh, .ref nd, .int 0, .int 1, .int 1, .int pl5, .int pl6, .int (-1), .int (-1), .int pl9, .int 0, .long pl11]))]) [0] (by decide) rfl
  have hK9 := hK.sub (tys' := []) [] rfl
  exact W.vret hx hb hr (fun t ht hW => ⟨⟨(), rfl, trivial, by rw [ht]; exact hP9, va_K.moved hW.alike hK9, hD9⟩, hS.F ht⟩) hS.2.2 dX2_take_40

set_option maxHeartbeats 4000000 in
set_option maxRecDepth 100000 in
theorem c_X5_remember (l : Launch) (dC : Nat → ClassId) (dI : Nat → Nat → Nat) (st : Nat) (nw : Nat) (stp : Nat) (str : Nat) (stw : Nat) (k_stp : ClassId) (f_stp : Nat → Int32) (k_str : ClassId) (f_str : Nat → Int32) (k_stw : ClassId) (f_stw : Nat → Int32) (nw0 : Int32) (nw1 : Int32) (nw2 : Int32) (nw3 : Int32) (nw4 : Int32) (nw5 : Int32) (nw6 : Int32) (nw7 : Int32) (nw8 : Nat) (nw9 : Nat) (nw10 : Nat) (sz : Nat) : Met l yX5_remember wsX5_remember ({ frames := 0, cells := 0, slots := 0, locals := 0 }) (va_Pc [.ref st, .ref nw] (fun U => U.heap.size = sz ∧ va_P (dC, dI) vwCl [(st, .inr (5, [.int 0, .ref stp, .ref str, .ref stw])), (stp, .inl (k_stp, 20, .inl f_stp)), (str, .inl (k_str, 20, .inl f_str)), (stw, .inl (k_stw, 20, .inl f_stw)), (nw, .inr (1, [.int nw0, .int nw1, .int nw2, .int nw3, .int nw4, .int nw5, .int nw6, .int nw7, .ref nw8, .ref nw9, .ref nw10]))] U.heap ∧ va_K (dC, dI) vwCl [(k_stp, .int), (k_str, .int), (k_stw, .int)] U ∧ va_D (fun _ => True) [(st, .inr (5, [.int 0, .ref stp, .ref str, .ref stw])), (stp, .inl (k_stp, 20, .inl f_stp)), (str, .inl (k_str, 20, .inl f_str)), (stw, .inl (k_stw, 20, .inl f_stw)), (nw, .inr (1, [.int nw0, .int nw1, .int nw2, .int nw3, .int nw4, .int nw5, .int nw6, .int nw7, .ref nw8, .ref nw9, .ref nw10]))] ∧ nw_ok U)) (va_Qv (fun (_ : Unit) => True) (fun (u : Unit) t => match u with | _ => va_P (dC, dI) vwCl [(st, .inr (5, [.int 1, .ref stp, .ref str, .ref stw])), (stp, .inl (k_stp, 20, .inl (upd f_stp 0 nw0))), (str, .inl (k_str, 20, .inl (upd f_str 0 nw5))), (stw, .inl (k_stw, 20, .inl (upd f_stw 0 nw6))), (nw, .inr (1, [.int nw0, .int nw1, .int nw2, .int nw3, .int nw4, .int nw5, .int nw6, .int nw7, .ref nw8, .ref nw9, .ref nw10]))] t.heap ∧ va_K (dC, dI) vwCl [(k_stp, .int), (k_str, .int), (k_stw, .int)] t ∧ va_D (va_A [(st, .inr (5, [.int 0, .ref stp, .ref str, .ref stw])), (stp, .inl (k_stp, 20, .inl f_stp)), (str, .inl (k_str, 20, .inl f_str)), (stw, .inl (k_stw, 20, .inl f_stw)), (nw, .inr (1, [.int nw0, .int nw1, .int nw2, .int nw3, .int nw4, .int nw5, .int nw6, .int nw7, .ref nw8, .ref nw9, .ref nw10]))] sz) [(st, .inr (5, [.int 1, .ref stp, .ref str, .ref stw])), (stp, .inl (k_stp, 20, .inl (upd f_stp 0 nw0))), (str, .inl (k_str, 20, .inl (upd f_str 0 nw5))), (stw, .inl (k_stw, 20, .inl (upd f_stw 0 nw6))), (nw, .inr (1, [.int nw0, .int nw1, .int nw2, .int nw3, .int nw4, .int nw5, .int nw6, .int nw7, .ref nw8, .ref nw9, .ref nw10]))]) (va_A [(st, .inr (5, [.int 0, .ref stp, .ref str, .ref stw])), (stp, .inl (k_stp, 20, .inl f_stp)), (str, .inl (k_str, 20, .inl f_str)), (stw, .inl (k_stw, 20, .inl f_stw)), (nw, .inr (1, [.int nw0, .int nw1, .int nw2, .int nw3, .int nw4, .int nw5, .int nw6, .int nw7, .ref nw8, .ref nw9, .ref nw10]))] sz)) 0 0 (va_A [(st, .inr (5, [.int 0, .ref stp, .ref str, .ref stw])), (stp, .inl (k_stp, 20, .inl f_stp)), (str, .inl (k_str, 20, .inl f_str)), (stw, .inl (k_stw, 20, .inl f_stw)), (nw, .inr (1, [.int nw0, .int nw1, .int nw2, .int nw3, .int nw4, .int nw5, .int nw6, .int nw7, .ref nw8, .ref nw9, .ref nw10]))] sz) := by
  refine Met.ofW (cc := cX5_remember) (maxL := 2) (ret := none) (by decide) rfl ?_
  intro p e s m args below meth c s₁ B hml hv
  obtain ⟨rfl, hsz, hP, hK, hD0, hN⟩ := hv
  have hx := B.exec
  have hb := B.bytes
  have hr := B.returns
  have hts := atoms_spec (ws := wsX5_remember) B.pre
  have hown : s.vm.findClass RX5 = some m.cls := findClass_of_methodNamed B.named
  have hlocks := B.notSynchronized
  have hi1 : ∀ w ∈ wsX10, w ∈ wsX5_remember := by decide +kernel
  have hi5 : ∀ w ∈ wsX50, w ∈ wsX5_remember := by decide +kernel
  subst hsz
  have hD := hD0.self (sz := s.heap.size)
  generalize hAe : va_A [(st, .inr (5, [.int 0, .ref stp, .ref str, .ref stw])), (stp, .inl (k_stp, 20, .inl f_stp)), (str, .inl (k_str, 20, .inl f_str)), (stw, .inl (k_stw, 20, .inl f_stw)), (nw, .inr (1, [.int nw0, .int nw1, .int nw2, .int nw3, .int nw4, .int nw5, .int nw6, .int nw7, .ref nw8, .ref nw9, .ref nw10]))] s.heap.size = A at hD ⊢
  have hA : ∀ q : Nat, s.heap.size ≤ q → A q := fun q h => by rw [← hAe]; exact Or.inr h
  have hS : va_S A s.heap s.heap [] := va_S.rf
  have hP : va_P (dC, dI) vwCl [(st, .inr (5, [.int 0, .ref stp, .ref str, .ref stw])), (stp, .inl (k_stp, 20, .inl f_stp)), (str, .inl (k_str, 20, .inl f_str)), (stw, .inl (k_stw, 20, .inl f_stw)), (nw, .inr (1, [.int nw0, .int nw1, .int nw2, .int nw3, .int nw4, .int nw5, .int nw6, .int nw7, .ref nw8, .ref nw9, .ref nw10]))] s.heap := hP
  have hl := lv_entry ([.ref st, .ref nw]) (n := 2) (Nat.le_of_ble_eq_true rfl)
  rw [lg_entry_eq]
  generalize (lg_sl ([.ref st, .ref nw]) ++ List.replicate (2 - (lg_sl ([.ref st, .ref nw])).length) Slot.unset).toArray = ls at hl ⊢
  have hl : lv_has ls 2 [(0, .ref st), (1, .ref nw)] := hl
  skip
  refine lv_aload_n hx hb dX5_remember_0 rfl (lv_at hl 0 rfl) ?_
  refine va_get (D := (dC, dI)) (ci := 5) (v := .int 0) (C := RX5) (T := TX5) (N := 4) hx hb hts hi5 hown hK hP 0 rfl rfl 0 (by decide) (hts (.fieldLink RX5 9 "StuckGroove$Steps" "size" "I") (by decide +kernel)) (fun _ h9 => h9) rfl dX5_remember_1 ?_
  refine lv_bipush (v := 20) hx hb dX5_remember_4 (by decide) ?_
  refine lv_icmp_ne (tgt := 64) hx hb dX5_remember_6 (by decide) (fun _ => ?_) (fun c1 => absurd c1 (by decide))
  refine lv_aload_n hx hb dX5_remember_64 rfl (lv_at hl 0 rfl) ?_
  refine va_get (D := (dC, dI)) (ci := 5) (v := .ref stp) (C := RX5) (T := TX5) (N := 4) hx hb hts hi5 hown hK hP 0 rfl rfl 1 (by decide) (hts (.fieldLink RX5 15 "StuckGroove$Steps" "places" "[I") (by decide +kernel)) (fun _ h9 => h9) rfl dX5_remember_65 ?_
  refine lv_aload_n hx hb dX5_remember_68 rfl (lv_at hl 0 rfl) ?_
  refine va_get (D := (dC, dI)) (ci := 5) (v := .int 0) (C := RX5) (T := TX5) (N := 4) hx hb hts hi5 hown hK hP 0 rfl rfl 0 (by decide) (hts (.fieldLink RX5 9 "StuckGroove$Steps" "size" "I") (by decide +kernel)) (fun _ h9 => h9) rfl dX5_remember_69 ?_
  refine lv_aload_n hx hb dX5_remember_72 rfl (lv_at hl 1 rfl) ?_
  refine va_getN (D := (dC, dI)) (ci := 1) (v := .int nw0) (C := RX1) (T := TX1) (N := 11) hx hb hts hi1 hown hK hP 4 rfl rfl 0 (by decide) (va_Nw.use rfl (hN.1 (RX5, 31, "StuckGroove$Needle", "place", "I", "StuckGroove") (by decide +kernel))) (fun _ h9 => h9) rfl dX5_remember_73 ?_
  refine va_iast hx hb hK hP hD hS 1 0 rfl rfl (by unfold vp_in; decide) dX5_remember_76 (fun H locs hP hD hS => ?_)
  have hP : va_P (dC, dI) vwCl [(st, .inr (5, [.int 0, .ref stp, .ref str, .ref stw])), (stp, .inl (k_stp, 20, .inl (upd f_stp 0 nw0))), (str, .inl (k_str, 20, .inl f_str)), (stw, .inl (k_stw, 20, .inl f_stw)), (nw, .inr (1, [.int nw0, .int nw1, .int nw2, .int nw3, .int nw4, .int nw5, .int nw6, .int nw7, .ref nw8, .ref nw9, .ref nw10]))] H := hP
  have hD : va_D A [(st, .inr (5, [.int 0, .ref stp, .ref str, .ref stw])), (stp, .inl (k_stp, 20, .inl (upd f_stp 0 nw0))), (str, .inl (k_str, 20, .inl f_str)), (stw, .inl (k_stw, 20, .inl f_stw)), (nw, .inr (1, [.int nw0, .int nw1, .int nw2, .int nw3, .int nw4, .int nw5, .int nw6, .int nw7, .ref nw8, .ref nw9, .ref nw10]))] := hD
  refine lv_aload_n hx hb dX5_remember_77 rfl (lv_at hl 0 rfl) ?_
  refine va_get (D := (dC, dI)) (ci := 5) (v := .ref str) (C := RX5) (T := TX5) (N := 4) hx hb hts hi5 hown hK hP 0 rfl rfl 2 (by decide) (hts (.fieldLink RX5 19 "StuckGroove$Steps" "rounds" "[I") (by decide +kernel)) (fun _ h9 => h9) rfl dX5_remember_78 ?_
  refine lv_aload_n hx hb dX5_remember_81 rfl (lv_at hl 0 rfl) ?_
  refine va_get (D := (dC, dI)) (ci := 5) (v := .int 0) (C := RX5) (T := TX5) (N := 4) hx hb hts hi5 hown hK hP 0 rfl rfl 0 (by decide) (hts (.fieldLink RX5 9 "StuckGroove$Steps" "size" "I") (by decide +kernel)) (fun _ h9 => h9) rfl dX5_remember_82 ?_
  refine lv_aload_n hx hb dX5_remember_85 rfl (lv_at hl 1 rfl) ?_
  refine va_getN (D := (dC, dI)) (ci := 1) (v := .int nw5) (C := RX1) (T := TX1) (N := 11) hx hb hts hi1 hown hK hP 4 rfl rfl 5 (by decide) (va_Nw.use rfl (hN.1 (RX5, 36, "StuckGroove$Needle", "rounds", "I", "StuckGroove") (by decide +kernel))) (fun _ h9 => h9) rfl dX5_remember_86 ?_
  refine va_iast hx hb hK hP hD hS 2 1 rfl rfl (by unfold vp_in; decide) dX5_remember_89 (fun H locs hP hD hS => ?_)
  have hP : va_P (dC, dI) vwCl [(st, .inr (5, [.int 0, .ref stp, .ref str, .ref stw])), (stp, .inl (k_stp, 20, .inl (upd f_stp 0 nw0))), (str, .inl (k_str, 20, .inl (upd f_str 0 nw5))), (stw, .inl (k_stw, 20, .inl f_stw)), (nw, .inr (1, [.int nw0, .int nw1, .int nw2, .int nw3, .int nw4, .int nw5, .int nw6, .int nw7, .ref nw8, .ref nw9, .ref nw10]))] H := hP
  have hD : va_D A [(st, .inr (5, [.int 0, .ref stp, .ref str, .ref stw])), (stp, .inl (k_stp, 20, .inl (upd f_stp 0 nw0))), (str, .inl (k_str, 20, .inl (upd f_str 0 nw5))), (stw, .inl (k_stw, 20, .inl f_stw)), (nw, .inr (1, [.int nw0, .int nw1, .int nw2, .int nw3, .int nw4, .int nw5, .int nw6, .int nw7, .ref nw8, .ref nw9, .ref nw10]))] := hD
  refine lv_aload_n hx hb dX5_remember_90 rfl (lv_at hl 0 rfl) ?_
  refine va_get (D := (dC, dI)) (ci := 5) (v := .ref stw) (C := RX5) (T := TX5) (N := 4) hx hb hts hi5 hown hK hP 0 rfl rfl 3 (by decide) (hts (.fieldLink RX5 22 "StuckGroove$Steps" "weights" "[I") (by decide +kernel)) (fun _ h9 => h9) rfl dX5_remember_91 ?_
  refine lv_aload_n hx hb dX5_remember_94 rfl (lv_at hl 0 rfl) ?_
  refine va_get (D := (dC, dI)) (ci := 5) (v := .int 0) (C := RX5) (T := TX5) (N := 4) hx hb hts hi5 hown hK hP 0 rfl rfl 0 (by decide) (hts (.fieldLink RX5 9 "StuckGroove$Steps" "size" "I") (by decide +kernel)) (fun _ h9 => h9) rfl dX5_remember_95 ?_
  refine lv_aload_n hx hb dX5_remember_98 rfl (lv_at hl 1 rfl) ?_
  refine va_getN (D := (dC, dI)) (ci := 1) (v := .int nw6) (C := RX1) (T := TX1) (N := 11) hx hb hts hi1 hown hK hP 4 rfl rfl 6 (by decide) (va_Nw.use rfl (hN.1 (RX5, 38, "StuckGroove$Needle", "weight", "I", "StuckGroove") (by decide +kernel))) (fun _ h9 => h9) rfl dX5_remember_99 ?_
  refine va_iast hx hb hK hP hD hS 3 2 rfl rfl (by unfold vp_in; decide) dX5_remember_102 (fun H locs hP hD hS => ?_)
  have hP : va_P (dC, dI) vwCl [(st, .inr (5, [.int 0, .ref stp, .ref str, .ref stw])), (stp, .inl (k_stp, 20, .inl (upd f_stp 0 nw0))), (str, .inl (k_str, 20, .inl (upd f_str 0 nw5))), (stw, .inl (k_stw, 20, .inl (upd f_stw 0 nw6))), (nw, .inr (1, [.int nw0, .int nw1, .int nw2, .int nw3, .int nw4, .int nw5, .int nw6, .int nw7, .ref nw8, .ref nw9, .ref nw10]))] H := hP
  have hD : va_D A [(st, .inr (5, [.int 0, .ref stp, .ref str, .ref stw])), (stp, .inl (k_stp, 20, .inl (upd f_stp 0 nw0))), (str, .inl (k_str, 20, .inl (upd f_str 0 nw5))), (stw, .inl (k_stw, 20, .inl (upd f_stw 0 nw6))), (nw, .inr (1, [.int nw0, .int nw1, .int nw2, .int nw3, .int nw4, .int nw5, .int nw6, .int nw7, .ref nw8, .ref nw9, .ref nw10]))] := hD
  refine lv_aload_n hx hb dX5_remember_103 rfl (lv_at hl 0 rfl) ?_
  refine lv_dup hx hb dX5_remember_104 rfl ?_
  refine va_get (D := (dC, dI)) (ci := 5) (v := .int 0) (C := RX5) (T := TX5) (N := 4) hx hb hts hi5 hown hK hP 0 rfl rfl 0 (by decide) (hts (.fieldLink RX5 9 "StuckGroove$Steps" "size" "I") (by decide +kernel)) (fun _ h9 => h9) rfl dX5_remember_105 ?_
  refine lv_iconst (v := 1) hx hb dX5_remember_108 (by decide) ?_
  refine lv_iadd hx hb dX5_remember_109 ?_
  refine lv_topi (fun z2 hz2 => ?_)
  obtain rfl : z2 = 1 := hz2.trans (by decide)
  refine va_put (D := (dC, dI)) (ci := 5) (v := .int 1) (ty := .int) (C := RX5) (T := TX5) (N := 4) hx hb hts hi5 tyX5 tyX5_ok nmX5 hown hK hP hD hS 0 rfl rfl 0 (by decide) (hts (.fieldLink RX5 9 "StuckGroove$Steps" "size" "I") (by decide +kernel)) (fun _ h9 => h9) rfl (by decide +kernel) rfl rfl (Nat.le_of_ble_eq_true rfl) dX5_remember_110 (fun H locs hP hD hS => ?_)
  have hP : va_P (dC, dI) vwCl [(st, .inr (5, [.int 1, .ref stp, .ref str, .ref stw])), (stp, .inl (k_stp, 20, .inl (upd f_stp 0 nw0))), (str, .inl (k_str, 20, .inl (upd f_str 0 nw5))), (stw, .inl (k_stw, 20, .inl (upd f_stw 0 nw6))), (nw, .inr (1, [.int nw0, .int nw1, .int nw2, .int nw3, .int nw4, .int nw5, .int nw6, .int nw7, .ref nw8, .ref nw9, .ref nw10]))] H := hP
  have hD : va_D A [(st, .inr (5, [.int 1, .ref stp, .ref str, .ref stw])), (stp, .inl (k_stp, 20, .inl (upd f_stp 0 nw0))), (str, .inl (k_str, 20, .inl (upd f_str 0 nw5))), (stw, .inl (k_stw, 20, .inl (upd f_stw 0 nw6))), (nw, .inr (1, [.int nw0, .int nw1, .int nw2, .int nw3, .int nw4, .int nw5, .int nw6, .int nw7, .ref nw8, .ref nw9, .ref nw10]))] := hD
  have hP9 := hP.sub (ws' := [(st, .inr (5, [.int 1, .ref stp, .ref str, .ref stw])), (stp, .inl (k_stp, 20, .inl (upd f_stp 0 nw0))), (str, .inl (k_str, 20, .inl (upd f_str 0 nw5))), (stw, .inl (k_stw, 20, .inl (upd f_stw 0 nw6))), (nw, .inr (1, [.int nw0, .int nw1, .int nw2, .int nw3, .int nw4, .int nw5, .int nw6, .int nw7, .ref nw8, .ref nw9, .ref nw10]))]) [0, 1, 2, 3, 4] rfl
  have hD9 := hD.sub (ws' := [(st, .inr (5, [.int 1, .ref stp, .ref str, .ref stw])), (stp, .inl (k_stp, 20, .inl (upd f_stp 0 nw0))), (str, .inl (k_str, 20, .inl (upd f_str 0 nw5))), (stw, .inl (k_stw, 20, .inl (upd f_stw 0 nw6))), (nw, .inr (1, [.int nw0, .int nw1, .int nw2, .int nw3, .int nw4, .int nw5, .int nw6, .int nw7, .ref nw8, .ref nw9, .ref nw10]))]) [0, 1, 2, 3, 4] (by decide) rfl
  have hK9 := hK.sub (tys' := [(k_stp, .int), (k_str, .int), (k_stw, .int)]) [0, 1, 2] rfl
  exact W.vret hx hb hr (fun t ht hW => ⟨⟨(), rfl, trivial, by rw [ht]; exact hP9, va_K.moved hW.alike hK9, hD9⟩, hS.F ht⟩) hS.2.2 dX5_remember_113

def sp_X7_weigh (p0 : Int32) : Int32 := (if (sp_X7_within p0 0 9) = 0 then 0 else (if p0 = 3 then 0 else 1))
set_option maxHeartbeats 4000000 in
set_option maxRecDepth 100000 in
theorem c_X7_weigh (l : Launch) (dC : Nat → ClassId) (dI : Nat → Nat → Nat) (x : Nat) (p0 : Int32) (fd : Nat) (sh : Nat) (sp : Nat) (rd : Nat) (nw : Nat) (im : Nat) (tr : Nat) (ah : Nat) (pl : Nat) (st : Nat) (ev : Nat) (wp : Nat) (nwp : Nat) (nww : Nat) (nwg : Nat) (stp : Nat) (str : Nat) (stw : Nat) (k_stp : ClassId) (f_stp : Nat → Int32) (k_str : ClassId) (f_str : Nat → Int32) (k_stw : ClassId) (f_stw : Nat → Int32) (sz : Nat) : Met l yX7_weigh wsX7_weigh ({ frames := 1, cells := 0, slots := 0, locals := 22 }) (va_Pc [.ref x, .int p0] (fun U => U.heap.size = sz ∧ va_P (dC, dI) vwCl [(x, .inr (7, [.ref fd, .int 0, .int 0, .int (-1), .ref sh, .ref sp, .ref rd, .ref nw, .ref im, .int 0, .int (-1), .ref tr, .ref ah, .ref pl, .ref st, .ref ev, .ref wp])), (nw, .inr (1, [.int (-2), .int 0, .int 0, .int 0, .int 0, .int 0, .int 3, .int 0, .ref nwp, .ref nww, .ref nwg])), (st, .inr (5, [.int 0, .ref stp, .ref str, .ref stw])), (stp, .inl (k_stp, 20, .inl f_stp)), (str, .inl (k_str, 20, .inl f_str)), (stw, .inl (k_stw, 20, .inl f_stw))] U.heap ∧ va_K (dC, dI) vwCl [(k_stp, .int), (k_str, .int), (k_stw, .int)] U ∧ va_D (fun _ => True) [(x, .inr (7, [.ref fd, .int 0, .int 0, .int (-1), .ref sh, .ref sp, .ref rd, .ref nw, .ref im, .int 0, .int (-1), .ref tr, .ref ah, .ref pl, .ref st, .ref ev, .ref wp])), (nw, .inr (1, [.int (-2), .int 0, .int 0, .int 0, .int 0, .int 0, .int 3, .int 0, .ref nwp, .ref nww, .ref nwg])), (st, .inr (5, [.int 0, .ref stp, .ref str, .ref stw])), (stp, .inl (k_stp, 20, .inl f_stp)), (str, .inl (k_str, 20, .inl f_str)), (stw, .inl (k_stw, 20, .inl f_stw))] ∧ nw_ok U)) (va_Qi (fun (r : Int32) (_ : Unit) => r = (sp_X7_weigh p0)) (fun (u : Unit) t => match u with | _ => va_P (dC, dI) vwCl [] t.heap ∧ va_K (dC, dI) vwCl [] t ∧ va_D (va_A [(x, .inr (7, [.ref fd, .int 0, .int 0, .int (-1), .ref sh, .ref sp, .ref rd, .ref nw, .ref im, .int 0, .int (-1), .ref tr, .ref ah, .ref pl, .ref st, .ref ev, .ref wp])), (nw, .inr (1, [.int (-2), .int 0, .int 0, .int 0, .int 0, .int 0, .int 3, .int 0, .ref nwp, .ref nww, .ref nwg])), (st, .inr (5, [.int 0, .ref stp, .ref str, .ref stw])), (stp, .inl (k_stp, 20, .inl f_stp)), (str, .inl (k_str, 20, .inl f_str)), (stw, .inl (k_stw, 20, .inl f_stw))] sz) []) (va_A [(x, .inr (7, [.ref fd, .int 0, .int 0, .int (-1), .ref sh, .ref sp, .ref rd, .ref nw, .ref im, .int 0, .int (-1), .ref tr, .ref ah, .ref pl, .ref st, .ref ev, .ref wp])), (nw, .inr (1, [.int (-2), .int 0, .int 0, .int 0, .int 0, .int 0, .int 3, .int 0, .ref nwp, .ref nww, .ref nwg])), (st, .inr (5, [.int 0, .ref stp, .ref str, .ref stw])), (stp, .inl (k_stp, 20, .inl f_stp)), (str, .inl (k_str, 20, .inl f_str)), (stw, .inl (k_stw, 20, .inl f_stw))] sz)) 0 0 (va_A [(x, .inr (7, [.ref fd, .int 0, .int 0, .int (-1), .ref sh, .ref sp, .ref rd, .ref nw, .ref im, .int 0, .int (-1), .ref tr, .ref ah, .ref pl, .ref st, .ref ev, .ref wp])), (nw, .inr (1, [.int (-2), .int 0, .int 0, .int 0, .int 0, .int 0, .int 3, .int 0, .ref nwp, .ref nww, .ref nwg])), (st, .inr (5, [.int 0, .ref stp, .ref str, .ref stw])), (stp, .inl (k_stp, 20, .inl f_stp)), (str, .inl (k_str, 20, .inl f_str)), (stw, .inl (k_stw, 20, .inl f_stw))] sz) := by
  refine Met.ofW (cc := cX7_weigh) (maxL := 2) (ret := (some .boolean)) (by decide) rfl ?_
  intro p e s m args below meth c s₁ B hml hv
  obtain ⟨rfl, hsz, hP, hK, hD0, hN⟩ := hv
  have hx := B.exec
  have hb := B.bytes
  have hr := B.returns
  have hts := atoms_spec (ws := wsX7_weigh) B.pre
  have hown : s.vm.findClass RX7 = some m.cls := findClass_of_methodNamed B.named
  have hlocks := B.notSynchronized
  have hi1 : ∀ w ∈ wsX10, w ∈ wsX7_weigh := by decide +kernel
  have hi7 : ∀ w ∈ wsX70, w ∈ wsX7_weigh := by decide +kernel
  subst hsz
  have hD := hD0.self (sz := s.heap.size)
  generalize hAe : va_A [(x, .inr (7, [.ref fd, .int 0, .int 0, .int (-1), .ref sh, .ref sp, .ref rd, .ref nw, .ref im, .int 0, .int (-1), .ref tr, .ref ah, .ref pl, .ref st, .ref ev, .ref wp])), (nw, .inr (1, [.int (-2), .int 0, .int 0, .int 0, .int 0, .int 0, .int 3, .int 0, .ref nwp, .ref nww, .ref nwg])), (st, .inr (5, [.int 0, .ref stp, .ref str, .ref stw])), (stp, .inl (k_stp, 20, .inl f_stp)), (str, .inl (k_str, 20, .inl f_str)), (stw, .inl (k_stw, 20, .inl f_stw))] s.heap.size = A at hD ⊢
  have hA : ∀ q : Nat, s.heap.size ≤ q → A q := fun q h => by rw [← hAe]; exact Or.inr h
  have hS : va_S A s.heap s.heap [] := va_S.rf
  have hP : va_P (dC, dI) vwCl [(x, .inr (7, [.ref fd, .int 0, .int 0, .int (-1), .ref sh, .ref sp, .ref rd, .ref nw, .ref im, .int 0, .int (-1), .ref tr, .ref ah, .ref pl, .ref st, .ref ev, .ref wp])), (nw, .inr (1, [.int (-2), .int 0, .int 0, .int 0, .int 0, .int 0, .int 3, .int 0, .ref nwp, .ref nww, .ref nwg])), (st, .inr (5, [.int 0, .ref stp, .ref str, .ref stw])), (stp, .inl (k_stp, 20, .inl f_stp)), (str, .inl (k_str, 20, .inl f_str)), (stw, .inl (k_stw, 20, .inl f_stw))] s.heap := hP
  have hl := lv_entry ([.ref x, .int p0]) (n := 2) (Nat.le_of_ble_eq_true rfl)
  rw [lg_entry_eq]
  generalize (lg_sl ([.ref x, .int p0]) ++ List.replicate (2 - (lg_sl ([.ref x, .int p0])).length) Slot.unset).toArray = ls at hl ⊢
  have hl : lv_has ls 2 [(0, .ref x), (1, .int p0)] := hl
  skip
  refine lv_iload_n hx hb dX7_weigh_0 rfl (lv_at hl 1 rfl) ?_
  refine lv_iconst (v := 0) hx hb dX7_weigh_1 (by decide) ?_
  refine lv_bipush (v := 9) hx hb dX7_weigh_2 (by decide) ?_
  have hPc := hP.sub (ws' := []) [] rfl
  have hDc := hD.sub (ws' := []) [] (by decide) rfl
  have hKc := hK.sub (tys' := []) [] rfl
  have hFc := va_free (wc := []) hD hS hA [] rfl
  refine va_calli (va_runS (As := [.int p0, .int 0, .int 9]) (rest := []) ⟨hx, hb, hml, hown, hts⟩ (c_X7_within l dC dI p0 0 9 s.heap.size) (va_cwS 3 hts gX7_weigh_X7_within rfl rfl rfl (by decide +kernel) ⟨Nat.le_of_ble_eq_true rfl, Nat.le_of_ble_eq_true rfl⟩) ⟨fun a U g mk q => by obtain ⟨q0, q1, qP, qK, qD, qN⟩ := q; exact ⟨q0, q1, qP, va_K.moved (u := U) (U := U.calling g mk a) (Vm.Alike.refl U.vm) qK, qD, nw_same (u := U) (U := U.calling g mk a) rfl qN⟩, fun U hU hW => ⟨rfl, by rw [hU], by rw [hU]; exact hPc, va_K.moved hW.alike hKc, hDc.weaken (fun _ _ _ _ => trivial), nw_warm hW hN⟩⟩ rfl rfl hl.1 rfl (lv_room (Nat.le_of_ble_eq_true rfl)) dX7_weigh_4 ⟨Nat.le_of_ble_eq_true rfl, Nat.le_of_ble_eq_true rfl⟩) hS (fun q _ h => hFc q h) hFc (fun r1 u2 t H1 locs ht hvm hw hB hz1 hk1 hS => ?_)
  obtain ⟨hP1, hK1, hD1⟩ := hB
  rw [ht] at hP1
  have hK1 := va_K.moved hvm.symm hK1
  obtain ⟨hP, hD⟩ := va_join (wr := [(x, .inr (7, [.ref fd, .int 0, .int 0, .int (-1), .ref sh, .ref sp, .ref rd, .ref nw, .ref im, .int 0, .int (-1), .ref tr, .ref ah, .ref pl, .ref st, .ref ev, .ref wp])), (nw, .inr (1, [.int (-2), .int 0, .int 0, .int 0, .int 0, .int 0, .int 3, .int 0, .ref nwp, .ref nww, .ref nwg])), (st, .inr (5, [.int 0, .ref stp, .ref str, .ref stw])), (stp, .inl (k_stp, 20, .inl f_stp)), (str, .inl (k_str, 20, .inl f_str)), (stw, .inl (k_stw, 20, .inl f_stw))]) (w1 := []) hP hD [] [0, 1, 2, 3, 4, 5] rfl rfl (by decide) (by decide) hk1 hFc hP1 hD1
  have hK := (hK.sub (tys' := [(k_stp, .int), (k_str, .int), (k_stw, .int)]) [0, 1, 2] rfl).app hK1
  generalize H1 = H at hP hS ⊢
  have hP : va_P (dC, dI) vwCl [(x, .inr (7, [.ref fd, .int 0, .int 0, .int (-1), .ref sh, .ref sp, .ref rd, .ref nw, .ref im, .int 0, .int (-1), .ref tr, .ref ah, .ref pl, .ref st, .ref ev, .ref wp])), (nw, .inr (1, [.int (-2), .int 0, .int 0, .int 0, .int 0, .int 0, .int 3, .int 0, .ref nwp, .ref nww, .ref nwg])), (st, .inr (5, [.int 0, .ref stp, .ref str, .ref stw])), (stp, .inl (k_stp, 20, .inl f_stp)), (str, .inl (k_str, 20, .inl f_str)), (stw, .inl (k_stw, 20, .inl f_stw))] H := hP
  have hD : va_D A [(x, .inr (7, [.ref fd, .int 0, .int 0, .int (-1), .ref sh, .ref sp, .ref rd, .ref nw, .ref im, .int 0, .int (-1), .ref tr, .ref ah, .ref pl, .ref st, .ref ev, .ref wp])), (nw, .inr (1, [.int (-2), .int 0, .int 0, .int 0, .int 0, .int 0, .int 3, .int 0, .ref nwp, .ref nww, .ref nwg])), (st, .inr (5, [.int 0, .ref stp, .ref str, .ref stw])), (stp, .inl (k_stp, 20, .inl f_stp)), (str, .inl (k_str, 20, .inl f_str)), (stw, .inl (k_stw, 20, .inl f_stw))] := hD
  have hK : va_K (dC, dI) vwCl [(k_stp, .int), (k_str, .int), (k_stw, .int)] s := hK
  subst hw
  refine lv_if_eq (tgt := 21) hx hb dX7_weigh_7 (by decide) (fun c3 => ?_) (fun c3 => ?_)
  · skip
    refine lv_iconst (v := 0) hx hb dX7_weigh_21 (by decide) ?_
    have hP9 := hP.sub (ws' := []) [] rfl
    have hD9 := hD.sub (ws' := []) [] (by decide) rfl
    have hK9 := hK.sub (tys' := []) [] rfl
    exact W.zret (v := 0) hx hb hr rfl (fun t ht hW => ⟨⟨0, (), rfl, (by unfold sp_X7_weigh; rw [if_pos c3]), by rw [ht]; exact hP9, va_K.moved hW.alike hK9, hD9⟩, hS.F ht⟩) hS.2.2 dX7_weigh_22
  · skip
    refine lv_iload_n hx hb dX7_weigh_10 rfl (lv_at hl 1 rfl) ?_
    refine lv_aload_n hx hb dX7_weigh_11 rfl (lv_at hl 0 rfl) ?_
    refine va_get (D := (dC, dI)) (ci := 7) (v := .ref nw) (C := RX7) (T := TX7) (N := 17) hx hb hts hi7 hown hK hP 0 rfl rfl 7 (by decide) (hts (.fieldLink RX7 47 "StuckGroove" "now" "LStuckGroove$Needle;") (by decide +kernel)) (fun _ h9 => h9) rfl dX7_weigh_12 ?_
    refine va_getN (D := (dC, dI)) (ci := 1) (v := .int 3) (C := RX1) (T := TX1) (N := 11) hx hb hts hi1 hown hK hP 1 rfl rfl 6 (by decide) (va_Nw.use rfl (hN.1 (RX7, 209, "StuckGroove$Needle", "weight", "I", "StuckGroove") (by decide +kernel))) (fun _ h9 => h9) rfl dX7_weigh_15 ?_
    refine lv_icmp_ne (tgt := 23) hx hb dX7_weigh_18 (by decide) (fun c4 => ?_) (fun c4 => ?_)
    · skip
      refine lv_aload_n hx hb dX7_weigh_23 rfl (lv_at hl 0 rfl) ?_
      refine va_get (D := (dC, dI)) (ci := 7) (v := .ref st) (C := RX7) (T := TX7) (N := 17) hx hb hts hi7 hown hK hP 0 rfl rfl 14 (by decide) (hts (.fieldLink RX7 79 "StuckGroove" "steps" "LStuckGroove$Steps;") (by decide +kernel)) (fun _ h9 => h9) rfl dX7_weigh_24 ?_
      refine lv_aload_n hx hb dX7_weigh_27 rfl (lv_at hl 0 rfl) ?_
      refine va_get (D := (dC, dI)) (ci := 7) (v := .ref nw) (C := RX7) (T := TX7) (N := 17) hx hb hts hi7 hown hK hP 0 rfl rfl 7 (by decide) (hts (.fieldLink RX7 47 "StuckGroove" "now" "LStuckGroove$Needle;") (by decide +kernel)) (fun _ h9 => h9) rfl dX7_weigh_28 ?_
      have hPc := hP.sub (ws' := [(st, .inr (5, [.int 0, .ref stp, .ref str, .ref stw])), (stp, .inl (k_stp, 20, .inl f_stp)), (str, .inl (k_str, 20, .inl f_str)), (stw, .inl (k_stw, 20, .inl f_stw)), (nw, .inr (1, [.int (-2), .int 0, .int 0, .int 0, .int 0, .int 0, .int 3, .int 0, .ref nwp, .ref nww, .ref nwg]))]) [2, 3, 4, 5, 1] rfl
      have hDc := hD.sub (ws' := [(st, .inr (5, [.int 0, .ref stp, .ref str, .ref stw])), (stp, .inl (k_stp, 20, .inl f_stp)), (str, .inl (k_str, 20, .inl f_str)), (stw, .inl (k_stw, 20, .inl f_stw)), (nw, .inr (1, [.int (-2), .int 0, .int 0, .int 0, .int 0, .int 0, .int 3, .int 0, .ref nwp, .ref nww, .ref nwg]))]) [2, 3, 4, 5, 1] (by decide) rfl
      have hKc := hK.sub (tys' := [(k_stp, .int), (k_str, .int), (k_stw, .int)]) [0, 1, 2] rfl
      have hFc := va_free (wc := [(st, .inr (5, [.int 0, .ref stp, .ref str, .ref stw])), (stp, .inl (k_stp, 20, .inl f_stp)), (str, .inl (k_str, 20, .inl f_str)), (stw, .inl (k_stw, 20, .inl f_stw)), (nw, .inr (1, [.int (-2), .int 0, .int 0, .int 0, .int 0, .int 0, .int 3, .int 0, .ref nwp, .ref nww, .ref nwg]))]) hD hS hA [2, 3, 4, 5, 1] rfl
      refine va_callv (va_runV (As := [.ref nw]) (rest := []) ⟨hx, hb, hml, hown, hts⟩ (c_X5_remember l dC dI st nw stp str stw k_stp f_stp k_str f_str k_stw f_stw (-2) 0 0 0 0 0 3 0 nwp nww nwg H.size) (cwV 1 hts gX7_weigh_X5_remember rfl rfl rfl (by decide +kernel) ⟨Nat.le_of_ble_eq_true rfl, Nat.le_of_ble_eq_true rfl⟩) ⟨fun a U g mk q => by obtain ⟨q0, q1, qP, qK, qD, qN⟩ := q; exact ⟨q0, q1, qP, va_K.moved (u := U) (U := U.calling g mk a) (Vm.Alike.refl U.vm) qK, qD, nw_same (u := U) (U := U.calling g mk a) rfl qN⟩, va_recv hKc hPc (ci := 5) (q0 := 0) rfl rfl, fun U hU hW => ⟨rfl, by rw [hU], by rw [hU]; exact hPc, va_K.moved hW.alike hKc, hDc.weaken (fun _ _ _ _ => trivial), nw_warm hW hN⟩⟩ rfl rfl hl.1 rfl (lv_room (Nat.le_of_ble_eq_true rfl)) dX7_weigh_31 ⟨Nat.le_of_ble_eq_true rfl, Nat.le_of_ble_eq_true rfl⟩) hS (fun q _ h => hFc q h) hFc (fun u6 t H1 locs ht hvm hw hB hz1 hk1 hS => ?_)
      obtain ⟨hP1, hK1, hD1⟩ := hB
      rw [ht] at hP1
      have hK1 := va_K.moved hvm.symm hK1
      obtain ⟨hP, hD⟩ := va_join (wr := [(x, .inr (7, [.ref fd, .int 0, .int 0, .int (-1), .ref sh, .ref sp, .ref rd, .ref nw, .ref im, .int 0, .int (-1), .ref tr, .ref ah, .ref pl, .ref st, .ref ev, .ref wp]))]) (w1 := [(st, .inr (5, [.int 1, .ref stp, .ref str, .ref stw])), (stp, .inl (k_stp, 20, .inl (upd f_stp 0 (-2)))), (str, .inl (k_str, 20, .inl (upd f_str 0 0))), (stw, .inl (k_stw, 20, .inl (upd f_stw 0 3))), (nw, .inr (1, [.int (-2), .int 0, .int 0, .int 0, .int 0, .int 0, .int 3, .int 0, .ref nwp, .ref nww, .ref nwg]))]) hP hD [2, 3, 4, 5, 1] [0] rfl rfl (by decide) (by decide) hk1 hFc hP1 hD1
      have hK := (hK.sub (tys' := []) [] rfl).app hK1
      generalize H1 = H at hP hS ⊢
      have hP : va_P (dC, dI) vwCl [(x, .inr (7, [.ref fd, .int 0, .int 0, .int (-1), .ref sh, .ref sp, .ref rd, .ref nw, .ref im, .int 0, .int (-1), .ref tr, .ref ah, .ref pl, .ref st, .ref ev, .ref wp])), (st, .inr (5, [.int 1, .ref stp, .ref str, .ref stw])), (stp, .inl (k_stp, 20, .inl (upd f_stp 0 (-2)))), (str, .inl (k_str, 20, .inl (upd f_str 0 0))), (stw, .inl (k_stw, 20, .inl (upd f_stw 0 3))), (nw, .inr (1, [.int (-2), .int 0, .int 0, .int 0, .int 0, .int 0, .int 3, .int 0, .ref nwp, .ref nww, .ref nwg]))] H := hP
      have hD : va_D A [(x, .inr (7, [.ref fd, .int 0, .int 0, .int (-1), .ref sh, .ref sp, .ref rd, .ref nw, .ref im, .int 0, .int (-1), .ref tr, .ref ah, .ref pl, .ref st, .ref ev, .ref wp])), (st, .inr (5, [.int 1, .ref stp, .ref str, .ref stw])), (stp, .inl (k_stp, 20, .inl (upd f_stp 0 (-2)))), (str, .inl (k_str, 20, .inl (upd f_str 0 0))), (stw, .inl (k_stw, 20, .inl (upd f_stw 0 3))), (nw, .inr (1, [.int (-2), .int 0, .int 0, .int 0, .int 0, .int 0, .int 3, .int 0, .ref nwp, .ref nww, .ref nwg]))] := hD
      have hK : va_K (dC, dI) vwCl [(k_stp, .int), (k_str, .int), (k_stw, .int)] s := hK
      refine lv_aload_n hx hb dX7_weigh_34 rfl (lv_at hl 0 rfl) ?_
      refine va_get (D := (dC, dI)) (ci := 7) (v := .ref nw) (C := RX7) (T := TX7) (N := 17) hx hb hts hi7 hown hK hP 0 rfl rfl 7 (by decide) (hts (.fieldLink RX7 47 "StuckGroove" "now" "LStuckGroove$Needle;") (by decide +kernel)) (fun _ h9 => h9) rfl dX7_weigh_35 ?_
      refine lv_iload_n hx hb dX7_weigh_38 rfl (lv_at hl 1 rfl) ?_
      refine va_putN (D := (dC, dI)) (ci := 1) (v := .int p0) (ty := .int) (C := RX1) (T := TX1) (N := 11) hx hb hts hi1 tyX1 tyX1_ok nmX1 hown hK hP hD hS 5 rfl rfl 6 (by decide) (va_Nw.use rfl (hN.1 (RX7, 209, "StuckGroove$Needle", "weight", "I", "StuckGroove") (by decide +kernel))) (fun _ h9 => h9) rfl (by decide +kernel) rfl rfl (Nat.le_of_ble_eq_true rfl) dX7_weigh_39 (fun H locs hP hD hS => ?_)
      have hP : va_P (dC, dI) vwCl [(x, .inr (7, [.ref fd, .int 0, .int 0, .int (-1), .ref sh, .ref sp, .ref rd, .ref nw, .ref im, .int 0, .int (-1), .ref tr, .ref ah, .ref pl, .ref st, .ref ev, .ref wp])), (st, .inr (5, [.int 1, .ref stp, .ref str, .ref stw])), (stp, .inl (k_stp, 20, .inl (upd f_stp 0 (-2)))), (str, .inl (k_str, 20, .inl (upd f_str 0 0))), (stw, .inl (k_stw, 20, .inl (upd f_stw 0 3))), (nw, .inr (1, [.int (-2), .int 0, .int 0, .int 0, .int 0, .int 0, .int p0, .int 0, .ref nwp, .ref nww, .ref nwg]))] H := hP
      have hD : va_D A [(x, .inr (7, [.ref fd, .int 0, .int 0, .int (-1), .ref sh, .ref sp, .ref rd, .ref nw, .ref im, .int 0, .int (-1), .ref tr, .ref ah, .ref pl, .ref st, .ref ev, .ref wp])), (st, .inr (5, [.int 1, .ref stp, .ref str, .ref stw])), (stp, .inl (k_stp, 20, .inl (upd f_stp 0 (-2)))), (str, .inl (k_str, 20, .inl (upd f_str 0 0))), (stw, .inl (k_stw, 20, .inl (upd f_stw 0 3))), (nw, .inr (1, [.int (-2), .int 0, .int 0, .int 0, .int 0, .int 0, .int p0, .int 0, .ref nwp, .ref nww, .ref nwg]))] := hD
      refine lv_iconst (v := 1) hx hb dX7_weigh_42 (by decide) ?_
      have hP9 := hP.sub (ws' := []) [] rfl
      have hD9 := hD.sub (ws' := []) [] (by decide) rfl
      have hK9 := hK.sub (tys' := []) [] rfl
      exact W.zret (v := 1) hx hb hr rfl (fun t ht hW => ⟨⟨1, (), rfl, (by unfold sp_X7_weigh; rw [if_neg c3, if_neg c4]), by rw [ht]; exact hP9, va_K.moved hW.alike hK9, hD9⟩, hS.F ht⟩) hS.2.2 dX7_weigh_43
    · skip
      refine lv_iconst (v := 0) hx hb dX7_weigh_21 (by decide) ?_
      have hP9 := hP.sub (ws' := []) [] rfl
      have hD9 := hD.sub (ws' := []) [] (by decide) rfl
      have hK9 := hK.sub (tys' := []) [] rfl
      exact W.zret (v := 0) hx hb hr rfl (fun t ht hW => ⟨⟨0, (), rfl, (by unfold sp_X7_weigh; rw [if_neg c3, if_pos c4]), by rw [ht]; exact hP9, va_K.moved hW.alike hK9, hD9⟩, hS.F ht⟩) hS.2.2 dX7_weigh_22

set_option maxHeartbeats 4000000 in
set_option maxRecDepth 100000 in
theorem c_X1_copy (l : Launch) (dC : Nat → ClassId) (dI : Nat → Nat → Nat) (a : Nat) (b : Nat) (a0 : Int32) (a1 : Int32) (a2 : Int32) (a3 : Int32) (a4 : Int32) (a5 : Int32) (a6 : Int32) (a7 : Int32) (ap : Nat) (aw : Nat) (ag : Nat) (b0 : Int32) (b1 : Int32) (b2 : Int32) (b3 : Int32) (b4 : Int32) (b5 : Int32) (b6 : Int32) (b7 : Int32) (bp : Nat) (bw : Nat) (bg : Nat) (k_ap : ClassId) (f_ap : Nat → Int32) (k_aw : ClassId) (f_aw : Nat → Int32) (k_ag : ClassId) (f_ag : Nat → Int32) (k_bp : ClassId) (f_bp : Nat → Int32) (k_bw : ClassId) (f_bw : Nat → Int32) (k_bg : ClassId) (f_bg : Nat → Int32) (sz : Nat) : Met l yX1_copy wsX1_copy ({ frames := 1, cells := 0, slots := 0, locals := 64 }) (va_Pc [.ref a, .ref b] (fun U => U.heap.size = sz ∧ va_P (dC, dI) vwCl [(a, .inr (1, [.int a0, .int a1, .int a2, .int a3, .int a4, .int a5, .int a6, .int a7, .ref ap, .ref aw, .ref ag])), (b, .inr (1, [.int b0, .int b1, .int b2, .int b3, .int b4, .int b5, .int b6, .int b7, .ref bp, .ref bw, .ref bg])), (ap, .inl (k_ap, 12, .inl f_ap)), (aw, .inl (k_aw, 4, .inl f_aw)), (ag, .inl (k_ag, 4, .inl f_ag)), (bp, .inl (k_bp, 12, .inl f_bp)), (bw, .inl (k_bw, 4, .inl f_bw)), (bg, .inl (k_bg, 4, .inl f_bg))] U.heap ∧ va_K (dC, dI) vwCl [(k_ap, .int), (k_aw, .int), (k_ag, .int), (k_bp, .int), (k_bw, .int), (k_bg, .int)] U ∧ va_D (fun _ => True) [(a, .inr (1, [.int a0, .int a1, .int a2, .int a3, .int a4, .int a5, .int a6, .int a7, .ref ap, .ref aw, .ref ag])), (b, .inr (1, [.int b0, .int b1, .int b2, .int b3, .int b4, .int b5, .int b6, .int b7, .ref bp, .ref bw, .ref bg])), (ap, .inl (k_ap, 12, .inl f_ap)), (aw, .inl (k_aw, 4, .inl f_aw)), (ag, .inl (k_ag, 4, .inl f_ag)), (bp, .inl (k_bp, 12, .inl f_bp)), (bw, .inl (k_bw, 4, .inl f_bw)), (bg, .inl (k_bg, 4, .inl f_bg))] ∧ nw_ok U)) (va_Qv (fun (_ : (Nat → Int32) × (Nat → Int32) × (Nat → Int32)) => True) (fun (u : (Nat → Int32) × (Nat → Int32) × (Nat → Int32)) t => match u with | (F0_, F1_, F2_) => va_P (dC, dI) vwCl [(a, .inr (1, [.int b0, .int b1, .int b2, .int b3, .int b4, .int b5, .int b6, .int b7, .ref ap, .ref aw, .ref ag])), (b, .inr (1, [.int b0, .int b1, .int b2, .int b3, .int b4, .int b5, .int b6, .int b7, .ref bp, .ref bw, .ref bg])), (ap, .inl (k_ap, 12, .inl F0_)), (aw, .inl (k_aw, 4, .inl F1_)), (ag, .inl (k_ag, 4, .inl F2_)), (bp, .inl (k_bp, 12, .inl f_bp)), (bw, .inl (k_bw, 4, .inl f_bw)), (bg, .inl (k_bg, 4, .inl f_bg))] t.heap ∧ va_K (dC, dI) vwCl [(k_ap, .int), (k_aw, .int), (k_ag, .int), (k_bp, .int), (k_bw, .int), (k_bg, .int)] t ∧ va_D (va_A [(a, .inr (1, [.int a0, .int a1, .int a2, .int a3, .int a4, .int a5, .int a6, .int a7, .ref ap, .ref aw, .ref ag])), (b, .inr (1, [.int b0, .int b1, .int b2, .int b3, .int b4, .int b5, .int b6, .int b7, .ref bp, .ref bw, .ref bg])), (ap, .inl (k_ap, 12, .inl f_ap)), (aw, .inl (k_aw, 4, .inl f_aw)), (ag, .inl (k_ag, 4, .inl f_ag)), (bp, .inl (k_bp, 12, .inl f_bp)), (bw, .inl (k_bw, 4, .inl f_bw)), (bg, .inl (k_bg, 4, .inl f_bg))] sz) [(a, .inr (1, [.int b0, .int b1, .int b2, .int b3, .int b4, .int b5, .int b6, .int b7, .ref ap, .ref aw, .ref ag])), (b, .inr (1, [.int b0, .int b1, .int b2, .int b3, .int b4, .int b5, .int b6, .int b7, .ref bp, .ref bw, .ref bg])), (ap, .inl (k_ap, 12, .inl F0_)), (aw, .inl (k_aw, 4, .inl F1_)), (ag, .inl (k_ag, 4, .inl F2_)), (bp, .inl (k_bp, 12, .inl f_bp)), (bw, .inl (k_bw, 4, .inl f_bw)), (bg, .inl (k_bg, 4, .inl f_bg))]) (va_A [(a, .inr (1, [.int a0, .int a1, .int a2, .int a3, .int a4, .int a5, .int a6, .int a7, .ref ap, .ref aw, .ref ag])), (b, .inr (1, [.int b0, .int b1, .int b2, .int b3, .int b4, .int b5, .int b6, .int b7, .ref bp, .ref bw, .ref bg])), (ap, .inl (k_ap, 12, .inl f_ap)), (aw, .inl (k_aw, 4, .inl f_aw)), (ag, .inl (k_ag, 4, .inl f_ag)), (bp, .inl (k_bp, 12, .inl f_bp)), (bw, .inl (k_bw, 4, .inl f_bw)), (bg, .inl (k_bg, 4, .inl f_bg))] sz)) 0 0 (va_A [(a, .inr (1, [.int a0, .int a1, .int a2, .int a3, .int a4, .int a5, .int a6, .int a7, .ref ap, .ref aw, .ref ag])), (b, .inr (1, [.int b0, .int b1, .int b2, .int b3, .int b4, .int b5, .int b6, .int b7, .ref bp, .ref bw, .ref bg])), (ap, .inl (k_ap, 12, .inl f_ap)), (aw, .inl (k_aw, 4, .inl f_aw)), (ag, .inl (k_ag, 4, .inl f_ag)), (bp, .inl (k_bp, 12, .inl f_bp)), (bw, .inl (k_bw, 4, .inl f_bw)), (bg, .inl (k_bg, 4, .inl f_bg))] sz) := by
  refine Met.ofW (cc := cX1_copy) (maxL := 2) (ret := none) (by decide) rfl ?_
  intro p e s m args below meth c s₁ B hml hv
  obtain ⟨rfl, hsz, hP, hK, hD0, hN⟩ := hv
  have hx := B.exec
  have hb := B.bytes
  have hr := B.returns
  have hts := atoms_spec (ws := wsX1_copy) B.pre
  have hown : s.vm.findClass RX1 = some m.cls := findClass_of_methodNamed B.named
  have hlocks := B.notSynchronized
  have hi1 : ∀ w ∈ wsX10, w ∈ wsX1_copy := by decide +kernel
  subst hsz
  have hD := hD0.self (sz := s.heap.size)
  generalize hAe : va_A [(a, .inr (1, [.int a0, .int a1, .int a2, .int a3, .int a4, .int a5, .int a6, .int a7, .ref ap, .ref aw, .ref ag])), (b, .inr (1, [.int b0, .int b1, .int b2, .int b3, .int b4, .int b5, .int b6, .int b7, .ref bp, .ref bw, .ref bg])), (ap, .inl (k_ap, 12, .inl f_ap)), (aw, .inl (k_aw, 4, .inl f_aw)), (ag, .inl (k_ag, 4, .inl f_ag)), (bp, .inl (k_bp, 12, .inl f_bp)), (bw, .inl (k_bw, 4, .inl f_bw)), (bg, .inl (k_bg, 4, .inl f_bg))] s.heap.size = A at hD ⊢
  have hA : ∀ q : Nat, s.heap.size ≤ q → A q := fun q h => by rw [← hAe]; exact Or.inr h
  have hS : va_S A s.heap s.heap [] := va_S.rf
  have hP : va_P (dC, dI) vwCl [(a, .inr (1, [.int a0, .int a1, .int a2, .int a3, .int a4, .int a5, .int a6, .int a7, .ref ap, .ref aw, .ref ag])), (b, .inr (1, [.int b0, .int b1, .int b2, .int b3, .int b4, .int b5, .int b6, .int b7, .ref bp, .ref bw, .ref bg])), (ap, .inl (k_ap, 12, .inl f_ap)), (aw, .inl (k_aw, 4, .inl f_aw)), (ag, .inl (k_ag, 4, .inl f_ag)), (bp, .inl (k_bp, 12, .inl f_bp)), (bw, .inl (k_bw, 4, .inl f_bw)), (bg, .inl (k_bg, 4, .inl f_bg))] s.heap := hP
  have hl := lv_entry ([.ref a, .ref b]) (n := 2) (Nat.le_of_ble_eq_true rfl)
  rw [lg_entry_eq]
  generalize (lg_sl ([.ref a, .ref b]) ++ List.replicate (2 - (lg_sl ([.ref a, .ref b])).length) Slot.unset).toArray = ls at hl ⊢
  have hl : lv_has ls 2 [(0, .ref a), (1, .ref b)] := hl
  skip
  refine lv_aload_n hx hb dX1_copy_0 rfl (lv_at hl 0 rfl) ?_
  refine lv_aload_n hx hb dX1_copy_1 rfl (lv_at hl 1 rfl) ?_
  refine va_get (D := (dC, dI)) (ci := 1) (v := .int b0) (C := RX1) (T := TX1) (N := 11) hx hb hts hi1 hown hK hP 1 rfl rfl 0 (by decide) (hts (.fieldLink RX1 9 "StuckGroove$Needle" "place" "I") (by decide +kernel)) (fun _ h9 => h9) rfl dX1_copy_2 ?_
  refine va_put (D := (dC, dI)) (ci := 1) (v := .int b0) (ty := .int) (C := RX1) (T := TX1) (N := 11) hx hb hts hi1 tyX1 tyX1_ok nmX1 hown hK hP hD hS 0 rfl rfl 0 (by decide) (hts (.fieldLink RX1 9 "StuckGroove$Needle" "place" "I") (by decide +kernel)) (fun _ h9 => h9) rfl (by decide +kernel) rfl rfl (Nat.le_of_ble_eq_true rfl) dX1_copy_5 (fun H locs hP hD hS => ?_)
  have hP : va_P (dC, dI) vwCl [(a, .inr (1, [.int b0, .int a1, .int a2, .int a3, .int a4, .int a5, .int a6, .int a7, .ref ap, .ref aw, .ref ag])), (b, .inr (1, [.int b0, .int b1, .int b2, .int b3, .int b4, .int b5, .int b6, .int b7, .ref bp, .ref bw, .ref bg])), (ap, .inl (k_ap, 12, .inl f_ap)), (aw, .inl (k_aw, 4, .inl f_aw)), (ag, .inl (k_ag, 4, .inl f_ag)), (bp, .inl (k_bp, 12, .inl f_bp)), (bw, .inl (k_bw, 4, .inl f_bw)), (bg, .inl (k_bg, 4, .inl f_bg))] H := hP
  have hD : va_D A [(a, .inr (1, [.int b0, .int a1, .int a2, .int a3, .int a4, .int a5, .int a6, .int a7, .ref ap, .ref aw, .ref ag])), (b, .inr (1, [.int b0, .int b1, .int b2, .int b3, .int b4, .int b5, .int b6, .int b7, .ref bp, .ref bw, .ref bg])), (ap, .inl (k_ap, 12, .inl f_ap)), (aw, .inl (k_aw, 4, .inl f_aw)), (ag, .inl (k_ag, 4, .inl f_ag)), (bp, .inl (k_bp, 12, .inl f_bp)), (bw, .inl (k_bw, 4, .inl f_bw)), (bg, .inl (k_bg, 4, .inl f_bg))] := hD
  refine lv_aload_n hx hb dX1_copy_8 rfl (lv_at hl 0 rfl) ?_
  refine lv_aload_n hx hb dX1_copy_9 rfl (lv_at hl 1 rfl) ?_
  refine va_get (D := (dC, dI)) (ci := 1) (v := .int b1) (C := RX1) (T := TX1) (N := 11) hx hb hts hi1 hown hK hP 1 rfl rfl 1 (by decide) (hts (.fieldLink RX1 15 "StuckGroove$Needle" "turn" "I") (by decide +kernel)) (fun _ h9 => h9) rfl dX1_copy_10 ?_
  refine va_put (D := (dC, dI)) (ci := 1) (v := .int b1) (ty := .int) (C := RX1) (T := TX1) (N := 11) hx hb hts hi1 tyX1 tyX1_ok nmX1 hown hK hP hD hS 0 rfl rfl 1 (by decide) (hts (.fieldLink RX1 15 "StuckGroove$Needle" "turn" "I") (by decide +kernel)) (fun _ h9 => h9) rfl (by decide +kernel) rfl rfl (Nat.le_of_ble_eq_true rfl) dX1_copy_13 (fun H locs hP hD hS => ?_)
  have hP : va_P (dC, dI) vwCl [(a, .inr (1, [.int b0, .int b1, .int a2, .int a3, .int a4, .int a5, .int a6, .int a7, .ref ap, .ref aw, .ref ag])), (b, .inr (1, [.int b0, .int b1, .int b2, .int b3, .int b4, .int b5, .int b6, .int b7, .ref bp, .ref bw, .ref bg])), (ap, .inl (k_ap, 12, .inl f_ap)), (aw, .inl (k_aw, 4, .inl f_aw)), (ag, .inl (k_ag, 4, .inl f_ag)), (bp, .inl (k_bp, 12, .inl f_bp)), (bw, .inl (k_bw, 4, .inl f_bw)), (bg, .inl (k_bg, 4, .inl f_bg))] H := hP
  have hD : va_D A [(a, .inr (1, [.int b0, .int b1, .int a2, .int a3, .int a4, .int a5, .int a6, .int a7, .ref ap, .ref aw, .ref ag])), (b, .inr (1, [.int b0, .int b1, .int b2, .int b3, .int b4, .int b5, .int b6, .int b7, .ref bp, .ref bw, .ref bg])), (ap, .inl (k_ap, 12, .inl f_ap)), (aw, .inl (k_aw, 4, .inl f_aw)), (ag, .inl (k_ag, 4, .inl f_ag)), (bp, .inl (k_bp, 12, .inl f_bp)), (bw, .inl (k_bw, 4, .inl f_bw)), (bg, .inl (k_bg, 4, .inl f_bg))] := hD
  refine lv_aload_n hx hb dX1_copy_16 rfl (lv_at hl 0 rfl) ?_
  refine lv_aload_n hx hb dX1_copy_17 rfl (lv_at hl 1 rfl) ?_
  refine va_get (D := (dC, dI)) (ci := 1) (v := .int b2) (C := RX1) (T := TX1) (N := 11) hx hb hts hi1 hown hK hP 1 rfl rfl 2 (by decide) (hts (.fieldLink RX1 18 "StuckGroove$Needle" "seconds" "I") (by decide +kernel)) (fun _ h9 => h9) rfl dX1_copy_18 ?_
  refine va_put (D := (dC, dI)) (ci := 1) (v := .int b2) (ty := .int) (C := RX1) (T := TX1) (N := 11) hx hb hts hi1 tyX1 tyX1_ok nmX1 hown hK hP hD hS 0 rfl rfl 2 (by decide) (hts (.fieldLink RX1 18 "StuckGroove$Needle" "seconds" "I") (by decide +kernel)) (fun _ h9 => h9) rfl (by decide +kernel) rfl rfl (Nat.le_of_ble_eq_true rfl) dX1_copy_21 (fun H locs hP hD hS => ?_)
  have hP : va_P (dC, dI) vwCl [(a, .inr (1, [.int b0, .int b1, .int b2, .int a3, .int a4, .int a5, .int a6, .int a7, .ref ap, .ref aw, .ref ag])), (b, .inr (1, [.int b0, .int b1, .int b2, .int b3, .int b4, .int b5, .int b6, .int b7, .ref bp, .ref bw, .ref bg])), (ap, .inl (k_ap, 12, .inl f_ap)), (aw, .inl (k_aw, 4, .inl f_aw)), (ag, .inl (k_ag, 4, .inl f_ag)), (bp, .inl (k_bp, 12, .inl f_bp)), (bw, .inl (k_bw, 4, .inl f_bw)), (bg, .inl (k_bg, 4, .inl f_bg))] H := hP
  have hD : va_D A [(a, .inr (1, [.int b0, .int b1, .int b2, .int a3, .int a4, .int a5, .int a6, .int a7, .ref ap, .ref aw, .ref ag])), (b, .inr (1, [.int b0, .int b1, .int b2, .int b3, .int b4, .int b5, .int b6, .int b7, .ref bp, .ref bw, .ref bg])), (ap, .inl (k_ap, 12, .inl f_ap)), (aw, .inl (k_aw, 4, .inl f_aw)), (ag, .inl (k_ag, 4, .inl f_ag)), (bp, .inl (k_bp, 12, .inl f_bp)), (bw, .inl (k_bw, 4, .inl f_bw)), (bg, .inl (k_bg, 4, .inl f_bg))] := hD
  refine lv_aload_n hx hb dX1_copy_24 rfl (lv_at hl 0 rfl) ?_
  refine lv_aload_n hx hb dX1_copy_25 rfl (lv_at hl 1 rfl) ?_
  refine va_get (D := (dC, dI)) (ci := 1) (v := .int b3) (C := RX1) (T := TX1) (N := 11) hx hb hts hi1 hown hK hP 1 rfl rfl 3 (by decide) (hts (.fieldLink RX1 21 "StuckGroove$Needle" "heard" "I") (by decide +kernel)) (fun _ h9 => h9) rfl dX1_copy_26 ?_
  refine va_put (D := (dC, dI)) (ci := 1) (v := .int b3) (ty := .int) (C := RX1) (T := TX1) (N := 11) hx hb hts hi1 tyX1 tyX1_ok nmX1 hown hK hP hD hS 0 rfl rfl 3 (by decide) (hts (.fieldLink RX1 21 "StuckGroove$Needle" "heard" "I") (by decide +kernel)) (fun _ h9 => h9) rfl (by decide +kernel) rfl rfl (Nat.le_of_ble_eq_true rfl) dX1_copy_29 (fun H locs hP hD hS => ?_)
  have hP : va_P (dC, dI) vwCl [(a, .inr (1, [.int b0, .int b1, .int b2, .int b3, .int a4, .int a5, .int a6, .int a7, .ref ap, .ref aw, .ref ag])), (b, .inr (1, [.int b0, .int b1, .int b2, .int b3, .int b4, .int b5, .int b6, .int b7, .ref bp, .ref bw, .ref bg])), (ap, .inl (k_ap, 12, .inl f_ap)), (aw, .inl (k_aw, 4, .inl f_aw)), (ag, .inl (k_ag, 4, .inl f_ag)), (bp, .inl (k_bp, 12, .inl f_bp)), (bw, .inl (k_bw, 4, .inl f_bw)), (bg, .inl (k_bg, 4, .inl f_bg))] H := hP
  have hD : va_D A [(a, .inr (1, [.int b0, .int b1, .int b2, .int b3, .int a4, .int a5, .int a6, .int a7, .ref ap, .ref aw, .ref ag])), (b, .inr (1, [.int b0, .int b1, .int b2, .int b3, .int b4, .int b5, .int b6, .int b7, .ref bp, .ref bw, .ref bg])), (ap, .inl (k_ap, 12, .inl f_ap)), (aw, .inl (k_aw, 4, .inl f_aw)), (ag, .inl (k_ag, 4, .inl f_ag)), (bp, .inl (k_bp, 12, .inl f_bp)), (bw, .inl (k_bw, 4, .inl f_bw)), (bg, .inl (k_bg, 4, .inl f_bg))] := hD
  refine lv_aload_n hx hb dX1_copy_32 rfl (lv_at hl 0 rfl) ?_
  refine lv_aload_n hx hb dX1_copy_33 rfl (lv_at hl 1 rfl) ?_
  refine va_get (D := (dC, dI)) (ci := 1) (v := .int b4) (C := RX1) (T := TX1) (N := 11) hx hb hts hi1 hown hK hP 1 rfl rfl 4 (by decide) (hts (.fieldLink RX1 24 "StuckGroove$Needle" "paid" "I") (by decide +kernel)) (fun _ h9 => h9) rfl dX1_copy_34 ?_
  refine va_put (D := (dC, dI)) (ci := 1) (v := .int b4) (ty := .int) (C := RX1) (T := TX1) (N := 11) hx hb hts hi1 tyX1 tyX1_ok nmX1 hown hK hP hD hS 0 rfl rfl 4 (by decide) (hts (.fieldLink RX1 24 "StuckGroove$Needle" "paid" "I") (by decide +kernel)) (fun _ h9 => h9) rfl (by decide +kernel) rfl rfl (Nat.le_of_ble_eq_true rfl) dX1_copy_37 (fun H locs hP hD hS => ?_)
  have hP : va_P (dC, dI) vwCl [(a, .inr (1, [.int b0, .int b1, .int b2, .int b3, .int b4, .int a5, .int a6, .int a7, .ref ap, .ref aw, .ref ag])), (b, .inr (1, [.int b0, .int b1, .int b2, .int b3, .int b4, .int b5, .int b6, .int b7, .ref bp, .ref bw, .ref bg])), (ap, .inl (k_ap, 12, .inl f_ap)), (aw, .inl (k_aw, 4, .inl f_aw)), (ag, .inl (k_ag, 4, .inl f_ag)), (bp, .inl (k_bp, 12, .inl f_bp)), (bw, .inl (k_bw, 4, .inl f_bw)), (bg, .inl (k_bg, 4, .inl f_bg))] H := hP
  have hD : va_D A [(a, .inr (1, [.int b0, .int b1, .int b2, .int b3, .int b4, .int a5, .int a6, .int a7, .ref ap, .ref aw, .ref ag])), (b, .inr (1, [.int b0, .int b1, .int b2, .int b3, .int b4, .int b5, .int b6, .int b7, .ref bp, .ref bw, .ref bg])), (ap, .inl (k_ap, 12, .inl f_ap)), (aw, .inl (k_aw, 4, .inl f_aw)), (ag, .inl (k_ag, 4, .inl f_ag)), (bp, .inl (k_bp, 12, .inl f_bp)), (bw, .inl (k_bw, 4, .inl f_bw)), (bg, .inl (k_bg, 4, .inl f_bg))] := hD
  refine lv_aload_n hx hb dX1_copy_40 rfl (lv_at hl 0 rfl) ?_
  refine lv_aload_n hx hb dX1_copy_41 rfl (lv_at hl 1 rfl) ?_
  refine va_get (D := (dC, dI)) (ci := 1) (v := .int b5) (C := RX1) (T := TX1) (N := 11) hx hb hts hi1 hown hK hP 1 rfl rfl 5 (by decide) (hts (.fieldLink RX1 27 "StuckGroove$Needle" "rounds" "I") (by decide +kernel)) (fun _ h9 => h9) rfl dX1_copy_42 ?_
  refine va_put (D := (dC, dI)) (ci := 1) (v := .int b5) (ty := .int) (C := RX1) (T := TX1) (N := 11) hx hb hts hi1 tyX1 tyX1_ok nmX1 hown hK hP hD hS 0 rfl rfl 5 (by decide) (hts (.fieldLink RX1 27 "StuckGroove$Needle" "rounds" "I") (by decide +kernel)) (fun _ h9 => h9) rfl (by decide +kernel) rfl rfl (Nat.le_of_ble_eq_true rfl) dX1_copy_45 (fun H locs hP hD hS => ?_)
  have hP : va_P (dC, dI) vwCl [(a, .inr (1, [.int b0, .int b1, .int b2, .int b3, .int b4, .int b5, .int a6, .int a7, .ref ap, .ref aw, .ref ag])), (b, .inr (1, [.int b0, .int b1, .int b2, .int b3, .int b4, .int b5, .int b6, .int b7, .ref bp, .ref bw, .ref bg])), (ap, .inl (k_ap, 12, .inl f_ap)), (aw, .inl (k_aw, 4, .inl f_aw)), (ag, .inl (k_ag, 4, .inl f_ag)), (bp, .inl (k_bp, 12, .inl f_bp)), (bw, .inl (k_bw, 4, .inl f_bw)), (bg, .inl (k_bg, 4, .inl f_bg))] H := hP
  have hD : va_D A [(a, .inr (1, [.int b0, .int b1, .int b2, .int b3, .int b4, .int b5, .int a6, .int a7, .ref ap, .ref aw, .ref ag])), (b, .inr (1, [.int b0, .int b1, .int b2, .int b3, .int b4, .int b5, .int b6, .int b7, .ref bp, .ref bw, .ref bg])), (ap, .inl (k_ap, 12, .inl f_ap)), (aw, .inl (k_aw, 4, .inl f_aw)), (ag, .inl (k_ag, 4, .inl f_ag)), (bp, .inl (k_bp, 12, .inl f_bp)), (bw, .inl (k_bw, 4, .inl f_bw)), (bg, .inl (k_bg, 4, .inl f_bg))] := hD
  refine lv_aload_n hx hb dX1_copy_48 rfl (lv_at hl 0 rfl) ?_
  refine lv_aload_n hx hb dX1_copy_49 rfl (lv_at hl 1 rfl) ?_
  refine va_get (D := (dC, dI)) (ci := 1) (v := .int b6) (C := RX1) (T := TX1) (N := 11) hx hb hts hi1 hown hK hP 1 rfl rfl 6 (by decide) (hts (.fieldLink RX1 30 "StuckGroove$Needle" "weight" "I") (by decide +kernel)) (fun _ h9 => h9) rfl dX1_copy_50 ?_
  refine va_put (D := (dC, dI)) (ci := 1) (v := .int b6) (ty := .int) (C := RX1) (T := TX1) (N := 11) hx hb hts hi1 tyX1 tyX1_ok nmX1 hown hK hP hD hS 0 rfl rfl 6 (by decide) (hts (.fieldLink RX1 30 "StuckGroove$Needle" "weight" "I") (by decide +kernel)) (fun _ h9 => h9) rfl (by decide +kernel) rfl rfl (Nat.le_of_ble_eq_true rfl) dX1_copy_53 (fun H locs hP hD hS => ?_)
  have hP : va_P (dC, dI) vwCl [(a, .inr (1, [.int b0, .int b1, .int b2, .int b3, .int b4, .int b5, .int b6, .int a7, .ref ap, .ref aw, .ref ag])), (b, .inr (1, [.int b0, .int b1, .int b2, .int b3, .int b4, .int b5, .int b6, .int b7, .ref bp, .ref bw, .ref bg])), (ap, .inl (k_ap, 12, .inl f_ap)), (aw, .inl (k_aw, 4, .inl f_aw)), (ag, .inl (k_ag, 4, .inl f_ag)), (bp, .inl (k_bp, 12, .inl f_bp)), (bw, .inl (k_bw, 4, .inl f_bw)), (bg, .inl (k_bg, 4, .inl f_bg))] H := hP
  have hD : va_D A [(a, .inr (1, [.int b0, .int b1, .int b2, .int b3, .int b4, .int b5, .int b6, .int a7, .ref ap, .ref aw, .ref ag])), (b, .inr (1, [.int b0, .int b1, .int b2, .int b3, .int b4, .int b5, .int b6, .int b7, .ref bp, .ref bw, .ref bg])), (ap, .inl (k_ap, 12, .inl f_ap)), (aw, .inl (k_aw, 4, .inl f_aw)), (ag, .inl (k_ag, 4, .inl f_ag)), (bp, .inl (k_bp, 12, .inl f_bp)), (bw, .inl (k_bw, 4, .inl f_bw)), (bg, .inl (k_bg, 4, .inl f_bg))] := hD
  refine lv_aload_n hx hb dX1_copy_56 rfl (lv_at hl 0 rfl) ?_
  refine lv_aload_n hx hb dX1_copy_57 rfl (lv_at hl 1 rfl) ?_
  refine va_get (D := (dC, dI)) (ci := 1) (v := .int b7) (C := RX1) (T := TX1) (N := 11) hx hb hts hi1 hown hK hP 1 rfl rfl 7 (by decide) (hts (.fieldLink RX1 33 "StuckGroove$Needle" "number" "I") (by decide +kernel)) (fun _ h9 => h9) rfl dX1_copy_58 ?_
  refine va_put (D := (dC, dI)) (ci := 1) (v := .int b7) (ty := .int) (C := RX1) (T := TX1) (N := 11) hx hb hts hi1 tyX1 tyX1_ok nmX1 hown hK hP hD hS 0 rfl rfl 7 (by decide) (hts (.fieldLink RX1 33 "StuckGroove$Needle" "number" "I") (by decide +kernel)) (fun _ h9 => h9) rfl (by decide +kernel) rfl rfl (Nat.le_of_ble_eq_true rfl) dX1_copy_61 (fun H locs hP hD hS => ?_)
  have hP : va_P (dC, dI) vwCl [(a, .inr (1, [.int b0, .int b1, .int b2, .int b3, .int b4, .int b5, .int b6, .int b7, .ref ap, .ref aw, .ref ag])), (b, .inr (1, [.int b0, .int b1, .int b2, .int b3, .int b4, .int b5, .int b6, .int b7, .ref bp, .ref bw, .ref bg])), (ap, .inl (k_ap, 12, .inl f_ap)), (aw, .inl (k_aw, 4, .inl f_aw)), (ag, .inl (k_ag, 4, .inl f_ag)), (bp, .inl (k_bp, 12, .inl f_bp)), (bw, .inl (k_bw, 4, .inl f_bw)), (bg, .inl (k_bg, 4, .inl f_bg))] H := hP
  have hD : va_D A [(a, .inr (1, [.int b0, .int b1, .int b2, .int b3, .int b4, .int b5, .int b6, .int b7, .ref ap, .ref aw, .ref ag])), (b, .inr (1, [.int b0, .int b1, .int b2, .int b3, .int b4, .int b5, .int b6, .int b7, .ref bp, .ref bw, .ref bg])), (ap, .inl (k_ap, 12, .inl f_ap)), (aw, .inl (k_aw, 4, .inl f_aw)), (ag, .inl (k_ag, 4, .inl f_ag)), (bp, .inl (k_bp, 12, .inl f_bp)), (bw, .inl (k_bw, 4, .inl f_bw)), (bg, .inl (k_bg, 4, .inl f_bg))] := hD
  refine lv_aload_n hx hb dX1_copy_64 rfl (lv_at hl 1 rfl) ?_
  refine va_get (D := (dC, dI)) (ci := 1) (v := .ref bp) (C := RX1) (T := TX1) (N := 11) hx hb hts hi1 hown hK hP 1 rfl rfl 8 (by decide) (hts (.fieldLink RX1 36 "StuckGroove$Needle" "played" "[I") (by decide +kernel)) (fun _ h9 => h9) rfl dX1_copy_65 ?_
  refine lv_iconst (v := 0) hx hb dX1_copy_68 (by decide) ?_
  refine lv_aload_n hx hb dX1_copy_69 rfl (lv_at hl 0 rfl) ?_
  refine va_get (D := (dC, dI)) (ci := 1) (v := .ref ap) (C := RX1) (T := TX1) (N := 11) hx hb hts hi1 hown hK hP 0 rfl rfl 8 (by decide) (hts (.fieldLink RX1 36 "StuckGroove$Needle" "played" "[I") (by decide +kernel)) (fun _ h9 => h9) rfl dX1_copy_70 ?_
  refine lv_iconst (v := 0) hx hb dX1_copy_73 (by decide) ?_
  refine lv_bipush (v := 12) hx hb dX1_copy_74 (by decide) ?_
  refine va_copyi (ty := .int) hx hb (by rw [hml]; exact hl.1.symm) hown (hts (.methodLink RX1 61 arraycopyName) (by decide +kernel)) (hts (.native arraycopyName) (by decide +kernel)) (hts (.static arraycopyName) (by decide +kernel)) (hts (.initialized "java/lang/System") (by decide +kernel)) hK hP hD hS 5 2 3 0 rfl rfl rfl rfl rfl (by decide) (by decide) (by decide) (by decide) (by decide) (fun _ _ => rfl) (Nat.le_of_ble_eq_true rfl) (by decide +kernel) dX1_copy_76 (fun H locs hP hD hS => ?_)
  have hP : va_P (dC, dI) vwCl [(a, .inr (1, [.int b0, .int b1, .int b2, .int b3, .int b4, .int b5, .int b6, .int b7, .ref ap, .ref aw, .ref ag])), (b, .inr (1, [.int b0, .int b1, .int b2, .int b3, .int b4, .int b5, .int b6, .int b7, .ref bp, .ref bw, .ref bg])), (ap, .inl (k_ap, 12, .inl (va_cpy f_bp f_ap 0 0 12))), (aw, .inl (k_aw, 4, .inl f_aw)), (ag, .inl (k_ag, 4, .inl f_ag)), (bp, .inl (k_bp, 12, .inl f_bp)), (bw, .inl (k_bw, 4, .inl f_bw)), (bg, .inl (k_bg, 4, .inl f_bg))] H := hP
  have hD : va_D A [(a, .inr (1, [.int b0, .int b1, .int b2, .int b3, .int b4, .int b5, .int b6, .int b7, .ref ap, .ref aw, .ref ag])), (b, .inr (1, [.int b0, .int b1, .int b2, .int b3, .int b4, .int b5, .int b6, .int b7, .ref bp, .ref bw, .ref bg])), (ap, .inl (k_ap, 12, .inl (va_cpy f_bp f_ap 0 0 12))), (aw, .inl (k_aw, 4, .inl f_aw)), (ag, .inl (k_ag, 4, .inl f_ag)), (bp, .inl (k_bp, 12, .inl f_bp)), (bw, .inl (k_bw, 4, .inl f_bw)), (bg, .inl (k_bg, 4, .inl f_bg))] := hD
  refine lv_aload_n hx hb dX1_copy_79 rfl (lv_at hl 1 rfl) ?_
  refine va_get (D := (dC, dI)) (ci := 1) (v := .ref bw) (C := RX1) (T := TX1) (N := 11) hx hb hts hi1 hown hK hP 1 rfl rfl 9 (by decide) (hts (.fieldLink RX1 40 "StuckGroove$Needle" "worn" "[I") (by decide +kernel)) (fun _ h9 => h9) rfl dX1_copy_80 ?_
  refine lv_iconst (v := 0) hx hb dX1_copy_83 (by decide) ?_
  refine lv_aload_n hx hb dX1_copy_84 rfl (lv_at hl 0 rfl) ?_
  refine va_get (D := (dC, dI)) (ci := 1) (v := .ref aw) (C := RX1) (T := TX1) (N := 11) hx hb hts hi1 hown hK hP 0 rfl rfl 9 (by decide) (hts (.fieldLink RX1 40 "StuckGroove$Needle" "worn" "[I") (by decide +kernel)) (fun _ h9 => h9) rfl dX1_copy_85 ?_
  refine lv_iconst (v := 0) hx hb dX1_copy_88 (by decide) ?_
  refine lv_iconst (v := 4) hx hb dX1_copy_89 (by decide) ?_
  refine va_copyi (ty := .int) hx hb (by rw [hml]; exact hl.1.symm) hown (hts (.methodLink RX1 61 arraycopyName) (by decide +kernel)) (hts (.native arraycopyName) (by decide +kernel)) (hts (.static arraycopyName) (by decide +kernel)) (hts (.initialized "java/lang/System") (by decide +kernel)) hK hP hD hS 6 3 4 1 rfl rfl rfl rfl rfl (by decide) (by decide) (by decide) (by decide) (by decide) (fun _ _ => rfl) (Nat.le_of_ble_eq_true rfl) (by decide +kernel) dX1_copy_90 (fun H locs hP hD hS => ?_)
  have hP : va_P (dC, dI) vwCl [(a, .inr (1, [.int b0, .int b1, .int b2, .int b3, .int b4, .int b5, .int b6, .int b7, .ref ap, .ref aw, .ref ag])), (b, .inr (1, [.int b0, .int b1, .int b2, .int b3, .int b4, .int b5, .int b6, .int b7, .ref bp, .ref bw, .ref bg])), (ap, .inl (k_ap, 12, .inl (va_cpy f_bp f_ap 0 0 12))), (aw, .inl (k_aw, 4, .inl (va_cpy f_bw f_aw 0 0 4))), (ag, .inl (k_ag, 4, .inl f_ag)), (bp, .inl (k_bp, 12, .inl f_bp)), (bw, .inl (k_bw, 4, .inl f_bw)), (bg, .inl (k_bg, 4, .inl f_bg))] H := hP
  have hD : va_D A [(a, .inr (1, [.int b0, .int b1, .int b2, .int b3, .int b4, .int b5, .int b6, .int b7, .ref ap, .ref aw, .ref ag])), (b, .inr (1, [.int b0, .int b1, .int b2, .int b3, .int b4, .int b5, .int b6, .int b7, .ref bp, .ref bw, .ref bg])), (ap, .inl (k_ap, 12, .inl (va_cpy f_bp f_ap 0 0 12))), (aw, .inl (k_aw, 4, .inl (va_cpy f_bw f_aw 0 0 4))), (ag, .inl (k_ag, 4, .inl f_ag)), (bp, .inl (k_bp, 12, .inl f_bp)), (bw, .inl (k_bw, 4, .inl f_bw)), (bg, .inl (k_bg, 4, .inl f_bg))] := hD
  refine lv_aload_n hx hb dX1_copy_93 rfl (lv_at hl 1 rfl) ?_
  refine va_get (D := (dC, dI)) (ci := 1) (v := .ref bg) (C := RX1) (T := TX1) (N := 11) hx hb hts hi1 hown hK hP 1 rfl rfl 10 (by decide) (hts (.fieldLink RX1 43 "StuckGroove$Needle" "gotUp" "[I") (by decide +kernel)) (fun _ h9 => h9) rfl dX1_copy_94 ?_
  refine lv_iconst (v := 0) hx hb dX1_copy_97 (by decide) ?_
  refine lv_aload_n hx hb dX1_copy_98 rfl (lv_at hl 0 rfl) ?_
  refine va_get (D := (dC, dI)) (ci := 1) (v := .ref ag) (C := RX1) (T := TX1) (N := 11) hx hb hts hi1 hown hK hP 0 rfl rfl 10 (by decide) (hts (.fieldLink RX1 43 "StuckGroove$Needle" "gotUp" "[I") (by decide +kernel)) (fun _ h9 => h9) rfl dX1_copy_99 ?_
  refine lv_iconst (v := 0) hx hb dX1_copy_102 (by decide) ?_
  refine lv_iconst (v := 4) hx hb dX1_copy_103 (by decide) ?_
  refine va_copyi (ty := .int) hx hb (by rw [hml]; exact hl.1.symm) hown (hts (.methodLink RX1 61 arraycopyName) (by decide +kernel)) (hts (.native arraycopyName) (by decide +kernel)) (hts (.static arraycopyName) (by decide +kernel)) (hts (.initialized "java/lang/System") (by decide +kernel)) hK hP hD hS 7 4 5 2 rfl rfl rfl rfl rfl (by decide) (by decide) (by decide) (by decide) (by decide) (fun _ _ => rfl) (Nat.le_of_ble_eq_true rfl) (by decide +kernel) dX1_copy_104 (fun H locs hP hD hS => ?_)
  have hP : va_P (dC, dI) vwCl [(a, .inr (1, [.int b0, .int b1, .int b2, .int b3, .int b4, .int b5, .int b6, .int b7, .ref ap, .ref aw, .ref ag])), (b, .inr (1, [.int b0, .int b1, .int b2, .int b3, .int b4, .int b5, .int b6, .int b7, .ref bp, .ref bw, .ref bg])), (ap, .inl (k_ap, 12, .inl (va_cpy f_bp f_ap 0 0 12))), (aw, .inl (k_aw, 4, .inl (va_cpy f_bw f_aw 0 0 4))), (ag, .inl (k_ag, 4, .inl (va_cpy f_bg f_ag 0 0 4))), (bp, .inl (k_bp, 12, .inl f_bp)), (bw, .inl (k_bw, 4, .inl f_bw)), (bg, .inl (k_bg, 4, .inl f_bg))] H := hP
  have hD : va_D A [(a, .inr (1, [.int b0, .int b1, .int b2, .int b3, .int b4, .int b5, .int b6, .int b7, .ref ap, .ref aw, .ref ag])), (b, .inr (1, [.int b0, .int b1, .int b2, .int b3, .int b4, .int b5, .int b6, .int b7, .ref bp, .ref bw, .ref bg])), (ap, .inl (k_ap, 12, .inl (va_cpy f_bp f_ap 0 0 12))), (aw, .inl (k_aw, 4, .inl (va_cpy f_bw f_aw 0 0 4))), (ag, .inl (k_ag, 4, .inl (va_cpy f_bg f_ag 0 0 4))), (bp, .inl (k_bp, 12, .inl f_bp)), (bw, .inl (k_bw, 4, .inl f_bw)), (bg, .inl (k_bg, 4, .inl f_bg))] := hD
  have hP9 := hP.sub (ws' := [(a, .inr (1, [.int b0, .int b1, .int b2, .int b3, .int b4, .int b5, .int b6, .int b7, .ref ap, .ref aw, .ref ag])), (b, .inr (1, [.int b0, .int b1, .int b2, .int b3, .int b4, .int b5, .int b6, .int b7, .ref bp, .ref bw, .ref bg])), (ap, .inl (k_ap, 12, .inl (va_cpy f_bp f_ap 0 0 12))), (aw, .inl (k_aw, 4, .inl (va_cpy f_bw f_aw 0 0 4))), (ag, .inl (k_ag, 4, .inl (va_cpy f_bg f_ag 0 0 4))), (bp, .inl (k_bp, 12, .inl f_bp)), (bw, .inl (k_bw, 4, .inl f_bw)), (bg, .inl (k_bg, 4, .inl f_bg))]) [0, 1, 2, 3, 4, 5, 6, 7] rfl
  have hD9 := hD.sub (ws' := [(a, .inr (1, [.int b0, .int b1, .int b2, .int b3, .int b4, .int b5, .int b6, .int b7, .ref ap, .ref aw, .ref ag])), (b, .inr (1, [.int b0, .int b1, .int b2, .int b3, .int b4, .int b5, .int b6, .int b7, .ref bp, .ref bw, .ref bg])), (ap, .inl (k_ap, 12, .inl (va_cpy f_bp f_ap 0 0 12))), (aw, .inl (k_aw, 4, .inl (va_cpy f_bw f_aw 0 0 4))), (ag, .inl (k_ag, 4, .inl (va_cpy f_bg f_ag 0 0 4))), (bp, .inl (k_bp, 12, .inl f_bp)), (bw, .inl (k_bw, 4, .inl f_bw)), (bg, .inl (k_bg, 4, .inl f_bg))]) [0, 1, 2, 3, 4, 5, 6, 7] (by decide) rfl
  have hK9 := hK.sub (tys' := [(k_ap, .int), (k_aw, .int), (k_ag, .int), (k_bp, .int), (k_bw, .int), (k_bg, .int)]) [0, 1, 2, 3, 4, 5] rfl
  exact W.vret hx hb hr (fun t ht hW => ⟨⟨((va_cpy f_bp f_ap 0 0 12), (va_cpy f_bw f_aw 0 0 4), (va_cpy f_bg f_ag 0 0 4)), rfl, trivial, by rw [ht]; exact hP9, va_K.moved hW.alike hK9, hD9⟩, hS.F ht⟩) hS.2.2 dX1_copy_107

set_option maxHeartbeats 4000000 in
set_option maxRecDepth 100000 in
theorem c_X7_tryNow (l : Launch) (dC : Nat → ClassId) (dI : Nat → Nat → Nat) (x : Nat) (p0 : Int32) (fd : Nat) (sh : Nat) (sp : Nat) (rd : Nat) (nw : Nat) (im : Nat) (tr : Nat) (ah : Nat) (pl : Nat) (st : Nat) (ev : Nat) (wp : Nat) (sh8 : Nat) (sh9 : Nat) (sh10 : Nat) (sh11 : Nat) (sh12 : Nat) (sh13 : Nat) (sh14 : Nat) (nwp : Nat) (nww : Nat) (nwg : Nat) (tr0 : Int32) (tr1 : Int32) (tr2 : Int32) (tr3 : Int32) (tr4 : Int32) (tr5 : Int32) (tr6 : Int32) (tr7 : Int32) (trp : Nat) (trw : Nat) (trg : Nat) (pl0 : Nat) (pl1 : Nat) (pl2 : Int32) (pl3 : Int32) (pl4 : Int32) (pl5 : Int32) (pl6 : Int32) (pl7 : Int32) (pl8 : Int32) (pl9 : Int32) (pl10 : Int32) (pl11 : Int64) (k_nwp : ClassId) (f_nwp : Nat → Int32) (k_nww : ClassId) (f_nww : Nat → Int32) (k_nwg : ClassId) (f_nwg : Nat → Int32) (k_trp : ClassId) (f_trp : Nat → Int32) (k_trw : ClassId) (f_trw : Nat → Int32) (k_trg : ClassId) (f_trg : Nat → Int32) (sz : Nat) : Met l yX7_tryNow wsX7_tryNow ({ frames := 2, cells := 0, slots := 0, locals := 85 }) (va_Pc [.ref x, .int p0] (fun U => U.heap.size = sz ∧ va_P (dC, dI) vwCl [(x, .inr (7, [.ref fd, .int 0, .int 0, .int (-1), .ref sh, .ref sp, .ref rd, .ref nw, .ref im, .int 0, .int (-1), .ref tr, .ref ah, .ref pl, .ref st, .ref ev, .ref wp])), (sh, .inr (4, [.int 0, .int 0, .int 0, .int 0, .int 3, .int 0, .int 0, .int 0, .ref sh8, .ref sh9, .ref sh10, .ref sh11, .ref sh12, .ref sh13, .ref sh14])), (nw, .inr (1, [.int (-2), .int 0, .int 0, .int 0, .int 0, .int 0, .int 3, .int 0, .ref nwp, .ref nww, .ref nwg])), (tr, .inr (1, [.int tr0, .int tr1, .int tr2, .int tr3, .int tr4, .int tr5, .int tr6, .int tr7, .ref trp, .ref trw, .ref trg])), (pl, .inr (2, [.ref pl0, .ref pl1, .int pl2, .int pl3, .int pl4, .int pl5, .int pl6, .int pl7, .int pl8, .int pl9, .int pl10, .long pl11])), (nwp, .inl (k_nwp, 12, .inl f_nwp)), (nww, .inl (k_nww, 4, .inl f_nww)), (nwg, .inl (k_nwg, 4, .inl f_nwg)), (trp, .inl (k_trp, 12, .inl f_trp)), (trw, .inl (k_trw, 4, .inl f_trw)), (trg, .inl (k_trg, 4, .inl f_trg))] U.heap ∧ va_K (dC, dI) vwCl [(k_nwp, .int), (k_nww, .int), (k_nwg, .int), (k_trp, .int), (k_trw, .int), (k_trg, .int)] U ∧ va_D (fun _ => True) [(x, .inr (7, [.ref fd, .int 0, .int 0, .int (-1), .ref sh, .ref sp, .ref rd, .ref nw, .ref im, .int 0, .int (-1), .ref tr, .ref ah, .ref pl, .ref st, .ref ev, .ref wp])), (sh, .inr (4, [.int 0, .int 0, .int 0, .int 0, .int 3, .int 0, .int 0, .int 0, .ref sh8, .ref sh9, .ref sh10, .ref sh11, .ref sh12, .ref sh13, .ref sh14])), (nw, .inr (1, [.int (-2), .int 0, .int 0, .int 0, .int 0, .int 0, .int 3, .int 0, .ref nwp, .ref nww, .ref nwg])), (tr, .inr (1, [.int tr0, .int tr1, .int tr2, .int tr3, .int tr4, .int tr5, .int tr6, .int tr7, .ref trp, .ref trw, .ref trg])), (pl, .inr (2, [.ref pl0, .ref pl1, .int pl2, .int pl3, .int pl4, .int pl5, .int pl6, .int pl7, .int pl8, .int pl9, .int pl10, .long pl11])), (nwp, .inl (k_nwp, 12, .inl f_nwp)), (nww, .inl (k_nww, 4, .inl f_nww)), (nwg, .inl (k_nwg, 4, .inl f_nwg)), (trp, .inl (k_trp, 12, .inl f_trp)), (trw, .inl (k_trw, 4, .inl f_trw)), (trg, .inl (k_trg, 4, .inl f_trg))] ∧ nw_ok U)) (va_Qv (fun (_ : (Nat → Int32) × (Nat → Int32) × (Nat → Int32)) => True) (fun (u : (Nat → Int32) × (Nat → Int32) × (Nat → Int32)) t => match u with | (F0_, F1_, F2_) => va_P (dC, dI) vwCl [(x, .inr (7, [.ref fd, .int 0, .int 0, .int (-1), .ref sh, .ref sp, .ref rd, .ref nw, .ref im, .int 0, .int (-1), .ref tr, .ref ah, .ref pl, .ref st, .ref ev, .ref wp])), (sh, .inr (4, [.int 0, .int 0, .int 0, .int 0, .int 3, .int 0, .int 0, .int 0, .ref sh8, .ref sh9, .ref sh10, .ref sh11, .ref sh12, .ref sh13, .ref sh14])), (tr, .inr (1, [.int (-2), .int 0, .int 0, .int 0, .int 0, .int 0, .int 3, .int 0, .ref trp, .ref trw, .ref trg])), (nw, .inr (1, [.int (-2), .int 0, .int 0, .int 0, .int 0, .int 0, .int 3, .int 0, .ref nwp, .ref nww, .ref nwg])), (trp, .inl (k_trp, 12, .inl F0_)), (trw, .inl (k_trw, 4, .inl F1_)), (trg, .inl (k_trg, 4, .inl F2_)), (nwp, .inl (k_nwp, 12, .inl f_nwp)), (nww, .inl (k_nww, 4, .inl f_nww)), (nwg, .inl (k_nwg, 4, .inl f_nwg)), (pl, .inr (2, [.ref sh, .ref tr, .int 0, .int 1, .int p0, .int pl5, .int pl6, .int (-1), .int (-1), .int pl9, .int 0, .long pl11]))] t.heap ∧ va_K (dC, dI) vwCl [(k_trp, .int), (k_trw, .int), (k_trg, .int), (k_nwp, .int), (k_nww, .int), (k_nwg, .int)] t ∧ va_D (va_A [(x, .inr (7, [.ref fd, .int 0, .int 0, .int (-1), .ref sh, .ref sp, .ref rd, .ref nw, .ref im, .int 0, .int (-1), .ref tr, .ref ah, .ref pl, .ref st, .ref ev, .ref wp])), (sh, .inr (4, [.int 0, .int 0, .int 0, .int 0, .int 3, .int 0, .int 0, .int 0, .ref sh8, .ref sh9, .ref sh10, .ref sh11, .ref sh12, .ref sh13, .ref sh14])), (nw, .inr (1, [.int (-2), .int 0, .int 0, .int 0, .int 0, .int 0, .int 3, .int 0, .ref nwp, .ref nww, .ref nwg])), (tr, .inr (1, [.int tr0, .int tr1, .int tr2, .int tr3, .int tr4, .int tr5, .int tr6, .int tr7, .ref trp, .ref trw, .ref trg])), (pl, .inr (2, [.ref pl0, .ref pl1, .int pl2, .int pl3, .int pl4, .int pl5, .int pl6, .int pl7, .int pl8, .int pl9, .int pl10, .long pl11])), (nwp, .inl (k_nwp, 12, .inl f_nwp)), (nww, .inl (k_nww, 4, .inl f_nww)), (nwg, .inl (k_nwg, 4, .inl f_nwg)), (trp, .inl (k_trp, 12, .inl f_trp)), (trw, .inl (k_trw, 4, .inl f_trw)), (trg, .inl (k_trg, 4, .inl f_trg))] sz) [(x, .inr (7, [.ref fd, .int 0, .int 0, .int (-1), .ref sh, .ref sp, .ref rd, .ref nw, .ref im, .int 0, .int (-1), .ref tr, .ref ah, .ref pl, .ref st, .ref ev, .ref wp])), (sh, .inr (4, [.int 0, .int 0, .int 0, .int 0, .int 3, .int 0, .int 0, .int 0, .ref sh8, .ref sh9, .ref sh10, .ref sh11, .ref sh12, .ref sh13, .ref sh14])), (tr, .inr (1, [.int (-2), .int 0, .int 0, .int 0, .int 0, .int 0, .int 3, .int 0, .ref trp, .ref trw, .ref trg])), (nw, .inr (1, [.int (-2), .int 0, .int 0, .int 0, .int 0, .int 0, .int 3, .int 0, .ref nwp, .ref nww, .ref nwg])), (trp, .inl (k_trp, 12, .inl F0_)), (trw, .inl (k_trw, 4, .inl F1_)), (trg, .inl (k_trg, 4, .inl F2_)), (nwp, .inl (k_nwp, 12, .inl f_nwp)), (nww, .inl (k_nww, 4, .inl f_nww)), (nwg, .inl (k_nwg, 4, .inl f_nwg)), (pl, .inr (2, [.ref sh, .ref tr, .int 0, .int 1, .int p0, .int pl5, .int pl6, .int (-1), .int (-1), .int pl9, .int 0, .long pl11]))]) (va_A [(x, .inr (7, [.ref fd, .int 0, .int 0, .int (-1), .ref sh, .ref sp, .ref rd, .ref nw, .ref im, .int 0, .int (-1), .ref tr, .ref ah, .ref pl, .ref st, .ref ev, .ref wp])), (sh, .inr (4, [.int 0, .int 0, .int 0, .int 0, .int 3, .int 0, .int 0, .int 0, .ref sh8, .ref sh9, .ref sh10, .ref sh11, .ref sh12, .ref sh13, .ref sh14])), (nw, .inr (1, [.int (-2), .int 0, .int 0, .int 0, .int 0, .int 0, .int 3, .int 0, .ref nwp, .ref nww, .ref nwg])), (tr, .inr (1, [.int tr0, .int tr1, .int tr2, .int tr3, .int tr4, .int tr5, .int tr6, .int tr7, .ref trp, .ref trw, .ref trg])), (pl, .inr (2, [.ref pl0, .ref pl1, .int pl2, .int pl3, .int pl4, .int pl5, .int pl6, .int pl7, .int pl8, .int pl9, .int pl10, .long pl11])), (nwp, .inl (k_nwp, 12, .inl f_nwp)), (nww, .inl (k_nww, 4, .inl f_nww)), (nwg, .inl (k_nwg, 4, .inl f_nwg)), (trp, .inl (k_trp, 12, .inl f_trp)), (trw, .inl (k_trw, 4, .inl f_trw)), (trg, .inl (k_trg, 4, .inl f_trg))] sz)) 0 0 (va_A [(x, .inr (7, [.ref fd, .int 0, .int 0, .int (-1), .ref sh, .ref sp, .ref rd, .ref nw, .ref im, .int 0, .int (-1), .ref tr, .ref ah, .ref pl, .ref st, .ref ev, .ref wp])), (sh, .inr (4, [.int 0, .int 0, .int 0, .int 0, .int 3, .int 0, .int 0, .int 0, .ref sh8, .ref sh9, .ref sh10, .ref sh11, .ref sh12, .ref sh13, .ref sh14])), (nw, .inr (1, [.int (-2), .int 0, .int 0, .int 0, .int 0, .int 0, .int 3, .int 0, .ref nwp, .ref nww, .ref nwg])), (tr, .inr (1, [.int tr0, .int tr1, .int tr2, .int tr3, .int tr4, .int tr5, .int tr6, .int tr7, .ref trp, .ref trw, .ref trg])), (pl, .inr (2, [.ref pl0, .ref pl1, .int pl2, .int pl3, .int pl4, .int pl5, .int pl6, .int pl7, .int pl8, .int pl9, .int pl10, .long pl11])), (nwp, .inl (k_nwp, 12, .inl f_nwp)), (nww, .inl (k_nww, 4, .inl f_nww)), (nwg, .inl (k_nwg, 4, .inl f_nwg)), (trp, .inl (k_trp, 12, .inl f_trp)), (trw, .inl (k_trw, 4, .inl f_trw)), (trg, .inl (k_trg, 4, .inl f_trg))] sz) := by
  refine Met.ofW (cc := cX7_tryNow) (maxL := 2) (ret := none) (by decide) rfl ?_
  intro p e s m args below meth c s₁ B hml hv
  obtain ⟨rfl, hsz, hP, hK, hD0, hN⟩ := hv
  have hx := B.exec
  have hb := B.bytes
  have hr := B.returns
  have hts := atoms_spec (ws := wsX7_tryNow) B.pre
  have hown : s.vm.findClass RX7 = some m.cls := findClass_of_methodNamed B.named
  have hlocks := B.notSynchronized
  have hi2 : ∀ w ∈ wsX20, w ∈ wsX7_tryNow := by decide +kernel
  have hi7 : ∀ w ∈ wsX70, w ∈ wsX7_tryNow := by decide +kernel
  subst hsz
  have hD := hD0.self (sz := s.heap.size)
  generalize hAe : va_A [(x, .inr (7, [.ref fd, .int 0, .int 0, .int (-1), .ref sh, .ref sp, .ref rd, .ref nw, .ref im, .int 0, .int (-1), .ref tr, .ref ah, .ref pl, .ref st, .ref ev, .ref wp])), (sh, .inr (4, [.int 0, .int 0, .int 0, .int 0, .int 3, .int 0, .int 0, .int 0, .ref sh8, .ref sh9, .ref sh10, .ref sh11, .ref sh12, .ref sh13, .ref sh14])), (nw, .inr (1, [.int (-2), .int 0, .int 0, .int 0, .int 0, .int 0, .int 3, .int 0, .ref nwp, .ref nww, .ref nwg])), (tr, .inr (1, [.int tr0, .int tr1, .int tr2, .int tr3, .int tr4, .int tr5, .int tr6, .int tr7, .ref trp, .ref trw, .ref trg])), (pl, .inr (2, [.ref pl0, .ref pl1, .int pl2, .int pl3, .int pl4, .int pl5, .int pl6, .int pl7, .int pl8, .int pl9, .int pl10, .long pl11])), (nwp, .inl (k_nwp, 12, .inl f_nwp)), (nww, .inl (k_nww, 4, .inl f_nww)), (nwg, .inl (k_nwg, 4, .inl f_nwg)), (trp, .inl (k_trp, 12, .inl f_trp)), (trw, .inl (k_trw, 4, .inl f_trw)), (trg, .inl (k_trg, 4, .inl f_trg))] s.heap.size = A at hD ⊢
  have hA : ∀ q : Nat, s.heap.size ≤ q → A q := fun q h => by rw [← hAe]; exact Or.inr h
  have hS : va_S A s.heap s.heap [] := va_S.rf
  have hP : va_P (dC, dI) vwCl [(x, .inr (7, [.ref fd, .int 0, .int 0, .int (-1), .ref sh, .ref sp, .ref rd, .ref nw, .ref im, .int 0, .int (-1), .ref tr, .ref ah, .ref pl, .ref st, .ref ev, .ref wp])), (sh, .inr (4, [.int 0, .int 0, .int 0, .int 0, .int 3, .int 0, .int 0, .int 0, .ref sh8, .ref sh9, .ref sh10, .ref sh11, .ref sh12, .ref sh13, .ref sh14])), (nw, .inr (1, [.int (-2), .int 0, .int 0, .int 0, .int 0, .int 0, .int 3, .int 0, .ref nwp, .ref nww, .ref nwg])), (tr, .inr (1, [.int tr0, .int tr1, .int tr2, .int tr3, .int tr4, .int tr5, .int tr6, .int tr7, .ref trp, .ref trw, .ref trg])), (pl, .inr (2, [.ref pl0, .ref pl1, .int pl2, .int pl3, .int pl4, .int pl5, .int pl6, .int pl7, .int pl8, .int pl9, .int pl10, .long pl11])), (nwp, .inl (k_nwp, 12, .inl f_nwp)), (nww, .inl (k_nww, 4, .inl f_nww)), (nwg, .inl (k_nwg, 4, .inl f_nwg)), (trp, .inl (k_trp, 12, .inl f_trp)), (trw, .inl (k_trw, 4, .inl f_trw)), (trg, .inl (k_trg, 4, .inl f_trg))] s.heap := hP
  have hl := lv_entry ([.ref x, .int p0]) (n := 2) (Nat.le_of_ble_eq_true rfl)
  rw [lg_entry_eq]
  generalize (lg_sl ([.ref x, .int p0]) ++ List.replicate (2 - (lg_sl ([.ref x, .int p0])).length) Slot.unset).toArray = ls at hl ⊢
  have hl : lv_has ls 2 [(0, .ref x), (1, .int p0)] := hl
  skip
  refine lv_aload_n hx hb dX7_tryNow_0 rfl (lv_at hl 0 rfl) ?_
  refine va_get (D := (dC, dI)) (ci := 7) (v := .ref tr) (C := RX7) (T := TX7) (N := 17) hx hb hts hi7 hown hK hP 0 rfl rfl 11 (by decide) (hts (.fieldLink RX7 61 "StuckGroove" "trial" "LStuckGroove$Needle;") (by decide +kernel)) (fun _ h9 => h9) rfl dX7_tryNow_1 ?_
  refine lv_aload_n hx hb dX7_tryNow_4 rfl (lv_at hl 0 rfl) ?_
  refine va_get (D := (dC, dI)) (ci := 7) (v := .ref nw) (C := RX7) (T := TX7) (N := 17) hx hb hts hi7 hown hK hP 0 rfl rfl 7 (by decide) (hts (.fieldLink RX7 47 "StuckGroove" "now" "LStuckGroove$Needle;") (by decide +kernel)) (fun _ h9 => h9) rfl dX7_tryNow_5 ?_
  have hPc := hP.sub (ws' := [(tr, .inr (1, [.int tr0, .int tr1, .int tr2, .int tr3, .int tr4, .int tr5, .int tr6, .int tr7, .ref trp, .ref trw, .ref trg])), (nw, .inr (1, [.int (-2), .int 0, .int 0, .int 0, .int 0, .int 0, .int 3, .int 0, .ref nwp, .ref nww, .ref nwg])), (trp, .inl (k_trp, 12, .inl f_trp)), (trw, .inl (k_trw, 4, .inl f_trw)), (trg, .inl (k_trg, 4, .inl f_trg)), (nwp, .inl (k_nwp, 12, .inl f_nwp)), (nww, .inl (k_nww, 4, .inl f_nww)), (nwg, .inl (k_nwg, 4, .inl f_nwg))]) [3, 2, 8, 9, 10, 5, 6, 7] rfl
  have hDc := hD.sub (ws' := [(tr, .inr (1, [.int tr0, .int tr1, .int tr2, .int tr3, .int tr4, .int tr5, .int tr6, .int tr7, .ref trp, .ref trw, .ref trg])), (nw, .inr (1, [.int (-2), .int 0, .int 0, .int 0, .int 0, .int 0, .int 3, .int 0, .ref nwp, .ref nww, .ref nwg])), (trp, .inl (k_trp, 12, .inl f_trp)), (trw, .inl (k_trw, 4, .inl f_trw)), (trg, .inl (k_trg, 4, .inl f_trg)), (nwp, .inl (k_nwp, 12, .inl f_nwp)), (nww, .inl (k_nww, 4, .inl f_nww)), (nwg, .inl (k_nwg, 4, .inl f_nwg))]) [3, 2, 8, 9, 10, 5, 6, 7] (by decide) rfl
  have hKc := hK.sub (tys' := [(k_trp, .int), (k_trw, .int), (k_trg, .int), (k_nwp, .int), (k_nww, .int), (k_nwg, .int)]) [3, 4, 5, 0, 1, 2] rfl
  have hFc := va_free (wc := [(tr, .inr (1, [.int tr0, .int tr1, .int tr2, .int tr3, .int tr4, .int tr5, .int tr6, .int tr7, .ref trp, .ref trw, .ref trg])), (nw, .inr (1, [.int (-2), .int 0, .int 0, .int 0, .int 0, .int 0, .int 3, .int 0, .ref nwp, .ref nww, .ref nwg])), (trp, .inl (k_trp, 12, .inl f_trp)), (trw, .inl (k_trw, 4, .inl f_trw)), (trg, .inl (k_trg, 4, .inl f_trg)), (nwp, .inl (k_nwp, 12, .inl f_nwp)), (nww, .inl (k_nww, 4, .inl f_nww)), (nwg, .inl (k_nwg, 4, .inl f_nwg))]) hD hS hA [3, 2, 8, 9, 10, 5, 6, 7] rfl
  refine va_callv (va_runV (As := [.ref nw]) (rest := []) ⟨hx, hb, hml, hown, hts⟩ (c_X1_copy l dC dI tr nw tr0 tr1 tr2 tr3 tr4 tr5 tr6 tr7 trp trw trg (-2) 0 0 0 0 0 3 0 nwp nww nwg k_trp f_trp k_trw f_trw k_trg f_trg k_nwp f_nwp k_nww f_nww k_nwg f_nwg s.heap.size) (cwV 1 hts gX7_tryNow_X1_copy rfl rfl rfl (by decide +kernel) ⟨Nat.le_of_ble_eq_true rfl, Nat.le_of_ble_eq_true rfl⟩) ⟨fun a U g mk q => by obtain ⟨q0, q1, qP, qK, qD, qN⟩ := q; exact ⟨q0, q1, qP, va_K.moved (u := U) (U := U.calling g mk a) (Vm.Alike.refl U.vm) qK, qD, nw_same (u := U) (U := U.calling g mk a) rfl qN⟩, va_recv hKc hPc (ci := 1) (q0 := 0) rfl rfl, fun U hU hW => ⟨rfl, by rw [hU], by rw [hU]; exact hPc, va_K.moved hW.alike hKc, hDc.weaken (fun _ _ _ _ => trivial), nw_warm hW hN⟩⟩ rfl rfl hl.1 rfl (lv_room (Nat.le_of_ble_eq_true rfl)) dX7_tryNow_8 ⟨Nat.le_of_ble_eq_true rfl, Nat.le_of_ble_eq_true rfl⟩) hS (fun q _ h => hFc q h) hFc (fun u2 t H1 locs ht hvm hw hB hz1 hk1 hS => ?_)
  obtain ⟨F3, F4, F5⟩ := u2
  obtain ⟨hP1, hK1, hD1⟩ := hB
  rw [ht] at hP1
  have hK1 := va_K.moved hvm.symm hK1
  obtain ⟨hP, hD⟩ := va_join (wr := [(x, .inr (7, [.ref fd, .int 0, .int 0, .int (-1), .ref sh, .ref sp, .ref rd, .ref nw, .ref im, .int 0, .int (-1), .ref tr, .ref ah, .ref pl, .ref st, .ref ev, .ref wp])), (sh, .inr (4, [.int 0, .int 0, .int 0, .int 0, .int 3, .int 0, .int 0, .int 0, .ref sh8, .ref sh9, .ref sh10, .ref sh11, .ref sh12, .ref sh13, .ref sh14])), (pl, .inr (2, [.ref pl0, .ref pl1, .int pl2, .int pl3, .int pl4, .int pl5, .int pl6, .int pl7, .int pl8, .int pl9, .int pl10, .long pl11]))]) (w1 := [(tr, .inr (1, [.int (-2), .int 0, .int 0, .int 0, .int 0, .int 0, .int 3, .int 0, .ref trp, .ref trw, .ref trg])), (nw, .inr (1, [.int (-2), .int 0, .int 0, .int 0, .int 0, .int 0, .int 3, .int 0, .ref nwp, .ref nww, .ref nwg])), (trp, .inl (k_trp, 12, .inl F3)), (trw, .inl (k_trw, 4, .inl F4)), (trg, .inl (k_trg, 4, .inl F5)), (nwp, .inl (k_nwp, 12, .inl f_nwp)), (nww, .inl (k_nww, 4, .inl f_nww)), (nwg, .inl (k_nwg, 4, .inl f_nwg))]) hP hD [3, 2, 8, 9, 10, 5, 6, 7] [0, 1, 4] rfl rfl (by decide) (by decide) hk1 hFc hP1 hD1
  have hK := (hK.sub (tys' := []) [] rfl).app hK1
  generalize H1 = H at hP hS ⊢
  have hP : va_P (dC, dI) vwCl [(x, .inr (7, [.ref fd, .int 0, .int 0, .int (-1), .ref sh, .ref sp, .ref rd, .ref nw, .ref im, .int 0, .int (-1), .ref tr, .ref ah, .ref pl, .ref st, .ref ev, .ref wp])), (sh, .inr (4, [.int 0, .int 0, .int 0, .int 0, .int 3, .int 0, .int 0, .int 0, .ref sh8, .ref sh9, .ref sh10, .ref sh11, .ref sh12, .ref sh13, .ref sh14])), (pl, .inr (2, [.ref pl0, .ref pl1, .int pl2, .int pl3, .int pl4, .int pl5, .int pl6, .int pl7, .int pl8, .int pl9, .int pl10, .long pl11])), (tr, .inr (1, [.int (-2), .int 0, .int 0, .int 0, .int 0, .int 0, .int 3, .int 0, .ref trp, .ref trw, .ref trg])), (nw, .inr (1, [.int (-2), .int 0, .int 0, .int 0, .int 0, .int 0, .int 3, .int 0, .ref nwp, .ref nww, .ref nwg])), (trp, .inl (k_trp, 12, .inl F3)), (trw, .inl (k_trw, 4, .inl F4)), (trg, .inl (k_trg, 4, .inl F5)), (nwp, .inl (k_nwp, 12, .inl f_nwp)), (nww, .inl (k_nww, 4, .inl f_nww)), (nwg, .inl (k_nwg, 4, .inl f_nwg))] H := hP
  have hD : va_D A [(x, .inr (7, [.ref fd, .int 0, .int 0, .int (-1), .ref sh, .ref sp, .ref rd, .ref nw, .ref im, .int 0, .int (-1), .ref tr, .ref ah, .ref pl, .ref st, .ref ev, .ref wp])), (sh, .inr (4, [.int 0, .int 0, .int 0, .int 0, .int 3, .int 0, .int 0, .int 0, .ref sh8, .ref sh9, .ref sh10, .ref sh11, .ref sh12, .ref sh13, .ref sh14])), (pl, .inr (2, [.ref pl0, .ref pl1, .int pl2, .int pl3, .int pl4, .int pl5, .int pl6, .int pl7, .int pl8, .int pl9, .int pl10, .long pl11])), (tr, .inr (1, [.int (-2), .int 0, .int 0, .int 0, .int 0, .int 0, .int 3, .int 0, .ref trp, .ref trw, .ref trg])), (nw, .inr (1, [.int (-2), .int 0, .int 0, .int 0, .int 0, .int 0, .int 3, .int 0, .ref nwp, .ref nww, .ref nwg])), (trp, .inl (k_trp, 12, .inl F3)), (trw, .inl (k_trw, 4, .inl F4)), (trg, .inl (k_trg, 4, .inl F5)), (nwp, .inl (k_nwp, 12, .inl f_nwp)), (nww, .inl (k_nww, 4, .inl f_nww)), (nwg, .inl (k_nwg, 4, .inl f_nwg))] := hD
  have hK : va_K (dC, dI) vwCl [(k_trp, .int), (k_trw, .int), (k_trg, .int), (k_nwp, .int), (k_nww, .int), (k_nwg, .int)] s := hK
  refine lv_aload_n hx hb dX7_tryNow_11 rfl (lv_at hl 0 rfl) ?_
  refine va_get (D := (dC, dI)) (ci := 7) (v := .ref pl) (C := RX7) (T := TX7) (N := 17) hx hb hts hi7 hown hK hP 0 rfl rfl 13 (by decide) (hts (.fieldLink RX7 72 "StuckGroove" "player" "LStuckGroove$Player;") (by decide +kernel)) (fun _ h9 => h9) rfl dX7_tryNow_12 ?_
  refine lv_aload_n hx hb dX7_tryNow_15 rfl (lv_at hl 0 rfl) ?_
  refine va_get (D := (dC, dI)) (ci := 7) (v := .ref sh) (C := RX7) (T := TX7) (N := 17) hx hb hts hi7 hown hK hP 0 rfl rfl 4 (by decide) (hts (.fieldLink RX7 28 "StuckGroove" "sheet" "LStuckGroove$Sheet;") (by decide +kernel)) (fun _ h9 => h9) rfl dX7_tryNow_16 ?_
  refine lv_aload_n hx hb dX7_tryNow_19 rfl (lv_at hl 0 rfl) ?_
  refine va_get (D := (dC, dI)) (ci := 7) (v := .ref tr) (C := RX7) (T := TX7) (N := 17) hx hb hts hi7 hown hK hP 0 rfl rfl 11 (by decide) (hts (.fieldLink RX7 61 "StuckGroove" "trial" "LStuckGroove$Needle;") (by decide +kernel)) (fun _ h9 => h9) rfl dX7_tryNow_20 ?_
  have hPc := hP.sub (ws' := [(pl, .inr (2, [.ref pl0, .ref pl1, .int pl2, .int pl3, .int pl4, .int pl5, .int pl6, .int pl7, .int pl8, .int pl9, .int pl10, .long pl11]))]) [2] rfl
  have hDc := hD.sub (ws' := [(pl, .inr (2, [.ref pl0, .ref pl1, .int pl2, .int pl3, .int pl4, .int pl5, .int pl6, .int pl7, .int pl8, .int pl9, .int pl10, .long pl11]))]) [2] (by decide) rfl
  have hKc := hK.sub (tys' := []) [] rfl
  have hFc := va_free (wc := [(pl, .inr (2, [.ref pl0, .ref pl1, .int pl2, .int pl3, .int pl4, .int pl5, .int pl6, .int pl7, .int pl8, .int pl9, .int pl10, .long pl11]))]) hD hS hA [2] rfl
  refine va_callv (va_runV (As := [.ref sh, .ref tr]) (rest := []) ⟨hx, hb, hml, hown, hts⟩ (c_X2_take l dC dI pl sh tr pl0 pl1 pl2 pl3 pl4 pl5 pl6 pl7 pl8 pl9 pl10 pl11 H.size) (cwV 2 hts gX7_tryNow_X2_take rfl rfl rfl (by decide +kernel) ⟨Nat.le_of_ble_eq_true rfl, Nat.le_of_ble_eq_true rfl⟩) ⟨fun a U g mk q => by obtain ⟨q0, q1, qP, qK, qD, qN⟩ := q; exact ⟨q0, q1, qP, va_K.moved (u := U) (U := U.calling g mk a) (Vm.Alike.refl U.vm) qK, qD, nw_same (u := U) (U := U.calling g mk a) rfl qN⟩, va_recv hKc hPc (ci := 2) (q0 := 0) rfl rfl, fun U hU hW => ⟨rfl, by rw [hU], by rw [hU]; exact hPc, va_K.moved hW.alike hKc, hDc.weaken (fun _ _ _ _ => trivial), nw_warm hW hN⟩⟩ rfl rfl hl.1 rfl (lv_room (Nat.le_of_ble_eq_true rfl)) dX7_tryNow_23 ⟨Nat.le_of_ble_eq_true rfl, Nat.le_of_ble_eq_true rfl⟩) hS (fun q _ h => hFc q h) hFc (fun u7 t H1 locs ht hvm hw hB hz1 hk1 hS => ?_)
  obtain ⟨hP1, hK1, hD1⟩ := hB
  rw [ht] at hP1
  have hK1 := va_K.moved hvm.symm hK1
  obtain ⟨hP, hD⟩ := va_join (wr := [(x, .inr (7, [.ref fd, .int 0, .int 0, .int (-1), .ref sh, .ref sp, .ref rd, .ref nw, .ref im, .int 0, .int (-1), .ref tr, .ref ah, .ref pl, .ref st, .ref ev, .ref wp])), (sh, .inr (4, [.int 0, .int 0, .int 0, .int 0, .int 3, .int 0, .int 0, .int 0, .ref sh8, .ref sh9, .ref sh10, .ref sh11, .ref sh12, .ref sh13, .ref sh14])), (tr, .inr (1, [.int (-2), .int 0, .int 0, .int 0, .int 0, .int 0, .int 3, .int 0, .ref trp, .ref trw, .ref trg])), (nw, .inr (1, [.int (-2), .int 0, .int 0, .int 0, .int 0, .int 0, .int 3, .int 0, .ref nwp, .ref nww, .ref nwg])), (trp, .inl (k_trp, 12, .inl F3)), (trw, .inl (k_trw, 4, .inl F4)), (trg, .inl (k_trg, 4, .inl F5)), (nwp, .inl (k_nwp, 12, .inl f_nwp)), (nww, .inl (k_nww, 4, .inl f_nww)), (nwg, .inl (k_nwg, 4, .inl f_nwg))]) (w1 := [(pl, .inr (2, [.ref sh, .ref tr, .int 0, .int 1, .int 1, .int pl5, .int pl6, .int (-1), .int (-1), .int pl9, .int 0, .long pl11]))]) hP hD [2] [0, 1, 3, 4, 5, 6, 7, 8, 9, 10] rfl rfl (by decide) (by decide) hk1 hFc hP1 hD1
  have hK := (hK.sub (tys' := [(k_trp, .int), (k_trw, .int), (k_trg, .int), (k_nwp, .int), (k_nww, .int), (k_nwg, .int)]) [0, 1, 2, 3, 4, 5] rfl).app hK1
  generalize H1 = H at hP hS ⊢
  have hP : va_P (dC, dI) vwCl [(x, .inr (7, [.ref fd, .int 0, .int 0, .int (-1), .ref sh, .ref sp, .ref rd, .ref nw, .ref im, .int 0, .int (-1), .ref tr, .ref ah, .ref pl, .ref st, .ref ev, .ref wp])), (sh, .inr (4, [.int 0, .int 0, .int 0, .int 0, .int 3, .int 0, .int 0, .int 0, .ref sh8, .ref sh9, .ref sh10, .ref sh11, .ref sh12, .ref sh13, .ref sh14])), (tr, .inr (1, [.int (-2), .int 0, .int 0, .int 0, .int 0, .int 0, .int 3, .int 0, .ref trp, .ref trw, .ref trg])), (nw, .inr (1, [.int (-2), .int 0, .int 0, .int 0, .int 0, .int 0, .int 3, .int 0, .ref nwp, .ref nww, .ref nwg])), (trp, .inl (k_trp, 12, .inl F3)), (trw, .inl (k_trw, 4, .inl F4)), (trg, .inl (k_trg, 4, .inl F5)), (nwp, .inl (k_nwp, 12, .inl f_nwp)), (nww, .inl (k_nww, 4, .inl f_nww)), (nwg, .inl (k_nwg, 4, .inl f_nwg)), (pl, .inr (2, [.ref sh, .ref tr, .int 0, .int 1, .int 1, .int pl5, .int pl6, .int (-1), .int (-1), .int pl9, .int 0, .long pl11]))] H := hP
  have hD : va_D A [(x, .inr (7, [.ref fd, .int 0, .int 0, .int (-1), .ref sh, .ref sp, .ref rd, .ref nw, .ref im, .int 0, .int (-1), .ref tr, .ref ah, .ref pl, .ref st, .ref ev, .ref wp])), (sh, .inr (4, [.int 0, .int 0, .int 0, .int 0, .int 3, .int 0, .int 0, .int 0, .ref sh8, .ref sh9, .ref sh10, .ref sh11, .ref sh12, .ref sh13, .ref sh14])), (tr, .inr (1, [.int (-2), .int 0, .int 0, .int 0, .int 0, .int 0, .int 3, .int 0, .ref trp, .ref trw, .ref trg])), (nw, .inr (1, [.int (-2), .int 0, .int 0, .int 0, .int 0, .int 0, .int 3, .int 0, .ref nwp, .ref nww, .ref nwg])), (trp, .inl (k_trp, 12, .inl F3)), (trw, .inl (k_trw, 4, .inl F4)), (trg, .inl (k_trg, 4, .inl F5)), (nwp, .inl (k_nwp, 12, .inl f_nwp)), (nww, .inl (k_nww, 4, .inl f_nww)), (nwg, .inl (k_nwg, 4, .inl f_nwg)), (pl, .inr (2, [.ref sh, .ref tr, .int 0, .int 1, .int 1, .int pl5, .int pl6, .int (-1), .int (-1), .int pl9, .int 0, .long pl11]))] := hD
  have hK : va_K (dC, dI) vwCl [(k_trp, .int), (k_trw, .int), (k_trg, .int), (k_nwp, .int), (k_nww, .int), (k_nwg, .int)] s := hK
  refine lv_aload_n hx hb dX7_tryNow_26 rfl (lv_at hl 0 rfl) ?_
  refine va_get (D := (dC, dI)) (ci := 7) (v := .ref pl) (C := RX7) (T := TX7) (N := 17) hx hb hts hi7 hown hK hP 0 rfl rfl 13 (by decide) (hts (.fieldLink RX7 72 "StuckGroove" "player" "LStuckGroove$Player;") (by decide +kernel)) (fun _ h9 => h9) rfl dX7_tryNow_27 ?_
  refine lv_iload_n hx hb dX7_tryNow_30 rfl (lv_at hl 1 rfl) ?_
  refine va_putN (D := (dC, dI)) (ci := 2) (v := .int p0) (ty := .int) (C := RX2) (T := TX2) (N := 12) hx hb hts hi2 tyX2 tyX2_ok nmX2 hown hK hP hD hS 10 rfl rfl 4 (by decide) (va_Nw.use rfl (hN.1 (RX7, 251, "StuckGroove$Player", "listeners", "I", "StuckGroove") (by decide +kernel))) (fun _ h9 => h9) rfl (by decide +kernel) rfl rfl (Nat.le_of_ble_eq_true rfl) dX7_tryNow_31 (fun H locs hP hD hS => ?_)
  have hP : va_P (dC, dI) vwCl [(x, .inr (7, [.ref fd, .int 0, .int 0, .int (-1), .ref sh, .ref sp, .ref rd, .ref nw, .ref im, .int 0, .int (-1), .ref tr, .ref ah, .ref pl, .ref st, .ref ev, .ref wp])), (sh, .inr (4, [.int 0, .int 0, .int 0, .int 0, .int 3, .int 0, .int 0, .int 0, .ref sh8, .ref sh9, .ref sh10, .ref sh11, .ref sh12, .ref sh13, .ref sh14])), (tr, .inr (1, [.int (-2), .int 0, .int 0, .int 0, .int 0, .int 0, .int 3, .int 0, .ref trp, .ref trw, .ref trg])), (nw, .inr (1, [.int (-2), .int 0, .int 0, .int 0, .int 0, .int 0, .int 3, .int 0, .ref nwp, .ref nww, .ref nwg])), (trp, .inl (k_trp, 12, .inl F3)), (trw, .inl (k_trw, 4, .inl F4)), (trg, .inl (k_trg, 4, .inl F5)), (nwp, .inl (k_nwp, 12, .inl f_nwp)), (nww, .inl (k_nww, 4, .inl f_nww)), (nwg, .inl (k_nwg, 4, .inl f_nwg)), (pl, .inr (2, [.ref sh, .ref tr, .int 0, .int 1, .int p0, .int pl5, .int pl6, .int (-1), .int (-1), .int pl9, .int 0, .long pl11]))] H := hP
  have hD : va_D A [(x, .inr (7, [.ref fd, .int 0, .int 0, .int (-1), .ref sh, .ref sp, .ref rd, .ref nw, .ref im, .int 0, .int (-1), .ref tr, .ref ah, .ref pl, .ref st, .ref ev, .ref wp])), (sh, .inr (4, [.int 0, .int 0, .int 0, .int 0, .int 3, .int 0, .int 0, .int 0, .ref sh8, .ref sh9, .ref sh10, .ref sh11, .ref sh12, .ref sh13, .ref sh14])), (tr, .inr (1, [.int (-2), .int 0, .int 0, .int 0, .int 0, .int 0, .int 3, .int 0, .ref trp, .ref trw, .ref trg])), (nw, .inr (1, [.int (-2), .int 0, .int 0, .int 0, .int 0, .int 0, .int 3, .int 0, .ref nwp, .ref nww, .ref nwg])), (trp, .inl (k_trp, 12, .inl F3)), (trw, .inl (k_trw, 4, .inl F4)), (trg, .inl (k_trg, 4, .inl F5)), (nwp, .inl (k_nwp, 12, .inl f_nwp)), (nww, .inl (k_nww, 4, .inl f_nww)), (nwg, .inl (k_nwg, 4, .inl f_nwg)), (pl, .inr (2, [.ref sh, .ref tr, .int 0, .int 1, .int p0, .int pl5, .int pl6, .int (-1), .int (-1), .int pl9, .int 0, .long pl11]))] := hD
  have hP9 := hP.sub (ws' := [(x, .inr (7, [.ref fd, .int 0, .int 0, .int (-1), .ref sh, .ref sp, .ref rd, .ref nw, .ref im, .int 0, .int (-1), .ref tr, .ref ah, .ref pl, .ref st, .ref ev, .ref wp])), (sh, .inr (4, [.int 0, .int 0, .int 0, .int 0, .int 3, .int 0, .int 0, .int 0, .ref sh8, .ref sh9, .ref sh10, .ref sh11, .ref sh12, .ref sh13, .ref sh14])), (tr, .inr (1, [.int (-2), .int 0, .int 0, .int 0, .int 0, .int 0, .int 3, .int 0, .ref trp, .ref trw, .ref trg])), (nw, .inr (1, [.int (-2), .int 0, .int 0, .int 0, .int 0, .int 0, .int 3, .int 0, .ref nwp, .ref nww, .ref nwg])), (trp, .inl (k_trp, 12, .inl F3)), (trw, .inl (k_trw, 4, .inl F4)), (trg, .inl (k_trg, 4, .inl F5)), (nwp, .inl (k_nwp, 12, .inl f_nwp)), (nww, .inl (k_nww, 4, .inl f_nww)), (nwg, .inl (k_nwg, 4, .inl f_nwg)), (pl, .inr (2, [.ref sh, .ref tr, .int 0, .int 1, .int p0, .int pl5, .int pl6, .int (-1), .int (-1), .int pl9, .int 0, .long pl11]))]) [0, 1, 2, 3, 4, 5, 6, 7, 8, 9, 10] rfl
  have hD9 := hD.sub (ws' := [(x, .inr (7, [.ref fd, .int 0, .int 0, .int (-1), .ref sh, .ref sp, .ref rd, .ref nw, .ref im, .int 0, .int (-1), .ref tr, .ref ah, .ref pl, .ref st, .ref ev, .ref wp])), (sh, .inr (4, [.int 0, .int 0, .int 0, .int 0, .int 3, .int 0, .int 0, .int 0, .ref sh8, .ref sh9, .ref sh10, .ref sh11, .ref sh12, .ref sh13, .ref sh14])), (tr, .inr (1, [.int (-2), .int 0, .int 0, .int 0, .int 0, .int 0, .int 3, .int 0, .ref trp, .ref trw, .ref trg])), (nw, .inr (1, [.int (-2), .int 0, .int 0, .int 0, .int 0, .int 0, .int 3, .int 0, .ref nwp, .ref nww, .ref nwg])), (trp, .inl (k_trp, 12, .inl F3)), (trw, .inl (k_trw, 4, .inl F4)), (trg, .inl (k_trg, 4, .inl F5)), (nwp, .inl (k_nwp, 12, .inl f_nwp)), (nww, .inl (k_nww, 4, .inl f_nww)), (nwg, .inl (k_nwg, 4, .inl f_nwg)), (pl, .inr (2, [.ref sh, .ref tr, .int 0, .int 1, .int p0, .int pl5, .int pl6, .int (-1), .int (-1), .int pl9, .int 0, .long pl11]))]) [0, 1, 2, 3, 4, 5, 6, 7, 8, 9, 10] (by decide) rfl
  have hK9 := hK.sub (tys' := [(k_trp, .int), (k_trw, .int), (k_trg, .int), (k_nwp, .int), (k_nww, .int), (k_nwg, .int)]) [0, 1, 2, 3, 4, 5] rfl
  exact W.vret hx hb hr (fun t ht hW => ⟨⟨(F3, F4, F5), rfl, trivial, by rw [ht]; exact hP9, va_K.moved hW.alike hK9, hD9⟩, hS.F ht⟩) hS.2.2 dX7_tryNow_34
