theorem dX0_init_0 : decode cX0_init 0 = .ok (.aload_n 0, 1) := by decide +kernel
theorem dX0_init_1 : decode cX0_init 1 = .ok (.iconst 4, 1) := by decide +kernel
theorem dX0_init_2 : decode cX0_init 2 = .ok (.iconst 0, 1) := by decide +kernel
theorem dX0_init_3 : decode cX0_init 3 = .ok (.iconst 1, 1) := by decide +kernel
theorem dX0_init_4 : decode cX0_init 4 = .ok (.iconst 2, 1) := by decide +kernel
theorem dX0_init_5 : decode cX0_init 5 = .ok (.invokespecial 3, 3) := by decide +kernel
theorem dX0_init_8 : decode cX0_init 8 = .ok (.return_, 1) := by decide +kernel
theorem dX0_less_0 : decode cX0_less 0 = .ok (.iload_n 1, 1) := by decide +kernel
theorem dX0_less_1 : decode cX0_less 1 = .ok (.iconst 2, 1) := by decide +kernel
theorem dX0_less_2 : decode cX0_less 2 = .ok (.iand, 1) := by decide +kernel
theorem dX0_less_3 : decode cX0_less 3 = .ok (.ifCond .eq 7, 3) := by decide +kernel
theorem dX0_less_6 : decode cX0_less 6 = .ok (.iconst 3, 1) := by decide +kernel
theorem dX0_less_7 : decode cX0_less 7 = .ok (.goto 4, 3) := by decide +kernel
theorem dX0_less_10 : decode cX0_less 10 = .ok (.iload_n 1, 1) := by decide +kernel
theorem dX0_less_11 : decode cX0_less 11 = .ok (.ireturn, 1) := by decide +kernel
theorem dX0_sum_0 : decode cX0_sum 0 = .ok (.iload_n 1, 1) := by decide +kernel
theorem dX0_sum_1 : decode cX0_sum 1 = .ok (.iload_n 2, 1) := by decide +kernel
theorem dX0_sum_2 : decode cX0_sum 2 = .ok (.iand, 1) := by decide +kernel
theorem dX0_sum_3 : decode cX0_sum 3 = .ok (.iconst 2, 1) := by decide +kernel
theorem dX0_sum_4 : decode cX0_sum 4 = .ok (.iand, 1) := by decide +kernel
theorem dX0_sum_5 : decode cX0_sum 5 = .ok (.ifCond .eq 5, 3) := by decide +kernel
theorem dX0_sum_8 : decode cX0_sum 8 = .ok (.iconst 3, 1) := by decide +kernel
theorem dX0_sum_9 : decode cX0_sum 9 = .ok (.ireturn, 1) := by decide +kernel
theorem dX0_sum_10 : decode cX0_sum 10 = .ok (.iload_n 1, 1) := by decide +kernel
theorem dX0_sum_11 : decode cX0_sum 11 = .ok (.iload_n 2, 1) := by decide +kernel
theorem dX0_sum_12 : decode cX0_sum 12 = .ok (.iand, 1) := by decide +kernel
theorem dX0_sum_13 : decode cX0_sum 13 = .ok (.iconst 1, 1) := by decide +kernel
theorem dX0_sum_14 : decode cX0_sum 14 = .ok (.iand, 1) := by decide +kernel
theorem dX0_sum_15 : decode cX0_sum 15 = .ok (.istore_n 3, 1) := by decide +kernel
theorem dX0_sum_16 : decode cX0_sum 16 = .ok (.iload_n 1, 1) := by decide +kernel
theorem dX0_sum_17 : decode cX0_sum 17 = .ok (.iload_n 2, 1) := by decide +kernel
theorem dX0_sum_18 : decode cX0_sum 18 = .ok (.ior, 1) := by decide +kernel
theorem dX0_sum_19 : decode cX0_sum 19 = .ok (.iconst 2, 1) := by decide +kernel
theorem dX0_sum_20 : decode cX0_sum 20 = .ok (.iand, 1) := by decide +kernel
theorem dX0_sum_21 : decode cX0_sum 21 = .ok (.istore 4, 2) := by decide +kernel
theorem dX0_sum_23 : decode cX0_sum 23 = .ok (.iload_n 3, 1) := by decide +kernel
theorem dX0_sum_24 : decode cX0_sum 24 = .ok (.iload 4, 2) := by decide +kernel
theorem dX0_sum_26 : decode cX0_sum 26 = .ok (.ior, 1) := by decide +kernel
theorem dX0_sum_27 : decode cX0_sum 27 = .ok (.ireturn, 1) := by decide +kernel
theorem dX0_chosen_0 : decode cX0_chosen 0 = .ok (.iconst 0, 1) := by decide +kernel
theorem dX0_chosen_1 : decode cX0_chosen 1 = .ok (.istore 4, 2) := by decide +kernel
theorem dX0_chosen_3 : decode cX0_chosen 3 = .ok (.iload_n 1, 1) := by decide +kernel
theorem dX0_chosen_4 : decode cX0_chosen 4 = .ok (.iconst 1, 1) := by decide +kernel
theorem dX0_chosen_5 : decode cX0_chosen 5 = .ok (.iand, 1) := by decide +kernel
theorem dX0_chosen_6 : decode cX0_chosen 6 = .ok (.ifCond .eq 9, 3) := by decide +kernel
theorem dX0_chosen_9 : decode cX0_chosen 9 = .ok (.iload 4, 2) := by decide +kernel
theorem dX0_chosen_11 : decode cX0_chosen 11 = .ok (.iload_n 3, 1) := by decide +kernel
theorem dX0_chosen_12 : decode cX0_chosen 12 = .ok (.ior, 1) := by decide +kernel
theorem dX0_chosen_13 : decode cX0_chosen 13 = .ok (.istore 4, 2) := by decide +kernel
theorem dX0_chosen_15 : decode cX0_chosen 15 = .ok (.iload_n 1, 1) := by decide +kernel
theorem dX0_chosen_16 : decode cX0_chosen 16 = .ok (.iconst 2, 1) := by decide +kernel
theorem dX0_chosen_17 : decode cX0_chosen 17 = .ok (.iand, 1) := by decide +kernel
theorem dX0_chosen_18 : decode cX0_chosen 18 = .ok (.ifCond .eq 9, 3) := by decide +kernel
theorem dX0_chosen_21 : decode cX0_chosen 21 = .ok (.iload 4, 2) := by decide +kernel
theorem dX0_chosen_23 : decode cX0_chosen 23 = .ok (.iload_n 2, 1) := by decide +kernel
theorem dX0_chosen_24 : decode cX0_chosen 24 = .ok (.ior, 1) := by decide +kernel
theorem dX0_chosen_25 : decode cX0_chosen 25 = .ok (.istore 4, 2) := by decide +kernel
theorem dX0_chosen_27 : decode cX0_chosen 27 = .ok (.iload 4, 2) := by decide +kernel
theorem dX0_chosen_29 : decode cX0_chosen 29 = .ok (.ireturn, 1) := by decide +kernel
theorem dX0_mayGrow_0 : decode cX0_mayGrow 0 = .ok (.iload_n 1, 1) := by decide +kernel
theorem dX0_mayGrow_1 : decode cX0_mayGrow 1 = .ok (.iconst 3, 1) := by decide +kernel
theorem dX0_mayGrow_2 : decode cX0_mayGrow 2 = .ok (.if_icmp .eq 7, 3) := by decide +kernel
theorem dX0_mayGrow_5 : decode cX0_mayGrow 5 = .ok (.iconst 1, 1) := by decide +kernel
theorem dX0_mayGrow_6 : decode cX0_mayGrow 6 = .ok (.goto 4, 3) := by decide +kernel
theorem dX0_mayGrow_9 : decode cX0_mayGrow 9 = .ok (.iconst 0, 1) := by decide +kernel
theorem dX0_mayGrow_10 : decode cX0_mayGrow 10 = .ok (.ireturn, 1) := by decide +kernel
theorem dX1_init_0 : decode cX1_init 0 = .ok (.aload_n 0, 1) := by decide +kernel
theorem dX1_init_1 : decode cX1_init 1 = .ok (.invokespecial 1, 3) := by decide +kernel
theorem dX1_init_4 : decode cX1_init 4 = .ok (.aload_n 0, 1) := by decide +kernel
theorem dX1_init_5 : decode cX1_init 5 = .ok (.bipush 8, 2) := by decide +kernel
theorem dX1_init_7 : decode cX1_init 7 = .ok (.newarray .int, 2) := by decide +kernel
theorem dX1_init_9 : decode cX1_init 9 = .ok (.putfield 9, 3) := by decide +kernel
theorem dX1_init_12 : decode cX1_init 12 = .ok (.aload_n 0, 1) := by decide +kernel
theorem dX1_init_13 : decode cX1_init 13 = .ok (.bipush 8, 2) := by decide +kernel
theorem dX1_init_15 : decode cX1_init 15 = .ok (.newarray .int, 2) := by decide +kernel
theorem dX1_init_17 : decode cX1_init 17 = .ok (.putfield 13, 3) := by decide +kernel
theorem dX1_init_20 : decode cX1_init 20 = .ok (.aload_n 0, 1) := by decide +kernel
theorem dX1_init_21 : decode cX1_init 21 = .ok (.bipush 8, 2) := by decide +kernel
theorem dX1_init_23 : decode cX1_init 23 = .ok (.newarray .int, 2) := by decide +kernel
theorem dX1_init_25 : decode cX1_init 25 = .ok (.putfield 16, 3) := by decide +kernel
theorem dX1_init_28 : decode cX1_init 28 = .ok (.return_, 1) := by decide +kernel
theorem dX1_add_0 : decode cX1_add 0 = .ok (.aload_n 0, 1) := by decide +kernel
theorem dX1_add_1 : decode cX1_add 1 = .ok (.getfield 19, 3) := by decide +kernel
theorem dX1_add_4 : decode cX1_add 4 = .ok (.bipush 8, 2) := by decide +kernel
theorem dX1_add_6 : decode cX1_add 6 = .ok (.if_icmp .lt 60, 3) := by decide +kernel
theorem dX1_add_9 : decode cX1_add 9 = .ok (.aload_n 0, 1) := by decide +kernel
theorem dX1_add_10 : decode cX1_add 10 = .ok (.bipush 7, 2) := by decide +kernel
theorem dX1_add_12 : decode cX1_add 12 = .ok (.putfield 19, 3) := by decide +kernel
theorem dX1_add_15 : decode cX1_add 15 = .ok (.aload_n 0, 1) := by decide +kernel
theorem dX1_add_16 : decode cX1_add 16 = .ok (.getfield 9, 3) := by decide +kernel
theorem dX1_add_19 : decode cX1_add 19 = .ok (.iconst 1, 1) := by decide +kernel
theorem dX1_add_20 : decode cX1_add 20 = .ok (.aload_n 0, 1) := by decide +kernel
theorem dX1_add_21 : decode cX1_add 21 = .ok (.getfield 9, 3) := by decide +kernel
theorem dX1_add_24 : decode cX1_add 24 = .ok (.iconst 0, 1) := by decide +kernel
theorem dX1_add_25 : decode cX1_add 25 = .ok (.aload_n 0, 1) := by decide +kernel
theorem dX1_add_26 : decode cX1_add 26 = .ok (.getfield 19, 3) := by decide +kernel
theorem dX1_add_29 : decode cX1_add 29 = .ok (.invokestatic 23, 3) := by decide +kernel
theorem dX1_add_32 : decode cX1_add 32 = .ok (.aload_n 0, 1) := by decide +kernel
theorem dX1_add_33 : decode cX1_add 33 = .ok (.getfield 13, 3) := by decide +kernel
theorem dX1_add_36 : decode cX1_add 36 = .ok (.iconst 1, 1) := by decide +kernel
theorem dX1_add_37 : decode cX1_add 37 = .ok (.aload_n 0, 1) := by decide +kernel
theorem dX1_add_38 : decode cX1_add 38 = .ok (.getfield 13, 3) := by decide +kernel
theorem dX1_add_41 : decode cX1_add 41 = .ok (.iconst 0, 1) := by decide +kernel
theorem dX1_add_42 : decode cX1_add 42 = .ok (.aload_n 0, 1) := by decide +kernel
theorem dX1_add_43 : decode cX1_add 43 = .ok (.getfield 19, 3) := by decide +kernel
theorem dX1_add_46 : decode cX1_add 46 = .ok (.invokestatic 23, 3) := by decide +kernel
theorem dX1_add_49 : decode cX1_add 49 = .ok (.aload_n 0, 1) := by decide +kernel
theorem dX1_add_50 : decode cX1_add 50 = .ok (.getfield 16, 3) := by decide +kernel
theorem dX1_add_53 : decode cX1_add 53 = .ok (.iconst 1, 1) := by decide +kernel
theorem dX1_add_54 : decode cX1_add 54 = .ok (.aload_n 0, 1) := by decide +kernel
theorem dX1_add_55 : decode cX1_add 55 = .ok (.getfield 16, 3) := by decide +kernel
theorem dX1_add_58 : decode cX1_add 58 = .ok (.iconst 0, 1) := by decide +kernel
theorem dX1_add_59 : decode cX1_add 59 = .ok (.aload_n 0, 1) := by decide +kernel
theorem dX1_add_60 : decode cX1_add 60 = .ok (.getfield 19, 3) := by decide +kernel
theorem dX1_add_63 : decode cX1_add 63 = .ok (.invokestatic 23, 3) := by decide +kernel
theorem dX1_add_66 : decode cX1_add 66 = .ok (.aload_n 0, 1) := by decide +kernel
theorem dX1_add_67 : decode cX1_add 67 = .ok (.getfield 9, 3) := by decide +kernel
theorem dX1_add_70 : decode cX1_add 70 = .ok (.aload_n 0, 1) := by decide +kernel
theorem dX1_add_71 : decode cX1_add 71 = .ok (.getfield 19, 3) := by decide +kernel
theorem dX1_add_74 : decode cX1_add 74 = .ok (.iload_n 1, 1) := by decide +kernel
theorem dX1_add_75 : decode cX1_add 75 = .ok (.iastore, 1) := by decide +kernel
theorem dX1_add_76 : decode cX1_add 76 = .ok (.aload_n 0, 1) := by decide +kernel
theorem dX1_add_77 : decode cX1_add 77 = .ok (.getfield 13, 3) := by decide +kernel
theorem dX1_add_80 : decode cX1_add 80 = .ok (.aload_n 0, 1) := by decide +kernel
theorem dX1_add_81 : decode cX1_add 81 = .ok (.getfield 19, 3) := by decide +kernel
theorem dX1_add_84 : decode cX1_add 84 = .ok (.iload_n 2, 1) := by decide +kernel
theorem dX1_add_85 : decode cX1_add 85 = .ok (.iastore, 1) := by decide +kernel
theorem dX1_add_86 : decode cX1_add 86 = .ok (.aload_n 0, 1) := by decide +kernel
theorem dX1_add_87 : decode cX1_add 87 = .ok (.getfield 16, 3) := by decide +kernel
theorem dX1_add_90 : decode cX1_add 90 = .ok (.aload_n 0, 1) := by decide +kernel
theorem dX1_add_91 : decode cX1_add 91 = .ok (.getfield 19, 3) := by decide +kernel
theorem dX1_add_94 : decode cX1_add 94 = .ok (.iload_n 3, 1) := by decide +kernel
theorem dX1_add_95 : decode cX1_add 95 = .ok (.iastore, 1) := by decide +kernel
theorem dX1_add_96 : decode cX1_add 96 = .ok (.aload_n 0, 1) := by decide +kernel
theorem dX1_add_97 : decode cX1_add 97 = .ok (.dup, 1) := by decide +kernel
theorem dX1_add_98 : decode cX1_add 98 = .ok (.getfield 19, 3) := by decide +kernel
theorem dX1_add_101 : decode cX1_add 101 = .ok (.iconst 1, 1) := by decide +kernel
theorem dX1_add_102 : decode cX1_add 102 = .ok (.iadd, 1) := by decide +kernel
theorem dX1_add_103 : decode cX1_add 103 = .ok (.putfield 19, 3) := by decide +kernel
theorem dX1_add_106 : decode cX1_add 106 = .ok (.return_, 1) := by decide +kernel
set_option maxRecDepth 20000 in
theorem ggX1_takeBack_X3_has : GoodIn wsX1_takeBack wsX3_has := goodIn_r _ [11, 12, 23, 24, 25, 26, 27] rfl (by decide +kernel)
set_option maxRecDepth 20000 in
theorem gX1_takeBack_X3_has : GoodIn wsX1_takeBack (wsV RX1 29 RX3 yX3_has wsX3_has) := goodIn_app (goodIn_of _ (by decide +kernel)) ggX1_takeBack_X3_has
set_option maxRecDepth 20000 in
theorem ggX1_takeBack_X3_hasPlace : GoodIn wsX1_takeBack wsX3_hasPlace := goodIn_r _ [16, 17, 18, 8, 9, 10, 11, 12, 23, 24, 25, 26, 27] rfl (by decide +kernel)
set_option maxRecDepth 20000 in
theorem gX1_takeBack_X3_hasPlace : GoodIn wsX1_takeBack (wsV RX1 38 RX3 yX3_hasPlace wsX3_hasPlace) := goodIn_app (goodIn_of _ (by decide +kernel)) ggX1_takeBack_X3_hasPlace
theorem dX1_takeBack_0 : decode cX1_takeBack 0 = .ok (.aload_n 0, 1) := by decide +kernel
theorem dX1_takeBack_1 : decode cX1_takeBack 1 = .ok (.getfield 19, 3) := by decide +kernel
theorem dX1_takeBack_4 : decode cX1_takeBack 4 = .ok (.ifCond .le 12, 3) := by decide +kernel
theorem dX1_takeBack_7 : decode cX1_takeBack 7 = .ok (.aload_n 0, 1) := by decide +kernel
theorem dX1_takeBack_8 : decode cX1_takeBack 8 = .ok (.getfield 19, 3) := by decide +kernel
theorem dX1_takeBack_11 : decode cX1_takeBack 11 = .ok (.bipush 8, 2) := by decide +kernel
theorem dX1_takeBack_13 : decode cX1_takeBack 13 = .ok (.if_icmp .le 4, 3) := by decide +kernel
theorem dX1_takeBack_16 : decode cX1_takeBack 16 = .ok (.return_, 1) := by decide +kernel
theorem dX1_takeBack_17 : decode cX1_takeBack 17 = .ok (.aload_n 0, 1) := by decide +kernel
theorem dX1_takeBack_18 : decode cX1_takeBack 18 = .ok (.dup, 1) := by decide +kernel
theorem dX1_takeBack_19 : decode cX1_takeBack 19 = .ok (.getfield 19, 3) := by decide +kernel
theorem dX1_takeBack_22 : decode cX1_takeBack 22 = .ok (.iconst 1, 1) := by decide +kernel
theorem dX1_takeBack_23 : decode cX1_takeBack 23 = .ok (.isub, 1) := by decide +kernel
theorem dX1_takeBack_24 : decode cX1_takeBack 24 = .ok (.putfield 19, 3) := by decide +kernel
theorem dX1_takeBack_27 : decode cX1_takeBack 27 = .ok (.aload_n 0, 1) := by decide +kernel
theorem dX1_takeBack_28 : decode cX1_takeBack 28 = .ok (.getfield 9, 3) := by decide +kernel
theorem dX1_takeBack_31 : decode cX1_takeBack 31 = .ok (.aload_n 0, 1) := by decide +kernel
theorem dX1_takeBack_32 : decode cX1_takeBack 32 = .ok (.getfield 19, 3) := by decide +kernel
theorem dX1_takeBack_35 : decode cX1_takeBack 35 = .ok (.iaload, 1) := by decide +kernel
theorem dX1_takeBack_36 : decode cX1_takeBack 36 = .ok (.istore_n 2, 1) := by decide +kernel
theorem dX1_takeBack_37 : decode cX1_takeBack 37 = .ok (.aload_n 0, 1) := by decide +kernel
theorem dX1_takeBack_38 : decode cX1_takeBack 38 = .ok (.getfield 13, 3) := by decide +kernel
theorem dX1_takeBack_41 : decode cX1_takeBack 41 = .ok (.aload_n 0, 1) := by decide +kernel
theorem dX1_takeBack_42 : decode cX1_takeBack 42 = .ok (.getfield 19, 3) := by decide +kernel
theorem dX1_takeBack_45 : decode cX1_takeBack 45 = .ok (.iaload, 1) := by decide +kernel
theorem dX1_takeBack_46 : decode cX1_takeBack 46 = .ok (.istore_n 3, 1) := by decide +kernel
theorem dX1_takeBack_47 : decode cX1_takeBack 47 = .ok (.iload_n 3, 1) := by decide +kernel
theorem dX1_takeBack_48 : decode cX1_takeBack 48 = .ok (.iconst (-1), 1) := by decide +kernel
theorem dX1_takeBack_49 : decode cX1_takeBack 49 = .ok (.if_icmp .ne 29, 3) := by decide +kernel
theorem dX1_takeBack_52 : decode cX1_takeBack 52 = .ok (.aload_n 1, 1) := by decide +kernel
theorem dX1_takeBack_53 : decode cX1_takeBack 53 = .ok (.iload_n 2, 1) := by decide +kernel
theorem dX1_takeBack_54 : decode cX1_takeBack 54 = .ok (.invokevirtual 29, 3) := by decide +kernel
theorem dX1_takeBack_57 : decode cX1_takeBack 57 = .ok (.ifCond .eq 21, 3) := by decide +kernel
theorem dX1_takeBack_60 : decode cX1_takeBack 60 = .ok (.aload_n 1, 1) := by decide +kernel
theorem dX1_takeBack_61 : decode cX1_takeBack 61 = .ok (.getfield 35, 3) := by decide +kernel
theorem dX1_takeBack_64 : decode cX1_takeBack 64 = .ok (.iload_n 2, 1) := by decide +kernel
theorem dX1_takeBack_65 : decode cX1_takeBack 65 = .ok (.aload_n 0, 1) := by decide +kernel
theorem dX1_takeBack_66 : decode cX1_takeBack 66 = .ok (.getfield 16, 3) := by decide +kernel
theorem dX1_takeBack_69 : decode cX1_takeBack 69 = .ok (.aload_n 0, 1) := by decide +kernel
theorem dX1_takeBack_70 : decode cX1_takeBack 70 = .ok (.getfield 19, 3) := by decide +kernel
theorem dX1_takeBack_73 : decode cX1_takeBack 73 = .ok (.iaload, 1) := by decide +kernel
theorem dX1_takeBack_74 : decode cX1_takeBack 74 = .ok (.iastore, 1) := by decide +kernel
theorem dX1_takeBack_75 : decode cX1_takeBack 75 = .ok (.goto 29, 3) := by decide +kernel
theorem dX1_takeBack_78 : decode cX1_takeBack 78 = .ok (.aload_n 1, 1) := by decide +kernel
theorem dX1_takeBack_79 : decode cX1_takeBack 79 = .ok (.iload_n 2, 1) := by decide +kernel
theorem dX1_takeBack_80 : decode cX1_takeBack 80 = .ok (.iload_n 3, 1) := by decide +kernel
theorem dX1_takeBack_81 : decode cX1_takeBack 81 = .ok (.invokevirtual 38, 3) := by decide +kernel
theorem dX1_takeBack_84 : decode cX1_takeBack 84 = .ok (.ifCond .eq 20, 3) := by decide +kernel
theorem dX1_takeBack_87 : decode cX1_takeBack 87 = .ok (.aload_n 1, 1) := by decide +kernel
theorem dX1_takeBack_88 : decode cX1_takeBack 88 = .ok (.getfield 42, 3) := by decide +kernel
theorem dX1_takeBack_91 : decode cX1_takeBack 91 = .ok (.iload_n 2, 1) := by decide +kernel
theorem dX1_takeBack_92 : decode cX1_takeBack 92 = .ok (.aaload, 1) := by decide +kernel
theorem dX1_takeBack_93 : decode cX1_takeBack 93 = .ok (.iload_n 3, 1) := by decide +kernel
theorem dX1_takeBack_94 : decode cX1_takeBack 94 = .ok (.aload_n 0, 1) := by decide +kernel
theorem dX1_takeBack_95 : decode cX1_takeBack 95 = .ok (.getfield 16, 3) := by decide +kernel
theorem dX1_takeBack_98 : decode cX1_takeBack 98 = .ok (.aload_n 0, 1) := by decide +kernel
theorem dX1_takeBack_99 : decode cX1_takeBack 99 = .ok (.getfield 19, 3) := by decide +kernel
theorem dX1_takeBack_102 : decode cX1_takeBack 102 = .ok (.iaload, 1) := by decide +kernel
theorem dX1_takeBack_103 : decode cX1_takeBack 103 = .ok (.iastore, 1) := by decide +kernel
theorem dX1_takeBack_104 : decode cX1_takeBack 104 = .ok (.return_, 1) := by decide +kernel
theorem dX1_clear_0 : decode cX1_clear 0 = .ok (.aload_n 0, 1) := by decide +kernel
theorem dX1_clear_1 : decode cX1_clear 1 = .ok (.iconst 0, 1) := by decide +kernel
theorem dX1_clear_2 : decode cX1_clear 2 = .ok (.putfield 19, 3) := by decide +kernel
theorem dX1_clear_5 : decode cX1_clear 5 = .ok (.return_, 1) := by decide +kernel
set_option maxRecDepth 20000 in
theorem ggX2_numberOf_J0_indexOf_0f7a4 : GoodIn wsX2_numberOf wsJ0_indexOf_0f7a4 := goodIn_r _ [5, 6, 7, 8, 4, 9, 10, 11, 12, 13, 14, 15, 16, 17, 18, 19, 20, 21, 22, 23, 24, 25, 26, 27, 28, 29, 30, 31, 32, 33, 34, 35, 36, 37, 38, 39, 40, 41, 42, 43, 44, 45, 46, 47, 48, 49, 50, 51, 52, 53, 54, 55, 56, 57, 58, 59, 60, 61, 62, 63, 64, 65, 66, 67, 68, 69, 70, 71, 72, 73, 74, 75, 76, 77, 78, 79, 80, 81, 82, 83, 84, 85, 86, 87, 88, 89] rfl (by decide +kernel)
set_option maxRecDepth 20000 in
theorem gX2_numberOf_J0_indexOf_0f7a4 : GoodIn wsX2_numberOf (wsV RX2 13 RJ0 yJ0_indexOf_0f7a4 wsJ0_indexOf_0f7a4) := goodIn_app (goodIn_of _ (by decide +kernel)) ggX2_numberOf_J0_indexOf_0f7a4
theorem dX2_numberOf_0 : decode cX2_numberOf 0 = .ok (.iload_n 0, 1) := by decide +kernel
theorem dX2_numberOf_1 : decode cX2_numberOf 1 = .ok (.bipush 32, 2) := by decide +kernel
theorem dX2_numberOf_3 : decode cX2_numberOf 3 = .ok (.if_icmp .lt 9, 3) := by decide +kernel
theorem dX2_numberOf_6 : decode cX2_numberOf 6 = .ok (.iload_n 0, 1) := by decide +kernel
theorem dX2_numberOf_7 : decode cX2_numberOf 7 = .ok (.bipush 126, 2) := by decide +kernel
theorem dX2_numberOf_9 : decode cX2_numberOf 9 = .ok (.if_icmp .le 7, 3) := by decide +kernel
theorem dX2_numberOf_12 : decode cX2_numberOf 12 = .ok (.iconst (-1), 1) := by decide +kernel
theorem dX2_numberOf_13 : decode cX2_numberOf 13 = .ok (.goto 10, 3) := by decide +kernel
theorem dX2_numberOf_16 : decode cX2_numberOf 16 = .ok (.ldc 11, 2) := by decide +kernel
theorem dX2_numberOf_18 : decode cX2_numberOf 18 = .ok (.iload_n 0, 1) := by decide +kernel
theorem dX2_numberOf_19 : decode cX2_numberOf 19 = .ok (.i2c, 1) := by decide +kernel
theorem dX2_numberOf_20 : decode cX2_numberOf 20 = .ok (.invokevirtual 13, 3) := by decide +kernel
theorem dX2_numberOf_23 : decode cX2_numberOf 23 = .ok (.ireturn, 1) := by decide +kernel
set_option maxRecDepth 20000 in
theorem ggX2_signOf_J0_charAt_5068e : GoodIn wsX2_signOf wsJ0_charAt_5068e := goodIn_r _ [5, 6, 7, 8, 9, 4, 10, 11, 12, 13, 14, 15, 16, 17, 18, 19, 20, 21, 22, 23, 24, 25, 26, 27, 28, 29, 30, 31, 32, 33, 34, 35, 36, 37, 38, 39, 40, 41] rfl (by decide +kernel)
set_option maxRecDepth 20000 in
theorem gX2_signOf_J0_charAt_5068e : GoodIn wsX2_signOf (wsV RX2 19 RJ0 yJ0_charAt_5068e wsJ0_charAt_5068e) := goodIn_app (goodIn_of _ (by decide +kernel)) ggX2_signOf_J0_charAt_5068e
theorem dX2_signOf_0 : decode cX2_signOf 0 = .ok (.iload_n 0, 1) := by decide +kernel
theorem dX2_signOf_1 : decode cX2_signOf 1 = .ok (.ifCond .lt 9, 3) := by decide +kernel
theorem dX2_signOf_4 : decode cX2_signOf 4 = .ok (.iload_n 0, 1) := by decide +kernel
theorem dX2_signOf_5 : decode cX2_signOf 5 = .ok (.bipush 14, 2) := by decide +kernel
theorem dX2_signOf_7 : decode cX2_signOf 7 = .ok (.if_icmp .lt 7, 3) := by decide +kernel
theorem dX2_signOf_10 : decode cX2_signOf 10 = .ok (.iconst (-1), 1) := by decide +kernel
theorem dX2_signOf_11 : decode cX2_signOf 11 = .ok (.goto 9, 3) := by decide +kernel
theorem dX2_signOf_14 : decode cX2_signOf 14 = .ok (.ldc 11, 2) := by decide +kernel
theorem dX2_signOf_16 : decode cX2_signOf 16 = .ok (.iload_n 0, 1) := by decide +kernel
theorem dX2_signOf_17 : decode cX2_signOf 17 = .ok (.invokevirtual 19, 3) := by decide +kernel
theorem dX2_signOf_20 : decode cX2_signOf 20 = .ok (.ireturn, 1) := by decide +kernel
theorem dX3_init_0 : decode cX3_init 0 = .ok (.aload_n 0, 1) := by decide +kernel
theorem dX3_init_1 : decode cX3_init 1 = .ok (.invokespecial 1, 3) := by decide +kernel
theorem dX3_init_4 : decode cX3_init 4 = .ok (.aload_n 0, 1) := by decide +kernel
theorem dX3_init_5 : decode cX3_init 5 = .ok (.iconst 4, 1) := by decide +kernel
theorem dX3_init_6 : decode cX3_init 6 = .ok (.newarray .int, 2) := by decide +kernel
theorem dX3_init_8 : decode cX3_init 8 = .ok (.putfield 9, 3) := by decide +kernel
theorem dX3_init_11 : decode cX3_init 11 = .ok (.aload_n 0, 1) := by decide +kernel
theorem dX3_init_12 : decode cX3_init 12 = .ok (.iconst 4, 1) := by decide +kernel
theorem dX3_init_13 : decode cX3_init 13 = .ok (.newarray .int, 2) := by decide +kernel
theorem dX3_init_15 : decode cX3_init 15 = .ok (.putfield 13, 3) := by decide +kernel
theorem dX3_init_18 : decode cX3_init 18 = .ok (.aload_n 0, 1) := by decide +kernel
theorem dX3_init_19 : decode cX3_init 19 = .ok (.iconst 4, 1) := by decide +kernel
theorem dX3_init_20 : decode cX3_init 20 = .ok (.newarray .int, 2) := by decide +kernel
theorem dX3_init_22 : decode cX3_init 22 = .ok (.putfield 16, 3) := by decide +kernel
theorem dX3_init_25 : decode cX3_init 25 = .ok (.aload_n 0, 1) := by decide +kernel
theorem dX3_init_26 : decode cX3_init 26 = .ok (.iconst 4, 1) := by decide +kernel
theorem dX3_init_27 : decode cX3_init 27 = .ok (.bipush 24, 2) := by decide +kernel
theorem dX3_init_29 : decode cX3_init 29 = .ok (.multianewarray 19 2, 4) := by decide +kernel
theorem dX3_init_33 : decode cX3_init 33 = .ok (.putfield 21, 3) := by decide +kernel
theorem dX3_init_36 : decode cX3_init 36 = .ok (.return_, 1) := by decide +kernel
theorem dX3_takeFrom_0 : decode cX3_takeFrom 0 = .ok (.aload_n 0, 1) := by decide +kernel
theorem dX3_takeFrom_1 : decode cX3_takeFrom 1 = .ok (.aload_n 1, 1) := by decide +kernel
theorem dX3_takeFrom_2 : decode cX3_takeFrom 2 = .ok (.getfield 24, 3) := by decide +kernel
theorem dX3_takeFrom_5 : decode cX3_takeFrom 5 = .ok (.putfield 24, 3) := by decide +kernel
theorem dX3_takeFrom_8 : decode cX3_takeFrom 8 = .ok (.iconst 0, 1) := by decide +kernel
theorem dX3_takeFrom_9 : decode cX3_takeFrom 9 = .ok (.istore_n 2, 1) := by decide +kernel
theorem dX3_takeFrom_10 : decode cX3_takeFrom 10 = .ok (.iload_n 2, 1) := by decide +kernel
theorem dX3_takeFrom_11 : decode cX3_takeFrom 11 = .ok (.iconst 4, 1) := by decide +kernel
theorem dX3_takeFrom_12 : decode cX3_takeFrom 12 = .ok (.if_icmp .ge 64, 3) := by decide +kernel
theorem dX3_takeFrom_15 : decode cX3_takeFrom 15 = .ok (.aload_n 0, 1) := by decide +kernel
theorem dX3_takeFrom_16 : decode cX3_takeFrom 16 = .ok (.getfield 9, 3) := by decide +kernel
theorem dX3_takeFrom_19 : decode cX3_takeFrom 19 = .ok (.iload_n 2, 1) := by decide +kernel
theorem dX3_takeFrom_20 : decode cX3_takeFrom 20 = .ok (.aload_n 1, 1) := by decide +kernel
theorem dX3_takeFrom_21 : decode cX3_takeFrom 21 = .ok (.getfield 9, 3) := by decide +kernel
theorem dX3_takeFrom_24 : decode cX3_takeFrom 24 = .ok (.iload_n 2, 1) := by decide +kernel
theorem dX3_takeFrom_25 : decode cX3_takeFrom 25 = .ok (.iaload, 1) := by decide +kernel
theorem dX3_takeFrom_26 : decode cX3_takeFrom 26 = .ok (.iastore, 1) := by decide +kernel
theorem dX3_takeFrom_27 : decode cX3_takeFrom 27 = .ok (.aload_n 0, 1) := by decide +kernel
theorem dX3_takeFrom_28 : decode cX3_takeFrom 28 = .ok (.getfield 13, 3) := by decide +kernel
theorem dX3_takeFrom_31 : decode cX3_takeFrom 31 = .ok (.iload_n 2, 1) := by decide +kernel
theorem dX3_takeFrom_32 : decode cX3_takeFrom 32 = .ok (.aload_n 1, 1) := by decide +kernel
theorem dX3_takeFrom_33 : decode cX3_takeFrom 33 = .ok (.getfield 13, 3) := by decide +kernel
theorem dX3_takeFrom_36 : decode cX3_takeFrom 36 = .ok (.iload_n 2, 1) := by decide +kernel
theorem dX3_takeFrom_37 : decode cX3_takeFrom 37 = .ok (.iaload, 1) := by decide +kernel
theorem dX3_takeFrom_38 : decode cX3_takeFrom 38 = .ok (.iastore, 1) := by decide +kernel
theorem dX3_takeFrom_39 : decode cX3_takeFrom 39 = .ok (.aload_n 0, 1) := by decide +kernel
theorem dX3_takeFrom_40 : decode cX3_takeFrom 40 = .ok (.getfield 16, 3) := by decide +kernel
theorem dX3_takeFrom_43 : decode cX3_takeFrom 43 = .ok (.iload_n 2, 1) := by decide +kernel
theorem dX3_takeFrom_44 : decode cX3_takeFrom 44 = .ok (.aload_n 1, 1) := by decide +kernel
theorem dX3_takeFrom_45 : decode cX3_takeFrom 45 = .ok (.getfield 16, 3) := by decide +kernel
theorem dX3_takeFrom_48 : decode cX3_takeFrom 48 = .ok (.iload_n 2, 1) := by decide +kernel
theorem dX3_takeFrom_49 : decode cX3_takeFrom 49 = .ok (.iaload, 1) := by decide +kernel
theorem dX3_takeFrom_50 : decode cX3_takeFrom 50 = .ok (.iastore, 1) := by decide +kernel
theorem dX3_takeFrom_51 : decode cX3_takeFrom 51 = .ok (.aload_n 1, 1) := by decide +kernel
theorem dX3_takeFrom_52 : decode cX3_takeFrom 52 = .ok (.getfield 21, 3) := by decide +kernel
theorem dX3_takeFrom_55 : decode cX3_takeFrom 55 = .ok (.iload_n 2, 1) := by decide +kernel
theorem dX3_takeFrom_56 : decode cX3_takeFrom 56 = .ok (.aaload, 1) := by decide +kernel
theorem dX3_takeFrom_57 : decode cX3_takeFrom 57 = .ok (.iconst 0, 1) := by decide +kernel
theorem dX3_takeFrom_58 : decode cX3_takeFrom 58 = .ok (.aload_n 0, 1) := by decide +kernel
theorem dX3_takeFrom_59 : decode cX3_takeFrom 59 = .ok (.getfield 21, 3) := by decide +kernel
theorem dX3_takeFrom_62 : decode cX3_takeFrom 62 = .ok (.iload_n 2, 1) := by decide +kernel
theorem dX3_takeFrom_63 : decode cX3_takeFrom 63 = .ok (.aaload, 1) := by decide +kernel
theorem dX3_takeFrom_64 : decode cX3_takeFrom 64 = .ok (.iconst 0, 1) := by decide +kernel
theorem dX3_takeFrom_65 : decode cX3_takeFrom 65 = .ok (.bipush 24, 2) := by decide +kernel
theorem dX3_takeFrom_67 : decode cX3_takeFrom 67 = .ok (.invokestatic 28, 3) := by decide +kernel
theorem dX3_takeFrom_70 : decode cX3_takeFrom 70 = .ok (.iinc 2 1, 3) := by decide +kernel
theorem dX3_takeFrom_73 : decode cX3_takeFrom 73 = .ok (.goto (-63), 3) := by decide +kernel
theorem dX3_takeFrom_76 : decode cX3_takeFrom 76 = .ok (.return_, 1) := by decide +kernel
theorem dX3_has_0 : decode cX3_has 0 = .ok (.iload_n 1, 1) := by decide +kernel
theorem dX3_has_1 : decode cX3_has 1 = .ok (.ifCond .lt 15, 3) := by decide +kernel
theorem dX3_has_4 : decode cX3_has 4 = .ok (.iload_n 1, 1) := by decide +kernel
theorem dX3_has_5 : decode cX3_has 5 = .ok (.aload_n 0, 1) := by decide +kernel
theorem dX3_has_6 : decode cX3_has 6 = .ok (.getfield 24, 3) := by decide +kernel
theorem dX3_has_9 : decode cX3_has 9 = .ok (.if_icmp .ge 7, 3) := by decide +kernel
theorem dX3_has_12 : decode cX3_has 12 = .ok (.iconst 1, 1) := by decide +kernel
theorem dX3_has_13 : decode cX3_has 13 = .ok (.goto 4, 3) := by decide +kernel
theorem dX3_has_16 : decode cX3_has 16 = .ok (.iconst 0, 1) := by decide +kernel
theorem dX3_has_17 : decode cX3_has 17 = .ok (.ireturn, 1) := by decide +kernel
set_option maxRecDepth 20000 in
theorem ggX3_hasPlace_X3_has : GoodIn wsX3_hasPlace wsX3_has := goodIn_r _ [6, 7, 8, 9, 10, 11, 12] rfl (by decide +kernel)
set_option maxRecDepth 20000 in
theorem gX3_hasPlace_X3_has : GoodIn wsX3_hasPlace (wsV RX3 34 RX3 yX3_has wsX3_has) := goodIn_app (goodIn_of _ (by decide +kernel)) ggX3_hasPlace_X3_has
theorem dX3_hasPlace_0 : decode cX3_hasPlace 0 = .ok (.aload_n 0, 1) := by decide +kernel
theorem dX3_hasPlace_1 : decode cX3_hasPlace 1 = .ok (.iload_n 1, 1) := by decide +kernel
theorem dX3_hasPlace_2 : decode cX3_hasPlace 2 = .ok (.invokevirtual 34, 3) := by decide +kernel
theorem dX3_hasPlace_5 : decode cX3_hasPlace 5 = .ok (.ifCond .eq 21, 3) := by decide +kernel
theorem dX3_hasPlace_8 : decode cX3_hasPlace 8 = .ok (.iload_n 2, 1) := by decide +kernel
theorem dX3_hasPlace_9 : decode cX3_hasPlace 9 = .ok (.ifCond .lt 17, 3) := by decide +kernel
theorem dX3_hasPlace_12 : decode cX3_hasPlace 12 = .ok (.iload_n 2, 1) := by decide +kernel
theorem dX3_hasPlace_13 : decode cX3_hasPlace 13 = .ok (.aload_n 0, 1) := by decide +kernel
theorem dX3_hasPlace_14 : decode cX3_hasPlace 14 = .ok (.getfield 16, 3) := by decide +kernel
theorem dX3_hasPlace_17 : decode cX3_hasPlace 17 = .ok (.iload_n 1, 1) := by decide +kernel
theorem dX3_hasPlace_18 : decode cX3_hasPlace 18 = .ok (.iaload, 1) := by decide +kernel
theorem dX3_hasPlace_19 : decode cX3_hasPlace 19 = .ok (.if_icmp .ge 7, 3) := by decide +kernel
theorem dX3_hasPlace_22 : decode cX3_hasPlace 22 = .ok (.iconst 1, 1) := by decide +kernel
theorem dX3_hasPlace_23 : decode cX3_hasPlace 23 = .ok (.goto 4, 3) := by decide +kernel
theorem dX3_hasPlace_26 : decode cX3_hasPlace 26 = .ok (.iconst 0, 1) := by decide +kernel
theorem dX3_hasPlace_27 : decode cX3_hasPlace 27 = .ok (.ireturn, 1) := by decide +kernel
set_option maxRecDepth 20000 in
theorem ggX3_partsOf_X3_has : GoodIn wsX3_partsOf wsX3_has := goodIn_r _ [6, 7, 8, 9, 10, 11, 12] rfl (by decide +kernel)
set_option maxRecDepth 20000 in
theorem gX3_partsOf_X3_has : GoodIn wsX3_partsOf (wsV RX3 34 RX3 yX3_has wsX3_has) := goodIn_app (goodIn_of _ (by decide +kernel)) ggX3_partsOf_X3_has
theorem dX3_partsOf_0 : decode cX3_partsOf 0 = .ok (.aload_n 0, 1) := by decide +kernel
theorem dX3_partsOf_1 : decode cX3_partsOf 1 = .ok (.iload_n 1, 1) := by decide +kernel
theorem dX3_partsOf_2 : decode cX3_partsOf 2 = .ok (.bipush 10, 2) := by decide +kernel
theorem dX3_partsOf_4 : decode cX3_partsOf 4 = .ok (.isub, 1) := by decide +kernel
theorem dX3_partsOf_5 : decode cX3_partsOf 5 = .ok (.invokevirtual 34, 3) := by decide +kernel
theorem dX3_partsOf_8 : decode cX3_partsOf 8 = .ok (.ifCond .eq 13, 3) := by decide +kernel
theorem dX3_partsOf_11 : decode cX3_partsOf 11 = .ok (.aload_n 0, 1) := by decide +kernel
theorem dX3_partsOf_12 : decode cX3_partsOf 12 = .ok (.getfield 9, 3) := by decide +kernel
theorem dX3_partsOf_15 : decode cX3_partsOf 15 = .ok (.iload_n 1, 1) := by decide +kernel
theorem dX3_partsOf_16 : decode cX3_partsOf 16 = .ok (.bipush 10, 2) := by decide +kernel
theorem dX3_partsOf_18 : decode cX3_partsOf 18 = .ok (.isub, 1) := by decide +kernel
theorem dX3_partsOf_19 : decode cX3_partsOf 19 = .ok (.iaload, 1) := by decide +kernel
theorem dX3_partsOf_20 : decode cX3_partsOf 20 = .ok (.ireturn, 1) := by decide +kernel
theorem dX3_partsOf_21 : decode cX3_partsOf 21 = .ok (.iload_n 1, 1) := by decide +kernel
theorem dX3_partsOf_22 : decode cX3_partsOf 22 = .ok (.tableswitch 36 6 9 #[30, 32, 32, 34], 30) := by decide +kernel
theorem dX3_partsOf_52 : decode cX3_partsOf 52 = .ok (.iconst 1, 1) := by decide +kernel
theorem dX3_partsOf_53 : decode cX3_partsOf 53 = .ok (.ireturn, 1) := by decide +kernel
theorem dX3_partsOf_54 : decode cX3_partsOf 54 = .ok (.iconst 2, 1) := by decide +kernel
theorem dX3_partsOf_55 : decode cX3_partsOf 55 = .ok (.ireturn, 1) := by decide +kernel
theorem dX3_partsOf_56 : decode cX3_partsOf 56 = .ok (.iconst 3, 1) := by decide +kernel
theorem dX3_partsOf_57 : decode cX3_partsOf 57 = .ok (.ireturn, 1) := by decide +kernel
theorem dX3_partsOf_58 : decode cX3_partsOf 58 = .ok (.iconst 0, 1) := by decide +kernel
theorem dX3_partsOf_59 : decode cX3_partsOf 59 = .ok (.ireturn, 1) := by decide +kernel
set_option maxRecDepth 20000 in
theorem ggX3_mayStand_X3_has : GoodIn wsX3_mayStand wsX3_has := goodIn_r _ [6, 7, 8, 9, 10, 11, 12] rfl (by decide +kernel)
set_option maxRecDepth 20000 in
theorem gX3_mayStand_X3_has : GoodIn wsX3_mayStand (wsV RX3 34 RX3 yX3_has wsX3_has) := goodIn_app (goodIn_of _ (by decide +kernel)) ggX3_mayStand_X3_has
theorem dX3_mayStand_0 : decode cX3_mayStand 0 = .ok (.aload_n 0, 1) := by decide +kernel
theorem dX3_mayStand_1 : decode cX3_mayStand 1 = .ok (.iload_n 1, 1) := by decide +kernel
theorem dX3_mayStand_2 : decode cX3_mayStand 2 = .ok (.invokevirtual 34, 3) := by decide +kernel
theorem dX3_mayStand_5 : decode cX3_mayStand 5 = .ok (.ifCond .eq 7, 3) := by decide +kernel
theorem dX3_mayStand_8 : decode cX3_mayStand 8 = .ok (.iload_n 2, 1) := by decide +kernel
theorem dX3_mayStand_9 : decode cX3_mayStand 9 = .ok (.ifCond .ge 5, 3) := by decide +kernel
theorem dX3_mayStand_12 : decode cX3_mayStand 12 = .ok (.iconst 0, 1) := by decide +kernel
theorem dX3_mayStand_13 : decode cX3_mayStand 13 = .ok (.ireturn, 1) := by decide +kernel
theorem dX3_mayStand_14 : decode cX3_mayStand 14 = .ok (.iload_n 2, 1) := by decide +kernel
theorem dX3_mayStand_15 : decode cX3_mayStand 15 = .ok (.bipush 10, 2) := by decide +kernel
theorem dX3_mayStand_17 : decode cX3_mayStand 17 = .ok (.if_icmp .lt 12, 3) := by decide +kernel
theorem dX3_mayStand_20 : decode cX3_mayStand 20 = .ok (.aload_n 0, 1) := by decide +kernel
theorem dX3_mayStand_21 : decode cX3_mayStand 21 = .ok (.iload_n 2, 1) := by decide +kernel
theorem dX3_mayStand_22 : decode cX3_mayStand 22 = .ok (.bipush 10, 2) := by decide +kernel
theorem dX3_mayStand_24 : decode cX3_mayStand 24 = .ok (.isub, 1) := by decide +kernel
theorem dX3_mayStand_25 : decode cX3_mayStand 25 = .ok (.invokevirtual 34, 3) := by decide +kernel
theorem dX3_mayStand_28 : decode cX3_mayStand 28 = .ok (.ireturn, 1) := by decide +kernel
theorem dX3_mayStand_29 : decode cX3_mayStand 29 = .ok (.iload_n 2, 1) := by decide +kernel
theorem dX3_mayStand_30 : decode cX3_mayStand 30 = .ok (.iconst 3, 1) := by decide +kernel
theorem dX3_mayStand_31 : decode cX3_mayStand 31 = .ok (.if_icmp .lt 21, 3) := by decide +kernel
theorem dX3_mayStand_34 : decode cX3_mayStand 34 = .ok (.iload_n 2, 1) := by decide +kernel
theorem dX3_mayStand_35 : decode cX3_mayStand 35 = .ok (.bipush 6, 2) := by decide +kernel
theorem dX3_mayStand_37 : decode cX3_mayStand 37 = .ok (.if_icmp .ge 15, 3) := by decide +kernel
theorem dX3_mayStand_40 : decode cX3_mayStand 40 = .ok (.iload_n 2, 1) := by decide +kernel
theorem dX3_mayStand_41 : decode cX3_mayStand 41 = .ok (.iconst 3, 1) := by decide +kernel
theorem dX3_mayStand_42 : decode cX3_mayStand 42 = .ok (.isub, 1) := by decide +kernel
theorem dX3_mayStand_43 : decode cX3_mayStand 43 = .ok (.aload_n 0, 1) := by decide +kernel
theorem dX3_mayStand_44 : decode cX3_mayStand 44 = .ok (.getfield 9, 3) := by decide +kernel
theorem dX3_mayStand_47 : decode cX3_mayStand 47 = .ok (.iload_n 1, 1) := by decide +kernel
theorem dX3_mayStand_48 : decode cX3_mayStand 48 = .ok (.iaload, 1) := by decide +kernel
theorem dX3_mayStand_49 : decode cX3_mayStand 49 = .ok (.if_icmp .ge 7, 3) := by decide +kernel
theorem dX3_mayStand_52 : decode cX3_mayStand 52 = .ok (.iconst 1, 1) := by decide +kernel
theorem dX3_mayStand_53 : decode cX3_mayStand 53 = .ok (.goto 4, 3) := by decide +kernel
theorem dX3_mayStand_56 : decode cX3_mayStand 56 = .ok (.iconst 0, 1) := by decide +kernel
theorem dX3_mayStand_57 : decode cX3_mayStand 57 = .ok (.ireturn, 1) := by decide +kernel
set_option maxRecDepth 20000 in
theorem ggX3_fits_X3_hasPlace : GoodIn wsX3_fits wsX3_hasPlace := goodIn_r _ [6, 7, 8, 9, 10, 5, 11, 12, 22, 23, 24, 25, 26] rfl (by decide +kernel)
set_option maxRecDepth 20000 in
theorem gX3_fits_X3_hasPlace : GoodIn wsX3_fits (wsV RX3 40 RX3 yX3_hasPlace wsX3_hasPlace) := goodIn_app (goodIn_of _ (by decide +kernel)) ggX3_fits_X3_hasPlace
set_option maxRecDepth 20000 in
theorem ggX3_fits_X3_mayStand : GoodIn wsX3_fits wsX3_mayStand := goodIn_r _ [16, 17, 8, 9, 10, 5, 11, 12, 22, 23, 24, 25, 26] rfl (by decide +kernel)
set_option maxRecDepth 20000 in
theorem gX3_fits_X3_mayStand : GoodIn wsX3_fits (wsV RX3 44 RX3 yX3_mayStand wsX3_mayStand) := goodIn_app (goodIn_of _ (by decide +kernel)) ggX3_fits_X3_mayStand
set_option maxRecDepth 20000 in
theorem ggX3_fits_X3_partsOf : GoodIn wsX3_fits wsX3_partsOf := goodIn_r _ [21, 17, 8, 9, 10, 5, 11, 12, 22, 23, 24, 25, 26] rfl (by decide +kernel)
set_option maxRecDepth 20000 in
theorem gX3_fits_X3_partsOf : GoodIn wsX3_fits (wsV RX3 47 RX3 yX3_partsOf wsX3_partsOf) := goodIn_app (goodIn_of _ (by decide +kernel)) ggX3_fits_X3_partsOf
theorem dX3_fits_0 : decode cX3_fits 0 = .ok (.aload_n 0, 1) := by decide +kernel
theorem dX3_fits_1 : decode cX3_fits 1 = .ok (.iload_n 1, 1) := by decide +kernel
theorem dX3_fits_2 : decode cX3_fits 2 = .ok (.iload_n 2, 1) := by decide +kernel
theorem dX3_fits_3 : decode cX3_fits 3 = .ok (.invokevirtual 40, 3) := by decide +kernel
theorem dX3_fits_6 : decode cX3_fits 6 = .ok (.ifCond .eq 36, 3) := by decide +kernel
theorem dX3_fits_9 : decode cX3_fits 9 = .ok (.aload_n 0, 1) := by decide +kernel
theorem dX3_fits_10 : decode cX3_fits 10 = .ok (.iload_n 1, 1) := by decide +kernel
theorem dX3_fits_11 : decode cX3_fits 11 = .ok (.iload_n 3, 1) := by decide +kernel
theorem dX3_fits_12 : decode cX3_fits 12 = .ok (.invokevirtual 44, 3) := by decide +kernel
theorem dX3_fits_15 : decode cX3_fits 15 = .ok (.ifCond .eq 27, 3) := by decide +kernel
theorem dX3_fits_18 : decode cX3_fits 18 = .ok (.aload_n 0, 1) := by decide +kernel
theorem dX3_fits_19 : decode cX3_fits 19 = .ok (.iload_n 3, 1) := by decide +kernel
theorem dX3_fits_20 : decode cX3_fits 20 = .ok (.invokevirtual 47, 3) := by decide +kernel
theorem dX3_fits_23 : decode cX3_fits 23 = .ok (.aload_n 0, 1) := by decide +kernel
theorem dX3_fits_24 : decode cX3_fits 24 = .ok (.aload_n 0, 1) := by decide +kernel
theorem dX3_fits_25 : decode cX3_fits 25 = .ok (.getfield 21, 3) := by decide +kernel
theorem dX3_fits_28 : decode cX3_fits 28 = .ok (.iload_n 1, 1) := by decide +kernel
theorem dX3_fits_29 : decode cX3_fits 29 = .ok (.aaload, 1) := by decide +kernel
theorem dX3_fits_30 : decode cX3_fits 30 = .ok (.iload_n 2, 1) := by decide +kernel
theorem dX3_fits_31 : decode cX3_fits 31 = .ok (.iaload, 1) := by decide +kernel
theorem dX3_fits_32 : decode cX3_fits 32 = .ok (.invokevirtual 47, 3) := by decide +kernel
theorem dX3_fits_35 : decode cX3_fits 35 = .ok (.if_icmp .ne 7, 3) := by decide +kernel
theorem dX3_fits_38 : decode cX3_fits 38 = .ok (.iconst 1, 1) := by decide +kernel
theorem dX3_fits_39 : decode cX3_fits 39 = .ok (.goto 4, 3) := by decide +kernel
theorem dX3_fits_42 : decode cX3_fits 42 = .ok (.iconst 0, 1) := by decide +kernel
theorem dX3_fits_43 : decode cX3_fits 43 = .ok (.ireturn, 1) := by decide +kernel
theorem dX3_allOf_0 : decode cX3_allOf 0 = .ok (.iconst 0, 1) := by decide +kernel
theorem dX3_allOf_1 : decode cX3_allOf 1 = .ok (.istore_n 2, 1) := by decide +kernel
theorem dX3_allOf_2 : decode cX3_allOf 2 = .ok (.iconst 0, 1) := by decide +kernel
theorem dX3_allOf_3 : decode cX3_allOf 3 = .ok (.istore_n 3, 1) := by decide +kernel
theorem dX3_allOf_4 : decode cX3_allOf 4 = .ok (.iload_n 3, 1) := by decide +kernel
theorem dX3_allOf_5 : decode cX3_allOf 5 = .ok (.aload_n 0, 1) := by decide +kernel
theorem dX3_allOf_6 : decode cX3_allOf 6 = .ok (.getfield 24, 3) := by decide +kernel
theorem dX3_allOf_9 : decode cX3_allOf 9 = .ok (.if_icmp .ge 21, 3) := by decide +kernel
theorem dX3_allOf_12 : decode cX3_allOf 12 = .ok (.iload_n 3, 1) := by decide +kernel
theorem dX3_allOf_13 : decode cX3_allOf 13 = .ok (.aload_n 1, 1) := by decide +kernel
theorem dX3_allOf_14 : decode cX3_allOf 14 = .ok (.arraylength, 1) := by decide +kernel
theorem dX3_allOf_15 : decode cX3_allOf 15 = .ok (.if_icmp .ge 15, 3) := by decide +kernel
theorem dX3_allOf_18 : decode cX3_allOf 18 = .ok (.iload_n 2, 1) := by decide +kernel
theorem dX3_allOf_19 : decode cX3_allOf 19 = .ok (.aload_n 1, 1) := by decide +kernel
theorem dX3_allOf_20 : decode cX3_allOf 20 = .ok (.iload_n 3, 1) := by decide +kernel
theorem dX3_allOf_21 : decode cX3_allOf 21 = .ok (.iaload, 1) := by decide +kernel
theorem dX3_allOf_22 : decode cX3_allOf 22 = .ok (.iadd, 1) := by decide +kernel
theorem dX3_allOf_23 : decode cX3_allOf 23 = .ok (.istore_n 2, 1) := by decide +kernel
theorem dX3_allOf_24 : decode cX3_allOf 24 = .ok (.iinc 3 1, 3) := by decide +kernel
theorem dX3_allOf_27 : decode cX3_allOf 27 = .ok (.goto (-23), 3) := by decide +kernel
theorem dX3_allOf_30 : decode cX3_allOf 30 = .ok (.iload_n 2, 1) := by decide +kernel
theorem dX3_allOf_31 : decode cX3_allOf 31 = .ok (.ireturn, 1) := by decide +kernel
set_option maxRecDepth 20000 in
theorem ggX4_init_X7_init : GoodIn wsX4_init wsX7_init := goodIn_r _ [4, 5, 6, 7, 8, 9, 10, 11, 12, 13, 14, 15, 16, 17, 18, 19, 20, 21, 22, 23, 24, 25, 3, 26, 27, 28, 29, 30, 31, 32, 33, 34, 35, 36, 37, 38, 39, 40, 41, 42, 43, 44, 45, 46, 47, 48, 49, 50, 51, 52, 53, 54, 55, 56, 57, 58, 59, 60, 61, 62, 63, 64, 65, 66, 67] rfl (by decide +kernel)
set_option maxRecDepth 20000 in
theorem gX4_init_X7_init : GoodIn wsX4_init (wsX7_init) := ggX4_init_X7_init
theorem dX4_init_0 : decode cX4_init 0 = .ok (.aload_n 0, 1) := by decide +kernel
theorem dX4_init_1 : decode cX4_init 1 = .ok (.iconst 2, 1) := by decide +kernel
theorem dX4_init_2 : decode cX4_init 2 = .ok (.iconst 0, 1) := by decide +kernel
theorem dX4_init_3 : decode cX4_init 3 = .ok (.iconst 1, 1) := by decide +kernel
theorem dX4_init_4 : decode cX4_init 4 = .ok (.iconst 1, 1) := by decide +kernel
theorem dX4_init_5 : decode cX4_init 5 = .ok (.invokespecial 1, 3) := by decide +kernel
theorem dX4_init_8 : decode cX4_init 8 = .ok (.return_, 1) := by decide +kernel
theorem dX4_less_0 : decode cX4_less 0 = .ok (.iload_n 1, 1) := by decide +kernel
theorem dX4_less_1 : decode cX4_less 1 = .ok (.ireturn, 1) := by decide +kernel
theorem dX4_sum_0 : decode cX4_sum 0 = .ok (.iconst 1, 1) := by decide +kernel
theorem dX4_sum_1 : decode cX4_sum 1 = .ok (.ireturn, 1) := by decide +kernel
theorem dX4_chosen_0 : decode cX4_chosen 0 = .ok (.iload_n 2, 1) := by decide +kernel
theorem dX4_chosen_1 : decode cX4_chosen 1 = .ok (.iload_n 3, 1) := by decide +kernel
theorem dX4_chosen_2 : decode cX4_chosen 2 = .ok (.ior, 1) := by decide +kernel
theorem dX4_chosen_3 : decode cX4_chosen 3 = .ok (.ireturn, 1) := by decide +kernel
theorem dX4_mayGrow_0 : decode cX4_mayGrow 0 = .ok (.iload_n 1, 1) := by decide +kernel
theorem dX4_mayGrow_1 : decode cX4_mayGrow 1 = .ok (.ifCond .ne 7, 3) := by decide +kernel
theorem dX4_mayGrow_4 : decode cX4_mayGrow 4 = .ok (.iconst 1, 1) := by decide +kernel
theorem dX4_mayGrow_5 : decode cX4_mayGrow 5 = .ok (.goto 4, 3) := by decide +kernel
theorem dX4_mayGrow_8 : decode cX4_mayGrow 8 = .ok (.iconst 0, 1) := by decide +kernel
theorem dX4_mayGrow_9 : decode cX4_mayGrow 9 = .ok (.ireturn, 1) := by decide +kernel
set_option maxRecDepth 20000 in
theorem ggX5_init_X3_init : GoodIn wsX5_init wsX3_init := goodIn_r _ [12, 13, 2, 3, 14, 15, 16, 17, 18, 19, 20, 21, 22, 23, 24] rfl (by decide +kernel)
set_option maxRecDepth 20000 in
theorem gX5_init_X3_init : GoodIn wsX5_init (wsX3_init) := ggX5_init_X3_init
theorem dX5_init_0 : decode cX5_init 0 = .ok (.aload_n 0, 1) := by decide +kernel
theorem dX5_init_1 : decode cX5_init 1 = .ok (.invokespecial 3, 3) := by decide +kernel
theorem dX5_init_4 : decode cX5_init 4 = .ok (.aload_n 0, 1) := by decide +kernel
theorem dX5_init_5 : decode cX5_init 5 = .ok (.new 9, 3) := by decide +kernel
theorem dX5_init_8 : decode cX5_init 8 = .ok (.dup, 1) := by decide +kernel
theorem dX5_init_9 : decode cX5_init 9 = .ok (.invokespecial 11, 3) := by decide +kernel
theorem dX5_init_12 : decode cX5_init 12 = .ok (.putfield 12, 3) := by decide +kernel
theorem dX5_init_15 : decode cX5_init 15 = .ok (.aload_n 0, 1) := by decide +kernel
theorem dX5_init_16 : decode cX5_init 16 = .ok (.sipush 200, 3) := by decide +kernel
theorem dX5_init_19 : decode cX5_init 19 = .ok (.newarray .char, 2) := by decide +kernel
theorem dX5_init_21 : decode cX5_init 21 = .ok (.putfield 18, 3) := by decide +kernel
theorem dX5_init_24 : decode cX5_init 24 = .ok (.return_, 1) := by decide +kernel
theorem dX5_add_0 : decode cX5_add 0 = .ok (.aload_n 0, 1) := by decide +kernel
theorem dX5_add_1 : decode cX5_add 1 = .ok (.getfield 22, 3) := by decide +kernel
theorem dX5_add_4 : decode cX5_add 4 = .ok (.sipush 200, 3) := by decide +kernel
theorem dX5_add_7 : decode cX5_add 7 = .ok (.if_icmp .ge 23, 3) := by decide +kernel
theorem dX5_add_10 : decode cX5_add 10 = .ok (.aload_n 0, 1) := by decide +kernel
theorem dX5_add_11 : decode cX5_add 11 = .ok (.getfield 18, 3) := by decide +kernel
theorem dX5_add_14 : decode cX5_add 14 = .ok (.aload_n 0, 1) := by decide +kernel
theorem dX5_add_15 : decode cX5_add 15 = .ok (.getfield 22, 3) := by decide +kernel
theorem dX5_add_18 : decode cX5_add 18 = .ok (.iload_n 1, 1) := by decide +kernel
theorem dX5_add_19 : decode cX5_add 19 = .ok (.castore, 1) := by decide +kernel
theorem dX5_add_20 : decode cX5_add 20 = .ok (.aload_n 0, 1) := by decide +kernel
theorem dX5_add_21 : decode cX5_add 21 = .ok (.dup, 1) := by decide +kernel
theorem dX5_add_22 : decode cX5_add 22 = .ok (.getfield 22, 3) := by decide +kernel
theorem dX5_add_25 : decode cX5_add 25 = .ok (.iconst 1, 1) := by decide +kernel
theorem dX5_add_26 : decode cX5_add 26 = .ok (.iadd, 1) := by decide +kernel
theorem dX5_add_27 : decode cX5_add 27 = .ok (.putfield 22, 3) := by decide +kernel
theorem dX5_add_30 : decode cX5_add 30 = .ok (.return_, 1) := by decide +kernel
theorem dX5_clear_0 : decode cX5_clear 0 = .ok (.aload_n 0, 1) := by decide +kernel
theorem dX5_clear_1 : decode cX5_clear 1 = .ok (.iconst 0, 1) := by decide +kernel
theorem dX5_clear_2 : decode cX5_clear 2 = .ok (.putfield 22, 3) := by decide +kernel
theorem dX5_clear_5 : decode cX5_clear 5 = .ok (.return_, 1) := by decide +kernel
set_option maxRecDepth 20000 in
theorem ggX5_read_X5_readItem : GoodIn wsX5_read wsX5_readItem := goodIn_r _ [10, 11, 12, 13, 9, 14, 1, 5, 15, 16, 17, 18, 19, 3, 4, 20, 21, 22, 23, 24, 2, 25, 26, 27, 28, 29, 30, 31, 32, 33, 34, 35, 36, 37, 38, 39, 40, 41, 42, 43, 44, 45, 46, 47, 48, 49, 50, 51, 52, 53, 54, 55, 56, 57, 58, 59, 60, 61, 62, 63, 64, 65, 66, 67, 68, 69, 70, 71, 72, 73, 74, 75, 76, 77, 78, 79, 80, 81, 82, 83, 84, 85, 86, 87, 88, 89, 90, 91, 92, 93, 94, 95, 96, 97, 98, 99, 100, 101, 102, 103, 104, 105, 106, 107, 108, 109, 110, 111, 112, 113, 114, 115, 116, 117, 118, 119, 120, 121, 122, 123, 124, 125, 126, 127, 128, 129, 130, 131, 132, 133, 134, 135, 136, 137, 138, 139, 140, 141, 142, 143, 144, 145, 146, 147, 148, 149, 150] (by decide +kernel) (by decide +kernel)
set_option maxRecDepth 20000 in
theorem gX5_read_X5_readItem : GoodIn wsX5_read (wsV RX5 35 RX5 yX5_readItem wsX5_readItem) := goodIn_app (goodIn_of _ (by decide +kernel)) ggX5_read_X5_readItem
theorem dX5_read_0 : decode cX5_read 0 = .ok (.aload_n 0, 1) := by decide +kernel
theorem dX5_read_1 : decode cX5_read 1 = .ok (.iconst 0, 1) := by decide +kernel
theorem dX5_read_2 : decode cX5_read 2 = .ok (.putfield 26, 3) := by decide +kernel
theorem dX5_read_5 : decode cX5_read 5 = .ok (.aload_n 0, 1) := by decide +kernel
theorem dX5_read_6 : decode cX5_read 6 = .ok (.iconst 0, 1) := by decide +kernel
theorem dX5_read_7 : decode cX5_read 7 = .ok (.putfield 29, 3) := by decide +kernel
theorem dX5_read_10 : decode cX5_read 10 = .ok (.aload_n 0, 1) := by decide +kernel
theorem dX5_read_11 : decode cX5_read 11 = .ok (.getfield 12, 3) := by decide +kernel
theorem dX5_read_14 : decode cX5_read 14 = .ok (.iconst 0, 1) := by decide +kernel
theorem dX5_read_15 : decode cX5_read 15 = .ok (.putfield 32, 3) := by decide +kernel
theorem dX5_read_18 : decode cX5_read 18 = .ok (.iconst 0, 1) := by decide +kernel
theorem dX5_read_19 : decode cX5_read 19 = .ok (.istore_n 1, 1) := by decide +kernel
theorem dX5_read_20 : decode cX5_read 20 = .ok (.iload_n 1, 1) := by decide +kernel
theorem dX5_read_21 : decode cX5_read 21 = .ok (.sipush 200, 3) := by decide +kernel
theorem dX5_read_24 : decode cX5_read 24 = .ok (.if_icmp .ge 34, 3) := by decide +kernel
theorem dX5_read_27 : decode cX5_read 27 = .ok (.aload_n 0, 1) := by decide +kernel
theorem dX5_read_28 : decode cX5_read 28 = .ok (.getfield 26, 3) := by decide +kernel
theorem dX5_read_31 : decode cX5_read 31 = .ok (.aload_n 0, 1) := by decide +kernel
theorem dX5_read_32 : decode cX5_read 32 = .ok (.getfield 22, 3) := by decide +kernel
theorem dX5_read_35 : decode cX5_read 35 = .ok (.if_icmp .ge 23, 3) := by decide +kernel
theorem dX5_read_38 : decode cX5_read 38 = .ok (.aload_n 0, 1) := by decide +kernel
theorem dX5_read_39 : decode cX5_read 39 = .ok (.getfield 26, 3) := by decide +kernel
theorem dX5_read_42 : decode cX5_read 42 = .ok (.istore_n 2, 1) := by decide +kernel
theorem dX5_read_43 : decode cX5_read 43 = .ok (.aload_n 0, 1) := by decide +kernel
theorem dX5_read_44 : decode cX5_read 44 = .ok (.invokevirtual 35, 3) := by decide +kernel
theorem dX5_read_47 : decode cX5_read 47 = .ok (.ifCond .ne 5, 3) := by decide +kernel
theorem dX5_read_50 : decode cX5_read 50 = .ok (.iload_n 2, 1) := by decide +kernel
theorem dX5_read_51 : decode cX5_read 51 = .ok (.ireturn, 1) := by decide +kernel
theorem dX5_read_52 : decode cX5_read 52 = .ok (.iinc 1 1, 3) := by decide +kernel
theorem dX5_read_55 : decode cX5_read 55 = .ok (.goto (-35), 3) := by decide +kernel
theorem dX5_read_58 : decode cX5_read 58 = .ok (.bipush (-4), 2) := by decide +kernel
theorem dX5_read_60 : decode cX5_read 60 = .ok (.ireturn, 1) := by decide +kernel
theorem dX5_toldAll_0 : decode cX5_toldAll 0 = .ok (.aload_n 0, 1) := by decide +kernel
theorem dX5_toldAll_1 : decode cX5_toldAll 1 = .ok (.getfield 12, 3) := by decide +kernel
theorem dX5_toldAll_4 : decode cX5_toldAll 4 = .ok (.getfield 32, 3) := by decide +kernel
theorem dX5_toldAll_7 : decode cX5_toldAll 7 = .ok (.ifCond .le 21, 3) := by decide +kernel
theorem dX5_toldAll_10 : decode cX5_toldAll 10 = .ok (.aload_n 0, 1) := by decide +kernel
theorem dX5_toldAll_11 : decode cX5_toldAll 11 = .ok (.getfield 29, 3) := by decide +kernel
theorem dX5_toldAll_14 : decode cX5_toldAll 14 = .ok (.aload_n 0, 1) := by decide +kernel
theorem dX5_toldAll_15 : decode cX5_toldAll 15 = .ok (.getfield 12, 3) := by decide +kernel
theorem dX5_toldAll_18 : decode cX5_toldAll 18 = .ok (.getfield 32, 3) := by decide +kernel
theorem dX5_toldAll_21 : decode cX5_toldAll 21 = .ok (.if_icmp .ne 7, 3) := by decide +kernel
theorem dX5_toldAll_24 : decode cX5_toldAll 24 = .ok (.iconst 1, 1) := by decide +kernel
theorem dX5_toldAll_25 : decode cX5_toldAll 25 = .ok (.goto 4, 3) := by decide +kernel
theorem dX5_toldAll_28 : decode cX5_toldAll 28 = .ok (.iconst 0, 1) := by decide +kernel
theorem dX5_toldAll_29 : decode cX5_toldAll 29 = .ok (.ireturn, 1) := by decide +kernel
theorem dX5_next_0 : decode cX5_next 0 = .ok (.aload_n 0, 1) := by decide +kernel
theorem dX5_next_1 : decode cX5_next 1 = .ok (.getfield 26, 3) := by decide +kernel
theorem dX5_next_4 : decode cX5_next 4 = .ok (.aload_n 0, 1) := by decide +kernel
theorem dX5_next_5 : decode cX5_next 5 = .ok (.getfield 22, 3) := by decide +kernel
theorem dX5_next_8 : decode cX5_next 8 = .ok (.if_icmp .lt 5, 3) := by decide +kernel
theorem dX5_next_11 : decode cX5_next 11 = .ok (.iconst 0, 1) := by decide +kernel
theorem dX5_next_12 : decode cX5_next 12 = .ok (.ireturn, 1) := by decide +kernel
theorem dX5_next_13 : decode cX5_next 13 = .ok (.aload_n 0, 1) := by decide +kernel
theorem dX5_next_14 : decode cX5_next 14 = .ok (.getfield 18, 3) := by decide +kernel
theorem dX5_next_17 : decode cX5_next 17 = .ok (.aload_n 0, 1) := by decide +kernel
theorem dX5_next_18 : decode cX5_next 18 = .ok (.getfield 26, 3) := by decide +kernel
theorem dX5_next_21 : decode cX5_next 21 = .ok (.caload, 1) := by decide +kernel
theorem dX5_next_22 : decode cX5_next 22 = .ok (.istore_n 1, 1) := by decide +kernel
theorem dX5_next_23 : decode cX5_next 23 = .ok (.aload_n 0, 1) := by decide +kernel
theorem dX5_next_24 : decode cX5_next 24 = .ok (.dup, 1) := by decide +kernel
theorem dX5_next_25 : decode cX5_next 25 = .ok (.getfield 26, 3) := by decide +kernel
theorem dX5_next_28 : decode cX5_next 28 = .ok (.iconst 1, 1) := by decide +kernel
theorem dX5_next_29 : decode cX5_next 29 = .ok (.iadd, 1) := by decide +kernel
theorem dX5_next_30 : decode cX5_next 30 = .ok (.putfield 26, 3) := by decide +kernel
theorem dX5_next_33 : decode cX5_next 33 = .ok (.iload_n 1, 1) := by decide +kernel
theorem dX5_next_34 : decode cX5_next 34 = .ok (.ireturn, 1) := by decide +kernel
set_option maxRecDepth 20000 in
theorem ggX5_readItem_X5_next : GoodIn wsX5_readItem wsX5_next := goodIn_r _ [5, 6, 7, 8, 137, 138, 139, 140, 141] rfl (by decide +kernel)
set_option maxRecDepth 20000 in
theorem gX5_readItem_X5_next : GoodIn wsX5_readItem (wsV RX5 39 RX5 yX5_next wsX5_next) := goodIn_app (goodIn_of _ (by decide +kernel)) ggX5_readItem_X5_next
set_option maxRecDepth 20000 in
theorem ggX5_readItem_X5_readArguments : GoodIn wsX5_readItem wsX5_readArguments := goodIn_r _ [12, 13, 14, 15, 1, 2, 3, 4, 5, 6, 7, 8, 137, 138, 139, 140, 141, 142, 143, 144, 145, 146] rfl (by decide +kernel)
set_option maxRecDepth 20000 in
theorem gX5_readItem_X5_readArguments : GoodIn wsX5_readItem (wsV RX5 43 RX5 yX5_readArguments wsX5_readArguments) := goodIn_app (goodIn_of _ (by decide +kernel)) ggX5_readItem_X5_readArguments
set_option maxRecDepth 20000 in
theorem ggX5_readItem_X5_readFunction : GoodIn wsX5_readItem wsX5_readFunction := goodIn_r _ [19, 13, 20, 21, 22, 23, 24, 25, 26, 27, 1, 2, 3, 4, 5, 6, 7, 8, 28, 29, 30, 31, 32, 33, 34, 35, 36, 37, 38, 39, 40, 41, 42, 43, 44, 45, 46, 47, 48, 49, 50, 51, 52, 53, 54, 55, 56, 57, 58, 59, 60, 61, 62, 63, 64, 65, 66, 67, 68, 69, 70, 71, 72, 73, 74, 75, 76, 77, 78, 79, 80, 81, 82, 83, 84, 85, 86, 87, 88, 89, 90, 91, 92, 93, 94, 95, 96, 97, 98, 99, 100, 101, 102, 103, 104, 105, 106, 107, 108, 109, 110, 111, 112, 113, 114, 115, 116, 117, 118, 119, 120, 121, 122, 123, 124, 125, 126, 127, 128, 129, 130, 131, 132, 133, 134, 135, 136, 137, 138, 139, 140, 141, 142, 143, 144, 145, 146] (by decide +kernel) (by decide +kernel)
set_option maxRecDepth 20000 in
theorem gX5_readItem_X5_readFunction : GoodIn wsX5_readItem (wsV RX5 46 RX5 yX5_readFunction wsX5_readFunction) := goodIn_app (goodIn_of _ (by decide +kernel)) ggX5_readItem_X5_readFunction
theorem dX5_readItem_0 : decode cX5_readItem 0 = .ok (.aload_n 0, 1) := by decide +kernel
theorem dX5_readItem_1 : decode cX5_readItem 1 = .ok (.invokevirtual 39, 3) := by decide +kernel
theorem dX5_readItem_4 : decode cX5_readItem 4 = .ok (.istore_n 1, 1) := by decide +kernel
theorem dX5_readItem_5 : decode cX5_readItem 5 = .ok (.iload_n 1, 1) := by decide +kernel
theorem dX5_readItem_6 : decode cX5_readItem 6 = .ok (.bipush 110, 2) := by decide +kernel
theorem dX5_readItem_8 : decode cX5_readItem 8 = .ok (.if_icmp .ne 10, 3) := by decide +kernel
theorem dX5_readItem_11 : decode cX5_readItem 11 = .ok (.aload_n 0, 1) := by decide +kernel
theorem dX5_readItem_12 : decode cX5_readItem 12 = .ok (.invokevirtual 43, 3) := by decide +kernel
theorem dX5_readItem_15 : decode cX5_readItem 15 = .ok (.goto 21, 3) := by decide +kernel
theorem dX5_readItem_18 : decode cX5_readItem 18 = .ok (.iload_n 1, 1) := by decide +kernel
theorem dX5_readItem_19 : decode cX5_readItem 19 = .ok (.bipush 102, 2) := by decide +kernel
theorem dX5_readItem_21 : decode cX5_readItem 21 = .ok (.if_icmp .ne 14, 3) := by decide +kernel
theorem dX5_readItem_24 : decode cX5_readItem 24 = .ok (.aload_n 0, 1) := by decide +kernel
theorem dX5_readItem_25 : decode cX5_readItem 25 = .ok (.invokevirtual 46, 3) := by decide +kernel
theorem dX5_readItem_28 : decode cX5_readItem 28 = .ok (.ifCond .eq 7, 3) := by decide +kernel
theorem dX5_readItem_31 : decode cX5_readItem 31 = .ok (.iconst 1, 1) := by decide +kernel
theorem dX5_readItem_32 : decode cX5_readItem 32 = .ok (.goto 4, 3) := by decide +kernel
theorem dX5_readItem_35 : decode cX5_readItem 35 = .ok (.iconst 0, 1) := by decide +kernel
theorem dX5_readItem_36 : decode cX5_readItem 36 = .ok (.ireturn, 1) := by decide +kernel
set_option maxRecDepth 20000 in
theorem ggX5_readArguments_X5_next : GoodIn wsX5_readArguments wsX5_next := goodIn_r _ [8, 9, 10, 11, 12, 13, 14, 15, 16] rfl (by decide +kernel)
set_option maxRecDepth 20000 in
theorem gX5_readArguments_X5_next : GoodIn wsX5_readArguments (wsV RX5 39 RX5 yX5_next wsX5_next) := goodIn_app (goodIn_of _ (by decide +kernel)) ggX5_readArguments_X5_next
theorem dX5_readArguments_0 : decode cX5_readArguments 0 = .ok (.aload_n 0, 1) := by decide +kernel
theorem dX5_readArguments_1 : decode cX5_readArguments 1 = .ok (.getfield 12, 3) := by decide +kernel
theorem dX5_readArguments_4 : decode cX5_readArguments 4 = .ok (.getfield 32, 3) := by decide +kernel
theorem dX5_readArguments_7 : decode cX5_readArguments 7 = .ok (.ifCond .le 5, 3) := by decide +kernel
theorem dX5_readArguments_10 : decode cX5_readArguments 10 = .ok (.iconst 0, 1) := by decide +kernel
theorem dX5_readArguments_11 : decode cX5_readArguments 11 = .ok (.ireturn, 1) := by decide +kernel
theorem dX5_readArguments_12 : decode cX5_readArguments 12 = .ok (.iconst 0, 1) := by decide +kernel
theorem dX5_readArguments_13 : decode cX5_readArguments 13 = .ok (.istore_n 1, 1) := by decide +kernel
theorem dX5_readArguments_14 : decode cX5_readArguments 14 = .ok (.iload_n 1, 1) := by decide +kernel
theorem dX5_readArguments_15 : decode cX5_readArguments 15 = .ok (.iconst 4, 1) := by decide +kernel
theorem dX5_readArguments_16 : decode cX5_readArguments 16 = .ok (.if_icmp .ge 67, 3) := by decide +kernel
theorem dX5_readArguments_19 : decode cX5_readArguments 19 = .ok (.aload_n 0, 1) := by decide +kernel
theorem dX5_readArguments_20 : decode cX5_readArguments 20 = .ok (.invokevirtual 39, 3) := by decide +kernel
theorem dX5_readArguments_23 : decode cX5_readArguments 23 = .ok (.istore_n 2, 1) := by decide +kernel
theorem dX5_readArguments_24 : decode cX5_readArguments 24 = .ok (.iload_n 2, 1) := by decide +kernel
theorem dX5_readArguments_25 : decode cX5_readArguments 25 = .ok (.bipush 59, 2) := by decide +kernel
theorem dX5_readArguments_27 : decode cX5_readArguments 27 = .ok (.if_icmp .ne 13, 3) := by decide +kernel
theorem dX5_readArguments_30 : decode cX5_readArguments 30 = .ok (.iload_n 1, 1) := by decide +kernel
theorem dX5_readArguments_31 : decode cX5_readArguments 31 = .ok (.ifCond .le 7, 3) := by decide +kernel
theorem dX5_readArguments_34 : decode cX5_readArguments 34 = .ok (.iconst 1, 1) := by decide +kernel
theorem dX5_readArguments_35 : decode cX5_readArguments 35 = .ok (.goto 4, 3) := by decide +kernel
theorem dX5_readArguments_38 : decode cX5_readArguments 38 = .ok (.iconst 0, 1) := by decide +kernel
theorem dX5_readArguments_39 : decode cX5_readArguments 39 = .ok (.ireturn, 1) := by decide +kernel
theorem dX5_readArguments_40 : decode cX5_readArguments 40 = .ok (.iload_n 2, 1) := by decide +kernel
theorem dX5_readArguments_41 : decode cX5_readArguments 41 = .ok (.bipush 48, 2) := by decide +kernel
theorem dX5_readArguments_43 : decode cX5_readArguments 43 = .ok (.if_icmp .lt 9, 3) := by decide +kernel
theorem dX5_readArguments_46 : decode cX5_readArguments 46 = .ok (.iload_n 2, 1) := by decide +kernel
theorem dX5_readArguments_47 : decode cX5_readArguments 47 = .ok (.bipush 51, 2) := by decide +kernel
theorem dX5_readArguments_49 : decode cX5_readArguments 49 = .ok (.if_icmp .le 5, 3) := by decide +kernel
theorem dX5_readArguments_52 : decode cX5_readArguments 52 = .ok (.iconst 0, 1) := by decide +kernel
theorem dX5_readArguments_53 : decode cX5_readArguments 53 = .ok (.ireturn, 1) := by decide +kernel
theorem dX5_readArguments_54 : decode cX5_readArguments 54 = .ok (.aload_n 0, 1) := by decide +kernel
theorem dX5_readArguments_55 : decode cX5_readArguments 55 = .ok (.getfield 12, 3) := by decide +kernel
theorem dX5_readArguments_58 : decode cX5_readArguments 58 = .ok (.getfield 49, 3) := by decide +kernel
theorem dX5_readArguments_61 : decode cX5_readArguments 61 = .ok (.iload_n 1, 1) := by decide +kernel
theorem dX5_readArguments_62 : decode cX5_readArguments 62 = .ok (.iload_n 2, 1) := by decide +kernel
theorem dX5_readArguments_63 : decode cX5_readArguments 63 = .ok (.bipush 48, 2) := by decide +kernel
theorem dX5_readArguments_65 : decode cX5_readArguments 65 = .ok (.isub, 1) := by decide +kernel
theorem dX5_readArguments_66 : decode cX5_readArguments 66 = .ok (.iastore, 1) := by decide +kernel
theorem dX5_readArguments_67 : decode cX5_readArguments 67 = .ok (.aload_n 0, 1) := by decide +kernel
theorem dX5_readArguments_68 : decode cX5_readArguments 68 = .ok (.getfield 12, 3) := by decide +kernel
theorem dX5_readArguments_71 : decode cX5_readArguments 71 = .ok (.iload_n 1, 1) := by decide +kernel
theorem dX5_readArguments_72 : decode cX5_readArguments 72 = .ok (.iconst 1, 1) := by decide +kernel
theorem dX5_readArguments_73 : decode cX5_readArguments 73 = .ok (.iadd, 1) := by decide +kernel
theorem dX5_readArguments_74 : decode cX5_readArguments 74 = .ok (.putfield 32, 3) := by decide +kernel
theorem dX5_readArguments_77 : decode cX5_readArguments 77 = .ok (.iinc 1 1, 3) := by decide +kernel
theorem dX5_readArguments_80 : decode cX5_readArguments 80 = .ok (.goto (-66), 3) := by decide +kernel
theorem dX5_readArguments_83 : decode cX5_readArguments 83 = .ok (.aload_n 0, 1) := by decide +kernel
theorem dX5_readArguments_84 : decode cX5_readArguments 84 = .ok (.invokevirtual 39, 3) := by decide +kernel
theorem dX5_readArguments_87 : decode cX5_readArguments 87 = .ok (.bipush 59, 2) := by decide +kernel
theorem dX5_readArguments_89 : decode cX5_readArguments 89 = .ok (.if_icmp .ne 7, 3) := by decide +kernel
theorem dX5_readArguments_92 : decode cX5_readArguments 92 = .ok (.iconst 1, 1) := by decide +kernel
theorem dX5_readArguments_93 : decode cX5_readArguments 93 = .ok (.goto 4, 3) := by decide +kernel
theorem dX5_readArguments_96 : decode cX5_readArguments 96 = .ok (.iconst 0, 1) := by decide +kernel
theorem dX5_readArguments_97 : decode cX5_readArguments 97 = .ok (.ireturn, 1) := by decide +kernel
set_option maxRecDepth 20000 in
theorem ggX5_readFunction_X3_has : GoodIn wsX5_readFunction wsX3_has := goodIn_r _ [8, 9, 132, 133, 134, 135, 136] rfl (by decide +kernel)
set_option maxRecDepth 20000 in
theorem gX5_readFunction_X3_has : GoodIn wsX5_readFunction (wsV RX5 53 RX3 yX3_has wsX3_has) := goodIn_app (goodIn_of _ (by decide +kernel)) ggX5_readFunction_X3_has
set_option maxRecDepth 20000 in
theorem ggX5_readFunction_X5_next : GoodIn wsX5_readFunction wsX5_next := goodIn_r _ [14, 15, 16, 17, 127, 128, 129, 130, 131] rfl (by decide +kernel)
set_option maxRecDepth 20000 in
theorem gX5_readFunction_X5_next : GoodIn wsX5_readFunction (wsV RX5 39 RX5 yX5_next wsX5_next) := goodIn_app (goodIn_of _ (by decide +kernel)) ggX5_readFunction_X5_next
set_option maxRecDepth 20000 in
theorem ggX5_readFunction_X5_readBody : GoodIn wsX5_readFunction wsX5_readBody := goodIn_r _ [21, 1, 2, 22, 23, 10, 11, 12, 13, 14, 15, 16, 17, 24, 25, 26, 27, 28, 29, 30, 31, 32, 33, 34, 35, 36, 37, 38, 39, 40, 41, 42, 43, 44, 45, 46, 47, 48, 49, 50, 51, 52, 53, 54, 55, 56, 57, 58, 59, 60, 61, 62, 63, 64, 65, 66, 67, 68, 69, 70, 71, 72, 73, 74, 75, 76, 77, 78, 79, 80, 81, 82, 83, 84, 85, 86, 87, 88, 89, 90, 91, 92, 93, 94, 95, 96, 97, 98, 99, 100, 101, 102, 103, 104, 105, 106, 107, 108, 109, 110, 111, 112, 113, 114, 115, 116, 117, 118, 119, 7, 120, 121, 122, 5, 6, 8, 9, 123, 124, 125, 126, 127, 128, 129, 130, 131, 132, 133, 134, 135, 136] (by decide +kernel) (by decide +kernel)
set_option maxRecDepth 20000 in
theorem gX5_readFunction_X5_readBody : GoodIn wsX5_readFunction (wsV RX5 60 RX5 yX5_readBody wsX5_readBody) := goodIn_app (goodIn_of _ (by decide +kernel)) ggX5_readFunction_X5_readBody
theorem dX5_readFunction_0 : decode cX5_readFunction 0 = .ok (.aload_n 0, 1) := by decide +kernel
theorem dX5_readFunction_1 : decode cX5_readFunction 1 = .ok (.getfield 12, 3) := by decide +kernel
theorem dX5_readFunction_4 : decode cX5_readFunction 4 = .ok (.aload_n 0, 1) := by decide +kernel
theorem dX5_readFunction_5 : decode cX5_readFunction 5 = .ok (.getfield 29, 3) := by decide +kernel
theorem dX5_readFunction_8 : decode cX5_readFunction 8 = .ok (.invokevirtual 53, 3) := by decide +kernel
theorem dX5_readFunction_11 : decode cX5_readFunction 11 = .ok (.ifCond .ne 5, 3) := by decide +kernel
theorem dX5_readFunction_14 : decode cX5_readFunction 14 = .ok (.iconst 0, 1) := by decide +kernel
theorem dX5_readFunction_15 : decode cX5_readFunction 15 = .ok (.ireturn, 1) := by decide +kernel
theorem dX5_readFunction_16 : decode cX5_readFunction 16 = .ok (.aload_n 0, 1) := by decide +kernel
theorem dX5_readFunction_17 : decode cX5_readFunction 17 = .ok (.invokevirtual 39, 3) := by decide +kernel
theorem dX5_readFunction_20 : decode cX5_readFunction 20 = .ok (.bipush 48, 2) := by decide +kernel
theorem dX5_readFunction_22 : decode cX5_readFunction 22 = .ok (.isub, 1) := by decide +kernel
theorem dX5_readFunction_23 : decode cX5_readFunction 23 = .ok (.istore_n 1, 1) := by decide +kernel
theorem dX5_readFunction_24 : decode cX5_readFunction 24 = .ok (.iload_n 1, 1) := by decide +kernel
theorem dX5_readFunction_25 : decode cX5_readFunction 25 = .ok (.ifCond .lt 8, 3) := by decide +kernel
theorem dX5_readFunction_28 : decode cX5_readFunction 28 = .ok (.iload_n 1, 1) := by decide +kernel
theorem dX5_readFunction_29 : decode cX5_readFunction 29 = .ok (.iconst 3, 1) := by decide +kernel
theorem dX5_readFunction_30 : decode cX5_readFunction 30 = .ok (.if_icmp .le 5, 3) := by decide +kernel
theorem dX5_readFunction_33 : decode cX5_readFunction 33 = .ok (.iconst 0, 1) := by decide +kernel
theorem dX5_readFunction_34 : decode cX5_readFunction 34 = .ok (.ireturn, 1) := by decide +kernel
theorem dX5_readFunction_35 : decode cX5_readFunction 35 = .ok (.aload_n 0, 1) := by decide +kernel
theorem dX5_readFunction_36 : decode cX5_readFunction 36 = .ok (.getfield 12, 3) := by decide +kernel
theorem dX5_readFunction_39 : decode cX5_readFunction 39 = .ok (.getfield 57, 3) := by decide +kernel
theorem dX5_readFunction_42 : decode cX5_readFunction 42 = .ok (.aload_n 0, 1) := by decide +kernel
theorem dX5_readFunction_43 : decode cX5_readFunction 43 = .ok (.getfield 29, 3) := by decide +kernel
theorem dX5_readFunction_46 : decode cX5_readFunction 46 = .ok (.iload_n 1, 1) := by decide +kernel
theorem dX5_readFunction_47 : decode cX5_readFunction 47 = .ok (.iastore, 1) := by decide +kernel
theorem dX5_readFunction_48 : decode cX5_readFunction 48 = .ok (.aload_n 0, 1) := by decide +kernel
theorem dX5_readFunction_49 : decode cX5_readFunction 49 = .ok (.invokevirtual 39, 3) := by decide +kernel
theorem dX5_readFunction_52 : decode cX5_readFunction 52 = .ok (.bipush 44, 2) := by decide +kernel
theorem dX5_readFunction_54 : decode cX5_readFunction 54 = .ok (.if_icmp .ne 19, 3) := by decide +kernel
theorem dX5_readFunction_57 : decode cX5_readFunction 57 = .ok (.aload_n 0, 1) := by decide +kernel
theorem dX5_readFunction_58 : decode cX5_readFunction 58 = .ok (.invokevirtual 60, 3) := by decide +kernel
theorem dX5_readFunction_61 : decode cX5_readFunction 61 = .ok (.ifCond .eq 12, 3) := by decide +kernel
theorem dX5_readFunction_64 : decode cX5_readFunction 64 = .ok (.aload_n 0, 1) := by decide +kernel
theorem dX5_readFunction_65 : decode cX5_readFunction 65 = .ok (.invokevirtual 39, 3) := by decide +kernel
theorem dX5_readFunction_68 : decode cX5_readFunction 68 = .ok (.bipush 59, 2) := by decide +kernel
theorem dX5_readFunction_70 : decode cX5_readFunction 70 = .ok (.if_icmp .eq 5, 3) := by decide +kernel
theorem dX5_readFunction_73 : decode cX5_readFunction 73 = .ok (.iconst 0, 1) := by decide +kernel
theorem dX5_readFunction_74 : decode cX5_readFunction 74 = .ok (.ireturn, 1) := by decide +kernel
theorem dX5_readFunction_75 : decode cX5_readFunction 75 = .ok (.aload_n 0, 1) := by decide +kernel
theorem dX5_readFunction_76 : decode cX5_readFunction 76 = .ok (.dup, 1) := by decide +kernel
theorem dX5_readFunction_77 : decode cX5_readFunction 77 = .ok (.getfield 29, 3) := by decide +kernel
theorem dX5_readFunction_80 : decode cX5_readFunction 80 = .ok (.iconst 1, 1) := by decide +kernel
theorem dX5_readFunction_81 : decode cX5_readFunction 81 = .ok (.iadd, 1) := by decide +kernel
theorem dX5_readFunction_82 : decode cX5_readFunction 82 = .ok (.putfield 29, 3) := by decide +kernel
theorem dX5_readFunction_85 : decode cX5_readFunction 85 = .ok (.iconst 1, 1) := by decide +kernel
theorem dX5_readFunction_86 : decode cX5_readFunction 86 = .ok (.ireturn, 1) := by decide +kernel
set_option maxRecDepth 20000 in
theorem ggX5_readBody_X5_next : GoodIn wsX5_readBody wsX5_next := goodIn_r _ [9, 10, 11, 12, 121, 122, 123, 124, 125] rfl (by decide +kernel)
set_option maxRecDepth 20000 in
theorem gX5_readBody_X5_next : GoodIn wsX5_readBody (wsV RX5 39 RX5 yX5_next wsX5_next) := goodIn_app (goodIn_of _ (by decide +kernel)) ggX5_readBody_X5_next
set_option maxRecDepth 20000 in
theorem ggX5_readBody_X2_numberOf : GoodIn wsX5_readBody wsX2_numberOf := goodIn_r _ [16, 17, 18, 19, 20, 21, 22, 23, 24, 25, 26, 27, 28, 29, 30, 31, 32, 33, 34, 35, 36, 37, 38, 39, 40, 41, 42, 43, 44, 45, 46, 47, 48, 49, 50, 51, 52, 53, 54, 55, 56, 57, 58, 59, 60, 61, 62, 63, 64, 65, 66, 67, 68, 69, 70, 71, 72, 73, 74, 75, 76, 77, 78, 79, 80, 81, 82, 83, 84, 85, 86, 87, 88, 89, 90, 91, 92, 93, 94, 95, 96, 97, 98, 99, 100, 101, 102, 103, 104, 105] rfl (by decide +kernel)
set_option maxRecDepth 20000 in
theorem gX5_readBody_X2_numberOf : GoodIn wsX5_readBody (va_wsS RX5 63 yX2_numberOf wsX2_numberOf) := goodIn_app (goodIn_of _ (by decide +kernel)) ggX5_readBody_X2_numberOf
set_option maxRecDepth 20000 in
theorem ggX5_readBody_X3_mayStand : GoodIn wsX5_readBody wsX3_mayStand := goodIn_r _ [110, 111, 112, 113, 114, 109, 115, 116, 126, 127, 128, 129, 130] rfl (by decide +kernel)
set_option maxRecDepth 20000 in
theorem gX5_readBody_X3_mayStand : GoodIn wsX5_readBody (wsV RX5 69 RX3 yX3_mayStand wsX3_mayStand) := goodIn_app (goodIn_of _ (by decide +kernel)) ggX5_readBody_X3_mayStand
set_option maxRecDepth 20000 in
theorem ggX5_readBody_X3_partsOf : GoodIn wsX5_readBody wsX3_partsOf := goodIn_r _ [120, 111, 112, 113, 114, 109, 115, 116, 126, 127, 128, 129, 130] rfl (by decide +kernel)
set_option maxRecDepth 20000 in
theorem gX5_readBody_X3_partsOf : GoodIn wsX5_readBody (wsV RX5 76 RX3 yX3_partsOf wsX3_partsOf) := goodIn_app (goodIn_of _ (by decide +kernel)) ggX5_readBody_X3_partsOf
theorem dX5_readBody_0 : decode cX5_readBody 0 = .ok (.iconst 1, 1) := by decide +kernel
theorem dX5_readBody_1 : decode cX5_readBody 1 = .ok (.istore_n 1, 1) := by decide +kernel
theorem dX5_readBody_2 : decode cX5_readBody 2 = .ok (.iconst 0, 1) := by decide +kernel
theorem dX5_readBody_3 : decode cX5_readBody 3 = .ok (.istore_n 2, 1) := by decide +kernel
theorem dX5_readBody_4 : decode cX5_readBody 4 = .ok (.iload_n 1, 1) := by decide +kernel
theorem dX5_readBody_5 : decode cX5_readBody 5 = .ok (.ifCond .le 68, 3) := by decide +kernel
theorem dX5_readBody_8 : decode cX5_readBody 8 = .ok (.iload_n 2, 1) := by decide +kernel
theorem dX5_readBody_9 : decode cX5_readBody 9 = .ok (.bipush 24, 2) := by decide +kernel
theorem dX5_readBody_11 : decode cX5_readBody 11 = .ok (.if_icmp .ge 62, 3) := by decide +kernel
theorem dX5_readBody_14 : decode cX5_readBody 14 = .ok (.aload_n 0, 1) := by decide +kernel
theorem dX5_readBody_15 : decode cX5_readBody 15 = .ok (.invokevirtual 39, 3) := by decide +kernel
theorem dX5_readBody_18 : decode cX5_readBody 18 = .ok (.invokestatic 63, 3) := by decide +kernel
theorem dX5_readBody_21 : decode cX5_readBody 21 = .ok (.istore_n 3, 1) := by decide +kernel
theorem dX5_readBody_22 : decode cX5_readBody 22 = .ok (.aload_n 0, 1) := by decide +kernel
theorem dX5_readBody_23 : decode cX5_readBody 23 = .ok (.getfield 12, 3) := by decide +kernel
theorem dX5_readBody_26 : decode cX5_readBody 26 = .ok (.aload_n 0, 1) := by decide +kernel
theorem dX5_readBody_27 : decode cX5_readBody 27 = .ok (.getfield 29, 3) := by decide +kernel
theorem dX5_readBody_30 : decode cX5_readBody 30 = .ok (.iload_n 3, 1) := by decide +kernel
theorem dX5_readBody_31 : decode cX5_readBody 31 = .ok (.invokevirtual 69, 3) := by decide +kernel
theorem dX5_readBody_34 : decode cX5_readBody 34 = .ok (.ifCond .ne 5, 3) := by decide +kernel
theorem dX5_readBody_37 : decode cX5_readBody 37 = .ok (.iconst 0, 1) := by decide +kernel
theorem dX5_readBody_38 : decode cX5_readBody 38 = .ok (.ireturn, 1) := by decide +kernel
theorem dX5_readBody_39 : decode cX5_readBody 39 = .ok (.aload_n 0, 1) := by decide +kernel
theorem dX5_readBody_40 : decode cX5_readBody 40 = .ok (.getfield 12, 3) := by decide +kernel
theorem dX5_readBody_43 : decode cX5_readBody 43 = .ok (.getfield 73, 3) := by decide +kernel
theorem dX5_readBody_46 : decode cX5_readBody 46 = .ok (.aload_n 0, 1) := by decide +kernel
theorem dX5_readBody_47 : decode cX5_readBody 47 = .ok (.getfield 29, 3) := by decide +kernel
theorem dX5_readBody_50 : decode cX5_readBody 50 = .ok (.aaload, 1) := by decide +kernel
theorem dX5_readBody_51 : decode cX5_readBody 51 = .ok (.iload_n 2, 1) := by decide +kernel
theorem dX5_readBody_52 : decode cX5_readBody 52 = .ok (.iload_n 3, 1) := by decide +kernel
theorem dX5_readBody_53 : decode cX5_readBody 53 = .ok (.iastore, 1) := by decide +kernel
theorem dX5_readBody_54 : decode cX5_readBody 54 = .ok (.iload_n 1, 1) := by decide +kernel
theorem dX5_readBody_55 : decode cX5_readBody 55 = .ok (.aload_n 0, 1) := by decide +kernel
theorem dX5_readBody_56 : decode cX5_readBody 56 = .ok (.getfield 12, 3) := by decide +kernel
theorem dX5_readBody_59 : decode cX5_readBody 59 = .ok (.iload_n 3, 1) := by decide +kernel
theorem dX5_readBody_60 : decode cX5_readBody 60 = .ok (.invokevirtual 76, 3) := by decide +kernel
theorem dX5_readBody_63 : decode cX5_readBody 63 = .ok (.iconst 1, 1) := by decide +kernel
theorem dX5_readBody_64 : decode cX5_readBody 64 = .ok (.isub, 1) := by decide +kernel
theorem dX5_readBody_65 : decode cX5_readBody 65 = .ok (.iadd, 1) := by decide +kernel
theorem dX5_readBody_66 : decode cX5_readBody 66 = .ok (.istore_n 1, 1) := by decide +kernel
theorem dX5_readBody_67 : decode cX5_readBody 67 = .ok (.iinc 2 1, 3) := by decide +kernel
theorem dX5_readBody_70 : decode cX5_readBody 70 = .ok (.goto (-66), 3) := by decide +kernel
theorem dX5_readBody_73 : decode cX5_readBody 73 = .ok (.aload_n 0, 1) := by decide +kernel
theorem dX5_readBody_74 : decode cX5_readBody 74 = .ok (.getfield 12, 3) := by decide +kernel
theorem dX5_readBody_77 : decode cX5_readBody 77 = .ok (.getfield 79, 3) := by decide +kernel
theorem dX5_readBody_80 : decode cX5_readBody 80 = .ok (.aload_n 0, 1) := by decide +kernel
theorem dX5_readBody_81 : decode cX5_readBody 81 = .ok (.getfield 29, 3) := by decide +kernel
theorem dX5_readBody_84 : decode cX5_readBody 84 = .ok (.iload_n 2, 1) := by decide +kernel
theorem dX5_readBody_85 : decode cX5_readBody 85 = .ok (.iastore, 1) := by decide +kernel
theorem dX5_readBody_86 : decode cX5_readBody 86 = .ok (.iload_n 1, 1) := by decide +kernel
theorem dX5_readBody_87 : decode cX5_readBody 87 = .ok (.ifCond .ne 7, 3) := by decide +kernel
theorem dX5_readBody_90 : decode cX5_readBody 90 = .ok (.iconst 1, 1) := by decide +kernel
theorem dX5_readBody_91 : decode cX5_readBody 91 = .ok (.goto 4, 3) := by decide +kernel
theorem dX5_readBody_94 : decode cX5_readBody 94 = .ok (.iconst 0, 1) := by decide +kernel
theorem dX5_readBody_95 : decode cX5_readBody 95 = .ok (.ireturn, 1) := by decide +kernel
set_option maxRecDepth 20000 in
theorem ggX6_init_X7_init : GoodIn wsX6_init wsX7_init := goodIn_r _ [4, 5, 6, 7, 8, 9, 10, 11, 12, 13, 14, 15, 16, 17, 18, 19, 20, 21, 22, 23, 24, 25, 3, 26, 27, 28, 29, 30, 31, 32, 33, 34, 35, 36, 37, 38, 39, 40, 41, 42, 43, 44, 45, 46, 47, 48, 49, 50, 51, 52, 53, 54, 55, 56, 57, 58, 59, 60, 61, 62, 63, 64, 65, 66, 67] rfl (by decide +kernel)
set_option maxRecDepth 20000 in
theorem gX6_init_X7_init : GoodIn wsX6_init (wsX7_init) := ggX6_init_X7_init
theorem dX6_init_0 : decode cX6_init 0 = .ok (.aload_n 0, 1) := by decide +kernel
theorem dX6_init_1 : decode cX6_init 1 = .ok (.iconst 5, 1) := by decide +kernel
theorem dX6_init_2 : decode cX6_init 2 = .ok (.iconst 4, 1) := by decide +kernel
theorem dX6_init_3 : decode cX6_init 3 = .ok (.iconst 0, 1) := by decide +kernel
theorem dX6_init_4 : decode cX6_init 4 = .ok (.iconst 1, 1) := by decide +kernel
theorem dX6_init_5 : decode cX6_init 5 = .ok (.invokespecial 3, 3) := by decide +kernel
theorem dX6_init_8 : decode cX6_init 8 = .ok (.return_, 1) := by decide +kernel
theorem dX6_less_0 : decode cX6_less 0 = .ok (.iload_n 1, 1) := by decide +kernel
theorem dX6_less_1 : decode cX6_less 1 = .ok (.iconst 1, 1) := by decide +kernel
theorem dX6_less_2 : decode cX6_less 2 = .ok (.isub, 1) := by decide +kernel
theorem dX6_less_3 : decode cX6_less 3 = .ok (.iconst 0, 1) := by decide +kernel
theorem dX6_less_4 : decode cX6_less 4 = .ok (.invokestatic 9, 3) := by decide +kernel
theorem dX6_less_7 : decode cX6_less 7 = .ok (.ireturn, 1) := by decide +kernel
theorem dX6_sum_0 : decode cX6_sum 0 = .ok (.iload_n 1, 1) := by decide +kernel
theorem dX6_sum_1 : decode cX6_sum 1 = .ok (.iload_n 2, 1) := by decide +kernel
theorem dX6_sum_2 : decode cX6_sum 2 = .ok (.iadd, 1) := by decide +kernel
theorem dX6_sum_3 : decode cX6_sum 3 = .ok (.iconst 3, 1) := by decide +kernel
theorem dX6_sum_4 : decode cX6_sum 4 = .ok (.iand, 1) := by decide +kernel
theorem dX6_sum_5 : decode cX6_sum 5 = .ok (.ireturn, 1) := by decide +kernel
theorem dX6_chosen_0 : decode cX6_chosen 0 = .ok (.iload_n 1, 1) := by decide +kernel
theorem dX6_chosen_1 : decode cX6_chosen 1 = .ok (.ifCond .ne 7, 3) := by decide +kernel
theorem dX6_chosen_4 : decode cX6_chosen 4 = .ok (.iload_n 3, 1) := by decide +kernel
theorem dX6_chosen_5 : decode cX6_chosen 5 = .ok (.goto 4, 3) := by decide +kernel
theorem dX6_chosen_8 : decode cX6_chosen 8 = .ok (.iload_n 2, 1) := by decide +kernel
theorem dX6_chosen_9 : decode cX6_chosen 9 = .ok (.ireturn, 1) := by decide +kernel
theorem dX6_mayGrow_0 : decode cX6_mayGrow 0 = .ok (.iload_n 1, 1) := by decide +kernel
theorem dX6_mayGrow_1 : decode cX6_mayGrow 1 = .ok (.iconst 4, 1) := by decide +kernel
theorem dX6_mayGrow_2 : decode cX6_mayGrow 2 = .ok (.if_icmp .ne 7, 3) := by decide +kernel
theorem dX6_mayGrow_5 : decode cX6_mayGrow 5 = .ok (.iconst 1, 1) := by decide +kernel
theorem dX6_mayGrow_6 : decode cX6_mayGrow 6 = .ok (.goto 4, 3) := by decide +kernel
theorem dX6_mayGrow_9 : decode cX6_mayGrow 9 = .ok (.iconst 0, 1) := by decide +kernel
theorem dX6_mayGrow_10 : decode cX6_mayGrow 10 = .ok (.ireturn, 1) := by decide +kernel
set_option maxRecDepth 20000 in
theorem ggX7_init_X7_countUp : GoodIn wsX7_init wsX7_countUp := goodIn_r _ [23, 13, 8, 26, 27, 28, 29, 30, 31, 32, 33, 34, 35, 36, 37, 38, 39, 40, 41, 42, 43, 44, 45, 46, 47, 48, 49, 50, 51, 52, 53, 54, 55, 56, 57, 58, 59, 60, 61, 62, 63, 64] rfl (by decide +kernel)
set_option maxRecDepth 20000 in
theorem gX7_init_X7_countUp_u39X0 : GoodIn wsX7_init (va_wsU RX7 39 RX0 "EarlyValues$View" ⟨"EarlyValues$View", "countUp", "(I)V"⟩ yX7_countUp wsX7_countUp) := goodIn_app (goodIn_of _ (by decide +kernel)) ggX7_init_X7_countUp
set_option maxRecDepth 20000 in
theorem gX7_init_X7_countUp_u39X4 : GoodIn wsX7_init (va_wsU RX7 39 RX4 "EarlyValues$View" ⟨"EarlyValues$View", "countUp", "(I)V"⟩ yX7_countUp wsX7_countUp) := goodIn_app (goodIn_of _ (by decide +kernel)) ggX7_init_X7_countUp
set_option maxRecDepth 20000 in
theorem gX7_init_X7_countUp_u39X6 : GoodIn wsX7_init (va_wsU RX7 39 RX6 "EarlyValues$View" ⟨"EarlyValues$View", "countUp", "(I)V"⟩ yX7_countUp wsX7_countUp) := goodIn_app (goodIn_of _ (by decide +kernel)) ggX7_init_X7_countUp
theorem dX7_init_0 : decode cX7_init 0 = .ok (.aload_n 0, 1) := by decide +kernel
theorem dX7_init_1 : decode cX7_init 1 = .ok (.invokespecial 1, 3) := by decide +kernel
theorem dX7_init_4 : decode cX7_init 4 = .ok (.aload_n 0, 1) := by decide +kernel
theorem dX7_init_5 : decode cX7_init 5 = .ok (.iconst 4, 1) := by decide +kernel
theorem dX7_init_6 : decode cX7_init 6 = .ok (.newarray .int, 2) := by decide +kernel
theorem dX7_init_8 : decode cX7_init 8 = .ok (.putfield 9, 3) := by decide +kernel
theorem dX7_init_11 : decode cX7_init 11 = .ok (.aload_n 0, 1) := by decide +kernel
theorem dX7_init_12 : decode cX7_init 12 = .ok (.iconst 3, 1) := by decide +kernel
theorem dX7_init_13 : decode cX7_init 13 = .ok (.newarray .int, 2) := by decide +kernel
theorem dX7_init_15 : decode cX7_init 15 = .ok (.putfield 15, 3) := by decide +kernel
theorem dX7_init_18 : decode cX7_init 18 = .ok (.aload_n 0, 1) := by decide +kernel
theorem dX7_init_19 : decode cX7_init 19 = .ok (.bipush 24, 2) := by decide +kernel
theorem dX7_init_21 : decode cX7_init 21 = .ok (.newarray .int, 2) := by decide +kernel
theorem dX7_init_23 : decode cX7_init 23 = .ok (.putfield 18, 3) := by decide +kernel
theorem dX7_init_26 : decode cX7_init 26 = .ok (.aload_n 0, 1) := by decide +kernel
theorem dX7_init_27 : decode cX7_init 27 = .ok (.iload_n 1, 1) := by decide +kernel
theorem dX7_init_28 : decode cX7_init 28 = .ok (.putfield 21, 3) := by decide +kernel
theorem dX7_init_31 : decode cX7_init 31 = .ok (.aload_n 0, 1) := by decide +kernel
theorem dX7_init_32 : decode cX7_init 32 = .ok (.iload_n 2, 1) := by decide +kernel
theorem dX7_init_33 : decode cX7_init 33 = .ok (.putfield 25, 3) := by decide +kernel
theorem dX7_init_36 : decode cX7_init 36 = .ok (.aload_n 0, 1) := by decide +kernel
theorem dX7_init_37 : decode cX7_init 37 = .ok (.iload_n 3, 1) := by decide +kernel
theorem dX7_init_38 : decode cX7_init 38 = .ok (.putfield 28, 3) := by decide +kernel
theorem dX7_init_41 : decode cX7_init 41 = .ok (.aload_n 0, 1) := by decide +kernel
theorem dX7_init_42 : decode cX7_init 42 = .ok (.iload 4, 2) := by decide +kernel
theorem dX7_init_44 : decode cX7_init 44 = .ok (.putfield 31, 3) := by decide +kernel
theorem dX7_init_47 : decode cX7_init 47 = .ok (.aload_n 0, 1) := by decide +kernel
theorem dX7_init_48 : decode cX7_init 48 = .ok (.getfield 9, 3) := by decide +kernel
theorem dX7_init_51 : decode cX7_init 51 = .ok (.iconst 0, 1) := by decide +kernel
theorem dX7_init_52 : decode cX7_init 52 = .ok (.iconst 1, 1) := by decide +kernel
theorem dX7_init_53 : decode cX7_init 53 = .ok (.iastore, 1) := by decide +kernel
theorem dX7_init_54 : decode cX7_init 54 = .ok (.iconst 1, 1) := by decide +kernel
theorem dX7_init_55 : decode cX7_init 55 = .ok (.istore 5, 2) := by decide +kernel
theorem dX7_init_57 : decode cX7_init 57 = .ok (.iload 5, 2) := by decide +kernel
theorem dX7_init_59 : decode cX7_init 59 = .ok (.aload_n 0, 1) := by decide +kernel
theorem dX7_init_60 : decode cX7_init 60 = .ok (.getfield 9, 3) := by decide +kernel
theorem dX7_init_63 : decode cX7_init 63 = .ok (.arraylength, 1) := by decide +kernel
theorem dX7_init_64 : decode cX7_init 64 = .ok (.if_icmp .ge 27, 3) := by decide +kernel
theorem dX7_init_67 : decode cX7_init 67 = .ok (.aload_n 0, 1) := by decide +kernel
theorem dX7_init_68 : decode cX7_init 68 = .ok (.getfield 9, 3) := by decide +kernel
theorem dX7_init_71 : decode cX7_init 71 = .ok (.iload 5, 2) := by decide +kernel
theorem dX7_init_73 : decode cX7_init 73 = .ok (.aload_n 0, 1) := by decide +kernel
theorem dX7_init_74 : decode cX7_init 74 = .ok (.getfield 9, 3) := by decide +kernel
theorem dX7_init_77 : decode cX7_init 77 = .ok (.iload 5, 2) := by decide +kernel
theorem dX7_init_79 : decode cX7_init 79 = .ok (.iconst 1, 1) := by decide +kernel
theorem dX7_init_80 : decode cX7_init 80 = .ok (.isub, 1) := by decide +kernel
theorem dX7_init_81 : decode cX7_init 81 = .ok (.iaload, 1) := by decide +kernel
theorem dX7_init_82 : decode cX7_init 82 = .ok (.iload_n 1, 1) := by decide +kernel
theorem dX7_init_83 : decode cX7_init 83 = .ok (.imul, 1) := by decide +kernel
theorem dX7_init_84 : decode cX7_init 84 = .ok (.iastore, 1) := by decide +kernel
theorem dX7_init_85 : decode cX7_init 85 = .ok (.iinc 5 1, 3) := by decide +kernel
theorem dX7_init_88 : decode cX7_init 88 = .ok (.goto (-31), 3) := by decide +kernel
theorem dX7_init_91 : decode cX7_init 91 = .ok (.aload_n 0, 1) := by decide +kernel
theorem dX7_init_92 : decode cX7_init 92 = .ok (.getfield 9, 3) := by decide +kernel
theorem dX7_init_95 : decode cX7_init 95 = .ok (.iconst 3, 1) := by decide +kernel
theorem dX7_init_96 : decode cX7_init 96 = .ok (.iaload, 1) := by decide +kernel
theorem dX7_init_97 : decode cX7_init 97 = .ok (.istore 5, 2) := by decide +kernel
theorem dX7_init_99 : decode cX7_init 99 = .ok (.aload_n 0, 1) := by decide +kernel
theorem dX7_init_100 : decode cX7_init 100 = .ok (.iconst 3, 1) := by decide +kernel
theorem dX7_init_101 : decode cX7_init 101 = .ok (.iload 5, 2) := by decide +kernel
theorem dX7_init_103 : decode cX7_init 103 = .ok (.multianewarray 34 2, 4) := by decide +kernel
theorem dX7_init_107 : decode cX7_init 107 = .ok (.putfield 36, 3) := by decide +kernel
theorem dX7_init_110 : decode cX7_init 110 = .ok (.iconst 1, 1) := by decide +kernel
theorem dX7_init_111 : decode cX7_init 111 = .ok (.istore 6, 2) := by decide +kernel
theorem dX7_init_113 : decode cX7_init 113 = .ok (.iload 6, 2) := by decide +kernel
theorem dX7_init_115 : decode cX7_init 115 = .ok (.iload 5, 2) := by decide +kernel
theorem dX7_init_117 : decode cX7_init 117 = .ok (.if_icmp .ge 15, 3) := by decide +kernel
theorem dX7_init_120 : decode cX7_init 120 = .ok (.aload_n 0, 1) := by decide +kernel
theorem dX7_init_121 : decode cX7_init 121 = .ok (.iload 6, 2) := by decide +kernel
theorem dX7_init_123 : decode cX7_init 123 = .ok (.invokevirtual 39, 3) := by decide +kernel
theorem dX7_init_126 : decode cX7_init 126 = .ok (.iinc 6 1, 3) := by decide +kernel
theorem dX7_init_129 : decode cX7_init 129 = .ok (.goto (-16), 3) := by decide +kernel
theorem dX7_init_132 : decode cX7_init 132 = .ok (.aload_n 0, 1) := by decide +kernel
theorem dX7_init_133 : decode cX7_init 133 = .ok (.iconst 4, 1) := by decide +kernel
theorem dX7_init_134 : decode cX7_init 134 = .ok (.iload 5, 2) := by decide +kernel
theorem dX7_init_136 : decode cX7_init 136 = .ok (.multianewarray 43 2, 4) := by decide +kernel
theorem dX7_init_140 : decode cX7_init 140 = .ok (.putfield 45, 3) := by decide +kernel
theorem dX7_init_143 : decode cX7_init 143 = .ok (.aload_n 0, 1) := by decide +kernel
theorem dX7_init_144 : decode cX7_init 144 = .ok (.iconst 4, 1) := by decide +kernel
theorem dX7_init_145 : decode cX7_init 145 = .ok (.iload 5, 2) := by decide +kernel
theorem dX7_init_147 : decode cX7_init 147 = .ok (.multianewarray 43 2, 4) := by decide +kernel
theorem dX7_init_151 : decode cX7_init 151 = .ok (.putfield 48, 3) := by decide +kernel
theorem dX7_init_154 : decode cX7_init 154 = .ok (.return_, 1) := by decide +kernel
theorem dX7_countUp_0 : decode cX7_countUp 0 = .ok (.iconst 1, 1) := by decide +kernel
theorem dX7_countUp_1 : decode cX7_countUp 1 = .ok (.istore_n 2, 1) := by decide +kernel
theorem dX7_countUp_2 : decode cX7_countUp 2 = .ok (.iconst 0, 1) := by decide +kernel
theorem dX7_countUp_3 : decode cX7_countUp 3 = .ok (.istore_n 3, 1) := by decide +kernel
theorem dX7_countUp_4 : decode cX7_countUp 4 = .ok (.iload_n 3, 1) := by decide +kernel
theorem dX7_countUp_5 : decode cX7_countUp 5 = .ok (.iconst 3, 1) := by decide +kernel
theorem dX7_countUp_6 : decode cX7_countUp 6 = .ok (.if_icmp .ge 64, 3) := by decide +kernel
theorem dX7_countUp_9 : decode cX7_countUp 9 = .ok (.aload_n 0, 1) := by decide +kernel
theorem dX7_countUp_10 : decode cX7_countUp 10 = .ok (.getfield 36, 3) := by decide +kernel
theorem dX7_countUp_13 : decode cX7_countUp 13 = .ok (.iload_n 3, 1) := by decide +kernel
theorem dX7_countUp_14 : decode cX7_countUp 14 = .ok (.aaload, 1) := by decide +kernel
theorem dX7_countUp_15 : decode cX7_countUp 15 = .ok (.iload_n 1, 1) := by decide +kernel
theorem dX7_countUp_16 : decode cX7_countUp 16 = .ok (.iconst 1, 1) := by decide +kernel
theorem dX7_countUp_17 : decode cX7_countUp 17 = .ok (.isub, 1) := by decide +kernel
theorem dX7_countUp_18 : decode cX7_countUp 18 = .ok (.iaload, 1) := by decide +kernel
theorem dX7_countUp_19 : decode cX7_countUp 19 = .ok (.iload_n 2, 1) := by decide +kernel
theorem dX7_countUp_20 : decode cX7_countUp 20 = .ok (.ifCond .eq 7, 3) := by decide +kernel
theorem dX7_countUp_23 : decode cX7_countUp 23 = .ok (.iconst 1, 1) := by decide +kernel
theorem dX7_countUp_24 : decode cX7_countUp 24 = .ok (.goto 4, 3) := by decide +kernel
theorem dX7_countUp_27 : decode cX7_countUp 27 = .ok (.iconst 0, 1) := by decide +kernel
theorem dX7_countUp_28 : decode cX7_countUp 28 = .ok (.iadd, 1) := by decide +kernel
theorem dX7_countUp_29 : decode cX7_countUp 29 = .ok (.istore 4, 2) := by decide +kernel
theorem dX7_countUp_31 : decode cX7_countUp 31 = .ok (.iload 4, 2) := by decide +kernel
theorem dX7_countUp_33 : decode cX7_countUp 33 = .ok (.aload_n 0, 1) := by decide +kernel
theorem dX7_countUp_34 : decode cX7_countUp 34 = .ok (.getfield 21, 3) := by decide +kernel
theorem dX7_countUp_37 : decode cX7_countUp 37 = .ok (.if_icmp .ne 7, 3) := by decide +kernel
theorem dX7_countUp_40 : decode cX7_countUp 40 = .ok (.iconst 1, 1) := by decide +kernel
theorem dX7_countUp_41 : decode cX7_countUp 41 = .ok (.goto 4, 3) := by decide +kernel
theorem dX7_countUp_44 : decode cX7_countUp 44 = .ok (.iconst 0, 1) := by decide +kernel
theorem dX7_countUp_45 : decode cX7_countUp 45 = .ok (.istore_n 2, 1) := by decide +kernel
theorem dX7_countUp_46 : decode cX7_countUp 46 = .ok (.aload_n 0, 1) := by decide +kernel
theorem dX7_countUp_47 : decode cX7_countUp 47 = .ok (.getfield 36, 3) := by decide +kernel
theorem dX7_countUp_50 : decode cX7_countUp 50 = .ok (.iload_n 3, 1) := by decide +kernel
theorem dX7_countUp_51 : decode cX7_countUp 51 = .ok (.aaload, 1) := by decide +kernel
theorem dX7_countUp_52 : decode cX7_countUp 52 = .ok (.iload_n 1, 1) := by decide +kernel
theorem dX7_countUp_53 : decode cX7_countUp 53 = .ok (.iload_n 2, 1) := by decide +kernel
theorem dX7_countUp_54 : decode cX7_countUp 54 = .ok (.ifCond .eq 7, 3) := by decide +kernel
theorem dX7_countUp_57 : decode cX7_countUp 57 = .ok (.iconst 0, 1) := by decide +kernel
theorem dX7_countUp_58 : decode cX7_countUp 58 = .ok (.goto 5, 3) := by decide +kernel
theorem dX7_countUp_61 : decode cX7_countUp 61 = .ok (.iload 4, 2) := by decide +kernel
theorem dX7_countUp_63 : decode cX7_countUp 63 = .ok (.iastore, 1) := by decide +kernel
theorem dX7_countUp_64 : decode cX7_countUp 64 = .ok (.iinc 3 1, 3) := by decide +kernel
theorem dX7_countUp_67 : decode cX7_countUp 67 = .ok (.goto (-63), 3) := by decide +kernel
theorem dX7_countUp_70 : decode cX7_countUp 70 = .ok (.return_, 1) := by decide +kernel
set_option maxRecDepth 20000 in
theorem ggX7_rowsOf_X3_has : GoodIn wsX7_rowsOf wsX3_has := goodIn_r _ [7, 8, 48, 49, 50, 51, 52] rfl (by decide +kernel)
set_option maxRecDepth 20000 in
theorem gX7_rowsOf_X3_has : GoodIn wsX7_rowsOf (wsV RX7 51 RX3 yX3_has wsX3_has) := goodIn_app (goodIn_of _ (by decide +kernel)) ggX7_rowsOf_X3_has
theorem dX7_rowsOf_0 : decode cX7_rowsOf 0 = .ok (.aload_n 1, 1) := by decide +kernel
theorem dX7_rowsOf_1 : decode cX7_rowsOf 1 = .ok (.iload_n 2, 1) := by decide +kernel
theorem dX7_rowsOf_2 : decode cX7_rowsOf 2 = .ok (.invokevirtual 51, 3) := by decide +kernel
theorem dX7_rowsOf_5 : decode cX7_rowsOf 5 = .ok (.ifCond .eq 17, 3) := by decide +kernel
theorem dX7_rowsOf_8 : decode cX7_rowsOf 8 = .ok (.aload_n 0, 1) := by decide +kernel
theorem dX7_rowsOf_9 : decode cX7_rowsOf 9 = .ok (.getfield 9, 3) := by decide +kernel
theorem dX7_rowsOf_12 : decode cX7_rowsOf 12 = .ok (.aload_n 1, 1) := by decide +kernel
theorem dX7_rowsOf_13 : decode cX7_rowsOf 13 = .ok (.getfield 55, 3) := by decide +kernel
theorem dX7_rowsOf_16 : decode cX7_rowsOf 16 = .ok (.iload_n 2, 1) := by decide +kernel
theorem dX7_rowsOf_17 : decode cX7_rowsOf 17 = .ok (.iaload, 1) := by decide +kernel
theorem dX7_rowsOf_18 : decode cX7_rowsOf 18 = .ok (.iaload, 1) := by decide +kernel
theorem dX7_rowsOf_19 : decode cX7_rowsOf 19 = .ok (.goto 4, 3) := by decide +kernel
theorem dX7_rowsOf_22 : decode cX7_rowsOf 22 = .ok (.iconst 0, 1) := by decide +kernel
theorem dX7_rowsOf_23 : decode cX7_rowsOf 23 = .ok (.ireturn, 1) := by decide +kernel
set_option maxRecDepth 20000 in
theorem ggX7_rowOf_X3_has : GoodIn wsX7_rowOf wsX3_has := goodIn_r _ [6, 7, 64, 65, 66, 67, 68] rfl (by decide +kernel)
set_option maxRecDepth 20000 in
theorem gX7_rowOf_X3_has : GoodIn wsX7_rowOf (wsV RX7 51 RX3 yX3_has wsX3_has) := goodIn_app (goodIn_of _ (by decide +kernel)) ggX7_rowOf_X3_has
set_option maxRecDepth 20000 in
theorem ggX7_rowOf_X7_isDigit : GoodIn wsX7_rowOf wsX7_isDigit := goodIn_r _ [13, 14, 25, 26, 27, 28, 29, 30, 31, 32, 33, 34, 35, 36, 37, 38, 39, 40, 41, 42, 43, 44, 45, 46, 47, 48, 49, 50, 51, 52, 53, 54, 55, 56, 57, 58, 59, 60, 61, 62, 63] rfl (by decide +kernel)
set_option maxRecDepth 20000 in
theorem gX7_rowOf_X7_isDigit_u58X0 : GoodIn wsX7_rowOf (va_wsU RX7 58 RX0 "EarlyValues$View" ⟨"EarlyValues$View", "isDigit", "(I)Z"⟩ yX7_isDigit wsX7_isDigit) := goodIn_app (goodIn_of _ (by decide +kernel)) ggX7_rowOf_X7_isDigit
set_option maxRecDepth 20000 in
theorem gX7_rowOf_X7_isDigit_u58X4 : GoodIn wsX7_rowOf (va_wsU RX7 58 RX4 "EarlyValues$View" ⟨"EarlyValues$View", "isDigit", "(I)Z"⟩ yX7_isDigit wsX7_isDigit) := goodIn_app (goodIn_of _ (by decide +kernel)) ggX7_rowOf_X7_isDigit
set_option maxRecDepth 20000 in
theorem gX7_rowOf_X7_isDigit_u58X6 : GoodIn wsX7_rowOf (va_wsU RX7 58 RX6 "EarlyValues$View" ⟨"EarlyValues$View", "isDigit", "(I)Z"⟩ yX7_isDigit wsX7_isDigit) := goodIn_app (goodIn_of _ (by decide +kernel)) ggX7_rowOf_X7_isDigit
set_option maxRecDepth 20000 in
theorem ggX7_rowOf_X7_rowsOf : GoodIn wsX7_rowOf wsX7_rowsOf := goodIn_r _ [21, 1, 22, 2, 3, 4, 5, 6, 7, 25, 26, 27, 28, 29, 30, 31, 32, 33, 34, 35, 36, 37, 38, 39, 40, 41, 42, 43, 44, 45, 46, 47, 48, 49, 50, 51, 52, 53, 54, 55, 56, 57, 58, 59, 60, 61, 62, 63, 64, 65, 66, 67, 68] rfl (by decide +kernel)
set_option maxRecDepth 20000 in
theorem gX7_rowOf_X7_rowsOf_u61X0 : GoodIn wsX7_rowOf (va_wsU RX7 61 RX0 "EarlyValues$View" ⟨"EarlyValues$View", "rowsOf", "(LEarlyValues$Program;I)I"⟩ yX7_rowsOf wsX7_rowsOf) := goodIn_app (goodIn_of _ (by decide +kernel)) ggX7_rowOf_X7_rowsOf
set_option maxRecDepth 20000 in
theorem gX7_rowOf_X7_rowsOf_u61X4 : GoodIn wsX7_rowOf (va_wsU RX7 61 RX4 "EarlyValues$View" ⟨"EarlyValues$View", "rowsOf", "(LEarlyValues$Program;I)I"⟩ yX7_rowsOf wsX7_rowsOf) := goodIn_app (goodIn_of _ (by decide +kernel)) ggX7_rowOf_X7_rowsOf
set_option maxRecDepth 20000 in
theorem gX7_rowOf_X7_rowsOf_u61X6 : GoodIn wsX7_rowOf (va_wsU RX7 61 RX6 "EarlyValues$View" ⟨"EarlyValues$View", "rowsOf", "(LEarlyValues$Program;I)I"⟩ yX7_rowsOf wsX7_rowsOf) := goodIn_app (goodIn_of _ (by decide +kernel)) ggX7_rowOf_X7_rowsOf
theorem dX7_rowOf_0 : decode cX7_rowOf 0 = .ok (.aload_n 1, 1) := by decide +kernel
theorem dX7_rowOf_1 : decode cX7_rowOf 1 = .ok (.iload_n 2, 1) := by decide +kernel
theorem dX7_rowOf_2 : decode cX7_rowOf 2 = .ok (.invokevirtual 51, 3) := by decide +kernel
theorem dX7_rowOf_5 : decode cX7_rowOf 5 = .ok (.ifCond .eq 29, 3) := by decide +kernel
theorem dX7_rowOf_8 : decode cX7_rowOf 8 = .ok (.aload_n 0, 1) := by decide +kernel
theorem dX7_rowOf_9 : decode cX7_rowOf 9 = .ok (.iload_n 3, 1) := by decide +kernel
theorem dX7_rowOf_10 : decode cX7_rowOf 10 = .ok (.invokevirtual 58, 3) := by decide +kernel
theorem dX7_rowOf_13 : decode cX7_rowOf 13 = .ok (.ifCond .eq 21, 3) := by decide +kernel
theorem dX7_rowOf_16 : decode cX7_rowOf 16 = .ok (.aload_n 0, 1) := by decide +kernel
theorem dX7_rowOf_17 : decode cX7_rowOf 17 = .ok (.iload 4, 2) := by decide +kernel
theorem dX7_rowOf_19 : decode cX7_rowOf 19 = .ok (.invokevirtual 58, 3) := by decide +kernel
theorem dX7_rowOf_22 : decode cX7_rowOf 22 = .ok (.ifCond .eq 12, 3) := by decide +kernel
theorem dX7_rowOf_25 : decode cX7_rowOf 25 = .ok (.aload_n 0, 1) := by decide +kernel
theorem dX7_rowOf_26 : decode cX7_rowOf 26 = .ok (.iload 5, 2) := by decide +kernel
theorem dX7_rowOf_28 : decode cX7_rowOf 28 = .ok (.invokevirtual 58, 3) := by decide +kernel
theorem dX7_rowOf_31 : decode cX7_rowOf 31 = .ok (.ifCond .ne 5, 3) := by decide +kernel
theorem dX7_rowOf_34 : decode cX7_rowOf 34 = .ok (.iconst (-1), 1) := by decide +kernel
theorem dX7_rowOf_35 : decode cX7_rowOf 35 = .ok (.ireturn, 1) := by decide +kernel
theorem dX7_rowOf_36 : decode cX7_rowOf 36 = .ok (.iload_n 3, 1) := by decide +kernel
theorem dX7_rowOf_37 : decode cX7_rowOf 37 = .ok (.aload_n 0, 1) := by decide +kernel
theorem dX7_rowOf_38 : decode cX7_rowOf 38 = .ok (.getfield 9, 3) := by decide +kernel
theorem dX7_rowOf_41 : decode cX7_rowOf 41 = .ok (.iconst 1, 1) := by decide +kernel
theorem dX7_rowOf_42 : decode cX7_rowOf 42 = .ok (.iaload, 1) := by decide +kernel
theorem dX7_rowOf_43 : decode cX7_rowOf 43 = .ok (.iload 4, 2) := by decide +kernel
theorem dX7_rowOf_45 : decode cX7_rowOf 45 = .ok (.imul, 1) := by decide +kernel
theorem dX7_rowOf_46 : decode cX7_rowOf 46 = .ok (.iadd, 1) := by decide +kernel
theorem dX7_rowOf_47 : decode cX7_rowOf 47 = .ok (.aload_n 0, 1) := by decide +kernel
theorem dX7_rowOf_48 : decode cX7_rowOf 48 = .ok (.getfield 9, 3) := by decide +kernel
theorem dX7_rowOf_51 : decode cX7_rowOf 51 = .ok (.iconst 2, 1) := by decide +kernel
theorem dX7_rowOf_52 : decode cX7_rowOf 52 = .ok (.iaload, 1) := by decide +kernel
theorem dX7_rowOf_53 : decode cX7_rowOf 53 = .ok (.iload 5, 2) := by decide +kernel
theorem dX7_rowOf_55 : decode cX7_rowOf 55 = .ok (.imul, 1) := by decide +kernel
theorem dX7_rowOf_56 : decode cX7_rowOf 56 = .ok (.iadd, 1) := by decide +kernel
theorem dX7_rowOf_57 : decode cX7_rowOf 57 = .ok (.istore 6, 2) := by decide +kernel
theorem dX7_rowOf_59 : decode cX7_rowOf 59 = .ok (.iload 6, 2) := by decide +kernel
theorem dX7_rowOf_61 : decode cX7_rowOf 61 = .ok (.aload_n 0, 1) := by decide +kernel
theorem dX7_rowOf_62 : decode cX7_rowOf 62 = .ok (.aload_n 1, 1) := by decide +kernel
theorem dX7_rowOf_63 : decode cX7_rowOf 63 = .ok (.iload_n 2, 1) := by decide +kernel
theorem dX7_rowOf_64 : decode cX7_rowOf 64 = .ok (.invokevirtual 61, 3) := by decide +kernel
theorem dX7_rowOf_67 : decode cX7_rowOf 67 = .ok (.if_icmp .ge 8, 3) := by decide +kernel
theorem dX7_rowOf_70 : decode cX7_rowOf 70 = .ok (.iload 6, 2) := by decide +kernel
theorem dX7_rowOf_72 : decode cX7_rowOf 72 = .ok (.goto 4, 3) := by decide +kernel
theorem dX7_rowOf_75 : decode cX7_rowOf 75 = .ok (.iconst (-1), 1) := by decide +kernel
theorem dX7_rowOf_76 : decode cX7_rowOf 76 = .ok (.ireturn, 1) := by decide +kernel
theorem dX7_isDigit_0 : decode cX7_isDigit 0 = .ok (.iload_n 1, 1) := by decide +kernel
theorem dX7_isDigit_1 : decode cX7_isDigit 1 = .ok (.ifCond .lt 15, 3) := by decide +kernel
theorem dX7_isDigit_4 : decode cX7_isDigit 4 = .ok (.iload_n 1, 1) := by decide +kernel
theorem dX7_isDigit_5 : decode cX7_isDigit 5 = .ok (.aload_n 0, 1) := by decide +kernel
theorem dX7_isDigit_6 : decode cX7_isDigit 6 = .ok (.getfield 21, 3) := by decide +kernel
theorem dX7_isDigit_9 : decode cX7_isDigit 9 = .ok (.if_icmp .ge 7, 3) := by decide +kernel
theorem dX7_isDigit_12 : decode cX7_isDigit 12 = .ok (.iconst 1, 1) := by decide +kernel
theorem dX7_isDigit_13 : decode cX7_isDigit 13 = .ok (.goto 4, 3) := by decide +kernel
theorem dX7_isDigit_16 : decode cX7_isDigit 16 = .ok (.iconst 0, 1) := by decide +kernel
theorem dX7_isDigit_17 : decode cX7_isDigit 17 = .ok (.ireturn, 1) := by decide +kernel
theorem dX7_at_0 : decode cX7_at 0 = .ok (.iload_n 1, 1) := by decide +kernel
theorem dX7_at_1 : decode cX7_at 1 = .ok (.ifCond .lt 31, 3) := by decide +kernel
theorem dX7_at_4 : decode cX7_at 4 = .ok (.iload_n 1, 1) := by decide +kernel
theorem dX7_at_5 : decode cX7_at 5 = .ok (.aload_n 0, 1) := by decide +kernel
theorem dX7_at_6 : decode cX7_at 6 = .ok (.getfield 45, 3) := by decide +kernel
theorem dX7_at_9 : decode cX7_at 9 = .ok (.arraylength, 1) := by decide +kernel
theorem dX7_at_10 : decode cX7_at 10 = .ok (.if_icmp .ge 22, 3) := by decide +kernel
theorem dX7_at_13 : decode cX7_at 13 = .ok (.iload_n 2, 1) := by decide +kernel
theorem dX7_at_14 : decode cX7_at 14 = .ok (.ifCond .lt 18, 3) := by decide +kernel
theorem dX7_at_17 : decode cX7_at 17 = .ok (.iload_n 2, 1) := by decide +kernel
theorem dX7_at_18 : decode cX7_at 18 = .ok (.aload_n 0, 1) := by decide +kernel
theorem dX7_at_19 : decode cX7_at 19 = .ok (.getfield 45, 3) := by decide +kernel
theorem dX7_at_22 : decode cX7_at 22 = .ok (.iload_n 1, 1) := by decide +kernel
theorem dX7_at_23 : decode cX7_at 23 = .ok (.aaload, 1) := by decide +kernel
theorem dX7_at_24 : decode cX7_at 24 = .ok (.arraylength, 1) := by decide +kernel
theorem dX7_at_25 : decode cX7_at 25 = .ok (.if_icmp .ge 7, 3) := by decide +kernel
theorem dX7_at_28 : decode cX7_at 28 = .ok (.iconst 1, 1) := by decide +kernel
theorem dX7_at_29 : decode cX7_at 29 = .ok (.goto 4, 3) := by decide +kernel
theorem dX7_at_32 : decode cX7_at 32 = .ok (.iconst 0, 1) := by decide +kernel
theorem dX7_at_33 : decode cX7_at 33 = .ok (.istore_n 3, 1) := by decide +kernel
theorem dX7_at_34 : decode cX7_at 34 = .ok (.iload_n 3, 1) := by decide +kernel
theorem dX7_at_35 : decode cX7_at 35 = .ok (.ifCond .eq 14, 3) := by decide +kernel
theorem dX7_at_38 : decode cX7_at 38 = .ok (.aload_n 0, 1) := by decide +kernel
theorem dX7_at_39 : decode cX7_at 39 = .ok (.getfield 45, 3) := by decide +kernel
theorem dX7_at_42 : decode cX7_at 42 = .ok (.iload_n 1, 1) := by decide +kernel
theorem dX7_at_43 : decode cX7_at 43 = .ok (.aaload, 1) := by decide +kernel
theorem dX7_at_44 : decode cX7_at 44 = .ok (.iload_n 2, 1) := by decide +kernel
theorem dX7_at_45 : decode cX7_at 45 = .ok (.baload, 1) := by decide +kernel
theorem dX7_at_46 : decode cX7_at 46 = .ok (.goto 7, 3) := by decide +kernel
theorem dX7_at_49 : decode cX7_at 49 = .ok (.aload_n 0, 1) := by decide +kernel
theorem dX7_at_50 : decode cX7_at 50 = .ok (.getfield 25, 3) := by decide +kernel
theorem dX7_at_53 : decode cX7_at 53 = .ok (.ireturn, 1) := by decide +kernel
set_option maxRecDepth 20000 in
theorem ggX7_solve_X7_begin : GoodIn wsX7_solve wsX7_begin := goodIn_r _ [8, 9, 10, 11, 12, 13, 14, 149, 150, 151, 152, 153, 154, 155, 156, 157, 158, 159, 160, 161, 162, 163, 164, 165, 166, 167, 168, 169, 170, 171, 172, 173, 174, 175, 176, 177, 178, 179, 180, 181, 182, 183, 184, 185, 186, 187] rfl (by decide +kernel)
set_option maxRecDepth 20000 in
theorem gX7_solve_X7_begin_u65X0 : GoodIn wsX7_solve (va_wsU RX7 65 RX0 "EarlyValues$View" ⟨"EarlyValues$View", "begin", "()V"⟩ yX7_begin wsX7_begin) := goodIn_app (goodIn_of _ (by decide +kernel)) ggX7_solve_X7_begin
set_option maxRecDepth 20000 in
theorem gX7_solve_X7_begin_u65X4 : GoodIn wsX7_solve (va_wsU RX7 65 RX4 "EarlyValues$View" ⟨"EarlyValues$View", "begin", "()V"⟩ yX7_begin wsX7_begin) := goodIn_app (goodIn_of _ (by decide +kernel)) ggX7_solve_X7_begin
set_option maxRecDepth 20000 in
theorem gX7_solve_X7_begin_u65X6 : GoodIn wsX7_solve (va_wsU RX7 65 RX6 "EarlyValues$View" ⟨"EarlyValues$View", "begin", "()V"⟩ yX7_begin wsX7_begin) := goodIn_app (goodIn_of _ (by decide +kernel)) ggX7_solve_X7_begin
set_option maxRecDepth 20000 in
theorem ggX7_solve_X7_advance : GoodIn wsX7_solve wsX7_advance := goodIn_r _ [21, 22, 23, 9, 24, 25, 26, 27, 7, 28, 29, 30, 31, 32, 33, 34, 35, 36, 37, 38, 39, 40, 41, 42, 43, 10, 44, 45, 46, 47, 48, 49, 50, 51, 52, 53, 54, 55, 56, 57, 58, 59, 60, 61, 62, 63, 64, 65, 66, 67, 68, 69, 70, 71, 72, 73, 74, 75, 76, 77, 78, 79, 80, 81, 82, 83, 84, 85, 86, 87, 88, 89, 90, 91, 92, 93, 94, 95, 96, 97, 98, 99, 100, 101, 102, 103, 104, 105, 106, 107, 108, 109, 110, 111, 112, 113, 114, 115, 116, 117, 118, 119, 120, 121, 122, 123, 124, 125, 126, 127, 128, 129, 130, 131, 132, 133, 134, 135, 136, 137, 138, 139, 140, 141, 142, 143, 144, 145, 146, 188, 189, 190, 191, 192, 149, 150, 151, 152, 153, 154, 155, 156, 157, 158, 159, 160, 161, 162, 163, 164, 165, 166, 167, 168, 169, 170, 171, 172, 173, 174, 175, 176, 177, 178, 179, 180, 181, 182, 183, 184, 185, 186, 187] (by decide +kernel) (by decide +kernel)
set_option maxRecDepth 20000 in
theorem gX7_solve_X7_advance_u71X0 : GoodIn wsX7_solve (va_wsU RX7 71 RX0 "EarlyValues$View" ⟨"EarlyValues$View", "advance", "(LEarlyValues$Program;)Z"⟩ yX7_advance wsX7_advance) := goodIn_app (goodIn_of _ (by decide +kernel)) ggX7_solve_X7_advance
set_option maxRecDepth 20000 in
theorem gX7_solve_X7_advance_u71X4 : GoodIn wsX7_solve (va_wsU RX7 71 RX4 "EarlyValues$View" ⟨"EarlyValues$View", "advance", "(LEarlyValues$Program;)Z"⟩ yX7_advance wsX7_advance) := goodIn_app (goodIn_of _ (by decide +kernel)) ggX7_solve_X7_advance
set_option maxRecDepth 20000 in
theorem gX7_solve_X7_advance_u71X6 : GoodIn wsX7_solve (va_wsU RX7 71 RX6 "EarlyValues$View" ⟨"EarlyValues$View", "advance", "(LEarlyValues$Program;)Z"⟩ yX7_advance wsX7_advance) := goodIn_app (goodIn_of _ (by decide +kernel)) ggX7_solve_X7_advance
theorem dX7_solve_0 : decode cX7_solve 0 = .ok (.aload_n 0, 1) := by decide +kernel
theorem dX7_solve_1 : decode cX7_solve 1 = .ok (.invokevirtual 65, 3) := by decide +kernel
theorem dX7_solve_4 : decode cX7_solve 4 = .ok (.iconst 1, 1) := by decide +kernel
theorem dX7_solve_5 : decode cX7_solve 5 = .ok (.istore_n 2, 1) := by decide +kernel
theorem dX7_solve_6 : decode cX7_solve 6 = .ok (.iconst 0, 1) := by decide +kernel
theorem dX7_solve_7 : decode cX7_solve 7 = .ok (.istore_n 3, 1) := by decide +kernel
theorem dX7_solve_8 : decode cX7_solve 8 = .ok (.iload_n 2, 1) := by decide +kernel
theorem dX7_solve_9 : decode cX7_solve 9 = .ok (.ifCond .eq 27, 3) := by decide +kernel
theorem dX7_solve_12 : decode cX7_solve 12 = .ok (.iload_n 3, 1) := by decide +kernel
theorem dX7_solve_13 : decode cX7_solve 13 = .ok (.sipush 1000, 3) := by decide +kernel
theorem dX7_solve_16 : decode cX7_solve 16 = .ok (.if_icmp .ge 20, 3) := by decide +kernel
theorem dX7_solve_19 : decode cX7_solve 19 = .ok (.aload_n 0, 1) := by decide +kernel
theorem dX7_solve_20 : decode cX7_solve 20 = .ok (.iload_n 3, 1) := by decide +kernel
theorem dX7_solve_21 : decode cX7_solve 21 = .ok (.putfield 68, 3) := by decide +kernel
theorem dX7_solve_24 : decode cX7_solve 24 = .ok (.aload_n 0, 1) := by decide +kernel
theorem dX7_solve_25 : decode cX7_solve 25 = .ok (.aload_n 1, 1) := by decide +kernel
theorem dX7_solve_26 : decode cX7_solve 26 = .ok (.invokevirtual 71, 3) := by decide +kernel
theorem dX7_solve_29 : decode cX7_solve 29 = .ok (.istore_n 2, 1) := by decide +kernel
theorem dX7_solve_30 : decode cX7_solve 30 = .ok (.iinc 3 1, 3) := by decide +kernel
theorem dX7_solve_33 : decode cX7_solve 33 = .ok (.goto (-25), 3) := by decide +kernel
theorem dX7_solve_36 : decode cX7_solve 36 = .ok (.aload_n 0, 1) := by decide +kernel
theorem dX7_solve_37 : decode cX7_solve 37 = .ok (.iconst 1, 1) := by decide +kernel
theorem dX7_solve_38 : decode cX7_solve 38 = .ok (.putfield 75, 3) := by decide +kernel
theorem dX7_solve_41 : decode cX7_solve 41 = .ok (.return_, 1) := by decide +kernel
set_option maxRecDepth 20000 in
theorem ggX7_staysStrict_X7_begin : GoodIn wsX7_staysStrict wsX7_begin := goodIn_r _ [6, 7, 8, 9, 10, 11, 12, 154, 155, 156, 157, 158, 159, 160, 161, 162, 163, 164, 165, 166, 167, 168, 169, 170, 171, 172, 173, 174, 175, 176, 177, 178, 179, 180, 181, 182, 183, 184, 185, 186, 187, 188, 189, 190, 191, 192] rfl (by decide +kernel)
set_option maxRecDepth 20000 in
theorem gX7_staysStrict_X7_begin_u65X0 : GoodIn wsX7_staysStrict (va_wsU RX7 65 RX0 "EarlyValues$View" ⟨"EarlyValues$View", "begin", "()V"⟩ yX7_begin wsX7_begin) := goodIn_app (goodIn_of _ (by decide +kernel)) ggX7_staysStrict_X7_begin
set_option maxRecDepth 20000 in
theorem gX7_staysStrict_X7_begin_u65X4 : GoodIn wsX7_staysStrict (va_wsU RX7 65 RX4 "EarlyValues$View" ⟨"EarlyValues$View", "begin", "()V"⟩ yX7_begin wsX7_begin) := goodIn_app (goodIn_of _ (by decide +kernel)) ggX7_staysStrict_X7_begin
set_option maxRecDepth 20000 in
theorem gX7_staysStrict_X7_begin_u65X6 : GoodIn wsX7_staysStrict (va_wsU RX7 65 RX6 "EarlyValues$View" ⟨"EarlyValues$View", "begin", "()V"⟩ yX7_begin wsX7_begin) := goodIn_app (goodIn_of _ (by decide +kernel)) ggX7_staysStrict_X7_begin
set_option maxRecDepth 20000 in
theorem ggX7_staysStrict_X7_advance : GoodIn wsX7_staysStrict wsX7_advance := goodIn_r _ [19, 20, 21, 7, 22, 23, 24, 25, 5, 26, 27, 28, 29, 30, 31, 32, 33, 34, 35, 36, 37, 38, 39, 40, 41, 8, 42, 43, 44, 45, 46, 47, 48, 49, 50, 51, 52, 53, 54, 55, 56, 57, 58, 59, 60, 61, 62, 63, 64, 65, 66, 67, 68, 69, 70, 71, 72, 73, 74, 75, 76, 77, 78, 79, 80, 81, 82, 83, 84, 85, 86, 87, 88, 89, 90, 91, 92, 93, 94, 95, 96, 97, 98, 99, 100, 101, 102, 103, 104, 105, 106, 107, 108, 109, 110, 111, 112, 113, 114, 115, 116, 117, 118, 119, 120, 121, 122, 123, 124, 125, 126, 127, 128, 129, 130, 131, 132, 133, 134, 135, 136, 137, 138, 139, 140, 141, 142, 143, 144, 193, 194, 195, 196, 197, 154, 155, 156, 157, 158, 159, 160, 161, 162, 163, 164, 165, 166, 167, 168, 169, 170, 171, 172, 173, 174, 175, 176, 177, 178, 179, 180, 181, 182, 183, 184, 185, 186, 187, 188, 189, 190, 191, 192] (by decide +kernel) (by decide +kernel)
set_option maxRecDepth 20000 in
theorem gX7_staysStrict_X7_advance_u71X0 : GoodIn wsX7_staysStrict (va_wsU RX7 71 RX0 "EarlyValues$View" ⟨"EarlyValues$View", "advance", "(LEarlyValues$Program;)Z"⟩ yX7_advance wsX7_advance) := goodIn_app (goodIn_of _ (by decide +kernel)) ggX7_staysStrict_X7_advance
set_option maxRecDepth 20000 in
theorem gX7_staysStrict_X7_advance_u71X4 : GoodIn wsX7_staysStrict (va_wsU RX7 71 RX4 "EarlyValues$View" ⟨"EarlyValues$View", "advance", "(LEarlyValues$Program;)Z"⟩ yX7_advance wsX7_advance) := goodIn_app (goodIn_of _ (by decide +kernel)) ggX7_staysStrict_X7_advance
set_option maxRecDepth 20000 in
theorem gX7_staysStrict_X7_advance_u71X6 : GoodIn wsX7_staysStrict (va_wsU RX7 71 RX6 "EarlyValues$View" ⟨"EarlyValues$View", "advance", "(LEarlyValues$Program;)Z"⟩ yX7_advance wsX7_advance) := goodIn_app (goodIn_of _ (by decide +kernel)) ggX7_staysStrict_X7_advance
set_option maxRecDepth 20000 in
theorem ggX7_staysStrict_X7_isStrict : GoodIn wsX7_staysStrict wsX7_isStrict := goodIn_r _ [151, 64, 8, 22, 23, 24, 25, 5, 26, 27, 28, 29, 30, 31, 32, 33, 34, 35, 36, 37, 38, 39, 40, 41, 7, 42, 43, 154, 155, 156, 157, 158, 159, 160, 161, 162, 163, 164, 165, 166, 167, 168, 169, 170, 171, 172, 173, 174, 175, 176, 177, 178, 179, 180, 181, 182, 183, 184, 185, 186, 187, 188, 189, 190, 191, 192, 193, 194, 195, 196, 197] rfl (by decide +kernel)
set_option maxRecDepth 20000 in
theorem gX7_staysStrict_X7_isStrict_u79X0 : GoodIn wsX7_staysStrict (va_wsU RX7 79 RX0 "EarlyValues$View" ⟨"EarlyValues$View", "isStrict", "(LEarlyValues$Program;II)Z"⟩ yX7_isStrict wsX7_isStrict) := goodIn_app (goodIn_of _ (by decide +kernel)) ggX7_staysStrict_X7_isStrict
set_option maxRecDepth 20000 in
theorem gX7_staysStrict_X7_isStrict_u79X4 : GoodIn wsX7_staysStrict (va_wsU RX7 79 RX4 "EarlyValues$View" ⟨"EarlyValues$View", "isStrict", "(LEarlyValues$Program;II)Z"⟩ yX7_isStrict wsX7_isStrict) := goodIn_app (goodIn_of _ (by decide +kernel)) ggX7_staysStrict_X7_isStrict
set_option maxRecDepth 20000 in
theorem gX7_staysStrict_X7_isStrict_u79X6 : GoodIn wsX7_staysStrict (va_wsU RX7 79 RX6 "EarlyValues$View" ⟨"EarlyValues$View", "isStrict", "(LEarlyValues$Program;II)Z"⟩ yX7_isStrict wsX7_isStrict) := goodIn_app (goodIn_of _ (by decide +kernel)) ggX7_staysStrict_X7_isStrict
theorem dX7_staysStrict_0 : decode cX7_staysStrict 0 = .ok (.aload_n 0, 1) := by decide +kernel
theorem dX7_staysStrict_1 : decode cX7_staysStrict 1 = .ok (.invokevirtual 65, 3) := by decide +kernel
theorem dX7_staysStrict_4 : decode cX7_staysStrict 4 = .ok (.iconst 1, 1) := by decide +kernel
theorem dX7_staysStrict_5 : decode cX7_staysStrict 5 = .ok (.istore 4, 2) := by decide +kernel
theorem dX7_staysStrict_7 : decode cX7_staysStrict 7 = .ok (.iconst 1, 1) := by decide +kernel
theorem dX7_staysStrict_8 : decode cX7_staysStrict 8 = .ok (.istore 5, 2) := by decide +kernel
theorem dX7_staysStrict_10 : decode cX7_staysStrict 10 = .ok (.iconst 0, 1) := by decide +kernel
theorem dX7_staysStrict_11 : decode cX7_staysStrict 11 = .ok (.istore 6, 2) := by decide +kernel
theorem dX7_staysStrict_13 : decode cX7_staysStrict 13 = .ok (.iload 4, 2) := by decide +kernel
theorem dX7_staysStrict_15 : decode cX7_staysStrict 15 = .ok (.ifCond .eq 38, 3) := by decide +kernel
theorem dX7_staysStrict_18 : decode cX7_staysStrict 18 = .ok (.iload 5, 2) := by decide +kernel
theorem dX7_staysStrict_20 : decode cX7_staysStrict 20 = .ok (.ifCond .eq 33, 3) := by decide +kernel
theorem dX7_staysStrict_23 : decode cX7_staysStrict 23 = .ok (.iload 6, 2) := by decide +kernel
theorem dX7_staysStrict_25 : decode cX7_staysStrict 25 = .ok (.sipush 1000, 3) := by decide +kernel
theorem dX7_staysStrict_28 : decode cX7_staysStrict 28 = .ok (.if_icmp .ge 25, 3) := by decide +kernel
theorem dX7_staysStrict_31 : decode cX7_staysStrict 31 = .ok (.aload_n 0, 1) := by decide +kernel
theorem dX7_staysStrict_32 : decode cX7_staysStrict 32 = .ok (.aload_n 1, 1) := by decide +kernel
theorem dX7_staysStrict_33 : decode cX7_staysStrict 33 = .ok (.invokevirtual 71, 3) := by decide +kernel
theorem dX7_staysStrict_36 : decode cX7_staysStrict 36 = .ok (.istore 4, 2) := by decide +kernel
theorem dX7_staysStrict_38 : decode cX7_staysStrict 38 = .ok (.aload_n 0, 1) := by decide +kernel
theorem dX7_staysStrict_39 : decode cX7_staysStrict 39 = .ok (.aload_n 1, 1) := by decide +kernel
theorem dX7_staysStrict_40 : decode cX7_staysStrict 40 = .ok (.iload_n 2, 1) := by decide +kernel
theorem dX7_staysStrict_41 : decode cX7_staysStrict 41 = .ok (.iload_n 3, 1) := by decide +kernel
theorem dX7_staysStrict_42 : decode cX7_staysStrict 42 = .ok (.invokevirtual 79, 3) := by decide +kernel
theorem dX7_staysStrict_45 : decode cX7_staysStrict 45 = .ok (.istore 5, 2) := by decide +kernel
theorem dX7_staysStrict_47 : decode cX7_staysStrict 47 = .ok (.iinc 6 1, 3) := by decide +kernel
theorem dX7_staysStrict_50 : decode cX7_staysStrict 50 = .ok (.goto (-37), 3) := by decide +kernel
theorem dX7_staysStrict_53 : decode cX7_staysStrict 53 = .ok (.iload 5, 2) := by decide +kernel
theorem dX7_staysStrict_55 : decode cX7_staysStrict 55 = .ok (.ireturn, 1) := by decide +kernel
set_option maxRecDepth 20000 in
theorem ggX7_isStrict_X7_rowsOf : GoodIn wsX7_isStrict wsX7_rowsOf := goodIn_r _ [8, 9, 10, 11, 12, 13, 14, 15, 16, 27, 28, 29, 30, 31, 32, 33, 34, 35, 36, 37, 38, 39, 40, 41, 42, 43, 44, 45, 46, 47, 48, 49, 50, 51, 52, 53, 54, 55, 56, 57, 58, 59, 60, 61, 62, 63, 64, 65, 66, 67, 68, 69, 70] rfl (by decide +kernel)
set_option maxRecDepth 20000 in
theorem gX7_isStrict_X7_rowsOf_u61X0 : GoodIn wsX7_isStrict (va_wsU RX7 61 RX0 "EarlyValues$View" ⟨"EarlyValues$View", "rowsOf", "(LEarlyValues$Program;I)I"⟩ yX7_rowsOf wsX7_rowsOf) := goodIn_app (goodIn_of _ (by decide +kernel)) ggX7_isStrict_X7_rowsOf
set_option maxRecDepth 20000 in
theorem gX7_isStrict_X7_rowsOf_u61X4 : GoodIn wsX7_isStrict (va_wsU RX7 61 RX4 "EarlyValues$View" ⟨"EarlyValues$View", "rowsOf", "(LEarlyValues$Program;I)I"⟩ yX7_rowsOf wsX7_rowsOf) := goodIn_app (goodIn_of _ (by decide +kernel)) ggX7_isStrict_X7_rowsOf
set_option maxRecDepth 20000 in
theorem gX7_isStrict_X7_rowsOf_u61X6 : GoodIn wsX7_isStrict (va_wsU RX7 61 RX6 "EarlyValues$View" ⟨"EarlyValues$View", "rowsOf", "(LEarlyValues$Program;I)I"⟩ yX7_rowsOf wsX7_rowsOf) := goodIn_app (goodIn_of _ (by decide +kernel)) ggX7_isStrict_X7_rowsOf
set_option maxRecDepth 20000 in
theorem ggX7_isStrict_X7_at : GoodIn wsX7_isStrict wsX7_at := goodIn_r _ [23, 24, 2, 27, 28, 29, 30, 31, 32, 33, 34, 35, 36, 37, 38, 39, 40, 41, 42, 43, 44, 45, 46, 47, 48, 49, 50, 51, 52, 53, 54, 55, 56, 57, 58, 59, 60, 61, 62, 63, 64, 65] rfl (by decide +kernel)
set_option maxRecDepth 20000 in
theorem gX7_isStrict_X7_at_u83X0 : GoodIn wsX7_isStrict (va_wsU RX7 83 RX0 "EarlyValues$View" ⟨"EarlyValues$View", "at", "(II)I"⟩ yX7_at wsX7_at) := goodIn_app (goodIn_of _ (by decide +kernel)) ggX7_isStrict_X7_at
set_option maxRecDepth 20000 in
theorem gX7_isStrict_X7_at_u83X4 : GoodIn wsX7_isStrict (va_wsU RX7 83 RX4 "EarlyValues$View" ⟨"EarlyValues$View", "at", "(II)I"⟩ yX7_at wsX7_at) := goodIn_app (goodIn_of _ (by decide +kernel)) ggX7_isStrict_X7_at
set_option maxRecDepth 20000 in
theorem gX7_isStrict_X7_at_u83X6 : GoodIn wsX7_isStrict (va_wsU RX7 83 RX6 "EarlyValues$View" ⟨"EarlyValues$View", "at", "(II)I"⟩ yX7_at wsX7_at) := goodIn_app (goodIn_of _ (by decide +kernel)) ggX7_isStrict_X7_at
theorem dX7_isStrict_0 : decode cX7_isStrict 0 = .ok (.iload_n 3, 1) := by decide +kernel
theorem dX7_isStrict_1 : decode cX7_isStrict 1 = .ok (.ifCond .lt 12, 3) := by decide +kernel
theorem dX7_isStrict_4 : decode cX7_isStrict 4 = .ok (.iload_n 3, 1) := by decide +kernel
theorem dX7_isStrict_5 : decode cX7_isStrict 5 = .ok (.aload_n 0, 1) := by decide +kernel
theorem dX7_isStrict_6 : decode cX7_isStrict 6 = .ok (.getfield 36, 3) := by decide +kernel
theorem dX7_isStrict_9 : decode cX7_isStrict 9 = .ok (.arraylength, 1) := by decide +kernel
theorem dX7_isStrict_10 : decode cX7_isStrict 10 = .ok (.if_icmp .lt 5, 3) := by decide +kernel
theorem dX7_isStrict_13 : decode cX7_isStrict 13 = .ok (.iconst 0, 1) := by decide +kernel
theorem dX7_isStrict_14 : decode cX7_isStrict 14 = .ok (.ireturn, 1) := by decide +kernel
theorem dX7_isStrict_15 : decode cX7_isStrict 15 = .ok (.iconst 0, 1) := by decide +kernel
theorem dX7_isStrict_16 : decode cX7_isStrict 16 = .ok (.istore 4, 2) := by decide +kernel
theorem dX7_isStrict_18 : decode cX7_isStrict 18 = .ok (.iload 4, 2) := by decide +kernel
theorem dX7_isStrict_20 : decode cX7_isStrict 20 = .ok (.aload_n 0, 1) := by decide +kernel
theorem dX7_isStrict_21 : decode cX7_isStrict 21 = .ok (.aload_n 1, 1) := by decide +kernel
theorem dX7_isStrict_22 : decode cX7_isStrict 22 = .ok (.iload_n 2, 1) := by decide +kernel
theorem dX7_isStrict_23 : decode cX7_isStrict 23 = .ok (.invokevirtual 61, 3) := by decide +kernel
theorem dX7_isStrict_26 : decode cX7_isStrict 26 = .ok (.if_icmp .ge 41, 3) := by decide +kernel
theorem dX7_isStrict_29 : decode cX7_isStrict 29 = .ok (.aload_n 0, 1) := by decide +kernel
theorem dX7_isStrict_30 : decode cX7_isStrict 30 = .ok (.getfield 36, 3) := by decide +kernel
theorem dX7_isStrict_33 : decode cX7_isStrict 33 = .ok (.iload_n 3, 1) := by decide +kernel
theorem dX7_isStrict_34 : decode cX7_isStrict 34 = .ok (.aaload, 1) := by decide +kernel
theorem dX7_isStrict_35 : decode cX7_isStrict 35 = .ok (.iload 4, 2) := by decide +kernel
theorem dX7_isStrict_37 : decode cX7_isStrict 37 = .ok (.iaload, 1) := by decide +kernel
theorem dX7_isStrict_38 : decode cX7_isStrict 38 = .ok (.aload_n 0, 1) := by decide +kernel
theorem dX7_isStrict_39 : decode cX7_isStrict 39 = .ok (.getfield 25, 3) := by decide +kernel
theorem dX7_isStrict_42 : decode cX7_isStrict 42 = .ok (.if_icmp .ne 19, 3) := by decide +kernel
theorem dX7_isStrict_45 : decode cX7_isStrict 45 = .ok (.aload_n 0, 1) := by decide +kernel
theorem dX7_isStrict_46 : decode cX7_isStrict 46 = .ok (.iload_n 2, 1) := by decide +kernel
theorem dX7_isStrict_47 : decode cX7_isStrict 47 = .ok (.iload 4, 2) := by decide +kernel
theorem dX7_isStrict_49 : decode cX7_isStrict 49 = .ok (.invokevirtual 83, 3) := by decide +kernel
theorem dX7_isStrict_52 : decode cX7_isStrict 52 = .ok (.aload_n 0, 1) := by decide +kernel
theorem dX7_isStrict_53 : decode cX7_isStrict 53 = .ok (.getfield 25, 3) := by decide +kernel
theorem dX7_isStrict_56 : decode cX7_isStrict 56 = .ok (.if_icmp .eq 5, 3) := by decide +kernel
theorem dX7_isStrict_59 : decode cX7_isStrict 59 = .ok (.iconst 0, 1) := by decide +kernel
theorem dX7_isStrict_60 : decode cX7_isStrict 60 = .ok (.ireturn, 1) := by decide +kernel
theorem dX7_isStrict_61 : decode cX7_isStrict 61 = .ok (.iinc 4 1, 3) := by decide +kernel
theorem dX7_isStrict_64 : decode cX7_isStrict 64 = .ok (.goto (-46), 3) := by decide +kernel
theorem dX7_isStrict_67 : decode cX7_isStrict 67 = .ok (.iconst 1, 1) := by decide +kernel
theorem dX7_isStrict_68 : decode cX7_isStrict 68 = .ok (.ireturn, 1) := by decide +kernel
set_option maxRecDepth 20000 in
theorem ggX7_strictBits_X3_has : GoodIn wsX7_strictBits wsX3_has := goodIn_r _ [6, 7, 34, 35, 36, 37, 38] rfl (by decide +kernel)
set_option maxRecDepth 20000 in
theorem gX7_strictBits_X3_has : GoodIn wsX7_strictBits (wsV RX7 51 RX3 yX3_has wsX3_has) := goodIn_app (goodIn_of _ (by decide +kernel)) ggX7_strictBits_X3_has
set_option maxRecDepth 20000 in
theorem ggX7_strictBits_X7_isStrict : GoodIn wsX7_strictBits wsX7_isStrict := goodIn_r _ [13, 14, 15, 16, 17, 18, 19, 12, 20, 21, 1, 2, 3, 4, 5, 6, 7, 22, 23, 24, 25, 26, 27, 28, 29, 30, 31, 39, 40, 41, 42, 43, 44, 45, 46, 47, 48, 49, 50, 51, 52, 53, 54, 55, 56, 57, 58, 59, 60, 61, 62, 63, 64, 65, 66, 67, 68, 69, 70, 71, 72, 73, 74, 75, 76, 77, 34, 35, 36, 37, 38] rfl (by decide +kernel)
set_option maxRecDepth 20000 in
theorem gX7_strictBits_X7_isStrict_u79X0 : GoodIn wsX7_strictBits (va_wsU RX7 79 RX0 "EarlyValues$View" ⟨"EarlyValues$View", "isStrict", "(LEarlyValues$Program;II)Z"⟩ yX7_isStrict wsX7_isStrict) := goodIn_app (goodIn_of _ (by decide +kernel)) ggX7_strictBits_X7_isStrict
set_option maxRecDepth 20000 in
theorem gX7_strictBits_X7_isStrict_u79X4 : GoodIn wsX7_strictBits (va_wsU RX7 79 RX4 "EarlyValues$View" ⟨"EarlyValues$View", "isStrict", "(LEarlyValues$Program;II)Z"⟩ yX7_isStrict wsX7_isStrict) := goodIn_app (goodIn_of _ (by decide +kernel)) ggX7_strictBits_X7_isStrict
set_option maxRecDepth 20000 in
theorem gX7_strictBits_X7_isStrict_u79X6 : GoodIn wsX7_strictBits (va_wsU RX7 79 RX6 "EarlyValues$View" ⟨"EarlyValues$View", "isStrict", "(LEarlyValues$Program;II)Z"⟩ yX7_isStrict wsX7_isStrict) := goodIn_app (goodIn_of _ (by decide +kernel)) ggX7_strictBits_X7_isStrict
theorem dX7_strictBits_0 : decode cX7_strictBits 0 = .ok (.iconst 0, 1) := by decide +kernel
theorem dX7_strictBits_1 : decode cX7_strictBits 1 = .ok (.istore_n 3, 1) := by decide +kernel
theorem dX7_strictBits_2 : decode cX7_strictBits 2 = .ok (.iconst 0, 1) := by decide +kernel
theorem dX7_strictBits_3 : decode cX7_strictBits 3 = .ok (.istore 4, 2) := by decide +kernel
theorem dX7_strictBits_5 : decode cX7_strictBits 5 = .ok (.aload_n 1, 1) := by decide +kernel
theorem dX7_strictBits_6 : decode cX7_strictBits 6 = .ok (.iload_n 2, 1) := by decide +kernel
theorem dX7_strictBits_7 : decode cX7_strictBits 7 = .ok (.invokevirtual 51, 3) := by decide +kernel
theorem dX7_strictBits_10 : decode cX7_strictBits 10 = .ok (.ifCond .eq 38, 3) := by decide +kernel
theorem dX7_strictBits_13 : decode cX7_strictBits 13 = .ok (.iload 4, 2) := by decide +kernel
theorem dX7_strictBits_15 : decode cX7_strictBits 15 = .ok (.aload_n 1, 1) := by decide +kernel
theorem dX7_strictBits_16 : decode cX7_strictBits 16 = .ok (.getfield 55, 3) := by decide +kernel
theorem dX7_strictBits_19 : decode cX7_strictBits 19 = .ok (.iload_n 2, 1) := by decide +kernel
theorem dX7_strictBits_20 : decode cX7_strictBits 20 = .ok (.iaload, 1) := by decide +kernel
theorem dX7_strictBits_21 : decode cX7_strictBits 21 = .ok (.if_icmp .ge 27, 3) := by decide +kernel
theorem dX7_strictBits_24 : decode cX7_strictBits 24 = .ok (.aload_n 0, 1) := by decide +kernel
theorem dX7_strictBits_25 : decode cX7_strictBits 25 = .ok (.aload_n 1, 1) := by decide +kernel
theorem dX7_strictBits_26 : decode cX7_strictBits 26 = .ok (.iload_n 2, 1) := by decide +kernel
theorem dX7_strictBits_27 : decode cX7_strictBits 27 = .ok (.iload 4, 2) := by decide +kernel
theorem dX7_strictBits_29 : decode cX7_strictBits 29 = .ok (.invokevirtual 79, 3) := by decide +kernel
theorem dX7_strictBits_32 : decode cX7_strictBits 32 = .ok (.ifCond .eq 10, 3) := by decide +kernel
theorem dX7_strictBits_35 : decode cX7_strictBits 35 = .ok (.iload_n 3, 1) := by decide +kernel
theorem dX7_strictBits_36 : decode cX7_strictBits 36 = .ok (.iconst 1, 1) := by decide +kernel
theorem dX7_strictBits_37 : decode cX7_strictBits 37 = .ok (.iload 4, 2) := by decide +kernel
theorem dX7_strictBits_39 : decode cX7_strictBits 39 = .ok (.ishl, 1) := by decide +kernel
theorem dX7_strictBits_40 : decode cX7_strictBits 40 = .ok (.ior, 1) := by decide +kernel
theorem dX7_strictBits_41 : decode cX7_strictBits 41 = .ok (.istore_n 3, 1) := by decide +kernel
theorem dX7_strictBits_42 : decode cX7_strictBits 42 = .ok (.iinc 4 1, 3) := by decide +kernel
theorem dX7_strictBits_45 : decode cX7_strictBits 45 = .ok (.goto (-40), 3) := by decide +kernel
theorem dX7_strictBits_48 : decode cX7_strictBits 48 = .ok (.iload_n 3, 1) := by decide +kernel
theorem dX7_strictBits_49 : decode cX7_strictBits 49 = .ok (.ireturn, 1) := by decide +kernel
set_option maxRecDepth 20000 in
theorem ggX7_begin_J7_fill_031fb : GoodIn wsX7_begin wsJ7_fill_031fb := goodIn_r _ [6] rfl (by decide +kernel)
set_option maxRecDepth 20000 in
theorem gX7_begin_J7_fill_031fb : GoodIn wsX7_begin (va_wsS RX7 87 yJ7_fill_031fb wsJ7_fill_031fb) := goodIn_app (goodIn_of _ (by decide +kernel)) ggX7_begin_J7_fill_031fb
theorem dX7_begin_0 : decode cX7_begin 0 = .ok (.iconst 0, 1) := by decide +kernel
theorem dX7_begin_1 : decode cX7_begin 1 = .ok (.istore_n 1, 1) := by decide +kernel
theorem dX7_begin_2 : decode cX7_begin 2 = .ok (.iload_n 1, 1) := by decide +kernel
theorem dX7_begin_3 : decode cX7_begin 3 = .ok (.aload_n 0, 1) := by decide +kernel
theorem dX7_begin_4 : decode cX7_begin 4 = .ok (.getfield 45, 3) := by decide +kernel
theorem dX7_begin_7 : decode cX7_begin 7 = .ok (.arraylength, 1) := by decide +kernel
theorem dX7_begin_8 : decode cX7_begin 8 = .ok (.if_icmp .ge 23, 3) := by decide +kernel
theorem dX7_begin_11 : decode cX7_begin 11 = .ok (.aload_n 0, 1) := by decide +kernel
theorem dX7_begin_12 : decode cX7_begin 12 = .ok (.getfield 45, 3) := by decide +kernel
theorem dX7_begin_15 : decode cX7_begin 15 = .ok (.iload_n 1, 1) := by decide +kernel
theorem dX7_begin_16 : decode cX7_begin 16 = .ok (.aaload, 1) := by decide +kernel
theorem dX7_begin_17 : decode cX7_begin 17 = .ok (.aload_n 0, 1) := by decide +kernel
theorem dX7_begin_18 : decode cX7_begin 18 = .ok (.getfield 25, 3) := by decide +kernel
theorem dX7_begin_21 : decode cX7_begin 21 = .ok (.i2b, 1) := by decide +kernel
theorem dX7_begin_22 : decode cX7_begin 22 = .ok (.invokestatic 87, 3) := by decide +kernel
theorem dX7_begin_25 : decode cX7_begin 25 = .ok (.iinc 1 1, 3) := by decide +kernel
theorem dX7_begin_28 : decode cX7_begin 28 = .ok (.goto (-26), 3) := by decide +kernel
theorem dX7_begin_31 : decode cX7_begin 31 = .ok (.return_, 1) := by decide +kernel
set_option maxRecDepth 20000 in
theorem ggX7_advance_X7_rowsOf : GoodIn wsX7_advance wsX7_rowsOf := goodIn_r _ [9, 10, 11, 12, 13, 14, 15, 16, 17, 134, 135, 136, 137, 138, 139, 140, 141, 142, 143, 144, 145, 146, 147, 148, 149, 150, 151, 152, 153, 154, 155, 156, 157, 158, 159, 160, 161, 162, 163, 164, 165, 166, 167, 168, 169, 170, 171, 172, 129, 130, 131, 132, 133] rfl (by decide +kernel)
set_option maxRecDepth 20000 in
theorem gX7_advance_X7_rowsOf_u61X0 : GoodIn wsX7_advance (va_wsU RX7 61 RX0 "EarlyValues$View" ⟨"EarlyValues$View", "rowsOf", "(LEarlyValues$Program;I)I"⟩ yX7_rowsOf wsX7_rowsOf) := goodIn_app (goodIn_of _ (by decide +kernel)) ggX7_advance_X7_rowsOf
set_option maxRecDepth 20000 in
theorem gX7_advance_X7_rowsOf_u61X4 : GoodIn wsX7_advance (va_wsU RX7 61 RX4 "EarlyValues$View" ⟨"EarlyValues$View", "rowsOf", "(LEarlyValues$Program;I)I"⟩ yX7_rowsOf wsX7_rowsOf) := goodIn_app (goodIn_of _ (by decide +kernel)) ggX7_advance_X7_rowsOf
set_option maxRecDepth 20000 in
theorem gX7_advance_X7_rowsOf_u61X6 : GoodIn wsX7_advance (va_wsU RX7 61 RX6 "EarlyValues$View" ⟨"EarlyValues$View", "rowsOf", "(LEarlyValues$Program;I)I"⟩ yX7_rowsOf wsX7_rowsOf) := goodIn_app (goodIn_of _ (by decide +kernel)) ggX7_advance_X7_rowsOf
set_option maxRecDepth 20000 in
theorem ggX7_advance_X7_at : GoodIn wsX7_advance wsX7_at := goodIn_r _ [24, 3, 25, 134, 135, 136, 137, 138, 139, 140, 141, 142, 143, 144, 145, 146, 147, 148, 149, 150, 151, 152, 153, 154, 155, 156, 157, 158, 159, 160, 161, 162, 163, 164, 165, 166, 167, 168, 169, 170, 171, 172] rfl (by decide +kernel)
set_option maxRecDepth 20000 in
theorem gX7_advance_X7_at_u83X0 : GoodIn wsX7_advance (va_wsU RX7 83 RX0 "EarlyValues$View" ⟨"EarlyValues$View", "at", "(II)I"⟩ yX7_at wsX7_at) := goodIn_app (goodIn_of _ (by decide +kernel)) ggX7_advance_X7_at
set_option maxRecDepth 20000 in
theorem gX7_advance_X7_at_u83X4 : GoodIn wsX7_advance (va_wsU RX7 83 RX4 "EarlyValues$View" ⟨"EarlyValues$View", "at", "(II)I"⟩ yX7_at wsX7_at) := goodIn_app (goodIn_of _ (by decide +kernel)) ggX7_advance_X7_at
set_option maxRecDepth 20000 in
theorem gX7_advance_X7_at_u83X6 : GoodIn wsX7_advance (va_wsU RX7 83 RX6 "EarlyValues$View" ⟨"EarlyValues$View", "at", "(II)I"⟩ yX7_at wsX7_at) := goodIn_app (goodIn_of _ (by decide +kernel)) ggX7_advance_X7_at
set_option maxRecDepth 20000 in
theorem ggX7_advance_X0_mayGrow : GoodIn wsX7_advance wsX0_mayGrow := goodIn_r _ [33] rfl (by decide +kernel)
set_option maxRecDepth 20000 in
theorem gX7_advance_X0_mayGrow_u96X0 : GoodIn wsX7_advance (va_wsU RX7 96 RX0 "EarlyValues$View" ⟨"EarlyValues$View", "mayGrow", "(I)Z"⟩ yX0_mayGrow wsX0_mayGrow) := goodIn_app (goodIn_of _ (by decide +kernel)) ggX7_advance_X0_mayGrow
set_option maxRecDepth 20000 in
theorem ggX7_advance_X4_mayGrow : GoodIn wsX7_advance wsX4_mayGrow := goodIn_r _ [37] rfl (by decide +kernel)
set_option maxRecDepth 20000 in
theorem gX7_advance_X4_mayGrow_u96X4 : GoodIn wsX7_advance (va_wsU RX7 96 RX4 "EarlyValues$View" ⟨"EarlyValues$View", "mayGrow", "(I)Z"⟩ yX4_mayGrow wsX4_mayGrow) := goodIn_app (goodIn_of _ (by decide +kernel)) ggX7_advance_X4_mayGrow
set_option maxRecDepth 20000 in
theorem ggX7_advance_X6_mayGrow : GoodIn wsX7_advance wsX6_mayGrow := goodIn_r _ [41] rfl (by decide +kernel)
set_option maxRecDepth 20000 in
theorem gX7_advance_X6_mayGrow_u96X6 : GoodIn wsX7_advance (va_wsU RX7 96 RX6 "EarlyValues$View" ⟨"EarlyValues$View", "mayGrow", "(I)Z"⟩ yX6_mayGrow wsX6_mayGrow) := goodIn_app (goodIn_of _ (by decide +kernel)) ggX7_advance_X6_mayGrow
set_option maxRecDepth 20000 in
theorem ggX7_advance_X7_handOver : GoodIn wsX7_advance wsX7_handOver := goodIn_r _ [46, 47, 11, 48, 25, 49, 129, 130, 131, 132, 133, 134, 135, 136, 137, 138, 139, 140, 141, 142, 143, 144, 145, 146, 147, 148, 149, 150, 151, 152, 153, 154, 155, 156, 157, 158, 159, 160, 161, 162, 163, 164, 165, 166, 167, 168, 169, 170, 171, 172] rfl (by decide +kernel)
set_option maxRecDepth 20000 in
theorem gX7_advance_X7_handOver_u99X0 : GoodIn wsX7_advance (va_wsU RX7 99 RX0 "EarlyValues$View" ⟨"EarlyValues$View", "handOver", "(LEarlyValues$Program;II)Z"⟩ yX7_handOver wsX7_handOver) := goodIn_app (goodIn_of _ (by decide +kernel)) ggX7_advance_X7_handOver
set_option maxRecDepth 20000 in
theorem gX7_advance_X7_handOver_u99X4 : GoodIn wsX7_advance (va_wsU RX7 99 RX4 "EarlyValues$View" ⟨"EarlyValues$View", "handOver", "(LEarlyValues$Program;II)Z"⟩ yX7_handOver wsX7_handOver) := goodIn_app (goodIn_of _ (by decide +kernel)) ggX7_advance_X7_handOver
set_option maxRecDepth 20000 in
theorem gX7_advance_X7_handOver_u99X6 : GoodIn wsX7_advance (va_wsU RX7 99 RX6 "EarlyValues$View" ⟨"EarlyValues$View", "handOver", "(LEarlyValues$Program;II)Z"⟩ yX7_handOver wsX7_handOver) := goodIn_app (goodIn_of _ (by decide +kernel)) ggX7_advance_X7_handOver
set_option maxRecDepth 20000 in
theorem ggX7_advance_X7_bodyComesTo : GoodIn wsX7_advance wsX7_bodyComesTo := goodIn_r _ [56, 57, 58, 59, 60, 61, 62, 15, 63, 64, 65, 13, 14, 16, 17, 66, 67, 68, 69, 8, 70, 25, 71, 72, 73, 74, 75, 76, 77, 78, 79, 80, 10, 49, 81, 82, 83, 84, 32, 85, 86, 87, 36, 88, 89, 90, 40, 91, 92, 93, 94, 95, 96, 97, 98, 99, 100, 101, 102, 103, 104, 105, 106, 107, 108, 109, 110, 111, 112, 113, 114, 115, 116, 117, 20, 21, 22, 23, 24, 3, 26, 27, 118, 119, 120, 121, 122, 123, 124, 125, 126, 134, 135, 136, 137, 138, 139, 140, 141, 142, 143, 144, 145, 146, 147, 148, 149, 150, 151, 152, 153, 154, 155, 156, 157, 158, 159, 160, 161, 162, 163, 164, 165, 166, 167, 168, 169, 170, 171, 172, 129, 130, 131, 132, 133] (by decide +kernel) (by decide +kernel)
set_option maxRecDepth 20000 in
theorem gX7_advance_X7_bodyComesTo_u102X0 : GoodIn wsX7_advance (va_wsU RX7 102 RX0 "EarlyValues$View" ⟨"EarlyValues$View", "bodyComesTo", "(LEarlyValues$Program;I)I"⟩ yX7_bodyComesTo wsX7_bodyComesTo) := goodIn_app (goodIn_of _ (by decide +kernel)) ggX7_advance_X7_bodyComesTo
set_option maxRecDepth 20000 in
theorem gX7_advance_X7_bodyComesTo_u102X4 : GoodIn wsX7_advance (va_wsU RX7 102 RX4 "EarlyValues$View" ⟨"EarlyValues$View", "bodyComesTo", "(LEarlyValues$Program;I)I"⟩ yX7_bodyComesTo wsX7_bodyComesTo) := goodIn_app (goodIn_of _ (by decide +kernel)) ggX7_advance_X7_bodyComesTo
set_option maxRecDepth 20000 in
theorem gX7_advance_X7_bodyComesTo_u102X6 : GoodIn wsX7_advance (va_wsU RX7 102 RX6 "EarlyValues$View" ⟨"EarlyValues$View", "bodyComesTo", "(LEarlyValues$Program;I)I"⟩ yX7_bodyComesTo wsX7_bodyComesTo) := goodIn_app (goodIn_of _ (by decide +kernel)) ggX7_advance_X7_bodyComesTo
theorem dX7_advance_0 : decode cX7_advance 0 = .ok (.iconst 0, 1) := by decide +kernel
