theorem dL_low_0 : decode cL_low 0 = .ok (.iload_n 0, 1) := by decide +kernel
theorem dL_low_1 : decode cL_low 1 = .ok (.ldc 7, 2) := by decide +kernel
theorem dL_low_3 : decode cL_low 3 = .ok (.iand, 1) := by decide +kernel
theorem dL_low_4 : decode cL_low 4 = .ok (.iload_n 1, 1) := by decide +kernel
theorem dL_low_5 : decode cL_low 5 = .ok (.irem, 1) := by decide +kernel
theorem dL_low_6 : decode cL_low 6 = .ok (.ireturn, 1) := by decide +kernel
theorem dL_cell_0 : decode cL_cell 0 = .ok (.iload_n 1, 1) := by decide +kernel
theorem dL_cell_1 : decode cL_cell 1 = .ok (.aload_n 0, 1) := by decide +kernel
theorem dL_cell_2 : decode cL_cell 2 = .ok (.arraylength, 1) := by decide +kernel
theorem dL_cell_3 : decode cL_cell 3 = .ok (.if_icmp .ge 9, 3) := by decide +kernel
theorem dL_cell_6 : decode cL_cell 6 = .ok (.aload_n 0, 1) := by decide +kernel
theorem dL_cell_7 : decode cL_cell 7 = .ok (.iload_n 1, 1) := by decide +kernel
theorem dL_cell_8 : decode cL_cell 8 = .ok (.iaload, 1) := by decide +kernel
theorem dL_cell_9 : decode cL_cell 9 = .ok (.goto 11, 3) := by decide +kernel
theorem dL_cell_12 : decode cL_cell 12 = .ok (.ldc 8, 2) := by decide +kernel
theorem dL_cell_14 : decode cL_cell 14 = .ok (.iload_n 1, 1) := by decide +kernel
theorem dL_cell_15 : decode cL_cell 15 = .ok (.imul, 1) := by decide +kernel
theorem dL_cell_16 : decode cL_cell 16 = .ok (.sipush 977, 3) := by decide +kernel
theorem dL_cell_19 : decode cL_cell 19 = .ok (.iadd, 1) := by decide +kernel
theorem dL_cell_20 : decode cL_cell 20 = .ok (.ireturn, 1) := by decide +kernel
theorem dL_letter_0 : decode cL_letter 0 = .ok (.iload_n 0, 1) := by decide +kernel
theorem dL_letter_1 : decode cL_letter 1 = .ok (.ifCond .ne 8, 3) := by decide +kernel
theorem dL_letter_4 : decode cL_letter 4 = .ok (.bipush 111, 2) := by decide +kernel
theorem dL_letter_6 : decode cL_letter 6 = .ok (.goto 89, 3) := by decide +kernel
theorem dL_letter_9 : decode cL_letter 9 = .ok (.iload_n 0, 1) := by decide +kernel
theorem dL_letter_10 : decode cL_letter 10 = .ok (.iconst 1, 1) := by decide +kernel
theorem dL_letter_11 : decode cL_letter 11 = .ok (.if_icmp .ne 8, 3) := by decide +kernel
theorem dL_letter_14 : decode cL_letter 14 = .ok (.bipush 105, 2) := by decide +kernel
theorem dL_letter_16 : decode cL_letter 16 = .ok (.goto 79, 3) := by decide +kernel
theorem dL_letter_19 : decode cL_letter 19 = .ok (.iload_n 0, 1) := by decide +kernel
theorem dL_letter_20 : decode cL_letter 20 = .ok (.iconst 2, 1) := by decide +kernel
theorem dL_letter_21 : decode cL_letter 21 = .ok (.if_icmp .ne 8, 3) := by decide +kernel
theorem dL_letter_24 : decode cL_letter 24 = .ok (.bipush 119, 2) := by decide +kernel
theorem dL_letter_26 : decode cL_letter 26 = .ok (.goto 69, 3) := by decide +kernel
theorem dL_letter_29 : decode cL_letter 29 = .ok (.iload_n 0, 1) := by decide +kernel
theorem dL_letter_30 : decode cL_letter 30 = .ok (.bipush 6, 2) := by decide +kernel
theorem dL_letter_32 : decode cL_letter 32 = .ok (.if_icmp .ge 12, 3) := by decide +kernel
theorem dL_letter_35 : decode cL_letter 35 = .ok (.bipush 97, 2) := by decide +kernel
theorem dL_letter_37 : decode cL_letter 37 = .ok (.iload_n 0, 1) := by decide +kernel
theorem dL_letter_38 : decode cL_letter 38 = .ok (.iadd, 1) := by decide +kernel
theorem dL_letter_39 : decode cL_letter 39 = .ok (.iconst 3, 1) := by decide +kernel
theorem dL_letter_40 : decode cL_letter 40 = .ok (.isub, 1) := by decide +kernel
theorem dL_letter_41 : decode cL_letter 41 = .ok (.goto 54, 3) := by decide +kernel
theorem dL_letter_44 : decode cL_letter 44 = .ok (.iload_n 0, 1) := by decide +kernel
theorem dL_letter_45 : decode cL_letter 45 = .ok (.bipush 6, 2) := by decide +kernel
theorem dL_letter_47 : decode cL_letter 47 = .ok (.if_icmp .ne 8, 3) := by decide +kernel
theorem dL_letter_50 : decode cL_letter 50 = .ok (.bipush 109, 2) := by decide +kernel
theorem dL_letter_52 : decode cL_letter 52 = .ok (.goto 43, 3) := by decide +kernel
theorem dL_letter_55 : decode cL_letter 55 = .ok (.iload_n 0, 1) := by decide +kernel
theorem dL_letter_56 : decode cL_letter 56 = .ok (.bipush 7, 2) := by decide +kernel
theorem dL_letter_58 : decode cL_letter 58 = .ok (.if_icmp .ne 8, 3) := by decide +kernel
theorem dL_letter_61 : decode cL_letter 61 = .ok (.bipush 43, 2) := by decide +kernel
theorem dL_letter_63 : decode cL_letter 63 = .ok (.goto 32, 3) := by decide +kernel
theorem dL_letter_66 : decode cL_letter 66 = .ok (.iload_n 0, 1) := by decide +kernel
theorem dL_letter_67 : decode cL_letter 67 = .ok (.bipush 8, 2) := by decide +kernel
theorem dL_letter_69 : decode cL_letter 69 = .ok (.if_icmp .ne 8, 3) := by decide +kernel
theorem dL_letter_72 : decode cL_letter 72 = .ok (.bipush 38, 2) := by decide +kernel
theorem dL_letter_74 : decode cL_letter 74 = .ok (.goto 21, 3) := by decide +kernel
theorem dL_letter_77 : decode cL_letter 77 = .ok (.iload_n 0, 1) := by decide +kernel
theorem dL_letter_78 : decode cL_letter 78 = .ok (.bipush 9, 2) := by decide +kernel
theorem dL_letter_80 : decode cL_letter 80 = .ok (.if_icmp .ne 8, 3) := by decide +kernel
theorem dL_letter_83 : decode cL_letter 83 = .ok (.bipush 63, 2) := by decide +kernel
theorem dL_letter_85 : decode cL_letter 85 = .ok (.goto 10, 3) := by decide +kernel
theorem dL_letter_88 : decode cL_letter 88 = .ok (.bipush 48, 2) := by decide +kernel
theorem dL_letter_90 : decode cL_letter 90 = .ok (.iload_n 0, 1) := by decide +kernel
theorem dL_letter_91 : decode cL_letter 91 = .ok (.iadd, 1) := by decide +kernel
theorem dL_letter_92 : decode cL_letter 92 = .ok (.bipush 10, 2) := by decide +kernel
theorem dL_letter_94 : decode cL_letter 94 = .ok (.isub, 1) := by decide +kernel
theorem dL_letter_95 : decode cL_letter 95 = .ok (.ireturn, 1) := by decide +kernel
set_option maxRecDepth 20000 in
theorem ggL_place_L_letter : GoodIn wsL_place wsL_letter := goodIn_r _ [4] rfl (by decide +kernel)
set_option maxRecDepth 20000 in
theorem gL_place_L_letter : GoodIn wsL_place (va_wsS RL 9 yL_letter wsL_letter) := goodIn_app (goodIn_of _ (by decide +kernel)) ggL_place_L_letter
theorem dL_place_0 : decode cL_place 0 = .ok (.bipush 14, 2) := by decide +kernel
theorem dL_place_2 : decode cL_place 2 = .ok (.istore_n 1, 1) := by decide +kernel
theorem dL_place_3 : decode cL_place 3 = .ok (.iconst 0, 1) := by decide +kernel
theorem dL_place_4 : decode cL_place 4 = .ok (.istore_n 2, 1) := by decide +kernel
theorem dL_place_5 : decode cL_place 5 = .ok (.iload_n 2, 1) := by decide +kernel
theorem dL_place_6 : decode cL_place 6 = .ok (.bipush 14, 2) := by decide +kernel
theorem dL_place_8 : decode cL_place 8 = .ok (.if_icmp .ge 23, 3) := by decide +kernel
theorem dL_place_11 : decode cL_place 11 = .ok (.iload_n 2, 1) := by decide +kernel
theorem dL_place_12 : decode cL_place 12 = .ok (.invokestatic 9, 3) := by decide +kernel
theorem dL_place_15 : decode cL_place 15 = .ok (.iload_n 0, 1) := by decide +kernel
theorem dL_place_16 : decode cL_place 16 = .ok (.if_icmp .ne 7, 3) := by decide +kernel
theorem dL_place_19 : decode cL_place 19 = .ok (.iload_n 2, 1) := by decide +kernel
theorem dL_place_20 : decode cL_place 20 = .ok (.goto 4, 3) := by decide +kernel
theorem dL_place_23 : decode cL_place 23 = .ok (.iload_n 1, 1) := by decide +kernel
theorem dL_place_24 : decode cL_place 24 = .ok (.istore_n 1, 1) := by decide +kernel
theorem dL_place_25 : decode cL_place 25 = .ok (.iinc 2 1, 3) := by decide +kernel
theorem dL_place_28 : decode cL_place 28 = .ok (.goto (-23), 3) := by decide +kernel
theorem dL_place_31 : decode cL_place 31 = .ok (.iload_n 1, 1) := by decide +kernel
theorem dL_place_32 : decode cL_place 32 = .ok (.ireturn, 1) := by decide +kernel
set_option maxRecDepth 20000 in
theorem ggL_parts_L_place : GoodIn wsL_parts wsL_place := goodIn_r _ [4, 5, 6, 3, 7] rfl (by decide +kernel)
set_option maxRecDepth 20000 in
theorem gL_parts_L_place : GoodIn wsL_parts (va_wsS RL 15 yL_place wsL_place) := goodIn_app (goodIn_of _ (by decide +kernel)) ggL_parts_L_place
theorem dL_parts_0 : decode cL_parts 0 = .ok (.iload_n 2, 1) := by decide +kernel
theorem dL_parts_1 : decode cL_parts 1 = .ok (.invokestatic 15, 3) := by decide +kernel
theorem dL_parts_4 : decode cL_parts 4 = .ok (.istore_n 3, 1) := by decide +kernel
theorem dL_parts_5 : decode cL_parts 5 = .ok (.iload_n 3, 1) := by decide +kernel
theorem dL_parts_6 : decode cL_parts 6 = .ok (.iconst 3, 1) := by decide +kernel
theorem dL_parts_7 : decode cL_parts 7 = .ok (.if_icmp .ge 7, 3) := by decide +kernel
theorem dL_parts_10 : decode cL_parts 10 = .ok (.iconst 0, 1) := by decide +kernel
theorem dL_parts_11 : decode cL_parts 11 = .ok (.goto 83, 3) := by decide +kernel
theorem dL_parts_14 : decode cL_parts 14 = .ok (.iload_n 3, 1) := by decide +kernel
theorem dL_parts_15 : decode cL_parts 15 = .ok (.bipush 6, 2) := by decide +kernel
theorem dL_parts_17 : decode cL_parts 17 = .ok (.if_icmp .ge 20, 3) := by decide +kernel
theorem dL_parts_20 : decode cL_parts 20 = .ok (.iload_n 3, 1) := by decide +kernel
theorem dL_parts_21 : decode cL_parts 21 = .ok (.iconst 3, 1) := by decide +kernel
theorem dL_parts_22 : decode cL_parts 22 = .ok (.isub, 1) := by decide +kernel
theorem dL_parts_23 : decode cL_parts 23 = .ok (.aload_n 0, 1) := by decide +kernel
theorem dL_parts_24 : decode cL_parts 24 = .ok (.iload_n 1, 1) := by decide +kernel
theorem dL_parts_25 : decode cL_parts 25 = .ok (.iaload, 1) := by decide +kernel
theorem dL_parts_26 : decode cL_parts 26 = .ok (.if_icmp .ge 7, 3) := by decide +kernel
theorem dL_parts_29 : decode cL_parts 29 = .ok (.iconst 0, 1) := by decide +kernel
theorem dL_parts_30 : decode cL_parts 30 = .ok (.goto 64, 3) := by decide +kernel
theorem dL_parts_33 : decode cL_parts 33 = .ok (.iconst (-1), 1) := by decide +kernel
theorem dL_parts_34 : decode cL_parts 34 = .ok (.goto 60, 3) := by decide +kernel
theorem dL_parts_37 : decode cL_parts 37 = .ok (.iload_n 3, 1) := by decide +kernel
theorem dL_parts_38 : decode cL_parts 38 = .ok (.bipush 6, 2) := by decide +kernel
theorem dL_parts_40 : decode cL_parts 40 = .ok (.if_icmp .ne 7, 3) := by decide +kernel
theorem dL_parts_43 : decode cL_parts 43 = .ok (.iconst 1, 1) := by decide +kernel
theorem dL_parts_44 : decode cL_parts 44 = .ok (.goto 50, 3) := by decide +kernel
theorem dL_parts_47 : decode cL_parts 47 = .ok (.iload_n 3, 1) := by decide +kernel
theorem dL_parts_48 : decode cL_parts 48 = .ok (.bipush 9, 2) := by decide +kernel
theorem dL_parts_50 : decode cL_parts 50 = .ok (.if_icmp .ge 7, 3) := by decide +kernel
theorem dL_parts_53 : decode cL_parts 53 = .ok (.iconst 2, 1) := by decide +kernel
theorem dL_parts_54 : decode cL_parts 54 = .ok (.goto 40, 3) := by decide +kernel
theorem dL_parts_57 : decode cL_parts 57 = .ok (.iload_n 3, 1) := by decide +kernel
theorem dL_parts_58 : decode cL_parts 58 = .ok (.bipush 9, 2) := by decide +kernel
theorem dL_parts_60 : decode cL_parts 60 = .ok (.if_icmp .ne 7, 3) := by decide +kernel
theorem dL_parts_63 : decode cL_parts 63 = .ok (.iconst 3, 1) := by decide +kernel
theorem dL_parts_64 : decode cL_parts 64 = .ok (.goto 30, 3) := by decide +kernel
theorem dL_parts_67 : decode cL_parts 67 = .ok (.iload_n 3, 1) := by decide +kernel
theorem dL_parts_68 : decode cL_parts 68 = .ok (.bipush 14, 2) := by decide +kernel
theorem dL_parts_70 : decode cL_parts 70 = .ok (.if_icmp .ge 23, 3) := by decide +kernel
theorem dL_parts_73 : decode cL_parts 73 = .ok (.iload_n 3, 1) := by decide +kernel
theorem dL_parts_74 : decode cL_parts 74 = .ok (.bipush 10, 2) := by decide +kernel
theorem dL_parts_76 : decode cL_parts 76 = .ok (.isub, 1) := by decide +kernel
theorem dL_parts_77 : decode cL_parts 77 = .ok (.aload_n 0, 1) := by decide +kernel
theorem dL_parts_78 : decode cL_parts 78 = .ok (.bipush 12, 2) := by decide +kernel
theorem dL_parts_80 : decode cL_parts 80 = .ok (.iaload, 1) := by decide +kernel
theorem dL_parts_81 : decode cL_parts 81 = .ok (.if_icmp .ge 12, 3) := by decide +kernel
theorem dL_parts_84 : decode cL_parts 84 = .ok (.aload_n 0, 1) := by decide +kernel
theorem dL_parts_85 : decode cL_parts 85 = .ok (.iload_n 3, 1) := by decide +kernel
theorem dL_parts_86 : decode cL_parts 86 = .ok (.bipush 10, 2) := by decide +kernel
theorem dL_parts_88 : decode cL_parts 88 = .ok (.isub, 1) := by decide +kernel
theorem dL_parts_89 : decode cL_parts 89 = .ok (.iaload, 1) := by decide +kernel
theorem dL_parts_90 : decode cL_parts 90 = .ok (.goto 4, 3) := by decide +kernel
theorem dL_parts_93 : decode cL_parts 93 = .ok (.iconst (-1), 1) := by decide +kernel
theorem dL_parts_94 : decode cL_parts 94 = .ok (.ireturn, 1) := by decide +kernel
set_option maxRecDepth 20000 in
theorem ggL_body_L_low : GoodIn wsL_body wsL_low := goodIn_r _ [4, 5] rfl (by decide +kernel)
set_option maxRecDepth 20000 in
theorem gL_body_L_low : GoodIn wsL_body (va_wsS RL 18 yL_low wsL_low) := goodIn_app (goodIn_of _ (by decide +kernel)) ggL_body_L_low
set_option maxRecDepth 20000 in
theorem ggL_body_L_letter : GoodIn wsL_body wsL_letter := goodIn_r _ [8] rfl (by decide +kernel)
set_option maxRecDepth 20000 in
theorem gL_body_L_letter : GoodIn wsL_body (va_wsS RL 9 yL_letter wsL_letter) := goodIn_app (goodIn_of _ (by decide +kernel)) ggL_body_L_letter
set_option maxRecDepth 20000 in
theorem ggL_body_L_parts : GoodIn wsL_body wsL_parts := goodIn_r _ [11, 12, 13, 3, 14, 6, 7, 8] rfl (by decide +kernel)
set_option maxRecDepth 20000 in
theorem gL_body_L_parts : GoodIn wsL_body (va_wsS RL 22 yL_parts wsL_parts) := goodIn_app (goodIn_of _ (by decide +kernel)) ggL_body_L_parts
theorem dL_body_0 : decode cL_body 0 = .ok (.iconst 1, 1) := by decide +kernel
theorem dL_body_1 : decode cL_body 1 = .ok (.istore 5, 2) := by decide +kernel
theorem dL_body_3 : decode cL_body 3 = .ok (.iconst 0, 1) := by decide +kernel
theorem dL_body_4 : decode cL_body 4 = .ok (.istore 6, 2) := by decide +kernel
theorem dL_body_6 : decode cL_body 6 = .ok (.iconst 3, 1) := by decide +kernel
theorem dL_body_7 : decode cL_body 7 = .ok (.iload_n 3, 1) := by decide +kernel
theorem dL_body_8 : decode cL_body 8 = .ok (.bipush 20, 2) := by decide +kernel
theorem dL_body_10 : decode cL_body 10 = .ok (.ishr, 1) := by decide +kernel
theorem dL_body_11 : decode cL_body 11 = .ok (.bipush 8, 2) := by decide +kernel
theorem dL_body_13 : decode cL_body 13 = .ok (.invokestatic 18, 3) := by decide +kernel
theorem dL_body_16 : decode cL_body 16 = .ok (.iadd, 1) := by decide +kernel
theorem dL_body_17 : decode cL_body 17 = .ok (.istore 7, 2) := by decide +kernel
theorem dL_body_19 : decode cL_body 19 = .ok (.iconst 0, 1) := by decide +kernel
theorem dL_body_20 : decode cL_body 20 = .ok (.istore 8, 2) := by decide +kernel
theorem dL_body_22 : decode cL_body 22 = .ok (.iload 5, 2) := by decide +kernel
theorem dL_body_24 : decode cL_body 24 = .ok (.ifCond .le 175, 3) := by decide +kernel
theorem dL_body_27 : decode cL_body 27 = .ok (.iload 8, 2) := by decide +kernel
theorem dL_body_29 : decode cL_body 29 = .ok (.iconst 2, 1) := by decide +kernel
theorem dL_body_30 : decode cL_body 30 = .ok (.irem, 1) := by decide +kernel
theorem dL_body_31 : decode cL_body 31 = .ok (.ifCond .ne 10, 3) := by decide +kernel
theorem dL_body_34 : decode cL_body 34 = .ok (.iload_n 3, 1) := by decide +kernel
theorem dL_body_35 : decode cL_body 35 = .ok (.iload 8, 2) := by decide +kernel
theorem dL_body_37 : decode cL_body 37 = .ok (.ishr, 1) := by decide +kernel
theorem dL_body_38 : decode cL_body 38 = .ok (.goto 8, 3) := by decide +kernel
theorem dL_body_41 : decode cL_body 41 = .ok (.iload 4, 2) := by decide +kernel
theorem dL_body_43 : decode cL_body 43 = .ok (.iload 8, 2) := by decide +kernel
theorem dL_body_45 : decode cL_body 45 = .ok (.ishr, 1) := by decide +kernel
theorem dL_body_46 : decode cL_body 46 = .ok (.bipush 14, 2) := by decide +kernel
theorem dL_body_48 : decode cL_body 48 = .ok (.invokestatic 18, 3) := by decide +kernel
theorem dL_body_51 : decode cL_body 51 = .ok (.istore 9, 2) := by decide +kernel
theorem dL_body_53 : decode cL_body 53 = .ok (.iload 9, 2) := by decide +kernel
theorem dL_body_55 : decode cL_body 55 = .ok (.invokestatic 9, 3) := by decide +kernel
theorem dL_body_58 : decode cL_body 58 = .ok (.istore 10, 2) := by decide +kernel
theorem dL_body_60 : decode cL_body 60 = .ok (.aload_n 0, 1) := by decide +kernel
theorem dL_body_61 : decode cL_body 61 = .ok (.iload_n 2, 1) := by decide +kernel
theorem dL_body_62 : decode cL_body 62 = .ok (.iload 10, 2) := by decide +kernel
theorem dL_body_64 : decode cL_body 64 = .ok (.invokestatic 22, 3) := by decide +kernel
theorem dL_body_67 : decode cL_body 67 = .ok (.istore 11, 2) := by decide +kernel
theorem dL_body_69 : decode cL_body 69 = .ok (.iload 6, 2) := by decide +kernel
theorem dL_body_71 : decode cL_body 71 = .ok (.iload 5, 2) := by decide +kernel
theorem dL_body_73 : decode cL_body 73 = .ok (.iadd, 1) := by decide +kernel
theorem dL_body_74 : decode cL_body 74 = .ok (.iload 7, 2) := by decide +kernel
theorem dL_body_76 : decode cL_body 76 = .ok (.if_icmp .lt 7, 3) := by decide +kernel
theorem dL_body_79 : decode cL_body 79 = .ok (.iconst 1, 1) := by decide +kernel
theorem dL_body_80 : decode cL_body 80 = .ok (.goto 4, 3) := by decide +kernel
theorem dL_body_83 : decode cL_body 83 = .ok (.iconst 0, 1) := by decide +kernel
theorem dL_body_84 : decode cL_body 84 = .ok (.istore 12, 2) := by decide +kernel
theorem dL_body_86 : decode cL_body 86 = .ok (.iload 11, 2) := by decide +kernel
theorem dL_body_88 : decode cL_body 88 = .ok (.ifCond .lt 13, 3) := by decide +kernel
theorem dL_body_91 : decode cL_body 91 = .ok (.iload 12, 2) := by decide +kernel
theorem dL_body_93 : decode cL_body 93 = .ok (.ifCond .eq 57, 3) := by decide +kernel
theorem dL_body_96 : decode cL_body 96 = .ok (.iload 11, 2) := by decide +kernel
theorem dL_body_98 : decode cL_body 98 = .ok (.ifCond .le 52, 3) := by decide +kernel
theorem dL_body_101 : decode cL_body 101 = .ok (.aload_n 0, 1) := by decide +kernel
theorem dL_body_102 : decode cL_body 102 = .ok (.iload_n 2, 1) := by decide +kernel
theorem dL_body_103 : decode cL_body 103 = .ok (.iaload, 1) := by decide +kernel
theorem dL_body_104 : decode cL_body 104 = .ok (.ifCond .le 22, 3) := by decide +kernel
theorem dL_body_107 : decode cL_body 107 = .ok (.bipush 97, 2) := by decide +kernel
theorem dL_body_109 : decode cL_body 109 = .ok (.iload 4, 2) := by decide +kernel
theorem dL_body_111 : decode cL_body 111 = .ok (.iload 8, 2) := by decide +kernel
theorem dL_body_113 : decode cL_body 113 = .ok (.iconst 2, 1) := by decide +kernel
theorem dL_body_114 : decode cL_body 114 = .ok (.iadd, 1) := by decide +kernel
theorem dL_body_115 : decode cL_body 115 = .ok (.ishr, 1) := by decide +kernel
theorem dL_body_116 : decode cL_body 116 = .ok (.aload_n 0, 1) := by decide +kernel
theorem dL_body_117 : decode cL_body 117 = .ok (.iload_n 2, 1) := by decide +kernel
theorem dL_body_118 : decode cL_body 118 = .ok (.iaload, 1) := by decide +kernel
theorem dL_body_119 : decode cL_body 119 = .ok (.invokestatic 18, 3) := by decide +kernel
theorem dL_body_122 : decode cL_body 122 = .ok (.iadd, 1) := by decide +kernel
theorem dL_body_123 : decode cL_body 123 = .ok (.goto 22, 3) := by decide +kernel
theorem dL_body_126 : decode cL_body 126 = .ok (.iload 4, 2) := by decide +kernel
theorem dL_body_128 : decode cL_body 128 = .ok (.iload 8, 2) := by decide +kernel
theorem dL_body_130 : decode cL_body 130 = .ok (.ishr, 1) := by decide +kernel
theorem dL_body_131 : decode cL_body 131 = .ok (.iconst 3, 1) := by decide +kernel
theorem dL_body_132 : decode cL_body 132 = .ok (.invokestatic 18, 3) := by decide +kernel
theorem dL_body_135 : decode cL_body 135 = .ok (.ifCond .ne 8, 3) := by decide +kernel
theorem dL_body_138 : decode cL_body 138 = .ok (.bipush 111, 2) := by decide +kernel
theorem dL_body_140 : decode cL_body 140 = .ok (.goto 5, 3) := by decide +kernel
theorem dL_body_143 : decode cL_body 143 = .ok (.bipush 105, 2) := by decide +kernel
theorem dL_body_145 : decode cL_body 145 = .ok (.istore 10, 2) := by decide +kernel
theorem dL_body_147 : decode cL_body 147 = .ok (.iconst 0, 1) := by decide +kernel
theorem dL_body_148 : decode cL_body 148 = .ok (.istore 11, 2) := by decide +kernel
theorem dL_body_150 : decode cL_body 150 = .ok (.iload 6, 2) := by decide +kernel
theorem dL_body_152 : decode cL_body 152 = .ok (.iload 5, 2) := by decide +kernel
theorem dL_body_154 : decode cL_body 154 = .ok (.iadd, 1) := by decide +kernel
theorem dL_body_155 : decode cL_body 155 = .ok (.iload 11, 2) := by decide +kernel
theorem dL_body_157 : decode cL_body 157 = .ok (.iadd, 1) := by decide +kernel
theorem dL_body_158 : decode cL_body 158 = .ok (.bipush 14, 2) := by decide +kernel
theorem dL_body_160 : decode cL_body 160 = .ok (.if_icmp .le 10, 3) := by decide +kernel
theorem dL_body_163 : decode cL_body 163 = .ok (.bipush 105, 2) := by decide +kernel
theorem dL_body_165 : decode cL_body 165 = .ok (.istore 10, 2) := by decide +kernel
theorem dL_body_167 : decode cL_body 167 = .ok (.iconst 0, 1) := by decide +kernel
theorem dL_body_168 : decode cL_body 168 = .ok (.istore 11, 2) := by decide +kernel
theorem dL_body_170 : decode cL_body 170 = .ok (.aload_n 1, 1) := by decide +kernel
theorem dL_body_171 : decode cL_body 171 = .ok (.bipush 16, 2) := by decide +kernel
theorem dL_body_173 : decode cL_body 173 = .ok (.iload_n 2, 1) := by decide +kernel
theorem dL_body_174 : decode cL_body 174 = .ok (.imul, 1) := by decide +kernel
theorem dL_body_175 : decode cL_body 175 = .ok (.iload 6, 2) := by decide +kernel
theorem dL_body_177 : decode cL_body 177 = .ok (.iadd, 1) := by decide +kernel
theorem dL_body_178 : decode cL_body 178 = .ok (.iload 10, 2) := by decide +kernel
theorem dL_body_180 : decode cL_body 180 = .ok (.iastore, 1) := by decide +kernel
theorem dL_body_181 : decode cL_body 181 = .ok (.iinc 6 1, 3) := by decide +kernel
theorem dL_body_184 : decode cL_body 184 = .ok (.iload 5, 2) := by decide +kernel
theorem dL_body_186 : decode cL_body 186 = .ok (.iload 11, 2) := by decide +kernel
theorem dL_body_188 : decode cL_body 188 = .ok (.iconst 1, 1) := by decide +kernel
theorem dL_body_189 : decode cL_body 189 = .ok (.isub, 1) := by decide +kernel
theorem dL_body_190 : decode cL_body 190 = .ok (.iadd, 1) := by decide +kernel
theorem dL_body_191 : decode cL_body 191 = .ok (.istore 5, 2) := by decide +kernel
theorem dL_body_193 : decode cL_body 193 = .ok (.iinc 8 1, 3) := by decide +kernel
theorem dL_body_196 : decode cL_body 196 = .ok (.goto (-174), 3) := by decide +kernel
theorem dL_body_199 : decode cL_body 199 = .ok (.aload_n 0, 1) := by decide +kernel
theorem dL_body_200 : decode cL_body 200 = .ok (.bipush 8, 2) := by decide +kernel
theorem dL_body_202 : decode cL_body 202 = .ok (.iload_n 2, 1) := by decide +kernel
theorem dL_body_203 : decode cL_body 203 = .ok (.iadd, 1) := by decide +kernel
theorem dL_body_204 : decode cL_body 204 = .ok (.iload 6, 2) := by decide +kernel
theorem dL_body_206 : decode cL_body 206 = .ok (.iastore, 1) := by decide +kernel
theorem dL_body_207 : decode cL_body 207 = .ok (.return_, 1) := by decide +kernel
set_option maxRecDepth 20000 in
theorem ggL_functions_L_cell : GoodIn wsL_functions wsL_cell := goodIn_r _ [4, 5] rfl (by decide +kernel)
set_option maxRecDepth 20000 in
theorem gL_functions_L_cell : GoodIn wsL_functions (va_wsS RL 26 yL_cell wsL_cell) := goodIn_app (goodIn_of _ (by decide +kernel)) ggL_functions_L_cell
set_option maxRecDepth 20000 in
theorem ggL_functions_L_low : GoodIn wsL_functions wsL_low := goodIn_r _ [8, 9] rfl (by decide +kernel)
set_option maxRecDepth 20000 in
theorem gL_functions_L_low : GoodIn wsL_functions (va_wsS RL 18 yL_low wsL_low) := goodIn_app (goodIn_of _ (by decide +kernel)) ggL_functions_L_low
set_option maxRecDepth 20000 in
theorem ggL_functions_X8_wipe : GoodIn wsL_functions wsX8_wipe := goodIn_r _ [14, 15, 16, 17, 18, 19, 20, 21, 22, 227, 228, 229, 230, 231, 232, 233, 234, 235, 236, 237, 238, 239, 240, 241, 242] rfl (by decide +kernel)
set_option maxRecDepth 20000 in
theorem gL_functions_X8_wipe : GoodIn wsL_functions (wsV RL 30 RX8 yX8_wipe wsX8_wipe) := goodIn_app (goodIn_of _ (by decide +kernel)) ggL_functions_X8_wipe
set_option maxRecDepth 20000 in
theorem ggL_functions_X8_write : GoodIn wsL_functions wsX8_write := goodIn_r _ [26, 15, 16, 27, 28, 29, 20, 30, 22, 31, 227, 228, 229, 230, 231, 232, 233, 234, 235, 236, 237, 238, 239, 240, 241, 242] rfl (by decide +kernel)
set_option maxRecDepth 20000 in
theorem gL_functions_X8_write : GoodIn wsL_functions (wsV RL 36 RX8 yX8_write wsX8_write) := goodIn_app (goodIn_of _ (by decide +kernel)) ggL_functions_X8_write
set_option maxRecDepth 20000 in
theorem ggL_functions_L_body : GoodIn wsL_functions wsL_body := goodIn_r _ [34, 6, 7, 3, 8, 9, 35, 36, 37, 38, 39, 40, 41, 42, 43] rfl (by decide +kernel)
set_option maxRecDepth 20000 in
theorem gL_functions_L_body : GoodIn wsL_functions (va_wsS RL 39 yL_body wsL_body) := goodIn_app (goodIn_of _ (by decide +kernel)) ggL_functions_L_body
set_option maxRecDepth 20000 in
theorem ggL_functions_X8_fault : GoodIn wsL_functions wsX8_fault := goodIn_r _ [47, 15, 48, 49, 50, 20, 51, 52, 53, 54, 55, 22, 56, 57, 58, 59, 60, 61, 62, 63, 31, 64, 65, 66, 67, 68, 69, 70, 71, 72, 73, 74, 75, 76, 77, 78, 79, 80, 81, 82, 83, 84, 85, 86, 87, 88, 89, 90, 91, 92, 93, 94, 95, 96, 97, 98, 99, 100, 101, 102, 103, 104, 105, 106, 107, 108, 109, 110, 111, 112, 113, 114, 115, 116, 117, 118, 119, 120, 121, 122, 123, 124, 125, 126, 127, 128, 129, 130, 131, 132, 133, 134, 135, 136, 137, 138, 139, 140, 141, 142, 143, 144, 145, 146, 147, 148, 149, 150, 151, 152, 153, 154, 155, 156, 157, 158, 159, 160, 161, 162, 163, 164, 165, 166, 167, 168, 169, 170, 171, 172, 173, 174, 175, 176, 177, 178, 179, 180, 181, 182, 183, 184, 185, 186, 187, 188, 227, 228, 229, 230, 231, 232, 233, 234, 235, 236, 237, 238, 239, 240, 241, 242, 243, 244, 245, 246, 247] rfl (by decide +kernel)
set_option maxRecDepth 20000 in
theorem gL_functions_X8_fault : GoodIn wsL_functions (wsV RL 43 RX8 yX8_fault wsX8_fault) := goodIn_app (goodIn_of _ (by decide +kernel)) ggL_functions_X8_fault
set_option maxRecDepth 20000 in
theorem ggL_functions_X8_lay : GoodIn wsL_functions wsX8_lay := goodIn_r _ [192, 15, 193, 194, 195, 196, 197, 48, 49, 50, 20, 51, 52, 53, 54, 55, 22, 56, 57, 58, 59, 60, 61, 62, 63, 31, 64, 65, 66, 67, 68, 69, 70, 71, 72, 73, 74, 75, 76, 77, 78, 79, 80, 81, 82, 83, 84, 85, 86, 87, 88, 89, 90, 91, 92, 93, 94, 95, 96, 97, 98, 99, 100, 101, 102, 103, 104, 105, 106, 107, 108, 109, 110, 111, 112, 113, 114, 115, 116, 117, 118, 119, 120, 121, 122, 123, 124, 125, 126, 127, 128, 129, 130, 131, 132, 133, 134, 135, 136, 137, 138, 139, 140, 141, 142, 143, 144, 145, 146, 147, 148, 149, 150, 151, 152, 153, 154, 155, 156, 157, 158, 159, 160, 161, 162, 163, 164, 165, 166, 167, 168, 169, 170, 171, 172, 173, 174, 175, 176, 177, 178, 179, 180, 181, 182, 183, 184, 185, 186, 187, 188, 198, 199, 200, 201, 202, 203, 204, 205, 206, 207, 208, 209, 210, 211, 212, 213, 214, 215, 216, 217, 218, 219, 220, 221, 13, 222, 223, 224, 225, 226, 227, 228, 229, 230, 231, 232, 233, 234, 235, 236, 237, 238, 239, 240, 241, 242, 243, 244, 245, 246, 247, 248, 249, 250, 251, 252, 253, 254, 255, 256, 257, 258, 259, 260, 261, 262, 263, 264, 265, 266, 267, 268, 269, 270, 271, 272, 273, 274, 275, 276, 277, 278, 279, 280, 281, 282, 283, 284, 285, 286, 287, 288, 289, 290] rfl (by decide +kernel)
set_option maxRecDepth 20000 in
theorem gL_functions_X8_lay : GoodIn wsL_functions (wsV RL 46 RX8 yX8_lay wsX8_lay) := goodIn_app (goodIn_of _ (by decide +kernel)) ggL_functions_X8_lay
theorem dL_functions_0 : decode cL_functions 0 = .ok (.aload_n 1, 1) := by decide +kernel
theorem dL_functions_1 : decode cL_functions 1 = .ok (.iconst 0, 1) := by decide +kernel
theorem dL_functions_2 : decode cL_functions 2 = .ok (.invokestatic 26, 3) := by decide +kernel
theorem dL_functions_5 : decode cL_functions 5 = .ok (.istore 4, 2) := by decide +kernel
theorem dL_functions_7 : decode cL_functions 7 = .ok (.aload_n 2, 1) := by decide +kernel
theorem dL_functions_8 : decode cL_functions 8 = .ok (.bipush 12, 2) := by decide +kernel
theorem dL_functions_10 : decode cL_functions 10 = .ok (.iconst 1, 1) := by decide +kernel
theorem dL_functions_11 : decode cL_functions 11 = .ok (.iload 4, 2) := by decide +kernel
theorem dL_functions_13 : decode cL_functions 13 = .ok (.iconst 4, 1) := by decide +kernel
theorem dL_functions_14 : decode cL_functions 14 = .ok (.invokestatic 18, 3) := by decide +kernel
theorem dL_functions_17 : decode cL_functions 17 = .ok (.iadd, 1) := by decide +kernel
theorem dL_functions_18 : decode cL_functions 18 = .ok (.iastore, 1) := by decide +kernel
theorem dL_functions_19 : decode cL_functions 19 = .ok (.aload_n 0, 1) := by decide +kernel
theorem dL_functions_20 : decode cL_functions 20 = .ok (.invokevirtual 30, 3) := by decide +kernel
theorem dL_functions_23 : decode cL_functions 23 = .ok (.pop, 1) := by decide +kernel
theorem dL_functions_24 : decode cL_functions 24 = .ok (.aload_n 0, 1) := by decide +kernel
theorem dL_functions_25 : decode cL_functions 25 = .ok (.bipush 110, 2) := by decide +kernel
theorem dL_functions_27 : decode cL_functions 27 = .ok (.invokevirtual 36, 3) := by decide +kernel
theorem dL_functions_30 : decode cL_functions 30 = .ok (.pop, 1) := by decide +kernel
theorem dL_functions_31 : decode cL_functions 31 = .ok (.iconst 0, 1) := by decide +kernel
theorem dL_functions_32 : decode cL_functions 32 = .ok (.istore 5, 2) := by decide +kernel
theorem dL_functions_34 : decode cL_functions 34 = .ok (.iload 5, 2) := by decide +kernel
theorem dL_functions_36 : decode cL_functions 36 = .ok (.aload_n 2, 1) := by decide +kernel
theorem dL_functions_37 : decode cL_functions 37 = .ok (.bipush 12, 2) := by decide +kernel
theorem dL_functions_39 : decode cL_functions 39 = .ok (.iaload, 1) := by decide +kernel
theorem dL_functions_40 : decode cL_functions 40 = .ok (.if_icmp .ge 102, 3) := by decide +kernel
theorem dL_functions_43 : decode cL_functions 43 = .ok (.aload_n 2, 1) := by decide +kernel
theorem dL_functions_44 : decode cL_functions 44 = .ok (.iload 5, 2) := by decide +kernel
theorem dL_functions_46 : decode cL_functions 46 = .ok (.iload 4, 2) := by decide +kernel
theorem dL_functions_48 : decode cL_functions 48 = .ok (.iconst 3, 1) := by decide +kernel
theorem dL_functions_49 : decode cL_functions 49 = .ok (.iconst 2, 1) := by decide +kernel
theorem dL_functions_50 : decode cL_functions 50 = .ok (.iload 5, 2) := by decide +kernel
theorem dL_functions_52 : decode cL_functions 52 = .ok (.imul, 1) := by decide +kernel
theorem dL_functions_53 : decode cL_functions 53 = .ok (.iadd, 1) := by decide +kernel
theorem dL_functions_54 : decode cL_functions 54 = .ok (.ishr, 1) := by decide +kernel
theorem dL_functions_55 : decode cL_functions 55 = .ok (.bipush 9, 2) := by decide +kernel
theorem dL_functions_57 : decode cL_functions 57 = .ok (.invokestatic 18, 3) := by decide +kernel
theorem dL_functions_60 : decode cL_functions 60 = .ok (.bipush 6, 2) := by decide +kernel
theorem dL_functions_62 : decode cL_functions 62 = .ok (.if_icmp .le 7, 3) := by decide +kernel
theorem dL_functions_65 : decode cL_functions 65 = .ok (.iconst 3, 1) := by decide +kernel
theorem dL_functions_66 : decode cL_functions 66 = .ok (.goto 16, 3) := by decide +kernel
theorem dL_functions_69 : decode cL_functions 69 = .ok (.iload 4, 2) := by decide +kernel
theorem dL_functions_71 : decode cL_functions 71 = .ok (.iconst 3, 1) := by decide +kernel
theorem dL_functions_72 : decode cL_functions 72 = .ok (.iconst 3, 1) := by decide +kernel
theorem dL_functions_73 : decode cL_functions 73 = .ok (.iload 5, 2) := by decide +kernel
theorem dL_functions_75 : decode cL_functions 75 = .ok (.imul, 1) := by decide +kernel
theorem dL_functions_76 : decode cL_functions 76 = .ok (.iadd, 1) := by decide +kernel
theorem dL_functions_77 : decode cL_functions 77 = .ok (.ishr, 1) := by decide +kernel
theorem dL_functions_78 : decode cL_functions 78 = .ok (.iconst 3, 1) := by decide +kernel
theorem dL_functions_79 : decode cL_functions 79 = .ok (.invokestatic 18, 3) := by decide +kernel
theorem dL_functions_82 : decode cL_functions 82 = .ok (.iastore, 1) := by decide +kernel
theorem dL_functions_83 : decode cL_functions 83 = .ok (.aload_n 2, 1) := by decide +kernel
theorem dL_functions_84 : decode cL_functions 84 = .ok (.iconst 4, 1) := by decide +kernel
theorem dL_functions_85 : decode cL_functions 85 = .ok (.iload 5, 2) := by decide +kernel
theorem dL_functions_87 : decode cL_functions 87 = .ok (.iadd, 1) := by decide +kernel
theorem dL_functions_88 : decode cL_functions 88 = .ok (.iload 4, 2) := by decide +kernel
theorem dL_functions_90 : decode cL_functions 90 = .ok (.bipush 15, 2) := by decide +kernel
theorem dL_functions_92 : decode cL_functions 92 = .ok (.iconst 2, 1) := by decide +kernel
theorem dL_functions_93 : decode cL_functions 93 = .ok (.iload 5, 2) := by decide +kernel
theorem dL_functions_95 : decode cL_functions 95 = .ok (.imul, 1) := by decide +kernel
theorem dL_functions_96 : decode cL_functions 96 = .ok (.iadd, 1) := by decide +kernel
theorem dL_functions_97 : decode cL_functions 97 = .ok (.ishr, 1) := by decide +kernel
theorem dL_functions_98 : decode cL_functions 98 = .ok (.iconst 2, 1) := by decide +kernel
theorem dL_functions_99 : decode cL_functions 99 = .ok (.invokestatic 18, 3) := by decide +kernel
theorem dL_functions_102 : decode cL_functions 102 = .ok (.ifCond .ne 7, 3) := by decide +kernel
theorem dL_functions_105 : decode cL_functions 105 = .ok (.iconst 0, 1) := by decide +kernel
theorem dL_functions_106 : decode cL_functions 106 = .ok (.goto 17, 3) := by decide +kernel
theorem dL_functions_109 : decode cL_functions 109 = .ok (.iload 4, 2) := by decide +kernel
theorem dL_functions_111 : decode cL_functions 111 = .ok (.bipush 17, 2) := by decide +kernel
theorem dL_functions_113 : decode cL_functions 113 = .ok (.iconst 2, 1) := by decide +kernel
theorem dL_functions_114 : decode cL_functions 114 = .ok (.iload 5, 2) := by decide +kernel
theorem dL_functions_116 : decode cL_functions 116 = .ok (.imul, 1) := by decide +kernel
theorem dL_functions_117 : decode cL_functions 117 = .ok (.iadd, 1) := by decide +kernel
theorem dL_functions_118 : decode cL_functions 118 = .ok (.ishr, 1) := by decide +kernel
theorem dL_functions_119 : decode cL_functions 119 = .ok (.iconst 4, 1) := by decide +kernel
theorem dL_functions_120 : decode cL_functions 120 = .ok (.invokestatic 18, 3) := by decide +kernel
theorem dL_functions_123 : decode cL_functions 123 = .ok (.iastore, 1) := by decide +kernel
theorem dL_functions_124 : decode cL_functions 124 = .ok (.aload_n 0, 1) := by decide +kernel
theorem dL_functions_125 : decode cL_functions 125 = .ok (.bipush 48, 2) := by decide +kernel
theorem dL_functions_127 : decode cL_functions 127 = .ok (.aload_n 2, 1) := by decide +kernel
theorem dL_functions_128 : decode cL_functions 128 = .ok (.iload 5, 2) := by decide +kernel
theorem dL_functions_130 : decode cL_functions 130 = .ok (.iaload, 1) := by decide +kernel
theorem dL_functions_131 : decode cL_functions 131 = .ok (.iadd, 1) := by decide +kernel
theorem dL_functions_132 : decode cL_functions 132 = .ok (.invokevirtual 36, 3) := by decide +kernel
theorem dL_functions_135 : decode cL_functions 135 = .ok (.pop, 1) := by decide +kernel
theorem dL_functions_136 : decode cL_functions 136 = .ok (.iinc 5 1, 3) := by decide +kernel
theorem dL_functions_139 : decode cL_functions 139 = .ok (.goto (-105), 3) := by decide +kernel
theorem dL_functions_142 : decode cL_functions 142 = .ok (.aload_n 0, 1) := by decide +kernel
theorem dL_functions_143 : decode cL_functions 143 = .ok (.bipush 59, 2) := by decide +kernel
theorem dL_functions_145 : decode cL_functions 145 = .ok (.invokevirtual 36, 3) := by decide +kernel
theorem dL_functions_148 : decode cL_functions 148 = .ok (.pop, 1) := by decide +kernel
theorem dL_functions_149 : decode cL_functions 149 = .ok (.iconst 0, 1) := by decide +kernel
theorem dL_functions_150 : decode cL_functions 150 = .ok (.istore 5, 2) := by decide +kernel
theorem dL_functions_152 : decode cL_functions 152 = .ok (.iload 5, 2) := by decide +kernel
theorem dL_functions_154 : decode cL_functions 154 = .ok (.aload_n 2, 1) := by decide +kernel
theorem dL_functions_155 : decode cL_functions 155 = .ok (.bipush 12, 2) := by decide +kernel
theorem dL_functions_157 : decode cL_functions 157 = .ok (.iaload, 1) := by decide +kernel
theorem dL_functions_158 : decode cL_functions 158 = .ok (.if_icmp .ge 103, 3) := by decide +kernel
theorem dL_functions_161 : decode cL_functions 161 = .ok (.aload_n 2, 1) := by decide +kernel
theorem dL_functions_162 : decode cL_functions 162 = .ok (.aload_n 3, 1) := by decide +kernel
theorem dL_functions_163 : decode cL_functions 163 = .ok (.iload 5, 2) := by decide +kernel
theorem dL_functions_165 : decode cL_functions 165 = .ok (.aload_n 1, 1) := by decide +kernel
theorem dL_functions_166 : decode cL_functions 166 = .ok (.iconst 1, 1) := by decide +kernel
theorem dL_functions_167 : decode cL_functions 167 = .ok (.iload 5, 2) := by decide +kernel
theorem dL_functions_169 : decode cL_functions 169 = .ok (.iadd, 1) := by decide +kernel
theorem dL_functions_170 : decode cL_functions 170 = .ok (.invokestatic 26, 3) := by decide +kernel
theorem dL_functions_173 : decode cL_functions 173 = .ok (.aload_n 1, 1) := by decide +kernel
theorem dL_functions_174 : decode cL_functions 174 = .ok (.iconst 5, 1) := by decide +kernel
theorem dL_functions_175 : decode cL_functions 175 = .ok (.iload 5, 2) := by decide +kernel
theorem dL_functions_177 : decode cL_functions 177 = .ok (.iadd, 1) := by decide +kernel
theorem dL_functions_178 : decode cL_functions 178 = .ok (.invokestatic 26, 3) := by decide +kernel
theorem dL_functions_181 : decode cL_functions 181 = .ok (.invokestatic 39, 3) := by decide +kernel
theorem dL_functions_184 : decode cL_functions 184 = .ok (.aload_n 0, 1) := by decide +kernel
theorem dL_functions_185 : decode cL_functions 185 = .ok (.bipush 102, 2) := by decide +kernel
theorem dL_functions_187 : decode cL_functions 187 = .ok (.invokevirtual 36, 3) := by decide +kernel
theorem dL_functions_190 : decode cL_functions 190 = .ok (.pop, 1) := by decide +kernel
theorem dL_functions_191 : decode cL_functions 191 = .ok (.aload_n 0, 1) := by decide +kernel
theorem dL_functions_192 : decode cL_functions 192 = .ok (.bipush 48, 2) := by decide +kernel
theorem dL_functions_194 : decode cL_functions 194 = .ok (.aload_n 2, 1) := by decide +kernel
theorem dL_functions_195 : decode cL_functions 195 = .ok (.iconst 4, 1) := by decide +kernel
theorem dL_functions_196 : decode cL_functions 196 = .ok (.iload 5, 2) := by decide +kernel
theorem dL_functions_198 : decode cL_functions 198 = .ok (.iadd, 1) := by decide +kernel
theorem dL_functions_199 : decode cL_functions 199 = .ok (.iaload, 1) := by decide +kernel
theorem dL_functions_200 : decode cL_functions 200 = .ok (.iadd, 1) := by decide +kernel
theorem dL_functions_201 : decode cL_functions 201 = .ok (.invokevirtual 36, 3) := by decide +kernel
theorem dL_functions_204 : decode cL_functions 204 = .ok (.pop, 1) := by decide +kernel
theorem dL_functions_205 : decode cL_functions 205 = .ok (.aload_n 0, 1) := by decide +kernel
theorem dL_functions_206 : decode cL_functions 206 = .ok (.bipush 44, 2) := by decide +kernel
theorem dL_functions_208 : decode cL_functions 208 = .ok (.invokevirtual 36, 3) := by decide +kernel
theorem dL_functions_211 : decode cL_functions 211 = .ok (.pop, 1) := by decide +kernel
theorem dL_functions_212 : decode cL_functions 212 = .ok (.iconst 0, 1) := by decide +kernel
theorem dL_functions_213 : decode cL_functions 213 = .ok (.istore 6, 2) := by decide +kernel
theorem dL_functions_215 : decode cL_functions 215 = .ok (.iload 6, 2) := by decide +kernel
theorem dL_functions_217 : decode cL_functions 217 = .ok (.aload_n 2, 1) := by decide +kernel
theorem dL_functions_218 : decode cL_functions 218 = .ok (.bipush 8, 2) := by decide +kernel
theorem dL_functions_220 : decode cL_functions 220 = .ok (.iload 5, 2) := by decide +kernel
theorem dL_functions_222 : decode cL_functions 222 = .ok (.iadd, 1) := by decide +kernel
theorem dL_functions_223 : decode cL_functions 223 = .ok (.iaload, 1) := by decide +kernel
theorem dL_functions_224 : decode cL_functions 224 = .ok (.if_icmp .ge 24, 3) := by decide +kernel
theorem dL_functions_227 : decode cL_functions 227 = .ok (.aload_n 0, 1) := by decide +kernel
theorem dL_functions_228 : decode cL_functions 228 = .ok (.aload_n 3, 1) := by decide +kernel
theorem dL_functions_229 : decode cL_functions 229 = .ok (.bipush 16, 2) := by decide +kernel
theorem dL_functions_231 : decode cL_functions 231 = .ok (.iload 5, 2) := by decide +kernel
theorem dL_functions_233 : decode cL_functions 233 = .ok (.imul, 1) := by decide +kernel
theorem dL_functions_234 : decode cL_functions 234 = .ok (.iload 6, 2) := by decide +kernel
theorem dL_functions_236 : decode cL_functions 236 = .ok (.iadd, 1) := by decide +kernel
theorem dL_functions_237 : decode cL_functions 237 = .ok (.iaload, 1) := by decide +kernel
theorem dL_functions_238 : decode cL_functions 238 = .ok (.invokevirtual 36, 3) := by decide +kernel
theorem dL_functions_241 : decode cL_functions 241 = .ok (.pop, 1) := by decide +kernel
theorem dL_functions_242 : decode cL_functions 242 = .ok (.iinc 6 1, 3) := by decide +kernel
theorem dL_functions_245 : decode cL_functions 245 = .ok (.goto (-30), 3) := by decide +kernel
theorem dL_functions_248 : decode cL_functions 248 = .ok (.aload_n 0, 1) := by decide +kernel
theorem dL_functions_249 : decode cL_functions 249 = .ok (.bipush 59, 2) := by decide +kernel
theorem dL_functions_251 : decode cL_functions 251 = .ok (.invokevirtual 36, 3) := by decide +kernel
theorem dL_functions_254 : decode cL_functions 254 = .ok (.pop, 1) := by decide +kernel
theorem dL_functions_255 : decode cL_functions 255 = .ok (.iinc 5 1, 3) := by decide +kernel
theorem dL_functions_258 : decode cL_functions 258 = .ok (.goto (-106), 3) := by decide +kernel
theorem dL_functions_261 : decode cL_functions 261 = .ok (.aload_n 0, 1) := by decide +kernel
theorem dL_functions_262 : decode cL_functions 262 = .ok (.invokevirtual 43, 3) := by decide +kernel
theorem dL_functions_265 : decode cL_functions 265 = .ok (.bipush (-4), 2) := by decide +kernel
theorem dL_functions_267 : decode cL_functions 267 = .ok (.if_icmp .ne 25, 3) := by decide +kernel
theorem dL_functions_270 : decode cL_functions 270 = .ok (.aload_n 0, 1) := by decide +kernel
theorem dL_functions_271 : decode cL_functions 271 = .ok (.invokevirtual 46, 3) := by decide +kernel
theorem dL_functions_274 : decode cL_functions 274 = .ok (.aload_n 2, 1) := by decide +kernel
theorem dL_functions_275 : decode cL_functions 275 = .ok (.bipush 12, 2) := by decide +kernel
theorem dL_functions_277 : decode cL_functions 277 = .ok (.iaload, 1) := by decide +kernel
theorem dL_functions_278 : decode cL_functions 278 = .ok (.if_icmp .ne 14, 3) := by decide +kernel
theorem dL_functions_281 : decode cL_functions 281 = .ok (.aload_n 0, 1) := by decide +kernel
theorem dL_functions_282 : decode cL_functions 282 = .ok (.invokevirtual 30, 3) := by decide +kernel
theorem dL_functions_285 : decode cL_functions 285 = .ok (.ifCond .le 7, 3) := by decide +kernel
theorem dL_functions_288 : decode cL_functions 288 = .ok (.iconst 1, 1) := by decide +kernel
theorem dL_functions_289 : decode cL_functions 289 = .ok (.goto 4, 3) := by decide +kernel
theorem dL_functions_292 : decode cL_functions 292 = .ok (.iconst 0, 1) := by decide +kernel
theorem dL_functions_293 : decode cL_functions 293 = .ok (.ireturn, 1) := by decide +kernel
set_option maxRecDepth 20000 in
theorem ggL_alike_X8_count : GoodIn wsL_alike wsX8_count := goodIn_r _ [5, 6, 7, 8, 9, 10, 11, 12, 13, 14, 15, 16, 17, 18, 19, 20, 86, 87, 88, 89, 90, 91, 92, 93, 94, 95, 96, 97, 98, 99, 100, 101, 102, 103, 104, 105, 106, 107, 108, 109, 110] rfl (by decide +kernel)
set_option maxRecDepth 20000 in
theorem gL_alike_X8_count : GoodIn wsL_alike (wsV RL 49 RX8 yX8_count wsX8_count) := goodIn_app (goodIn_of _ (by decide +kernel)) ggL_alike_X8_count
set_option maxRecDepth 20000 in
theorem ggL_alike_X8_function : GoodIn wsL_alike wsX8_function := goodIn_r _ [24, 6, 25, 9, 8, 26, 27, 28, 18, 29, 20, 86, 87, 88, 89, 90, 91, 92, 93, 94, 95, 96, 97, 98, 99, 100, 101] rfl (by decide +kernel)
set_option maxRecDepth 20000 in
theorem gL_alike_X8_function : GoodIn wsL_alike (wsV RL 52 RX8 yX8_function wsX8_function) := goodIn_app (goodIn_of _ (by decide +kernel)) ggL_alike_X8_function
set_option maxRecDepth 20000 in
theorem ggL_alike_X8_letter : GoodIn wsL_alike wsX8_letter := goodIn_r _ [33, 6, 34, 35, 36, 37, 18, 38, 39, 40, 27, 28, 29, 20, 41, 42, 43, 44, 45, 46, 47, 48, 49, 50, 51, 52, 53, 54, 55, 56, 57, 58, 59, 60, 61, 62, 63, 64, 65, 66, 67, 68, 69, 70, 71, 72, 73, 74, 75, 76, 77, 78, 79, 80, 81, 82, 83, 84, 85, 86, 87, 88, 89, 90, 91, 92, 93, 94, 95, 96, 97, 98, 99, 100, 101] rfl (by decide +kernel)
set_option maxRecDepth 20000 in
theorem gL_alike_X8_letter : GoodIn wsL_alike (wsV RL 55 RX8 yX8_letter wsX8_letter) := goodIn_app (goodIn_of _ (by decide +kernel)) ggL_alike_X8_letter
theorem dL_alike_0 : decode cL_alike 0 = .ok (.iconst 0, 1) := by decide +kernel
theorem dL_alike_1 : decode cL_alike 1 = .ok (.istore_n 3, 1) := by decide +kernel
theorem dL_alike_2 : decode cL_alike 2 = .ok (.iconst 0, 1) := by decide +kernel
theorem dL_alike_3 : decode cL_alike 3 = .ok (.istore 4, 2) := by decide +kernel
theorem dL_alike_5 : decode cL_alike 5 = .ok (.aload_n 0, 1) := by decide +kernel
theorem dL_alike_6 : decode cL_alike 6 = .ok (.iconst 0, 1) := by decide +kernel
theorem dL_alike_7 : decode cL_alike 7 = .ok (.invokevirtual 49, 3) := by decide +kernel
theorem dL_alike_10 : decode cL_alike 10 = .ok (.aload_n 1, 1) := by decide +kernel
theorem dL_alike_11 : decode cL_alike 11 = .ok (.bipush 12, 2) := by decide +kernel
theorem dL_alike_13 : decode cL_alike 13 = .ok (.iaload, 1) := by decide +kernel
theorem dL_alike_14 : decode cL_alike 14 = .ok (.if_icmp .ne 20, 3) := by decide +kernel
theorem dL_alike_17 : decode cL_alike 17 = .ok (.aload_n 0, 1) := by decide +kernel
theorem dL_alike_18 : decode cL_alike 18 = .ok (.aload_n 1, 1) := by decide +kernel
theorem dL_alike_19 : decode cL_alike 19 = .ok (.bipush 12, 2) := by decide +kernel
theorem dL_alike_21 : decode cL_alike 21 = .ok (.iaload, 1) := by decide +kernel
theorem dL_alike_22 : decode cL_alike 22 = .ok (.iconst 0, 1) := by decide +kernel
theorem dL_alike_23 : decode cL_alike 23 = .ok (.invokevirtual 52, 3) := by decide +kernel
theorem dL_alike_26 : decode cL_alike 26 = .ok (.iconst (-1), 1) := by decide +kernel
theorem dL_alike_27 : decode cL_alike 27 = .ok (.if_icmp .ne 7, 3) := by decide +kernel
theorem dL_alike_30 : decode cL_alike 30 = .ok (.iconst 1, 1) := by decide +kernel
theorem dL_alike_31 : decode cL_alike 31 = .ok (.goto 4, 3) := by decide +kernel
theorem dL_alike_34 : decode cL_alike 34 = .ok (.iconst 0, 1) := by decide +kernel
theorem dL_alike_35 : decode cL_alike 35 = .ok (.istore 5, 2) := by decide +kernel
theorem dL_alike_37 : decode cL_alike 37 = .ok (.iconst 0, 1) := by decide +kernel
theorem dL_alike_38 : decode cL_alike 38 = .ok (.istore 6, 2) := by decide +kernel
theorem dL_alike_40 : decode cL_alike 40 = .ok (.iload 6, 2) := by decide +kernel
theorem dL_alike_42 : decode cL_alike 42 = .ok (.aload_n 1, 1) := by decide +kernel
theorem dL_alike_43 : decode cL_alike 43 = .ok (.bipush 12, 2) := by decide +kernel
theorem dL_alike_45 : decode cL_alike 45 = .ok (.iaload, 1) := by decide +kernel
theorem dL_alike_46 : decode cL_alike 46 = .ok (.if_icmp .ge 158, 3) := by decide +kernel
theorem dL_alike_49 : decode cL_alike 49 = .ok (.iload 5, 2) := by decide +kernel
theorem dL_alike_51 : decode cL_alike 51 = .ok (.ifCond .eq 71, 3) := by decide +kernel
theorem dL_alike_54 : decode cL_alike 54 = .ok (.aload_n 0, 1) := by decide +kernel
theorem dL_alike_55 : decode cL_alike 55 = .ok (.iload 6, 2) := by decide +kernel
theorem dL_alike_57 : decode cL_alike 57 = .ok (.iconst 0, 1) := by decide +kernel
theorem dL_alike_58 : decode cL_alike 58 = .ok (.invokevirtual 52, 3) := by decide +kernel
theorem dL_alike_61 : decode cL_alike 61 = .ok (.aload_n 1, 1) := by decide +kernel
theorem dL_alike_62 : decode cL_alike 62 = .ok (.iconst 4, 1) := by decide +kernel
theorem dL_alike_63 : decode cL_alike 63 = .ok (.iload 6, 2) := by decide +kernel
theorem dL_alike_65 : decode cL_alike 65 = .ok (.iadd, 1) := by decide +kernel
theorem dL_alike_66 : decode cL_alike 66 = .ok (.iaload, 1) := by decide +kernel
theorem dL_alike_67 : decode cL_alike 67 = .ok (.if_icmp .ne 55, 3) := by decide +kernel
theorem dL_alike_70 : decode cL_alike 70 = .ok (.aload_n 0, 1) := by decide +kernel
theorem dL_alike_71 : decode cL_alike 71 = .ok (.iload 6, 2) := by decide +kernel
theorem dL_alike_73 : decode cL_alike 73 = .ok (.iconst 1, 1) := by decide +kernel
theorem dL_alike_74 : decode cL_alike 74 = .ok (.invokevirtual 52, 3) := by decide +kernel
theorem dL_alike_77 : decode cL_alike 77 = .ok (.aload_n 1, 1) := by decide +kernel
theorem dL_alike_78 : decode cL_alike 78 = .ok (.iload 6, 2) := by decide +kernel
theorem dL_alike_80 : decode cL_alike 80 = .ok (.iaload, 1) := by decide +kernel
theorem dL_alike_81 : decode cL_alike 81 = .ok (.if_icmp .ne 41, 3) := by decide +kernel
theorem dL_alike_84 : decode cL_alike 84 = .ok (.aload_n 0, 1) := by decide +kernel
theorem dL_alike_85 : decode cL_alike 85 = .ok (.iload 6, 2) := by decide +kernel
theorem dL_alike_87 : decode cL_alike 87 = .ok (.iconst 2, 1) := by decide +kernel
theorem dL_alike_88 : decode cL_alike 88 = .ok (.invokevirtual 52, 3) := by decide +kernel
theorem dL_alike_91 : decode cL_alike 91 = .ok (.aload_n 1, 1) := by decide +kernel
theorem dL_alike_92 : decode cL_alike 92 = .ok (.bipush 8, 2) := by decide +kernel
theorem dL_alike_94 : decode cL_alike 94 = .ok (.iload 6, 2) := by decide +kernel
theorem dL_alike_96 : decode cL_alike 96 = .ok (.iadd, 1) := by decide +kernel
theorem dL_alike_97 : decode cL_alike 97 = .ok (.iaload, 1) := by decide +kernel
theorem dL_alike_98 : decode cL_alike 98 = .ok (.if_icmp .ne 24, 3) := by decide +kernel
theorem dL_alike_101 : decode cL_alike 101 = .ok (.aload_n 0, 1) := by decide +kernel
theorem dL_alike_102 : decode cL_alike 102 = .ok (.iload 6, 2) := by decide +kernel
theorem dL_alike_104 : decode cL_alike 104 = .ok (.aload_n 1, 1) := by decide +kernel
theorem dL_alike_105 : decode cL_alike 105 = .ok (.bipush 8, 2) := by decide +kernel
theorem dL_alike_107 : decode cL_alike 107 = .ok (.iload 6, 2) := by decide +kernel
theorem dL_alike_109 : decode cL_alike 109 = .ok (.iadd, 1) := by decide +kernel
theorem dL_alike_110 : decode cL_alike 110 = .ok (.iaload, 1) := by decide +kernel
theorem dL_alike_111 : decode cL_alike 111 = .ok (.invokevirtual 55, 3) := by decide +kernel
theorem dL_alike_114 : decode cL_alike 114 = .ok (.iconst (-1), 1) := by decide +kernel
theorem dL_alike_115 : decode cL_alike 115 = .ok (.if_icmp .ne 7, 3) := by decide +kernel
theorem dL_alike_118 : decode cL_alike 118 = .ok (.iconst 1, 1) := by decide +kernel
theorem dL_alike_119 : decode cL_alike 119 = .ok (.goto 4, 3) := by decide +kernel
theorem dL_alike_122 : decode cL_alike 122 = .ok (.iconst 0, 1) := by decide +kernel
theorem dL_alike_123 : decode cL_alike 123 = .ok (.istore 5, 2) := by decide +kernel
theorem dL_alike_125 : decode cL_alike 125 = .ok (.iconst 0, 1) := by decide +kernel
theorem dL_alike_126 : decode cL_alike 126 = .ok (.istore 7, 2) := by decide +kernel
theorem dL_alike_128 : decode cL_alike 128 = .ok (.iload 7, 2) := by decide +kernel
theorem dL_alike_130 : decode cL_alike 130 = .ok (.aload_n 1, 1) := by decide +kernel
theorem dL_alike_131 : decode cL_alike 131 = .ok (.bipush 8, 2) := by decide +kernel
theorem dL_alike_133 : decode cL_alike 133 = .ok (.iload 6, 2) := by decide +kernel
theorem dL_alike_135 : decode cL_alike 135 = .ok (.iadd, 1) := by decide +kernel
theorem dL_alike_136 : decode cL_alike 136 = .ok (.iaload, 1) := by decide +kernel
theorem dL_alike_137 : decode cL_alike 137 = .ok (.if_icmp .ge 42, 3) := by decide +kernel
theorem dL_alike_140 : decode cL_alike 140 = .ok (.iload 5, 2) := by decide +kernel
theorem dL_alike_142 : decode cL_alike 142 = .ok (.ifCond .eq 28, 3) := by decide +kernel
theorem dL_alike_145 : decode cL_alike 145 = .ok (.aload_n 0, 1) := by decide +kernel
theorem dL_alike_146 : decode cL_alike 146 = .ok (.iload 6, 2) := by decide +kernel
theorem dL_alike_148 : decode cL_alike 148 = .ok (.iload 7, 2) := by decide +kernel
theorem dL_alike_150 : decode cL_alike 150 = .ok (.invokevirtual 55, 3) := by decide +kernel
theorem dL_alike_153 : decode cL_alike 153 = .ok (.aload_n 2, 1) := by decide +kernel
theorem dL_alike_154 : decode cL_alike 154 = .ok (.bipush 16, 2) := by decide +kernel
theorem dL_alike_156 : decode cL_alike 156 = .ok (.iload 6, 2) := by decide +kernel
theorem dL_alike_158 : decode cL_alike 158 = .ok (.imul, 1) := by decide +kernel
theorem dL_alike_159 : decode cL_alike 159 = .ok (.iload 7, 2) := by decide +kernel
theorem dL_alike_161 : decode cL_alike 161 = .ok (.iadd, 1) := by decide +kernel
theorem dL_alike_162 : decode cL_alike 162 = .ok (.iaload, 1) := by decide +kernel
theorem dL_alike_163 : decode cL_alike 163 = .ok (.if_icmp .ne 7, 3) := by decide +kernel
theorem dL_alike_166 : decode cL_alike 166 = .ok (.iconst 1, 1) := by decide +kernel
theorem dL_alike_167 : decode cL_alike 167 = .ok (.goto 4, 3) := by decide +kernel
theorem dL_alike_170 : decode cL_alike 170 = .ok (.iconst 0, 1) := by decide +kernel
theorem dL_alike_171 : decode cL_alike 171 = .ok (.istore 5, 2) := by decide +kernel
theorem dL_alike_173 : decode cL_alike 173 = .ok (.iinc 7 1, 3) := by decide +kernel
theorem dL_alike_176 : decode cL_alike 176 = .ok (.goto (-48), 3) := by decide +kernel
theorem dL_alike_179 : decode cL_alike 179 = .ok (.iload_n 3, 1) := by decide +kernel
theorem dL_alike_180 : decode cL_alike 180 = .ok (.aload_n 1, 1) := by decide +kernel
theorem dL_alike_181 : decode cL_alike 181 = .ok (.bipush 8, 2) := by decide +kernel
theorem dL_alike_183 : decode cL_alike 183 = .ok (.iload 6, 2) := by decide +kernel
theorem dL_alike_185 : decode cL_alike 185 = .ok (.iadd, 1) := by decide +kernel
theorem dL_alike_186 : decode cL_alike 186 = .ok (.iaload, 1) := by decide +kernel
theorem dL_alike_187 : decode cL_alike 187 = .ok (.iadd, 1) := by decide +kernel
theorem dL_alike_188 : decode cL_alike 188 = .ok (.istore_n 3, 1) := by decide +kernel
theorem dL_alike_189 : decode cL_alike 189 = .ok (.iload 4, 2) := by decide +kernel
theorem dL_alike_191 : decode cL_alike 191 = .ok (.aload_n 1, 1) := by decide +kernel
theorem dL_alike_192 : decode cL_alike 192 = .ok (.iload 6, 2) := by decide +kernel
theorem dL_alike_194 : decode cL_alike 194 = .ok (.iaload, 1) := by decide +kernel
theorem dL_alike_195 : decode cL_alike 195 = .ok (.iadd, 1) := by decide +kernel
theorem dL_alike_196 : decode cL_alike 196 = .ok (.istore 4, 2) := by decide +kernel
theorem dL_alike_198 : decode cL_alike 198 = .ok (.iinc 6 1, 3) := by decide +kernel
theorem dL_alike_201 : decode cL_alike 201 = .ok (.goto (-161), 3) := by decide +kernel
theorem dL_alike_204 : decode cL_alike 204 = .ok (.iload 5, 2) := by decide +kernel
theorem dL_alike_206 : decode cL_alike 206 = .ok (.ifCond .eq 26, 3) := by decide +kernel
theorem dL_alike_209 : decode cL_alike 209 = .ok (.aload_n 0, 1) := by decide +kernel
theorem dL_alike_210 : decode cL_alike 210 = .ok (.iconst 1, 1) := by decide +kernel
theorem dL_alike_211 : decode cL_alike 211 = .ok (.invokevirtual 49, 3) := by decide +kernel
theorem dL_alike_214 : decode cL_alike 214 = .ok (.iload_n 3, 1) := by decide +kernel
theorem dL_alike_215 : decode cL_alike 215 = .ok (.if_icmp .ne 17, 3) := by decide +kernel
theorem dL_alike_218 : decode cL_alike 218 = .ok (.aload_n 0, 1) := by decide +kernel
theorem dL_alike_219 : decode cL_alike 219 = .ok (.iconst 2, 1) := by decide +kernel
theorem dL_alike_220 : decode cL_alike 220 = .ok (.invokevirtual 49, 3) := by decide +kernel
theorem dL_alike_223 : decode cL_alike 223 = .ok (.iload 4, 2) := by decide +kernel
theorem dL_alike_225 : decode cL_alike 225 = .ok (.if_icmp .ne 7, 3) := by decide +kernel
theorem dL_alike_228 : decode cL_alike 228 = .ok (.iconst 1, 1) := by decide +kernel
theorem dL_alike_229 : decode cL_alike 229 = .ok (.goto 4, 3) := by decide +kernel
theorem dL_alike_232 : decode cL_alike 232 = .ok (.iconst 0, 1) := by decide +kernel
theorem dL_alike_233 : decode cL_alike 233 = .ok (.ireturn, 1) := by decide +kernel
set_option maxRecDepth 20000 in
theorem ggL_acts_L_low : GoodIn wsL_acts wsL_low := goodIn_r _ [4, 5] rfl (by decide +kernel)
set_option maxRecDepth 20000 in
theorem gL_acts_L_low : GoodIn wsL_acts (va_wsS RL 18 yL_low wsL_low) := goodIn_app (goodIn_of _ (by decide +kernel)) ggL_acts_L_low
set_option maxRecDepth 20000 in
theorem ggL_acts_L_letter : GoodIn wsL_acts wsL_letter := goodIn_r _ [8] rfl (by decide +kernel)
set_option maxRecDepth 20000 in
theorem gL_acts_L_letter : GoodIn wsL_acts (va_wsS RL 9 yL_letter wsL_letter) := goodIn_app (goodIn_of _ (by decide +kernel)) ggL_acts_L_letter
set_option maxRecDepth 20000 in
theorem ggL_acts_L_parts : GoodIn wsL_acts wsL_parts := goodIn_r _ [11, 12, 13, 3, 14, 6, 7, 8] rfl (by decide +kernel)
set_option maxRecDepth 20000 in
theorem gL_acts_L_parts : GoodIn wsL_acts (va_wsS RL 22 yL_parts wsL_parts) := goodIn_app (goodIn_of _ (by decide +kernel)) ggL_acts_L_parts
theorem dL_acts_0 : decode cL_acts 0 = .ok (.iload_n 2, 1) := by decide +kernel
theorem dL_acts_1 : decode cL_acts 1 = .ok (.iconst 3, 1) := by decide +kernel
theorem dL_acts_2 : decode cL_acts 2 = .ok (.ishr, 1) := by decide +kernel
theorem dL_acts_3 : decode cL_acts 3 = .ok (.iconst 5, 1) := by decide +kernel
theorem dL_acts_4 : decode cL_acts 4 = .ok (.invokestatic 18, 3) := by decide +kernel
theorem dL_acts_7 : decode cL_acts 7 = .ok (.istore_n 3, 1) := by decide +kernel
theorem dL_acts_8 : decode cL_acts 8 = .ok (.iload_n 3, 1) := by decide +kernel
theorem dL_acts_9 : decode cL_acts 9 = .ok (.aload_n 0, 1) := by decide +kernel
theorem dL_acts_10 : decode cL_acts 10 = .ok (.bipush 12, 2) := by decide +kernel
theorem dL_acts_12 : decode cL_acts 12 = .ok (.iaload, 1) := by decide +kernel
theorem dL_acts_13 : decode cL_acts 13 = .ok (.if_icmp .lt 5, 3) := by decide +kernel
theorem dL_acts_16 : decode cL_acts 16 = .ok (.iconst (-1), 1) := by decide +kernel
theorem dL_acts_17 : decode cL_acts 17 = .ok (.ireturn, 1) := by decide +kernel
theorem dL_acts_18 : decode cL_acts 18 = .ok (.iload_n 2, 1) := by decide +kernel
theorem dL_acts_19 : decode cL_acts 19 = .ok (.bipush 8, 2) := by decide +kernel
theorem dL_acts_21 : decode cL_acts 21 = .ok (.invokestatic 18, 3) := by decide +kernel
theorem dL_acts_24 : decode cL_acts 24 = .ok (.iconst 5, 1) := by decide +kernel
theorem dL_acts_25 : decode cL_acts 25 = .ok (.if_icmp .le 63, 3) := by decide +kernel
theorem dL_acts_28 : decode cL_acts 28 = .ok (.iload_n 2, 1) := by decide +kernel
theorem dL_acts_29 : decode cL_acts 29 = .ok (.bipush 6, 2) := by decide +kernel
theorem dL_acts_31 : decode cL_acts 31 = .ok (.ishr, 1) := by decide +kernel
theorem dL_acts_32 : decode cL_acts 32 = .ok (.iconst 5, 1) := by decide +kernel
theorem dL_acts_33 : decode cL_acts 33 = .ok (.invokestatic 18, 3) := by decide +kernel
theorem dL_acts_36 : decode cL_acts 36 = .ok (.istore 4, 2) := by decide +kernel
theorem dL_acts_38 : decode cL_acts 38 = .ok (.aload_n 0, 1) := by decide +kernel
theorem dL_acts_39 : decode cL_acts 39 = .ok (.iconst 4, 1) := by decide +kernel
theorem dL_acts_40 : decode cL_acts 40 = .ok (.iload_n 3, 1) := by decide +kernel
theorem dL_acts_41 : decode cL_acts 41 = .ok (.iadd, 1) := by decide +kernel
theorem dL_acts_42 : decode cL_acts 42 = .ok (.iaload, 1) := by decide +kernel
theorem dL_acts_43 : decode cL_acts 43 = .ok (.istore 5, 2) := by decide +kernel
theorem dL_acts_45 : decode cL_acts 45 = .ok (.aload_n 0, 1) := by decide +kernel
theorem dL_acts_46 : decode cL_acts 46 = .ok (.iconst 4, 1) := by decide +kernel
theorem dL_acts_47 : decode cL_acts 47 = .ok (.iload_n 3, 1) := by decide +kernel
theorem dL_acts_48 : decode cL_acts 48 = .ok (.iadd, 1) := by decide +kernel
theorem dL_acts_49 : decode cL_acts 49 = .ok (.iload 4, 2) := by decide +kernel
theorem dL_acts_51 : decode cL_acts 51 = .ok (.iconst 3, 1) := by decide +kernel
theorem dL_acts_52 : decode cL_acts 52 = .ok (.if_icmp .le 8, 3) := by decide +kernel
theorem dL_acts_55 : decode cL_acts 55 = .ok (.iload 5, 2) := by decide +kernel
theorem dL_acts_57 : decode cL_acts 57 = .ok (.goto 5, 3) := by decide +kernel
theorem dL_acts_60 : decode cL_acts 60 = .ok (.iload 4, 2) := by decide +kernel
theorem dL_acts_62 : decode cL_acts 62 = .ok (.iastore, 1) := by decide +kernel
theorem dL_acts_63 : decode cL_acts 63 = .ok (.iload 4, 2) := by decide +kernel
theorem dL_acts_65 : decode cL_acts 65 = .ok (.iconst 3, 1) := by decide +kernel
theorem dL_acts_66 : decode cL_acts 66 = .ok (.if_icmp .le 7, 3) := by decide +kernel
theorem dL_acts_69 : decode cL_acts 69 = .ok (.iconst (-1), 1) := by decide +kernel
theorem dL_acts_70 : decode cL_acts 70 = .ok (.goto 17, 3) := by decide +kernel
theorem dL_acts_73 : decode cL_acts 73 = .ok (.iload 5, 2) := by decide +kernel
theorem dL_acts_75 : decode cL_acts 75 = .ok (.iload 4, 2) := by decide +kernel
theorem dL_acts_77 : decode cL_acts 77 = .ok (.if_icmp .ne 8, 3) := by decide +kernel
theorem dL_acts_80 : decode cL_acts 80 = .ok (.bipush (-2), 2) := by decide +kernel
theorem dL_acts_82 : decode cL_acts 82 = .ok (.goto 5, 3) := by decide +kernel
theorem dL_acts_85 : decode cL_acts 85 = .ok (.iload 5, 2) := by decide +kernel
theorem dL_acts_87 : decode cL_acts 87 = .ok (.ireturn, 1) := by decide +kernel
theorem dL_acts_88 : decode cL_acts 88 = .ok (.iload_n 2, 1) := by decide +kernel
theorem dL_acts_89 : decode cL_acts 89 = .ok (.bipush 6, 2) := by decide +kernel
theorem dL_acts_91 : decode cL_acts 91 = .ok (.ishr, 1) := by decide +kernel
theorem dL_acts_92 : decode cL_acts 92 = .ok (.aload_n 0, 1) := by decide +kernel
theorem dL_acts_93 : decode cL_acts 93 = .ok (.bipush 8, 2) := by decide +kernel
theorem dL_acts_95 : decode cL_acts 95 = .ok (.iload_n 3, 1) := by decide +kernel
theorem dL_acts_96 : decode cL_acts 96 = .ok (.iadd, 1) := by decide +kernel
theorem dL_acts_97 : decode cL_acts 97 = .ok (.iaload, 1) := by decide +kernel
theorem dL_acts_98 : decode cL_acts 98 = .ok (.iconst 1, 1) := by decide +kernel
theorem dL_acts_99 : decode cL_acts 99 = .ok (.iadd, 1) := by decide +kernel
theorem dL_acts_100 : decode cL_acts 100 = .ok (.invokestatic 18, 3) := by decide +kernel
theorem dL_acts_103 : decode cL_acts 103 = .ok (.istore 4, 2) := by decide +kernel
theorem dL_acts_105 : decode cL_acts 105 = .ok (.iload_n 2, 1) := by decide +kernel
theorem dL_acts_106 : decode cL_acts 106 = .ok (.bipush 12, 2) := by decide +kernel
theorem dL_acts_108 : decode cL_acts 108 = .ok (.ishr, 1) := by decide +kernel
theorem dL_acts_109 : decode cL_acts 109 = .ok (.bipush 14, 2) := by decide +kernel
theorem dL_acts_111 : decode cL_acts 111 = .ok (.invokestatic 18, 3) := by decide +kernel
theorem dL_acts_114 : decode cL_acts 114 = .ok (.invokestatic 9, 3) := by decide +kernel
theorem dL_acts_117 : decode cL_acts 117 = .ok (.istore 5, 2) := by decide +kernel
theorem dL_acts_119 : decode cL_acts 119 = .ok (.iload 4, 2) := by decide +kernel
theorem dL_acts_121 : decode cL_acts 121 = .ok (.aload_n 0, 1) := by decide +kernel
theorem dL_acts_122 : decode cL_acts 122 = .ok (.bipush 8, 2) := by decide +kernel
theorem dL_acts_124 : decode cL_acts 124 = .ok (.iload_n 3, 1) := by decide +kernel
theorem dL_acts_125 : decode cL_acts 125 = .ok (.iadd, 1) := by decide +kernel
theorem dL_acts_126 : decode cL_acts 126 = .ok (.iaload, 1) := by decide +kernel
theorem dL_acts_127 : decode cL_acts 127 = .ok (.if_icmp .eq 37, 3) := by decide +kernel
theorem dL_acts_130 : decode cL_acts 130 = .ok (.aload_n 0, 1) := by decide +kernel
theorem dL_acts_131 : decode cL_acts 131 = .ok (.iload_n 3, 1) := by decide +kernel
theorem dL_acts_132 : decode cL_acts 132 = .ok (.iload 5, 2) := by decide +kernel
theorem dL_acts_134 : decode cL_acts 134 = .ok (.invokestatic 22, 3) := by decide +kernel
theorem dL_acts_137 : decode cL_acts 137 = .ok (.ifCond .lt 27, 3) := by decide +kernel
theorem dL_acts_140 : decode cL_acts 140 = .ok (.aload_n 0, 1) := by decide +kernel
theorem dL_acts_141 : decode cL_acts 141 = .ok (.iload_n 3, 1) := by decide +kernel
theorem dL_acts_142 : decode cL_acts 142 = .ok (.iload 5, 2) := by decide +kernel
theorem dL_acts_144 : decode cL_acts 144 = .ok (.invokestatic 22, 3) := by decide +kernel
theorem dL_acts_147 : decode cL_acts 147 = .ok (.aload_n 0, 1) := by decide +kernel
theorem dL_acts_148 : decode cL_acts 148 = .ok (.iload_n 3, 1) := by decide +kernel
theorem dL_acts_149 : decode cL_acts 149 = .ok (.aload_n 1, 1) := by decide +kernel
theorem dL_acts_150 : decode cL_acts 150 = .ok (.bipush 16, 2) := by decide +kernel
theorem dL_acts_152 : decode cL_acts 152 = .ok (.iload_n 3, 1) := by decide +kernel
theorem dL_acts_153 : decode cL_acts 153 = .ok (.imul, 1) := by decide +kernel
theorem dL_acts_154 : decode cL_acts 154 = .ok (.iload 4, 2) := by decide +kernel
theorem dL_acts_156 : decode cL_acts 156 = .ok (.iadd, 1) := by decide +kernel
theorem dL_acts_157 : decode cL_acts 157 = .ok (.iaload, 1) := by decide +kernel
theorem dL_acts_158 : decode cL_acts 158 = .ok (.invokestatic 22, 3) := by decide +kernel
theorem dL_acts_161 : decode cL_acts 161 = .ok (.if_icmp .eq 5, 3) := by decide +kernel
theorem dL_acts_164 : decode cL_acts 164 = .ok (.iconst (-1), 1) := by decide +kernel
theorem dL_acts_165 : decode cL_acts 165 = .ok (.ireturn, 1) := by decide +kernel
theorem dL_acts_166 : decode cL_acts 166 = .ok (.aload_n 1, 1) := by decide +kernel
theorem dL_acts_167 : decode cL_acts 167 = .ok (.bipush 16, 2) := by decide +kernel
theorem dL_acts_169 : decode cL_acts 169 = .ok (.iload_n 3, 1) := by decide +kernel
theorem dL_acts_170 : decode cL_acts 170 = .ok (.imul, 1) := by decide +kernel
theorem dL_acts_171 : decode cL_acts 171 = .ok (.iload 4, 2) := by decide +kernel
theorem dL_acts_173 : decode cL_acts 173 = .ok (.iadd, 1) := by decide +kernel
theorem dL_acts_174 : decode cL_acts 174 = .ok (.iaload, 1) := by decide +kernel
theorem dL_acts_175 : decode cL_acts 175 = .ok (.istore 6, 2) := by decide +kernel
theorem dL_acts_177 : decode cL_acts 177 = .ok (.aload_n 1, 1) := by decide +kernel
theorem dL_acts_178 : decode cL_acts 178 = .ok (.bipush 16, 2) := by decide +kernel
theorem dL_acts_180 : decode cL_acts 180 = .ok (.iload_n 3, 1) := by decide +kernel
theorem dL_acts_181 : decode cL_acts 181 = .ok (.imul, 1) := by decide +kernel
theorem dL_acts_182 : decode cL_acts 182 = .ok (.iload 4, 2) := by decide +kernel
theorem dL_acts_184 : decode cL_acts 184 = .ok (.iadd, 1) := by decide +kernel
theorem dL_acts_185 : decode cL_acts 185 = .ok (.iload 5, 2) := by decide +kernel
theorem dL_acts_187 : decode cL_acts 187 = .ok (.iastore, 1) := by decide +kernel
theorem dL_acts_188 : decode cL_acts 188 = .ok (.iload 6, 2) := by decide +kernel
theorem dL_acts_190 : decode cL_acts 190 = .ok (.iload 5, 2) := by decide +kernel
theorem dL_acts_192 : decode cL_acts 192 = .ok (.if_icmp .ne 8, 3) := by decide +kernel
theorem dL_acts_195 : decode cL_acts 195 = .ok (.bipush (-2), 2) := by decide +kernel
theorem dL_acts_197 : decode cL_acts 197 = .ok (.goto 5, 3) := by decide +kernel
theorem dL_acts_200 : decode cL_acts 200 = .ok (.iload 6, 2) := by decide +kernel
theorem dL_acts_202 : decode cL_acts 202 = .ok (.ireturn, 1) := by decide +kernel
set_option maxRecDepth 20000 in
theorem ggL_told_L_low : GoodIn wsL_told wsL_low := goodIn_r _ [4, 5] rfl (by decide +kernel)
set_option maxRecDepth 20000 in
theorem gL_told_L_low : GoodIn wsL_told (va_wsS RL 18 yL_low wsL_low) := goodIn_app (goodIn_of _ (by decide +kernel)) ggL_told_L_low
set_option maxRecDepth 20000 in
theorem ggL_told_X8_rename : GoodIn wsL_told wsX8_rename := goodIn_r _ [10, 11, 12, 13, 14, 15, 16, 17, 18, 19, 20, 21, 22, 23, 24, 25, 26, 27, 28, 29, 30, 31, 32, 33, 34, 35, 9, 36, 37, 38, 39, 40, 186, 187, 188, 189, 190, 191, 192, 193, 194, 195, 196, 197, 198, 199, 200, 201, 202, 203, 204, 205, 206, 207, 208, 209, 210, 211, 212, 213, 214, 215, 216, 217, 218, 219, 220, 221, 222, 223, 224, 225, 226, 227, 228, 229, 230, 231, 232, 233, 234, 235, 236, 237, 238, 239, 240, 241, 242, 243, 244] rfl (by decide +kernel)
set_option maxRecDepth 20000 in
theorem gL_told_X8_rename : GoodIn wsL_told (wsV RL 57 RX8 yX8_rename wsX8_rename) := goodIn_app (goodIn_of _ (by decide +kernel)) ggL_told_X8_rename
set_option maxRecDepth 20000 in
theorem ggL_told_L_letter : GoodIn wsL_told wsL_letter := goodIn_r _ [43] rfl (by decide +kernel)
set_option maxRecDepth 20000 in
theorem gL_told_L_letter : GoodIn wsL_told (va_wsS RL 9 yL_letter wsL_letter) := goodIn_app (goodIn_of _ (by decide +kernel)) ggL_told_L_letter
set_option maxRecDepth 20000 in
theorem ggL_told_X8_put : GoodIn wsL_told wsX8_put := goodIn_r _ [47, 11, 48, 13, 49, 50, 51, 52, 53, 54, 55, 56, 57, 58, 59, 60, 61, 62, 63, 64, 65, 66, 67, 68, 69, 70, 71, 72, 73, 74, 75, 76, 77, 78, 79, 80, 81, 82, 83, 84, 85, 86, 87, 88, 89, 90, 91, 92, 93, 94, 95, 96, 97, 98, 99, 100, 101, 102, 103, 104, 105, 106, 107, 108, 109, 110, 111, 112, 113, 114, 115, 116, 117, 118, 119, 120, 121, 122, 123, 124, 125, 126, 127, 128, 129, 130, 131, 132, 133, 134, 135, 136, 137, 138, 139, 140, 141, 142, 143, 144, 17, 145, 146, 147, 15, 16, 18, 19, 148, 149, 150, 151, 152, 153, 154, 155, 156, 157, 158, 159, 160, 161, 162, 20, 21, 22, 23, 24, 25, 26, 27, 28, 29, 30, 31, 32, 33, 34, 35, 9, 36, 37, 38, 39, 40, 163, 164, 165, 166, 167, 168, 169, 170, 171, 172, 173, 174, 175, 176, 177, 178, 179, 180, 181, 182, 183, 184, 185, 186, 187, 188, 189, 190, 191, 192, 193, 194, 195, 196, 197, 198, 199, 200, 201, 202, 203, 204, 205, 206, 207, 208, 209, 210, 211, 212, 213, 214, 215, 216, 217, 218, 219, 220, 221, 222, 223, 224, 225, 226, 227, 228, 229, 230, 231, 232, 233, 234, 235, 236, 237, 238, 239, 240, 241, 242, 243, 244] rfl (by decide +kernel)
set_option maxRecDepth 20000 in
theorem gL_told_X8_put : GoodIn wsL_told (wsV RL 60 RX8 yX8_put wsX8_put) := goodIn_app (goodIn_of _ (by decide +kernel)) ggL_told_X8_put
theorem dL_told_0 : decode cL_told 0 = .ok (.iload_n 2, 1) := by decide +kernel
theorem dL_told_1 : decode cL_told 1 = .ok (.iconst 3, 1) := by decide +kernel
theorem dL_told_2 : decode cL_told 2 = .ok (.ishr, 1) := by decide +kernel
theorem dL_told_3 : decode cL_told 3 = .ok (.iconst 5, 1) := by decide +kernel
theorem dL_told_4 : decode cL_told 4 = .ok (.invokestatic 18, 3) := by decide +kernel
theorem dL_told_7 : decode cL_told 7 = .ok (.istore_n 3, 1) := by decide +kernel
theorem dL_told_8 : decode cL_told 8 = .ok (.iload_n 2, 1) := by decide +kernel
theorem dL_told_9 : decode cL_told 9 = .ok (.bipush 8, 2) := by decide +kernel
theorem dL_told_11 : decode cL_told 11 = .ok (.invokestatic 18, 3) := by decide +kernel
theorem dL_told_14 : decode cL_told 14 = .ok (.iconst 5, 1) := by decide +kernel
theorem dL_told_15 : decode cL_told 15 = .ok (.if_icmp .le 17, 3) := by decide +kernel
theorem dL_told_18 : decode cL_told 18 = .ok (.aload_n 0, 1) := by decide +kernel
theorem dL_told_19 : decode cL_told 19 = .ok (.iload_n 3, 1) := by decide +kernel
theorem dL_told_20 : decode cL_told 20 = .ok (.iload_n 2, 1) := by decide +kernel
theorem dL_told_21 : decode cL_told 21 = .ok (.bipush 6, 2) := by decide +kernel
theorem dL_told_23 : decode cL_told 23 = .ok (.ishr, 1) := by decide +kernel
theorem dL_told_24 : decode cL_told 24 = .ok (.iconst 5, 1) := by decide +kernel
theorem dL_told_25 : decode cL_told 25 = .ok (.invokestatic 18, 3) := by decide +kernel
theorem dL_told_28 : decode cL_told 28 = .ok (.invokevirtual 57, 3) := by decide +kernel
theorem dL_told_31 : decode cL_told 31 = .ok (.ireturn, 1) := by decide +kernel
theorem dL_told_32 : decode cL_told 32 = .ok (.aload_n 0, 1) := by decide +kernel
theorem dL_told_33 : decode cL_told 33 = .ok (.iload_n 3, 1) := by decide +kernel
theorem dL_told_34 : decode cL_told 34 = .ok (.iload_n 3, 1) := by decide +kernel
theorem dL_told_35 : decode cL_told 35 = .ok (.aload_n 1, 1) := by decide +kernel
theorem dL_told_36 : decode cL_told 36 = .ok (.bipush 12, 2) := by decide +kernel
theorem dL_told_38 : decode cL_told 38 = .ok (.iaload, 1) := by decide +kernel
theorem dL_told_39 : decode cL_told 39 = .ok (.if_icmp .lt 7, 3) := by decide +kernel
theorem dL_told_42 : decode cL_told 42 = .ok (.iconst 0, 1) := by decide +kernel
theorem dL_told_43 : decode cL_told 43 = .ok (.goto 18, 3) := by decide +kernel
theorem dL_told_46 : decode cL_told 46 = .ok (.iload_n 2, 1) := by decide +kernel
theorem dL_told_47 : decode cL_told 47 = .ok (.bipush 6, 2) := by decide +kernel
theorem dL_told_49 : decode cL_told 49 = .ok (.ishr, 1) := by decide +kernel
theorem dL_told_50 : decode cL_told 50 = .ok (.aload_n 1, 1) := by decide +kernel
theorem dL_told_51 : decode cL_told 51 = .ok (.bipush 8, 2) := by decide +kernel
theorem dL_told_53 : decode cL_told 53 = .ok (.iload_n 3, 1) := by decide +kernel
theorem dL_told_54 : decode cL_told 54 = .ok (.iadd, 1) := by decide +kernel
theorem dL_told_55 : decode cL_told 55 = .ok (.iaload, 1) := by decide +kernel
theorem dL_told_56 : decode cL_told 56 = .ok (.iconst 1, 1) := by decide +kernel
theorem dL_told_57 : decode cL_told 57 = .ok (.iadd, 1) := by decide +kernel
theorem dL_told_58 : decode cL_told 58 = .ok (.invokestatic 18, 3) := by decide +kernel
theorem dL_told_61 : decode cL_told 61 = .ok (.iload_n 2, 1) := by decide +kernel
theorem dL_told_62 : decode cL_told 62 = .ok (.bipush 12, 2) := by decide +kernel
theorem dL_told_64 : decode cL_told 64 = .ok (.ishr, 1) := by decide +kernel
theorem dL_told_65 : decode cL_told 65 = .ok (.bipush 14, 2) := by decide +kernel
theorem dL_told_67 : decode cL_told 67 = .ok (.invokestatic 18, 3) := by decide +kernel
theorem dL_told_70 : decode cL_told 70 = .ok (.invokestatic 9, 3) := by decide +kernel
theorem dL_told_73 : decode cL_told 73 = .ok (.invokevirtual 60, 3) := by decide +kernel
theorem dL_told_76 : decode cL_told 76 = .ok (.ireturn, 1) := by decide +kernel
set_option maxRecDepth 20000 in
theorem ggL_some_L_cell : GoodIn wsL_some wsL_cell := goodIn_r _ [4, 5] rfl (by decide +kernel)
set_option maxRecDepth 20000 in
theorem gL_some_L_cell : GoodIn wsL_some (va_wsS RL 26 yL_cell wsL_cell) := goodIn_app (goodIn_of _ (by decide +kernel)) ggL_some_L_cell
set_option maxRecDepth 20000 in
theorem ggL_some_L_told : GoodIn wsL_some wsL_told := goodIn_r _ [8, 9, 10, 3, 11, 12, 13, 14, 15, 16, 17, 18, 19, 20, 21, 22, 23, 24, 25, 26, 27, 28, 29, 30, 31, 32, 33, 34, 35, 36, 37, 38, 39, 40, 41, 42, 43, 44, 45, 46, 47, 48, 49, 50, 51, 52, 53, 54, 55, 56, 57, 58, 59, 60, 61, 62, 63, 64, 65, 66, 67, 68, 69, 70, 71, 72, 73, 74, 75, 76, 77, 78, 79, 80, 81, 82, 83, 84, 85, 86, 87, 88, 89, 90, 91, 92, 93, 94, 95, 96, 97, 98, 99, 100, 101, 102, 103, 104, 105, 106, 107, 108, 109, 110, 111, 112, 113, 114, 115, 116, 117, 118, 119, 120, 121, 122, 123, 124, 125, 126, 127, 128, 129, 130, 131, 132, 133, 134, 135, 136, 137, 138, 139, 140, 141, 142, 143, 144, 145, 146, 147, 148, 149, 150, 151, 152, 153, 154, 155, 156, 157, 158, 159, 160, 161, 162, 163, 164, 165, 166, 167, 168, 169, 170, 171, 172, 173, 174, 175, 176, 177, 178, 179, 180, 181, 182, 183, 184, 185, 186, 187, 188, 189, 190, 191, 192, 202, 203, 204, 205, 206, 207, 208, 209, 210, 211, 212, 213, 214, 215, 216, 217, 218, 219, 220, 221, 222, 223, 224, 225, 226, 227, 228, 229, 230, 231, 232, 233, 234, 235, 236, 237, 238, 239, 240, 241, 242, 243, 244, 245, 246, 247, 248, 249, 250, 251, 252, 253, 254, 255, 256, 257, 258, 259, 260] rfl (by decide +kernel)
set_option maxRecDepth 20000 in
theorem gL_some_L_told : GoodIn wsL_some (va_wsS RL 64 yL_told wsL_told) := goodIn_app (goodIn_of _ (by decide +kernel)) ggL_some_L_told
set_option maxRecDepth 20000 in
theorem ggL_some_L_acts : GoodIn wsL_some wsL_acts := goodIn_r _ [195, 9, 10, 3, 11, 12, 48, 49, 50, 196, 197, 198, 199, 200, 201] rfl (by decide +kernel)
set_option maxRecDepth 20000 in
theorem gL_some_L_acts : GoodIn wsL_some (va_wsS RL 68 yL_acts wsL_acts) := goodIn_app (goodIn_of _ (by decide +kernel)) ggL_some_L_acts
theorem dL_some_0 : decode cL_some 0 = .ok (.iconst 1, 1) := by decide +kernel
theorem dL_some_1 : decode cL_some 1 = .ok (.istore 6, 2) := by decide +kernel
theorem dL_some_3 : decode cL_some 3 = .ok (.iconst 0, 1) := by decide +kernel
theorem dL_some_4 : decode cL_some 4 = .ok (.istore 7, 2) := by decide +kernel
theorem dL_some_6 : decode cL_some 6 = .ok (.iload 7, 2) := by decide +kernel
theorem dL_some_8 : decode cL_some 8 = .ok (.iload_n 3, 1) := by decide +kernel
theorem dL_some_9 : decode cL_some 9 = .ok (.if_icmp .ge 51, 3) := by decide +kernel
theorem dL_some_12 : decode cL_some 12 = .ok (.iload 6, 2) := by decide +kernel
theorem dL_some_14 : decode cL_some 14 = .ok (.ifCond .eq 46, 3) := by decide +kernel
theorem dL_some_17 : decode cL_some 17 = .ok (.aload_n 1, 1) := by decide +kernel
theorem dL_some_18 : decode cL_some 18 = .ok (.iload_n 2, 1) := by decide +kernel
theorem dL_some_19 : decode cL_some 19 = .ok (.iload 7, 2) := by decide +kernel
theorem dL_some_21 : decode cL_some 21 = .ok (.iadd, 1) := by decide +kernel
theorem dL_some_22 : decode cL_some 22 = .ok (.invokestatic 26, 3) := by decide +kernel
theorem dL_some_25 : decode cL_some 25 = .ok (.istore 8, 2) := by decide +kernel
theorem dL_some_27 : decode cL_some 27 = .ok (.aload_n 0, 1) := by decide +kernel
theorem dL_some_28 : decode cL_some 28 = .ok (.aload 4, 2) := by decide +kernel
theorem dL_some_30 : decode cL_some 30 = .ok (.iload 8, 2) := by decide +kernel
theorem dL_some_32 : decode cL_some 32 = .ok (.invokestatic 64, 3) := by decide +kernel
theorem dL_some_35 : decode cL_some 35 = .ok (.aload 4, 2) := by decide +kernel
theorem dL_some_37 : decode cL_some 37 = .ok (.aload 5, 2) := by decide +kernel
theorem dL_some_39 : decode cL_some 39 = .ok (.iload 8, 2) := by decide +kernel
theorem dL_some_41 : decode cL_some 41 = .ok (.invokestatic 68, 3) := by decide +kernel
theorem dL_some_44 : decode cL_some 44 = .ok (.if_icmp .ne 7, 3) := by decide +kernel
theorem dL_some_47 : decode cL_some 47 = .ok (.iconst 1, 1) := by decide +kernel
theorem dL_some_48 : decode cL_some 48 = .ok (.goto 4, 3) := by decide +kernel
theorem dL_some_51 : decode cL_some 51 = .ok (.iconst 0, 1) := by decide +kernel
theorem dL_some_52 : decode cL_some 52 = .ok (.istore 6, 2) := by decide +kernel
theorem dL_some_54 : decode cL_some 54 = .ok (.iinc 7 1, 3) := by decide +kernel
theorem dL_some_57 : decode cL_some 57 = .ok (.goto (-51), 3) := by decide +kernel
theorem dL_some_60 : decode cL_some 60 = .ok (.iload 6, 2) := by decide +kernel
theorem dL_some_62 : decode cL_some 62 = .ok (.ireturn, 1) := by decide +kernel
set_option maxRecDepth 20000 in
theorem ggL_law_X8_init : GoodIn wsL_law wsX8_init := goodIn_r _ [6, 7, 8, 9, 10, 11, 12, 13, 14, 15, 16, 17, 18, 19, 20, 21, 22, 23, 24, 25, 26, 27, 28, 29, 30, 31, 32, 33, 34, 35, 36, 37, 38, 39, 40, 41, 42, 43, 44, 45, 46, 47, 48, 49, 3, 50, 51, 52, 53, 54, 55, 56, 57, 58, 59, 60, 61, 62, 63, 64, 65, 66, 67, 68, 69, 70, 71, 72, 73, 74, 75, 76, 77, 78, 79, 80, 81, 82, 83, 84, 85, 86, 87, 88, 89, 90, 91, 92, 93, 94, 95, 96, 97, 98, 99, 100, 101, 2, 102, 103, 104, 105, 106, 107, 108, 109, 110, 111, 112, 113, 114, 115, 116, 117, 118, 119, 120, 121, 122, 123, 124, 125, 126, 127, 128, 129, 130, 131, 132, 133, 134, 135, 136, 137, 138, 139, 140, 141, 142, 143, 144, 145, 146, 147, 148, 149, 150, 151, 152, 153, 154, 155, 156, 157, 158, 159, 160, 161, 162, 163, 164, 165, 166, 167, 168, 169, 170, 171, 172, 173, 174, 175, 176, 177, 178, 179, 180, 181, 182, 183, 184, 185, 186, 187, 188, 189, 190, 191, 192, 193, 194, 195, 196, 197, 198, 199, 200, 201, 202, 203, 204, 205, 206, 207, 208, 209, 210, 211, 212, 213, 214, 215, 216, 217, 218, 219, 220, 221, 222, 223, 224, 225, 226, 227, 228, 229, 230, 231, 232, 233, 234, 235, 236, 237, 238, 239, 240, 241, 242, 243, 244, 245, 246, 247, 248, 249, 250, 251, 252, 253, 254, 255, 256, 257, 258, 259, 260, 261, 262, 263, 264, 265, 266, 267, 268, 269, 270, 271, 272, 273, 274, 275, 276, 277, 278, 279, 655, 656, 657, 658, 659, 644, 645, 646, 647, 648, 649, 650, 651, 652, 653, 654, 660, 661, 662, 663, 664, 665, 666, 667, 668, 669, 670, 671, 672, 673, 674, 675, 676, 677, 678, 679, 680, 681, 682, 683, 684, 685, 686, 687, 688, 689, 690, 691, 692, 693, 694, 695, 696, 697, 698, 699, 700, 701, 702, 703, 704, 705, 706, 707] (by decide +kernel) (by decide +kernel)
set_option maxRecDepth 20000 in
theorem gL_law_X8_init : GoodIn wsL_law (wsX8_init) := ggL_law_X8_init
set_option maxRecDepth 20000 in
theorem ggL_law_L_functions : GoodIn wsL_law wsL_functions := goodIn_r _ [283, 284, 285, 282, 286, 287, 288, 289, 290, 291, 292, 293, 294, 2, 295, 13, 296, 276, 277, 278, 12, 279, 157, 297, 298, 299, 300, 153, 154, 155, 156, 45, 301, 302, 303, 304, 305, 306, 307, 308, 309, 310, 311, 312, 313, 314, 315, 316, 158, 159, 160, 161, 162, 163, 43, 164, 165, 166, 167, 168, 169, 170, 171, 172, 173, 174, 175, 176, 177, 178, 179, 180, 181, 182, 183, 184, 185, 16, 186, 187, 188, 189, 190, 191, 192, 193, 194, 195, 196, 197, 198, 199, 200, 107, 201, 202, 203, 204, 205, 109, 120, 121, 122, 123, 114, 115, 206, 105, 106, 108, 110, 111, 112, 113, 207, 208, 126, 209, 210, 211, 212, 213, 214, 215, 216, 217, 218, 219, 220, 221, 222, 223, 224, 138, 225, 226, 227, 228, 229, 230, 231, 232, 233, 234, 143, 144, 145, 235, 236, 237, 131, 238, 239, 134, 240, 241, 242, 243, 147, 148, 149, 150, 151, 152, 244, 245, 246, 247, 248, 249, 250, 251, 252, 253, 254, 255, 256, 257, 258, 259, 260, 261, 262, 50, 263, 264, 265, 266, 267, 317, 318, 319, 320, 17, 103, 23, 321, 322, 323, 324, 325, 326, 268, 269, 270, 271, 51, 52, 54, 272, 273, 274, 275, 327, 328, 329, 22, 330, 331, 332, 333, 334, 335, 27, 336, 31, 35, 644, 645, 646, 647, 648, 649, 650, 651, 652, 653, 654, 655, 656, 657, 658, 659, 660, 661, 662, 663, 664, 665, 666, 667, 668, 695, 696, 697, 698, 699, 700, 701, 702, 703, 704, 705, 706, 707, 682, 683, 684, 685, 686, 687, 688, 689, 690, 691, 692, 693, 694, 669, 670, 671, 672, 673, 674, 675, 676, 677, 678, 679, 680, 681] rfl (by decide +kernel)
set_option maxRecDepth 20000 in
theorem gL_law_L_functions : GoodIn wsL_law (va_wsS RL 95 yL_functions wsL_functions) := goodIn_app (goodIn_of _ (by decide +kernel)) ggL_law_L_functions
set_option maxRecDepth 20000 in
theorem ggL_law_L_cell : GoodIn wsL_law wsL_cell := goodIn_r _ [286, 287] rfl (by decide +kernel)
set_option maxRecDepth 20000 in
theorem gL_law_L_cell : GoodIn wsL_law (va_wsS RL 26 yL_cell wsL_cell) := goodIn_app (goodIn_of _ (by decide +kernel)) ggL_law_L_cell
set_option maxRecDepth 20000 in
theorem ggL_law_X8_count : GoodIn wsL_law wsX8_count := goodIn_r _ [340, 17, 322, 341, 342, 23, 343, 321, 13, 296, 344, 345, 346, 16, 347, 187, 644, 645, 646, 647, 648, 649, 650, 651, 652, 653, 654, 660, 661, 662, 663, 664, 665, 666, 667, 668, 655, 656, 657, 658, 659] rfl (by decide +kernel)
set_option maxRecDepth 20000 in
theorem gL_law_X8_count : GoodIn wsL_law (wsV RL 49 RX8 yX8_count wsX8_count) := goodIn_app (goodIn_of _ (by decide +kernel)) ggL_law_X8_count
set_option maxRecDepth 20000 in
theorem ggL_law_X8_keep : GoodIn wsL_law wsX8_keep := goodIn_r _ [351, 321, 19, 17, 268, 269, 270, 16, 271, 187, 50, 51, 52, 54, 272, 273, 274, 275, 644, 645, 646, 647, 648, 649, 650, 651, 652, 653, 654, 660, 661, 662, 663, 664] rfl (by decide +kernel)
set_option maxRecDepth 20000 in
theorem gL_law_X8_keep : GoodIn wsL_law (wsV RL 99 RX8 yX8_keep wsX8_keep) := goodIn_app (goodIn_of _ (by decide +kernel)) ggL_law_X8_keep
set_option maxRecDepth 20000 in
theorem ggL_law_L_alike : GoodIn wsL_law wsL_alike := goodIn_r _ [354, 337, 338, 339, 2, 340, 17, 322, 341, 342, 23, 343, 321, 13, 296, 344, 345, 346, 16, 347, 187, 355, 356, 357, 358, 359, 360, 184, 185, 186, 361, 362, 363, 364, 365, 366, 367, 368, 369, 52, 263, 370, 371, 196, 372, 373, 117, 118, 107, 119, 109, 120, 121, 122, 123, 114, 115, 124, 125, 126, 127, 128, 129, 130, 131, 132, 133, 134, 135, 136, 137, 138, 139, 140, 141, 142, 143, 144, 145, 146, 147, 148, 149, 150, 151, 152, 644, 645, 646, 647, 648, 649, 650, 651, 652, 653, 654, 660, 661, 662, 663, 664, 665, 666, 667, 668, 655, 656, 657, 658, 659] rfl (by decide +kernel)
set_option maxRecDepth 20000 in
theorem gL_law_L_alike : GoodIn wsL_law (va_wsS RL 102 yL_alike wsL_alike) := goodIn_app (goodIn_of _ (by decide +kernel)) ggL_law_L_alike
set_option maxRecDepth 20000 in
theorem ggL_law_X8_function : GoodIn wsL_law wsX8_function := goodIn_r _ [358, 17, 359, 342, 341, 360, 184, 185, 16, 186, 187, 644, 645, 646, 647, 648, 649, 650, 651, 652, 653, 654, 660, 661, 662, 663, 664] rfl (by decide +kernel)
set_option maxRecDepth 20000 in
theorem gL_law_X8_function : GoodIn wsL_law (wsV RL 52 RX8 yX8_function wsX8_function) := goodIn_app (goodIn_of _ (by decide +kernel)) ggL_law_X8_function
set_option maxRecDepth 20000 in
theorem ggL_law_X8_value : GoodIn wsL_law wsX8_value := goodIn_r _ [377, 27, 17, 378, 379, 380, 381, 68, 382, 71, 383, 184, 185, 16, 186, 187, 384, 385, 386, 387, 388, 74, 389, 390, 391, 392, 393, 394, 395, 396, 397, 398, 399, 400, 401, 402, 403, 2, 404, 336, 405, 406, 407, 408, 409, 410, 411, 412, 413, 414, 415, 416, 82, 75, 417, 418, 419, 420, 421, 422, 423, 424, 425, 426, 427, 428, 83, 429, 430, 431, 432, 433, 434, 435, 436, 437, 438, 439, 34, 440, 441, 442, 30, 443, 444, 445, 26, 446, 447, 448, 449, 450, 451, 452, 79, 72, 453, 454, 455, 456, 457, 458, 459, 460, 461, 462, 463, 265, 266, 267, 50, 263, 464, 465, 466, 467, 468, 73, 469, 470, 471, 472, 473, 474, 475, 76, 77, 476, 477, 478, 479, 480, 481, 482, 483, 484, 485, 486, 487, 211, 212, 213, 488, 489, 490, 491, 492, 493, 494, 495, 496, 497, 498, 499, 500, 501, 502, 503, 504, 505, 506, 507, 508, 509, 510, 511, 512, 513, 514, 515, 516, 517, 518, 519, 520, 521, 522, 523, 524, 525, 644, 645, 646, 647, 648, 649, 650, 651, 652, 653, 654, 695, 696, 697, 698, 699, 700, 701, 702, 703, 704, 705, 706, 707, 682, 683, 684, 685, 686, 687, 688, 689, 690, 691, 692, 693, 694, 669, 670, 671, 672, 673, 674, 675, 676, 677, 678, 679, 680, 681, 660, 661, 662, 663, 664] rfl (by decide +kernel)
set_option maxRecDepth 20000 in
theorem gL_law_X8_value : GoodIn wsL_law (wsV RL 106 RX8 yX8_value wsX8_value) := goodIn_app (goodIn_of _ (by decide +kernel)) ggL_law_X8_value
set_option maxRecDepth 20000 in
theorem ggL_law_L_low : GoodIn wsL_law wsL_low := goodIn_r _ [290, 291] rfl (by decide +kernel)
set_option maxRecDepth 20000 in
theorem gL_law_L_low : GoodIn wsL_law (va_wsS RL 18 yL_low wsL_low) := goodIn_app (goodIn_of _ (by decide +kernel)) ggL_law_L_low
set_option maxRecDepth 20000 in
theorem ggL_law_X8_frontier : GoodIn wsL_law wsX8_frontier := goodIn_r _ [529, 17, 31, 360, 184, 185, 16, 186, 187, 401, 402, 403, 2, 404, 336, 405, 406, 407, 408, 68, 409, 410, 411, 412, 413, 414, 415, 416, 82, 75, 417, 418, 419, 420, 421, 422, 423, 424, 425, 426, 427, 428, 83, 391, 392, 393, 394, 395, 71, 396, 383, 397, 398, 429, 430, 431, 432, 433, 434, 435, 436, 437, 438, 439, 34, 440, 441, 442, 30, 443, 444, 445, 26, 446, 447, 448, 449, 450, 451, 452, 79, 72, 453, 454, 455, 456, 457, 458, 459, 460, 461, 462, 463, 265, 266, 267, 50, 263, 464, 465, 466, 467, 468, 73, 469, 470, 471, 472, 473, 474, 475, 76, 77, 476, 477, 478, 479, 480, 481, 482, 483, 484, 485, 486, 487, 211, 212, 213, 488, 489, 490, 491, 492, 493, 494, 495, 496, 497, 498, 499, 500, 501, 502, 503, 504, 505, 506, 507, 508, 509, 510, 511, 512, 513, 514, 515, 516, 517, 518, 519, 520, 521, 522, 523, 524, 530, 531, 532, 533, 534, 525, 644, 645, 646, 647, 648, 649, 650, 651, 652, 653, 654, 660, 661, 662, 663, 664, 695, 696, 697, 698, 699, 700, 701, 702, 703, 704, 705, 706, 707, 682, 683, 684, 685, 686, 687, 688, 689, 690, 691, 692, 693, 694, 669, 670, 671, 672, 673, 674, 675, 676, 677, 678, 679, 680, 681] rfl (by decide +kernel)
set_option maxRecDepth 20000 in
theorem gL_law_X8_frontier : GoodIn wsL_law (wsV RL 110 RX8 yX8_frontier wsX8_frontier) := goodIn_app (goodIn_of _ (by decide +kernel)) ggL_law_X8_frontier
set_option maxRecDepth 20000 in
theorem ggL_law_X8_rough : GoodIn wsL_law wsX8_rough := goodIn_r _ [538, 17, 31, 360, 184, 185, 16, 186, 187, 530, 392, 393, 394, 68, 395, 71, 396, 383, 397, 398, 401, 402, 403, 2, 404, 336, 405, 406, 407, 408, 409, 410, 411, 412, 413, 414, 415, 416, 82, 75, 417, 418, 419, 420, 421, 422, 423, 424, 425, 426, 427, 428, 83, 391, 429, 430, 431, 432, 433, 434, 435, 436, 437, 438, 439, 34, 440, 441, 442, 30, 443, 444, 445, 26, 446, 447, 448, 449, 450, 451, 452, 79, 72, 453, 454, 455, 456, 457, 458, 459, 460, 461, 462, 463, 265, 266, 267, 50, 263, 464, 465, 466, 467, 468, 73, 469, 470, 471, 472, 473, 474, 475, 76, 77, 476, 477, 478, 479, 480, 481, 482, 483, 484, 485, 486, 487, 211, 212, 213, 488, 489, 490, 491, 492, 493, 494, 495, 496, 497, 498, 499, 500, 501, 502, 503, 504, 505, 506, 507, 508, 509, 510, 511, 512, 513, 514, 515, 516, 517, 518, 519, 520, 521, 522, 523, 524, 525, 644, 645, 646, 647, 648, 649, 650, 651, 652, 653, 654, 660, 661, 662, 663, 664, 695, 696, 697, 698, 699, 700, 701, 702, 703, 704, 705, 706, 707, 682, 683, 684, 685, 686, 687, 688, 689, 690, 691, 692, 693, 694, 669, 670, 671, 672, 673, 674, 675, 676, 677, 678, 679, 680, 681] rfl (by decide +kernel)
set_option maxRecDepth 20000 in
theorem gL_law_X8_rough : GoodIn wsL_law (wsV RL 113 RX8 yX8_rough wsX8_rough) := goodIn_app (goodIn_of _ (by decide +kernel)) ggL_law_X8_rough
set_option maxRecDepth 20000 in
theorem ggL_law_X8_strict : GoodIn wsL_law wsX8_strict := goodIn_r _ [542, 17, 543, 544, 545, 2, 546, 31, 35, 27, 360, 184, 185, 16, 186, 187, 401, 402, 403, 404, 336, 405, 406, 407, 408, 68, 409, 410, 411, 412, 413, 414, 415, 416, 82, 75, 417, 418, 419, 420, 421, 422, 423, 424, 425, 426, 427, 428, 83, 391, 392, 393, 394, 395, 71, 396, 383, 397, 398, 429, 430, 431, 432, 433, 434, 435, 436, 437, 438, 439, 34, 440, 441, 442, 30, 443, 444, 445, 26, 446, 447, 448, 449, 450, 451, 452, 79, 72, 453, 454, 455, 456, 457, 458, 459, 460, 461, 462, 463, 265, 266, 267, 50, 263, 464, 465, 466, 467, 468, 73, 469, 470, 471, 472, 473, 474, 475, 76, 77, 476, 477, 478, 479, 480, 481, 482, 483, 484, 485, 486, 487, 211, 212, 213, 488, 489, 490, 491, 492, 493, 494, 495, 496, 497, 498, 499, 500, 501, 502, 503, 504, 505, 506, 507, 508, 509, 510, 511, 512, 513, 514, 515, 516, 517, 518, 519, 520, 521, 522, 523, 524, 547, 548, 549, 550, 551, 552, 553, 554, 555, 556, 557, 558, 559, 560, 644, 645, 646, 647, 648, 649, 650, 651, 652, 653, 654, 660, 661, 662, 663, 664, 695, 696, 697, 698, 699, 700, 701, 702, 703, 704, 705, 706, 707, 682, 683, 684, 685, 686, 687, 688, 689, 690, 691, 692, 693, 694, 669, 670, 671, 672, 673, 674, 675, 676, 677, 678, 679, 680, 681] rfl (by decide +kernel)
set_option maxRecDepth 20000 in
theorem gL_law_X8_strict : GoodIn wsL_law (wsV RL 116 RX8 yX8_strict wsX8_strict) := goodIn_app (goodIn_of _ (by decide +kernel)) ggL_law_X8_strict
set_option maxRecDepth 20000 in
theorem ggL_law_X8_early : GoodIn wsL_law wsX8_early := goodIn_r _ [564, 17, 341, 365, 342, 543, 544, 545, 2, 546, 31, 35, 27, 360, 184, 185, 16, 186, 187, 401, 402, 403, 404, 336, 405, 406, 407, 408, 68, 409, 410, 411, 412, 413, 414, 415, 416, 82, 75, 417, 418, 419, 420, 421, 422, 423, 424, 425, 426, 427, 428, 83, 391, 392, 393, 394, 395, 71, 396, 383, 397, 398, 429, 430, 431, 432, 433, 434, 435, 436, 437, 438, 439, 34, 440, 441, 442, 30, 443, 444, 445, 26, 446, 447, 448, 449, 450, 451, 452, 79, 72, 453, 454, 455, 456, 457, 458, 459, 460, 461, 462, 463, 265, 266, 267, 50, 263, 464, 465, 466, 467, 468, 73, 469, 470, 471, 472, 473, 474, 475, 76, 77, 476, 477, 478, 479, 480, 481, 482, 483, 484, 485, 486, 487, 211, 212, 213, 488, 489, 490, 491, 492, 493, 494, 495, 496, 497, 498, 499, 500, 501, 502, 503, 504, 505, 506, 507, 508, 509, 510, 511, 512, 513, 514, 515, 516, 517, 518, 519, 520, 521, 522, 523, 524, 547, 548, 549, 550, 551, 552, 553, 554, 555, 556, 557, 558, 559, 560, 565, 566, 567, 568, 569, 570, 571, 644, 645, 646, 647, 648, 649, 650, 651, 652, 653, 654, 660, 661, 662, 663, 664, 695, 696, 697, 698, 699, 700, 701, 702, 703, 704, 705, 706, 707, 682, 683, 684, 685, 686, 687, 688, 689, 690, 691, 692, 693, 694, 669, 670, 671, 672, 673, 674, 675, 676, 677, 678, 679, 680, 681] rfl (by decide +kernel)
set_option maxRecDepth 20000 in
theorem gL_law_X8_early : GoodIn wsL_law (wsV RL 119 RX8 yX8_early wsX8_early) := goodIn_app (goodIn_of _ (by decide +kernel)) ggL_law_X8_early
set_option maxRecDepth 20000 in
theorem ggL_law_X8_same : GoodIn wsL_law wsX8_same := goodIn_r _ [575, 17, 342, 27, 360, 184, 185, 16, 186, 187, 401, 402, 403, 2, 404, 336, 405, 406, 407, 408, 68, 409, 410, 411, 412, 413, 414, 415, 416, 82, 75, 417, 418, 419, 420, 421, 422, 423, 424, 425, 426, 427, 428, 83, 391, 392, 393, 394, 395, 71, 396, 383, 397, 398, 429, 430, 431, 432, 433, 434, 435, 436, 437, 438, 439, 34, 440, 441, 442, 30, 443, 444, 445, 26, 446, 447, 448, 449, 450, 451, 452, 79, 72, 453, 454, 455, 456, 457, 458, 459, 460, 461, 462, 463, 265, 266, 267, 50, 263, 464, 465, 466, 467, 468, 73, 469, 470, 471, 472, 473, 474, 475, 76, 77, 476, 477, 478, 479, 480, 481, 482, 483, 484, 485, 486, 487, 211, 212, 213, 488, 489, 490, 491, 492, 493, 494, 495, 496, 497, 498, 499, 500, 501, 502, 503, 504, 505, 506, 507, 508, 509, 510, 511, 512, 513, 514, 515, 516, 517, 518, 519, 520, 521, 522, 523, 524, 530, 525, 644, 645, 646, 647, 648, 649, 650, 651, 652, 653, 654, 660, 661, 662, 663, 664, 695, 696, 697, 698, 699, 700, 701, 702, 703, 704, 705, 706, 707, 682, 683, 684, 685, 686, 687, 688, 689, 690, 691, 692, 693, 694, 669, 670, 671, 672, 673, 674, 675, 676, 677, 678, 679, 680, 681] rfl (by decide +kernel)
set_option maxRecDepth 20000 in
theorem gL_law_X8_same : GoodIn wsL_law (wsV RL 122 RX8 yX8_same wsX8_same) := goodIn_app (goodIn_of _ (by decide +kernel)) ggL_law_X8_same
set_option maxRecDepth 20000 in
theorem ggL_law_X8_first : GoodIn wsL_law wsX8_first := goodIn_r _ [579, 17, 27, 580, 360, 184, 185, 16, 186, 187, 401, 402, 403, 2, 404, 336, 405, 406, 407, 408, 68, 409, 410, 411, 412, 413, 414, 415, 416, 82, 75, 417, 418, 419, 420, 421, 422, 423, 424, 425, 426, 427, 428, 83, 391, 392, 393, 394, 395, 71, 396, 383, 397, 398, 429, 430, 431, 432, 433, 434, 435, 436, 437, 438, 439, 34, 440, 441, 442, 30, 443, 444, 445, 26, 446, 447, 448, 449, 450, 451, 452, 79, 72, 453, 454, 455, 456, 457, 458, 459, 460, 461, 462, 463, 265, 266, 267, 50, 263, 464, 465, 466, 467, 468, 73, 469, 470, 471, 472, 473, 474, 475, 76, 77, 476, 477, 478, 479, 480, 481, 482, 483, 484, 485, 486, 487, 211, 212, 213, 488, 489, 490, 491, 492, 493, 494, 495, 496, 497, 498, 499, 500, 501, 502, 503, 504, 505, 506, 507, 508, 509, 510, 511, 512, 513, 514, 515, 516, 517, 518, 519, 520, 521, 522, 523, 524, 530, 525, 644, 645, 646, 647, 648, 649, 650, 651, 652, 653, 654, 695, 696, 697, 698, 699, 700, 701, 702, 703, 704, 705, 706, 707, 682, 683, 684, 685, 686, 687, 688, 689, 690, 691, 692, 693, 694, 669, 670, 671, 672, 673, 674, 675, 676, 677, 678, 679, 680, 681, 660, 661, 662, 663, 664] rfl (by decide +kernel)
set_option maxRecDepth 20000 in
theorem gL_law_X8_first : GoodIn wsL_law (wsV RL 125 RX8 yX8_first wsX8_first) := goodIn_app (goodIn_of _ (by decide +kernel)) ggL_law_X8_first
set_option maxRecDepth 20000 in
theorem ggL_law_X8_rounds : GoodIn wsL_law wsX8_rounds := goodIn_r _ [584, 27, 585, 31, 35, 401, 402, 403, 2, 404, 336, 17, 405, 406, 407, 408, 68, 409, 410, 411, 412, 413, 414, 415, 416, 82, 75, 417, 418, 419, 420, 421, 422, 423, 424, 425, 426, 427, 428, 83, 391, 392, 393, 394, 395, 71, 396, 383, 184, 185, 16, 186, 187, 397, 398, 429, 430, 431, 432, 433, 434, 435, 436, 437, 438, 439, 34, 440, 441, 442, 30, 443, 444, 445, 26, 446, 447, 448, 449, 450, 451, 452, 79, 72, 453, 454, 455, 456, 457, 458, 459, 460, 461, 462, 463, 265, 266, 267, 50, 263, 464, 465, 466, 467, 468, 73, 469, 470, 471, 472, 473, 474, 475, 76, 77, 476, 477, 478, 479, 480, 481, 482, 483, 484, 485, 486, 487, 211, 212, 213, 488, 489, 490, 491, 492, 493, 494, 495, 496, 497, 498, 499, 500, 501, 502, 503, 504, 505, 506, 507, 508, 509, 510, 511, 512, 513, 514, 515, 516, 517, 518, 519, 520, 521, 522, 523, 524, 644, 645, 646, 647, 648, 649, 650, 651, 652, 653, 654, 695, 696, 697, 698, 699, 700, 701, 702, 703, 704, 705, 706, 707, 682, 683, 684, 685, 686, 687, 688, 689, 690, 691, 692, 693, 694, 669, 670, 671, 672, 673, 674, 675, 676, 677, 678, 679, 680, 681, 660, 661, 662, 663, 664] rfl (by decide +kernel)
set_option maxRecDepth 20000 in
theorem gL_law_X8_rounds : GoodIn wsL_law (wsV RL 128 RX8 yX8_rounds wsX8_rounds) := goodIn_app (goodIn_of _ (by decide +kernel)) ggL_law_X8_rounds
set_option maxRecDepth 20000 in
theorem ggL_law_X8_makes : GoodIn wsL_law wsX8_makes := goodIn_r _ [589, 17, 342, 35, 18, 341, 365, 37, 360, 184, 185, 16, 186, 187, 401, 402, 403, 2, 404, 336, 405, 406, 407, 408, 68, 409, 410, 411, 412, 413, 414, 415, 416, 82, 75, 417, 418, 419, 420, 421, 422, 423, 424, 425, 426, 427, 428, 83, 391, 392, 393, 394, 395, 71, 396, 383, 397, 398, 429, 430, 431, 432, 433, 434, 435, 436, 437, 438, 439, 34, 440, 441, 442, 30, 443, 444, 445, 26, 446, 447, 448, 449, 450, 451, 452, 79, 72, 453, 454, 455, 456, 457, 458, 459, 460, 461, 462, 463, 265, 266, 267, 50, 263, 464, 465, 466, 467, 468, 73, 469, 470, 471, 472, 473, 474, 475, 76, 77, 476, 477, 478, 479, 480, 481, 482, 483, 484, 485, 486, 487, 211, 212, 213, 488, 489, 490, 491, 492, 493, 494, 495, 496, 497, 498, 499, 500, 501, 502, 503, 504, 505, 506, 507, 508, 509, 510, 511, 512, 513, 514, 515, 516, 517, 518, 519, 520, 521, 522, 523, 524, 590, 553, 554, 555, 556, 557, 558, 268, 269, 270, 271, 51, 52, 54, 272, 273, 274, 275, 591, 592, 593, 594, 595, 367, 368, 369, 596, 260, 261, 262, 597, 598, 599, 600, 601, 602, 552, 603, 604, 370, 371, 196, 372, 373, 117, 118, 107, 119, 109, 120, 121, 122, 123, 114, 115, 124, 125, 126, 127, 128, 129, 130, 131, 132, 133, 134, 135, 136, 137, 138, 139, 140, 141, 142, 143, 144, 145, 146, 147, 148, 149, 150, 151, 152, 644, 645, 646, 647, 648, 649, 650, 651, 652, 653, 654, 660, 661, 662, 663, 664, 695, 696, 697, 698, 699, 700, 701, 702, 703, 704, 705, 706, 707, 682, 683, 684, 685, 686, 687, 688, 689, 690, 691, 692, 693, 694, 669, 670, 671, 672, 673, 674, 675, 676, 677, 678, 679, 680, 681] rfl (by decide +kernel)
set_option maxRecDepth 20000 in
theorem gL_law_X8_makes : GoodIn wsL_law (wsV RL 131 RX8 yX8_makes wsX8_makes) := goodIn_app (goodIn_of _ (by decide +kernel)) ggL_law_X8_makes
set_option maxRecDepth 20000 in
theorem ggL_law_X8_letter : GoodIn wsL_law wsX8_letter := goodIn_r _ [364, 17, 365, 366, 367, 368, 16, 369, 52, 263, 184, 185, 186, 187, 370, 371, 196, 372, 373, 117, 118, 107, 119, 109, 120, 121, 122, 123, 114, 115, 124, 125, 126, 127, 128, 129, 130, 131, 132, 133, 134, 135, 136, 137, 138, 139, 140, 141, 142, 143, 144, 145, 146, 147, 148, 149, 150, 151, 152, 644, 645, 646, 647, 648, 649, 650, 651, 652, 653, 654, 660, 661, 662, 663, 664] rfl (by decide +kernel)
set_option maxRecDepth 20000 in
theorem gL_law_X8_letter : GoodIn wsL_law (wsV RL 55 RX8 yX8_letter wsX8_letter) := goodIn_app (goodIn_of _ (by decide +kernel)) ggL_law_X8_letter
set_option maxRecDepth 20000 in
theorem ggL_law_X8_put : GoodIn wsL_law wsX8_put := goodIn_r _ [608, 17, 365, 23, 609, 195, 196, 197, 198, 199, 200, 107, 201, 202, 203, 204, 205, 109, 120, 121, 122, 123, 114, 115, 206, 105, 106, 108, 110, 111, 112, 113, 207, 208, 126, 209, 210, 211, 212, 213, 214, 215, 216, 217, 218, 219, 220, 221, 222, 223, 224, 138, 225, 226, 227, 228, 229, 230, 231, 232, 233, 234, 143, 144, 145, 235, 236, 237, 131, 238, 239, 134, 240, 241, 242, 243, 147, 148, 149, 150, 151, 152, 244, 245, 246, 247, 248, 249, 250, 251, 252, 253, 254, 255, 256, 257, 258, 366, 367, 368, 16, 369, 52, 263, 184, 185, 186, 187, 591, 592, 593, 594, 54, 595, 596, 260, 261, 262, 50, 597, 265, 266, 267, 610, 611, 612, 22, 613, 331, 60, 614, 273, 274, 275, 61, 62, 332, 333, 334, 2, 335, 27, 336, 31, 35, 370, 371, 372, 373, 117, 118, 119, 124, 125, 127, 128, 129, 130, 132, 133, 135, 136, 137, 139, 140, 141, 142, 146, 644, 645, 646, 647, 648, 649, 650, 651, 652, 653, 654, 660, 661, 662, 663, 664, 665, 666, 667, 668, 695, 696, 697, 698, 699, 700, 701, 702, 703, 704, 705, 706, 707, 682, 683, 684, 685, 686, 687, 688, 689, 690, 691, 692, 693, 694, 669, 670, 671, 672, 673, 674, 675, 676, 677, 678, 679, 680, 681] rfl (by decide +kernel)
set_option maxRecDepth 20000 in
theorem gL_law_X8_put : GoodIn wsL_law (wsV RL 60 RX8 yX8_put wsX8_put) := goodIn_app (goodIn_of _ (by decide +kernel)) ggL_law_X8_put
set_option maxRecDepth 20000 in
theorem ggL_law_X8_undo : GoodIn wsL_law wsX8_undo := goodIn_r _ [618, 23, 343, 17, 619, 620, 621, 22, 622, 331, 60, 61, 623, 62, 624, 625, 184, 185, 16, 186, 187, 626, 367, 368, 369, 52, 263, 332, 333, 334, 2, 335, 27, 336, 31, 35, 644, 645, 646, 647, 648, 649, 650, 651, 652, 653, 654, 665, 666, 667, 668, 660, 661, 662, 663, 664, 695, 696, 697, 698, 699, 700, 701, 702, 703, 704, 705, 706, 707, 682, 683, 684, 685, 686, 687, 688, 689, 690, 691, 692, 693, 694, 669, 670, 671, 672, 673, 674, 675, 676, 677, 678, 679, 680, 681] rfl (by decide +kernel)
set_option maxRecDepth 20000 in
theorem gL_law_X8_undo : GoodIn wsL_law (wsV RL 134 RX8 yX8_undo wsX8_undo) := goodIn_app (goodIn_of _ (by decide +kernel)) ggL_law_X8_undo
set_option maxRecDepth 20000 in
theorem ggL_law_X8_rename : GoodIn wsL_law wsX8_rename := goodIn_r _ [630, 17, 359, 23, 360, 184, 185, 16, 186, 187, 610, 611, 612, 22, 613, 331, 60, 614, 273, 274, 275, 61, 62, 332, 333, 334, 2, 335, 27, 336, 31, 35, 644, 645, 646, 647, 648, 649, 650, 651, 652, 653, 654, 660, 661, 662, 663, 664, 665, 666, 667, 668, 695, 696, 697, 698, 699, 700, 701, 702, 703, 704, 705, 706, 707, 682, 683, 684, 685, 686, 687, 688, 689, 690, 691, 692, 693, 694, 669, 670, 671, 672, 673, 674, 675, 676, 677, 678, 679, 680, 681] rfl (by decide +kernel)
set_option maxRecDepth 20000 in
theorem gL_law_X8_rename : GoodIn wsL_law (wsV RL 57 RX8 yX8_rename wsX8_rename) := goodIn_app (goodIn_of _ (by decide +kernel)) ggL_law_X8_rename
set_option maxRecDepth 20000 in
theorem ggL_law_X8_back : GoodIn wsL_law wsX8_back := goodIn_r _ [634, 321, 17, 19, 23, 268, 269, 270, 16, 271, 187, 50, 51, 52, 54, 272, 273, 274, 275, 327, 328, 329, 22, 330, 331, 332, 333, 334, 2, 335, 27, 336, 31, 35, 644, 645, 646, 647, 648, 649, 650, 651, 652, 653, 654, 660, 661, 662, 663, 664, 665, 666, 667, 668, 695, 696, 697, 698, 699, 700, 701, 702, 703, 704, 705, 706, 707, 682, 683, 684, 685, 686, 687, 688, 689, 690, 691, 692, 693, 694, 669, 670, 671, 672, 673, 674, 675, 676, 677, 678, 679, 680, 681] rfl (by decide +kernel)
set_option maxRecDepth 20000 in
theorem gL_law_X8_back : GoodIn wsL_law (wsV RL 137 RX8 yX8_back wsX8_back) := goodIn_app (goodIn_of _ (by decide +kernel)) ggL_law_X8_back
set_option maxRecDepth 20000 in
theorem ggL_law_L_some : GoodIn wsL_law wsL_some := goodIn_r _ [637, 284, 285, 282, 286, 287, 638, 639, 640, 288, 289, 290, 291, 627, 628, 629, 2, 630, 17, 359, 23, 360, 184, 185, 16, 186, 187, 610, 611, 612, 22, 613, 331, 60, 614, 273, 274, 275, 61, 62, 332, 333, 334, 335, 27, 336, 31, 35, 304, 305, 306, 605, 606, 607, 608, 365, 609, 195, 196, 197, 198, 199, 200, 107, 201, 202, 203, 204, 205, 109, 120, 121, 122, 123, 114, 115, 206, 105, 106, 108, 110, 111, 112, 113, 207, 208, 126, 209, 210, 211, 212, 213, 214, 215, 216, 217, 218, 219, 220, 221, 222, 223, 224, 138, 225, 226, 227, 228, 229, 230, 231, 232, 233, 234, 143, 144, 145, 235, 236, 237, 131, 238, 239, 134, 240, 241, 242, 243, 147, 148, 149, 150, 151, 152, 244, 245, 246, 247, 248, 249, 250, 251, 252, 253, 254, 255, 256, 257, 258, 366, 367, 368, 369, 52, 263, 591, 592, 593, 594, 54, 595, 596, 260, 261, 262, 50, 597, 265, 266, 267, 370, 371, 372, 373, 117, 118, 119, 124, 125, 127, 128, 129, 130, 132, 133, 135, 136, 137, 139, 140, 141, 142, 146, 641, 642, 643, 307, 308, 309, 310, 311, 312, 644, 645, 646, 647, 648, 649, 650, 651, 652, 653, 654, 660, 661, 662, 663, 664, 665, 666, 667, 668, 695, 696, 697, 698, 699, 700, 701, 702, 703, 704, 705, 706, 707, 682, 683, 684, 685, 686, 687, 688, 689, 690, 691, 692, 693, 694, 669, 670, 671, 672, 673, 674, 675, 676, 677, 678, 679, 680, 681] rfl (by decide +kernel)
set_option maxRecDepth 20000 in
theorem gL_law_L_some : GoodIn wsL_law (va_wsS RL 140 yL_some wsL_some) := goodIn_app (goodIn_of _ (by decide +kernel)) ggL_law_L_some
theorem dL_law_0 : decode cL_law 0 = .ok (.new 31, 3) := by decide +kernel
theorem dL_law_3 : decode cL_law 3 = .ok (.dup, 1) := by decide +kernel
theorem dL_law_4 : decode cL_law 4 = .ok (.invokespecial 94, 3) := by decide +kernel
theorem dL_law_7 : decode cL_law 7 = .ok (.astore_n 1, 1) := by decide +kernel
theorem dL_law_8 : decode cL_law 8 = .ok (.bipush 13, 2) := by decide +kernel
theorem dL_law_10 : decode cL_law 10 = .ok (.newarray .int, 2) := by decide +kernel
theorem dL_law_12 : decode cL_law 12 = .ok (.astore_n 2, 1) := by decide +kernel
theorem dL_law_13 : decode cL_law 13 = .ok (.bipush 64, 2) := by decide +kernel
theorem dL_law_15 : decode cL_law 15 = .ok (.newarray .int, 2) := by decide +kernel
theorem dL_law_17 : decode cL_law 17 = .ok (.astore_n 3, 1) := by decide +kernel
theorem dL_law_18 : decode cL_law 18 = .ok (.aload_n 1, 1) := by decide +kernel
theorem dL_law_19 : decode cL_law 19 = .ok (.aload_n 0, 1) := by decide +kernel
theorem dL_law_20 : decode cL_law 20 = .ok (.aload_n 2, 1) := by decide +kernel
theorem dL_law_21 : decode cL_law 21 = .ok (.aload_n 3, 1) := by decide +kernel
theorem dL_law_22 : decode cL_law 22 = .ok (.invokestatic 95, 3) := by decide +kernel
theorem dL_law_25 : decode cL_law 25 = .ok (.ifCond .ne 5, 3) := by decide +kernel
theorem dL_law_28 : decode cL_law 28 = .ok (.iconst 0, 1) := by decide +kernel
theorem dL_law_29 : decode cL_law 29 = .ok (.ireturn, 1) := by decide +kernel
theorem dL_law_30 : decode cL_law 30 = .ok (.iconst 0, 1) := by decide +kernel
theorem dL_law_31 : decode cL_law 31 = .ok (.istore 4, 2) := by decide +kernel
theorem dL_law_33 : decode cL_law 33 = .ok (.iload 4, 2) := by decide +kernel
theorem dL_law_35 : decode cL_law 35 = .ok (.iconst 3, 1) := by decide +kernel
theorem dL_law_36 : decode cL_law 36 = .ok (.if_icmp .ge 1528, 3) := by decide +kernel
theorem dL_law_39 : decode cL_law 39 = .ok (.aload_n 0, 1) := by decide +kernel
theorem dL_law_40 : decode cL_law 40 = .ok (.bipush 9, 2) := by decide +kernel
theorem dL_law_42 : decode cL_law 42 = .ok (.iload 4, 2) := by decide +kernel
theorem dL_law_44 : decode cL_law 44 = .ok (.iadd, 1) := by decide +kernel
theorem dL_law_45 : decode cL_law 45 = .ok (.invokestatic 26, 3) := by decide +kernel
theorem dL_law_48 : decode cL_law 48 = .ok (.istore 5, 2) := by decide +kernel
theorem dL_law_50 : decode cL_law 50 = .ok (.aload_n 1, 1) := by decide +kernel
theorem dL_law_51 : decode cL_law 51 = .ok (.iconst 0, 1) := by decide +kernel
theorem dL_law_52 : decode cL_law 52 = .ok (.invokevirtual 49, 3) := by decide +kernel
