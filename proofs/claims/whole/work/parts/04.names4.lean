theorem dX9_fineBy_113 : decode cX9_fineBy 113 = .ok (.iand, 1) := by decide +kernel
theorem dX9_fineBy_114 : decode cX9_fineBy 114 = .ok (.ifCond .eq 13, 3) := by decide +kernel
theorem dX9_fineBy_117 : decode cX9_fineBy 117 = .ok (.iload_n 2, 1) := by decide +kernel
theorem dX9_fineBy_118 : decode cX9_fineBy 118 = .ok (.iconst 1, 1) := by decide +kernel
theorem dX9_fineBy_119 : decode cX9_fineBy 119 = .ok (.iand, 1) := by decide +kernel
theorem dX9_fineBy_120 : decode cX9_fineBy 120 = .ok (.ifCond .eq 7, 3) := by decide +kernel
theorem dX9_fineBy_123 : decode cX9_fineBy 123 = .ok (.iconst 2, 1) := by decide +kernel
theorem dX9_fineBy_124 : decode cX9_fineBy 124 = .ok (.goto 4, 3) := by decide +kernel
theorem dX9_fineBy_127 : decode cX9_fineBy 127 = .ok (.iconst 0, 1) := by decide +kernel
theorem dX9_fineBy_128 : decode cX9_fineBy 128 = .ok (.ior, 1) := by decide +kernel
theorem dX9_fineBy_129 : decode cX9_fineBy 129 = .ok (.istore 4, 2) := by decide +kernel
theorem dX9_fineBy_131 : decode cX9_fineBy 131 = .ok (.iload 4, 2) := by decide +kernel
theorem dX9_fineBy_133 : decode cX9_fineBy 133 = .ok (.iload_n 1, 1) := by decide +kernel
theorem dX9_fineBy_134 : decode cX9_fineBy 134 = .ok (.iconst 2, 1) := by decide +kernel
theorem dX9_fineBy_135 : decode cX9_fineBy 135 = .ok (.iand, 1) := by decide +kernel
theorem dX9_fineBy_136 : decode cX9_fineBy 136 = .ok (.ifCond .eq 13, 3) := by decide +kernel
theorem dX9_fineBy_139 : decode cX9_fineBy 139 = .ok (.iload_n 2, 1) := by decide +kernel
theorem dX9_fineBy_140 : decode cX9_fineBy 140 = .ok (.iconst 2, 1) := by decide +kernel
theorem dX9_fineBy_141 : decode cX9_fineBy 141 = .ok (.iand, 1) := by decide +kernel
theorem dX9_fineBy_142 : decode cX9_fineBy 142 = .ok (.ifCond .eq 7, 3) := by decide +kernel
theorem dX9_fineBy_145 : decode cX9_fineBy 145 = .ok (.iconst 3, 1) := by decide +kernel
theorem dX9_fineBy_146 : decode cX9_fineBy 146 = .ok (.goto 4, 3) := by decide +kernel
theorem dX9_fineBy_149 : decode cX9_fineBy 149 = .ok (.iconst 0, 1) := by decide +kernel
theorem dX9_fineBy_150 : decode cX9_fineBy 150 = .ok (.ior, 1) := by decide +kernel
theorem dX9_fineBy_151 : decode cX9_fineBy 151 = .ok (.ireturn, 1) := by decide +kernel
set_option maxRecDepth 20000 in
theorem ggX9_constantBy_X9_neverOf : GoodIn wsX9_constantBy wsX9_neverOf := goodIn_r _ [4] (by decide +kernel) (by decide +kernel)
set_option maxRecDepth 20000 in
theorem gX9_constantBy_X9_neverOf : GoodIn wsX9_constantBy (va_wsS RX9 69 yX9_neverOf wsX9_neverOf) := goodIn_app (goodIn_of _ (by decide +kernel)) ggX9_constantBy_X9_neverOf
theorem dX9_constantBy_0 : decode cX9_constantBy 0 = .ok (.iload_n 1, 1) := by decide +kernel
theorem dX9_constantBy_1 : decode cX9_constantBy 1 = .ok (.bipush 119, 2) := by decide +kernel
theorem dX9_constantBy_3 : decode cX9_constantBy 3 = .ok (.if_icmp .ne 8, 3) := by decide +kernel
theorem dX9_constantBy_6 : decode cX9_constantBy 6 = .ok (.iload_n 0, 1) := by decide +kernel
theorem dX9_constantBy_7 : decode cX9_constantBy 7 = .ok (.invokestatic 69, 3) := by decide +kernel
theorem dX9_constantBy_10 : decode cX9_constantBy 10 = .ok (.ireturn, 1) := by decide +kernel
theorem dX9_constantBy_11 : decode cX9_constantBy 11 = .ok (.iload_n 0, 1) := by decide +kernel
theorem dX9_constantBy_12 : decode cX9_constantBy 12 = .ok (.ifCond .ne 17, 3) := by decide +kernel
theorem dX9_constantBy_15 : decode cX9_constantBy 15 = .ok (.iload_n 1, 1) := by decide +kernel
theorem dX9_constantBy_16 : decode cX9_constantBy 16 = .ok (.bipush 111, 2) := by decide +kernel
theorem dX9_constantBy_18 : decode cX9_constantBy 18 = .ok (.if_icmp .ne 7, 3) := by decide +kernel
theorem dX9_constantBy_21 : decode cX9_constantBy 21 = .ok (.iconst 0, 1) := by decide +kernel
theorem dX9_constantBy_22 : decode cX9_constantBy 22 = .ok (.goto 27, 3) := by decide +kernel
theorem dX9_constantBy_25 : decode cX9_constantBy 25 = .ok (.iconst 1, 1) := by decide +kernel
theorem dX9_constantBy_26 : decode cX9_constantBy 26 = .ok (.goto 23, 3) := by decide +kernel
theorem dX9_constantBy_29 : decode cX9_constantBy 29 = .ok (.iload_n 0, 1) := by decide +kernel
theorem dX9_constantBy_30 : decode cX9_constantBy 30 = .ok (.iconst 1, 1) := by decide +kernel
theorem dX9_constantBy_31 : decode cX9_constantBy 31 = .ok (.if_icmp .ne 7, 3) := by decide +kernel
theorem dX9_constantBy_34 : decode cX9_constantBy 34 = .ok (.iconst 1, 1) := by decide +kernel
theorem dX9_constantBy_35 : decode cX9_constantBy 35 = .ok (.goto 14, 3) := by decide +kernel
theorem dX9_constantBy_38 : decode cX9_constantBy 38 = .ok (.iload_n 1, 1) := by decide +kernel
theorem dX9_constantBy_39 : decode cX9_constantBy 39 = .ok (.bipush 111, 2) := by decide +kernel
theorem dX9_constantBy_41 : decode cX9_constantBy 41 = .ok (.if_icmp .ne 7, 3) := by decide +kernel
theorem dX9_constantBy_44 : decode cX9_constantBy 44 = .ok (.iconst 1, 1) := by decide +kernel
theorem dX9_constantBy_45 : decode cX9_constantBy 45 = .ok (.goto 4, 3) := by decide +kernel
theorem dX9_constantBy_48 : decode cX9_constantBy 48 = .ok (.iconst 2, 1) := by decide +kernel
theorem dX9_constantBy_49 : decode cX9_constantBy 49 = .ok (.ireturn, 1) := by decide +kernel
set_option maxRecDepth 20000 in
theorem ggX9_madeBy_X9_in : GoodIn wsX9_madeBy wsX9_in := goodIn_r _ [4] (by decide +kernel) (by decide +kernel)
set_option maxRecDepth 20000 in
theorem gX9_madeBy_X9_in : GoodIn wsX9_madeBy (va_wsS RX9 61 yX9_in wsX9_in) := goodIn_app (goodIn_of _ (by decide +kernel)) ggX9_madeBy_X9_in
set_option maxRecDepth 20000 in
theorem ggX9_madeBy_X9_rowOf : GoodIn wsX9_madeBy wsX9_rowOf := goodIn_r _ [7] (by decide +kernel) (by decide +kernel)
set_option maxRecDepth 20000 in
theorem gX9_madeBy_X9_rowOf : GoodIn wsX9_madeBy (va_wsS RX9 72 yX9_rowOf wsX9_rowOf) := goodIn_app (goodIn_of _ (by decide +kernel)) ggX9_madeBy_X9_rowOf
set_option maxRecDepth 20000 in
theorem ggX9_madeBy_X9_tableAt : GoodIn wsX9_madeBy wsX9_tableAt := goodIn_r _ [11, 12, 22, 23, 24, 25, 26, 27, 28, 29, 30, 31, 32, 33, 34, 35, 36, 37, 38, 39, 40, 41] (by decide +kernel) (by decide +kernel)
set_option maxRecDepth 20000 in
theorem gX9_madeBy_X9_tableAt : GoodIn wsX9_madeBy (wsV RX9 76 RX9 yX9_tableAt wsX9_tableAt) := goodIn_app (goodIn_of _ (by decide +kernel)) ggX9_madeBy_X9_tableAt
set_option maxRecDepth 20000 in
theorem ggX9_madeBy_X9_valueBy : GoodIn wsX9_madeBy wsX9_valueBy := goodIn_r _ [15] (by decide +kernel) (by decide +kernel)
set_option maxRecDepth 20000 in
theorem gX9_madeBy_X9_valueBy : GoodIn wsX9_madeBy (va_wsS RX9 79 yX9_valueBy wsX9_valueBy) := goodIn_app (goodIn_of _ (by decide +kernel)) ggX9_madeBy_X9_valueBy
set_option maxRecDepth 20000 in
theorem ggX9_madeBy_X9_roughBy : GoodIn wsX9_madeBy wsX9_roughBy := goodIn_r _ [18] (by decide +kernel) (by decide +kernel)
set_option maxRecDepth 20000 in
theorem gX9_madeBy_X9_roughBy : GoodIn wsX9_madeBy (va_wsS RX9 83 yX9_roughBy wsX9_roughBy) := goodIn_app (goodIn_of _ (by decide +kernel)) ggX9_madeBy_X9_roughBy
set_option maxRecDepth 20000 in
theorem ggX9_madeBy_X9_fineBy : GoodIn wsX9_madeBy wsX9_fineBy := goodIn_r _ [21] (by decide +kernel) (by decide +kernel)
set_option maxRecDepth 20000 in
theorem gX9_madeBy_X9_fineBy : GoodIn wsX9_madeBy (va_wsS RX9 86 yX9_fineBy wsX9_fineBy) := goodIn_app (goodIn_of _ (by decide +kernel)) ggX9_madeBy_X9_fineBy
theorem dX9_madeBy_0 : decode cX9_madeBy 0 = .ok (.iload_n 2, 1) := by decide +kernel
theorem dX9_madeBy_1 : decode cX9_madeBy 1 = .ok (.bipush 48, 2) := by decide +kernel
theorem dX9_madeBy_3 : decode cX9_madeBy 3 = .ok (.bipush 51, 2) := by decide +kernel
theorem dX9_madeBy_5 : decode cX9_madeBy 5 = .ok (.invokestatic 61, 3) := by decide +kernel
theorem dX9_madeBy_8 : decode cX9_madeBy 8 = .ok (.ifCond .eq 21, 3) := by decide +kernel
theorem dX9_madeBy_11 : decode cX9_madeBy 11 = .ok (.aload_n 0, 1) := by decide +kernel
theorem dX9_madeBy_12 : decode cX9_madeBy 12 = .ok (.iload_n 1, 1) := by decide +kernel
theorem dX9_madeBy_13 : decode cX9_madeBy 13 = .ok (.iload_n 2, 1) := by decide +kernel
theorem dX9_madeBy_14 : decode cX9_madeBy 14 = .ok (.bipush 48, 2) := by decide +kernel
theorem dX9_madeBy_16 : decode cX9_madeBy 16 = .ok (.isub, 1) := by decide +kernel
theorem dX9_madeBy_17 : decode cX9_madeBy 17 = .ok (.iload_n 3, 1) := by decide +kernel
theorem dX9_madeBy_18 : decode cX9_madeBy 18 = .ok (.iload 4, 2) := by decide +kernel
theorem dX9_madeBy_20 : decode cX9_madeBy 20 = .ok (.iload 5, 2) := by decide +kernel
theorem dX9_madeBy_22 : decode cX9_madeBy 22 = .ok (.invokestatic 72, 3) := by decide +kernel
theorem dX9_madeBy_25 : decode cX9_madeBy 25 = .ok (.invokevirtual 76, 3) := by decide +kernel
theorem dX9_madeBy_28 : decode cX9_madeBy 28 = .ok (.ireturn, 1) := by decide +kernel
theorem dX9_madeBy_29 : decode cX9_madeBy 29 = .ok (.iload_n 1, 1) := by decide +kernel
theorem dX9_madeBy_30 : decode cX9_madeBy 30 = .ok (.ifCond .ne 15, 3) := by decide +kernel
theorem dX9_madeBy_33 : decode cX9_madeBy 33 = .ok (.iload_n 2, 1) := by decide +kernel
theorem dX9_madeBy_34 : decode cX9_madeBy 34 = .ok (.iload_n 3, 1) := by decide +kernel
theorem dX9_madeBy_35 : decode cX9_madeBy 35 = .ok (.iload 4, 2) := by decide +kernel
theorem dX9_madeBy_37 : decode cX9_madeBy 37 = .ok (.iload 5, 2) := by decide +kernel
theorem dX9_madeBy_39 : decode cX9_madeBy 39 = .ok (.invokestatic 79, 3) := by decide +kernel
theorem dX9_madeBy_42 : decode cX9_madeBy 42 = .ok (.goto 29, 3) := by decide +kernel
theorem dX9_madeBy_45 : decode cX9_madeBy 45 = .ok (.iload_n 1, 1) := by decide +kernel
theorem dX9_madeBy_46 : decode cX9_madeBy 46 = .ok (.iconst 1, 1) := by decide +kernel
theorem dX9_madeBy_47 : decode cX9_madeBy 47 = .ok (.if_icmp .ne 15, 3) := by decide +kernel
theorem dX9_madeBy_50 : decode cX9_madeBy 50 = .ok (.iload_n 2, 1) := by decide +kernel
theorem dX9_madeBy_51 : decode cX9_madeBy 51 = .ok (.iload_n 3, 1) := by decide +kernel
theorem dX9_madeBy_52 : decode cX9_madeBy 52 = .ok (.iload 4, 2) := by decide +kernel
theorem dX9_madeBy_54 : decode cX9_madeBy 54 = .ok (.iload 5, 2) := by decide +kernel
theorem dX9_madeBy_56 : decode cX9_madeBy 56 = .ok (.invokestatic 83, 3) := by decide +kernel
theorem dX9_madeBy_59 : decode cX9_madeBy 59 = .ok (.goto 12, 3) := by decide +kernel
theorem dX9_madeBy_62 : decode cX9_madeBy 62 = .ok (.iload_n 2, 1) := by decide +kernel
theorem dX9_madeBy_63 : decode cX9_madeBy 63 = .ok (.iload_n 3, 1) := by decide +kernel
theorem dX9_madeBy_64 : decode cX9_madeBy 64 = .ok (.iload 4, 2) := by decide +kernel
theorem dX9_madeBy_66 : decode cX9_madeBy 66 = .ok (.iload 5, 2) := by decide +kernel
theorem dX9_madeBy_68 : decode cX9_madeBy 68 = .ok (.invokestatic 86, 3) := by decide +kernel
theorem dX9_madeBy_71 : decode cX9_madeBy 71 = .ok (.ireturn, 1) := by decide +kernel
set_option maxRecDepth 20000 in
theorem ggX9_bodyBy_X9_partsOf : GoodIn wsX9_bodyBy wsX9_partsOf := goodIn_r _ [9, 10, 3, 11, 12, 8, 13, 41, 42, 43, 44, 45, 46, 47, 48, 49, 50, 51, 52, 53, 54, 55, 56, 57, 58, 59, 60] (by decide +kernel) (by decide +kernel)
set_option maxRecDepth 20000 in
theorem gX9_bodyBy_X9_partsOf : GoodIn wsX9_bodyBy (wsV RX9 89 RX9 yX9_partsOf wsX9_partsOf) := goodIn_app (goodIn_of _ (by decide +kernel)) ggX9_bodyBy_X9_partsOf
set_option maxRecDepth 20000 in
theorem ggX9_bodyBy_X9_constantBy : GoodIn wsX9_bodyBy wsX9_constantBy := goodIn_r _ [16, 17, 18, 8, 19] (by decide +kernel) (by decide +kernel)
set_option maxRecDepth 20000 in
theorem gX9_bodyBy_X9_constantBy : GoodIn wsX9_bodyBy (va_wsS RX9 93 yX9_constantBy wsX9_constantBy) := goodIn_app (goodIn_of _ (by decide +kernel)) ggX9_bodyBy_X9_constantBy
set_option maxRecDepth 20000 in
theorem ggX9_bodyBy_X9_in : GoodIn wsX9_bodyBy wsX9_in := goodIn_r _ [13] (by decide +kernel) (by decide +kernel)
set_option maxRecDepth 20000 in
theorem gX9_bodyBy_X9_in : GoodIn wsX9_bodyBy (va_wsS RX9 61 yX9_in wsX9_in) := goodIn_app (goodIn_of _ (by decide +kernel)) ggX9_bodyBy_X9_in
set_option maxRecDepth 20000 in
theorem ggX9_bodyBy_X9_madeBy : GoodIn wsX9_bodyBy wsX9_madeBy := goodIn_r _ [23, 11, 12, 8, 13, 24, 25, 26, 27, 28, 29, 30, 31, 32, 33, 34, 35, 36, 37, 38, 39, 40, 41, 42, 43, 44, 45, 46, 47, 48, 49, 50, 51, 52, 53, 54, 55, 56, 57, 58, 59, 60] (by decide +kernel) (by decide +kernel)
set_option maxRecDepth 20000 in
theorem gX9_bodyBy_X9_madeBy : GoodIn wsX9_bodyBy (wsV RX9 96 RX9 yX9_madeBy wsX9_madeBy) := goodIn_app (goodIn_of _ (by decide +kernel)) ggX9_bodyBy_X9_madeBy
theorem dX9_bodyBy_0 : decode cX9_bodyBy 0 = .ok (.iconst 0, 1) := by decide +kernel
theorem dX9_bodyBy_1 : decode cX9_bodyBy 1 = .ok (.istore 6, 2) := by decide +kernel
theorem dX9_bodyBy_3 : decode cX9_bodyBy 3 = .ok (.aload_n 0, 1) := by decide +kernel
theorem dX9_bodyBy_4 : decode cX9_bodyBy 4 = .ok (.getfield 16, 3) := by decide +kernel
theorem dX9_bodyBy_7 : decode cX9_bodyBy 7 = .ok (.iload_n 2, 1) := by decide +kernel
theorem dX9_bodyBy_8 : decode cX9_bodyBy 8 = .ok (.iaload, 1) := by decide +kernel
theorem dX9_bodyBy_9 : decode cX9_bodyBy 9 = .ok (.iconst 1, 1) := by decide +kernel
theorem dX9_bodyBy_10 : decode cX9_bodyBy 10 = .ok (.isub, 1) := by decide +kernel
theorem dX9_bodyBy_11 : decode cX9_bodyBy 11 = .ok (.istore 7, 2) := by decide +kernel
theorem dX9_bodyBy_13 : decode cX9_bodyBy 13 = .ok (.iload 7, 2) := by decide +kernel
theorem dX9_bodyBy_15 : decode cX9_bodyBy 15 = .ok (.ifCond .lt 198, 3) := by decide +kernel
theorem dX9_bodyBy_18 : decode cX9_bodyBy 18 = .ok (.aload_n 0, 1) := by decide +kernel
theorem dX9_bodyBy_19 : decode cX9_bodyBy 19 = .ok (.getfield 19, 3) := by decide +kernel
theorem dX9_bodyBy_22 : decode cX9_bodyBy 22 = .ok (.bipush 24, 2) := by decide +kernel
theorem dX9_bodyBy_24 : decode cX9_bodyBy 24 = .ok (.iload_n 2, 1) := by decide +kernel
theorem dX9_bodyBy_25 : decode cX9_bodyBy 25 = .ok (.imul, 1) := by decide +kernel
theorem dX9_bodyBy_26 : decode cX9_bodyBy 26 = .ok (.iload 7, 2) := by decide +kernel
theorem dX9_bodyBy_28 : decode cX9_bodyBy 28 = .ok (.iadd, 1) := by decide +kernel
theorem dX9_bodyBy_29 : decode cX9_bodyBy 29 = .ok (.iaload, 1) := by decide +kernel
theorem dX9_bodyBy_30 : decode cX9_bodyBy 30 = .ok (.istore 8, 2) := by decide +kernel
theorem dX9_bodyBy_32 : decode cX9_bodyBy 32 = .ok (.aload_n 0, 1) := by decide +kernel
theorem dX9_bodyBy_33 : decode cX9_bodyBy 33 = .ok (.iload 8, 2) := by decide +kernel
theorem dX9_bodyBy_35 : decode cX9_bodyBy 35 = .ok (.aload_n 0, 1) := by decide +kernel
theorem dX9_bodyBy_36 : decode cX9_bodyBy 36 = .ok (.getfield 7, 3) := by decide +kernel
theorem dX9_bodyBy_39 : decode cX9_bodyBy 39 = .ok (.iload_n 2, 1) := by decide +kernel
theorem dX9_bodyBy_40 : decode cX9_bodyBy 40 = .ok (.iaload, 1) := by decide +kernel
theorem dX9_bodyBy_41 : decode cX9_bodyBy 41 = .ok (.invokevirtual 89, 3) := by decide +kernel
theorem dX9_bodyBy_44 : decode cX9_bodyBy 44 = .ok (.istore 9, 2) := by decide +kernel
theorem dX9_bodyBy_46 : decode cX9_bodyBy 46 = .ok (.iconst 0, 1) := by decide +kernel
theorem dX9_bodyBy_47 : decode cX9_bodyBy 47 = .ok (.istore 10, 2) := by decide +kernel
theorem dX9_bodyBy_49 : decode cX9_bodyBy 49 = .ok (.iload 8, 2) := by decide +kernel
theorem dX9_bodyBy_51 : decode cX9_bodyBy 51 = .ok (.bipush 111, 2) := by decide +kernel
theorem dX9_bodyBy_53 : decode cX9_bodyBy 53 = .ok (.if_icmp .eq 17, 3) := by decide +kernel
theorem dX9_bodyBy_56 : decode cX9_bodyBy 56 = .ok (.iload 8, 2) := by decide +kernel
theorem dX9_bodyBy_58 : decode cX9_bodyBy 58 = .ok (.bipush 105, 2) := by decide +kernel
theorem dX9_bodyBy_60 : decode cX9_bodyBy 60 = .ok (.if_icmp .eq 10, 3) := by decide +kernel
theorem dX9_bodyBy_63 : decode cX9_bodyBy 63 = .ok (.iload 8, 2) := by decide +kernel
theorem dX9_bodyBy_65 : decode cX9_bodyBy 65 = .ok (.bipush 119, 2) := by decide +kernel
theorem dX9_bodyBy_67 : decode cX9_bodyBy 67 = .ok (.if_icmp .ne 14, 3) := by decide +kernel
theorem dX9_bodyBy_70 : decode cX9_bodyBy 70 = .ok (.iload_n 1, 1) := by decide +kernel
theorem dX9_bodyBy_71 : decode cX9_bodyBy 71 = .ok (.iload 8, 2) := by decide +kernel
theorem dX9_bodyBy_73 : decode cX9_bodyBy 73 = .ok (.invokestatic 93, 3) := by decide +kernel
theorem dX9_bodyBy_76 : decode cX9_bodyBy 76 = .ok (.istore 10, 2) := by decide +kernel
theorem dX9_bodyBy_78 : decode cX9_bodyBy 78 = .ok (.goto 110, 3) := by decide +kernel
theorem dX9_bodyBy_81 : decode cX9_bodyBy 81 = .ok (.iload 8, 2) := by decide +kernel
theorem dX9_bodyBy_83 : decode cX9_bodyBy 83 = .ok (.bipush 97, 2) := by decide +kernel
theorem dX9_bodyBy_85 : decode cX9_bodyBy 85 = .ok (.bipush 99, 2) := by decide +kernel
theorem dX9_bodyBy_87 : decode cX9_bodyBy 87 = .ok (.invokestatic 61, 3) := by decide +kernel
theorem dX9_bodyBy_90 : decode cX9_bodyBy 90 = .ok (.ifCond .eq 33, 3) := by decide +kernel
theorem dX9_bodyBy_93 : decode cX9_bodyBy 93 = .ok (.iload 8, 2) := by decide +kernel
theorem dX9_bodyBy_95 : decode cX9_bodyBy 95 = .ok (.bipush 97, 2) := by decide +kernel
theorem dX9_bodyBy_97 : decode cX9_bodyBy 97 = .ok (.if_icmp .ne 7, 3) := by decide +kernel
theorem dX9_bodyBy_100 : decode cX9_bodyBy 100 = .ok (.iload_n 3, 1) := by decide +kernel
theorem dX9_bodyBy_101 : decode cX9_bodyBy 101 = .ok (.goto 17, 3) := by decide +kernel
theorem dX9_bodyBy_104 : decode cX9_bodyBy 104 = .ok (.iload 8, 2) := by decide +kernel
theorem dX9_bodyBy_106 : decode cX9_bodyBy 106 = .ok (.bipush 98, 2) := by decide +kernel
theorem dX9_bodyBy_108 : decode cX9_bodyBy 108 = .ok (.if_icmp .ne 8, 3) := by decide +kernel
theorem dX9_bodyBy_111 : decode cX9_bodyBy 111 = .ok (.iload 4, 2) := by decide +kernel
theorem dX9_bodyBy_113 : decode cX9_bodyBy 113 = .ok (.goto 5, 3) := by decide +kernel
theorem dX9_bodyBy_116 : decode cX9_bodyBy 116 = .ok (.iload 5, 2) := by decide +kernel
theorem dX9_bodyBy_118 : decode cX9_bodyBy 118 = .ok (.istore 10, 2) := by decide +kernel
theorem dX9_bodyBy_120 : decode cX9_bodyBy 120 = .ok (.goto 68, 3) := by decide +kernel
theorem dX9_bodyBy_123 : decode cX9_bodyBy 123 = .ok (.aload_n 0, 1) := by decide +kernel
theorem dX9_bodyBy_124 : decode cX9_bodyBy 124 = .ok (.iload_n 1, 1) := by decide +kernel
theorem dX9_bodyBy_125 : decode cX9_bodyBy 125 = .ok (.iload 8, 2) := by decide +kernel
theorem dX9_bodyBy_127 : decode cX9_bodyBy 127 = .ok (.iload 9, 2) := by decide +kernel
theorem dX9_bodyBy_129 : decode cX9_bodyBy 129 = .ok (.ifCond .le 15, 3) := by decide +kernel
theorem dX9_bodyBy_132 : decode cX9_bodyBy 132 = .ok (.aload_n 0, 1) := by decide +kernel
theorem dX9_bodyBy_133 : decode cX9_bodyBy 133 = .ok (.getfield 31, 3) := by decide +kernel
theorem dX9_bodyBy_136 : decode cX9_bodyBy 136 = .ok (.iload 6, 2) := by decide +kernel
theorem dX9_bodyBy_138 : decode cX9_bodyBy 138 = .ok (.iconst 1, 1) := by decide +kernel
theorem dX9_bodyBy_139 : decode cX9_bodyBy 139 = .ok (.isub, 1) := by decide +kernel
theorem dX9_bodyBy_140 : decode cX9_bodyBy 140 = .ok (.iaload, 1) := by decide +kernel
theorem dX9_bodyBy_141 : decode cX9_bodyBy 141 = .ok (.goto 4, 3) := by decide +kernel
theorem dX9_bodyBy_144 : decode cX9_bodyBy 144 = .ok (.iconst 0, 1) := by decide +kernel
theorem dX9_bodyBy_145 : decode cX9_bodyBy 145 = .ok (.iload 9, 2) := by decide +kernel
theorem dX9_bodyBy_147 : decode cX9_bodyBy 147 = .ok (.iconst 1, 1) := by decide +kernel
theorem dX9_bodyBy_148 : decode cX9_bodyBy 148 = .ok (.if_icmp .le 15, 3) := by decide +kernel
theorem dX9_bodyBy_151 : decode cX9_bodyBy 151 = .ok (.aload_n 0, 1) := by decide +kernel
theorem dX9_bodyBy_152 : decode cX9_bodyBy 152 = .ok (.getfield 31, 3) := by decide +kernel
theorem dX9_bodyBy_155 : decode cX9_bodyBy 155 = .ok (.iload 6, 2) := by decide +kernel
theorem dX9_bodyBy_157 : decode cX9_bodyBy 157 = .ok (.iconst 2, 1) := by decide +kernel
theorem dX9_bodyBy_158 : decode cX9_bodyBy 158 = .ok (.isub, 1) := by decide +kernel
theorem dX9_bodyBy_159 : decode cX9_bodyBy 159 = .ok (.iaload, 1) := by decide +kernel
theorem dX9_bodyBy_160 : decode cX9_bodyBy 160 = .ok (.goto 4, 3) := by decide +kernel
theorem dX9_bodyBy_163 : decode cX9_bodyBy 163 = .ok (.iconst 0, 1) := by decide +kernel
theorem dX9_bodyBy_164 : decode cX9_bodyBy 164 = .ok (.iload 9, 2) := by decide +kernel
theorem dX9_bodyBy_166 : decode cX9_bodyBy 166 = .ok (.iconst 2, 1) := by decide +kernel
theorem dX9_bodyBy_167 : decode cX9_bodyBy 167 = .ok (.if_icmp .le 15, 3) := by decide +kernel
theorem dX9_bodyBy_170 : decode cX9_bodyBy 170 = .ok (.aload_n 0, 1) := by decide +kernel
theorem dX9_bodyBy_171 : decode cX9_bodyBy 171 = .ok (.getfield 31, 3) := by decide +kernel
theorem dX9_bodyBy_174 : decode cX9_bodyBy 174 = .ok (.iload 6, 2) := by decide +kernel
theorem dX9_bodyBy_176 : decode cX9_bodyBy 176 = .ok (.iconst 3, 1) := by decide +kernel
theorem dX9_bodyBy_177 : decode cX9_bodyBy 177 = .ok (.isub, 1) := by decide +kernel
theorem dX9_bodyBy_178 : decode cX9_bodyBy 178 = .ok (.iaload, 1) := by decide +kernel
theorem dX9_bodyBy_179 : decode cX9_bodyBy 179 = .ok (.goto 4, 3) := by decide +kernel
theorem dX9_bodyBy_182 : decode cX9_bodyBy 182 = .ok (.iconst 0, 1) := by decide +kernel
theorem dX9_bodyBy_183 : decode cX9_bodyBy 183 = .ok (.invokevirtual 96, 3) := by decide +kernel
theorem dX9_bodyBy_186 : decode cX9_bodyBy 186 = .ok (.istore 10, 2) := by decide +kernel
theorem dX9_bodyBy_188 : decode cX9_bodyBy 188 = .ok (.iload 6, 2) := by decide +kernel
theorem dX9_bodyBy_190 : decode cX9_bodyBy 190 = .ok (.iload 9, 2) := by decide +kernel
theorem dX9_bodyBy_192 : decode cX9_bodyBy 192 = .ok (.isub, 1) := by decide +kernel
theorem dX9_bodyBy_193 : decode cX9_bodyBy 193 = .ok (.istore 6, 2) := by decide +kernel
theorem dX9_bodyBy_195 : decode cX9_bodyBy 195 = .ok (.aload_n 0, 1) := by decide +kernel
theorem dX9_bodyBy_196 : decode cX9_bodyBy 196 = .ok (.getfield 31, 3) := by decide +kernel
theorem dX9_bodyBy_199 : decode cX9_bodyBy 199 = .ok (.iload 6, 2) := by decide +kernel
theorem dX9_bodyBy_201 : decode cX9_bodyBy 201 = .ok (.iload 10, 2) := by decide +kernel
theorem dX9_bodyBy_203 : decode cX9_bodyBy 203 = .ok (.iastore, 1) := by decide +kernel
theorem dX9_bodyBy_204 : decode cX9_bodyBy 204 = .ok (.iinc 6 1, 3) := by decide +kernel
theorem dX9_bodyBy_207 : decode cX9_bodyBy 207 = .ok (.iinc 7 (-1), 3) := by decide +kernel
theorem dX9_bodyBy_210 : decode cX9_bodyBy 210 = .ok (.goto (-197), 3) := by decide +kernel
theorem dX9_bodyBy_213 : decode cX9_bodyBy 213 = .ok (.aload_n 0, 1) := by decide +kernel
theorem dX9_bodyBy_214 : decode cX9_bodyBy 214 = .ok (.getfield 31, 3) := by decide +kernel
theorem dX9_bodyBy_217 : decode cX9_bodyBy 217 = .ok (.iconst 0, 1) := by decide +kernel
theorem dX9_bodyBy_218 : decode cX9_bodyBy 218 = .ok (.iaload, 1) := by decide +kernel
theorem dX9_bodyBy_219 : decode cX9_bodyBy 219 = .ok (.ireturn, 1) := by decide +kernel
set_option maxRecDepth 20000 in
theorem ggX9_isNever_X9_neverOf : GoodIn wsX9_isNever wsX9_neverOf := goodIn_r _ [4] (by decide +kernel) (by decide +kernel)
set_option maxRecDepth 20000 in
theorem gX9_isNever_X9_neverOf : GoodIn wsX9_isNever (va_wsS RX9 69 yX9_neverOf wsX9_neverOf) := goodIn_app (goodIn_of _ (by decide +kernel)) ggX9_isNever_X9_neverOf
theorem dX9_isNever_0 : decode cX9_isNever 0 = .ok (.iload_n 1, 1) := by decide +kernel
theorem dX9_isNever_1 : decode cX9_isNever 1 = .ok (.iload_n 0, 1) := by decide +kernel
theorem dX9_isNever_2 : decode cX9_isNever 2 = .ok (.invokestatic 69, 3) := by decide +kernel
theorem dX9_isNever_5 : decode cX9_isNever 5 = .ok (.if_icmp .ne 7, 3) := by decide +kernel
theorem dX9_isNever_8 : decode cX9_isNever 8 = .ok (.iconst 1, 1) := by decide +kernel
theorem dX9_isNever_9 : decode cX9_isNever 9 = .ok (.goto 4, 3) := by decide +kernel
theorem dX9_isNever_12 : decode cX9_isNever 12 = .ok (.iconst 0, 1) := by decide +kernel
theorem dX9_isNever_13 : decode cX9_isNever 13 = .ok (.ireturn, 1) := by decide +kernel
set_option maxRecDepth 20000 in
theorem ggX9_comesTo_X9_isNever : GoodIn wsX9_comesTo wsX9_isNever := goodIn_r _ [6, 7, 8, 5, 9] (by decide +kernel) (by decide +kernel)
set_option maxRecDepth 20000 in
theorem gX9_comesTo_X9_isNever : GoodIn wsX9_comesTo (va_wsS RX9 100 yX9_isNever wsX9_isNever) := goodIn_app (goodIn_of _ (by decide +kernel)) ggX9_comesTo_X9_isNever
set_option maxRecDepth 20000 in
theorem ggX9_comesTo_X9_neverOf : GoodIn wsX9_comesTo wsX9_neverOf := goodIn_r _ [9] (by decide +kernel) (by decide +kernel)
set_option maxRecDepth 20000 in
theorem gX9_comesTo_X9_neverOf : GoodIn wsX9_comesTo (va_wsS RX9 69 yX9_neverOf wsX9_neverOf) := goodIn_app (goodIn_of _ (by decide +kernel)) ggX9_comesTo_X9_neverOf
set_option maxRecDepth 20000 in
theorem ggX9_comesTo_X9_bodyBy : GoodIn wsX9_comesTo wsX9_bodyBy := goodIn_r _ [13, 14, 15, 1, 16, 17, 18, 19, 5, 20, 21, 22, 23, 24, 25, 26, 27, 7, 8, 9, 28, 29, 30, 31, 32, 33, 34, 35, 36, 37, 38, 39, 40, 41, 42, 43, 44, 45, 46, 47, 48, 49, 50, 51, 52, 53, 54, 55, 56, 57, 58, 59, 60, 61, 62, 63, 64, 65, 66, 67, 68] (by decide +kernel) (by decide +kernel)
set_option maxRecDepth 20000 in
theorem gX9_comesTo_X9_bodyBy : GoodIn wsX9_comesTo (wsV RX9 104 RX9 yX9_bodyBy wsX9_bodyBy) := goodIn_app (goodIn_of _ (by decide +kernel)) ggX9_comesTo_X9_bodyBy
theorem dX9_comesTo_0 : decode cX9_comesTo 0 = .ok (.aload_n 0, 1) := by decide +kernel
theorem dX9_comesTo_1 : decode cX9_comesTo 1 = .ok (.getfield 7, 3) := by decide +kernel
theorem dX9_comesTo_4 : decode cX9_comesTo 4 = .ok (.iload_n 2, 1) := by decide +kernel
theorem dX9_comesTo_5 : decode cX9_comesTo 5 = .ok (.iaload, 1) := by decide +kernel
theorem dX9_comesTo_6 : decode cX9_comesTo 6 = .ok (.istore 6, 2) := by decide +kernel
theorem dX9_comesTo_8 : decode cX9_comesTo 8 = .ok (.aload_n 0, 1) := by decide +kernel
theorem dX9_comesTo_9 : decode cX9_comesTo 9 = .ok (.getfield 13, 3) := by decide +kernel
theorem dX9_comesTo_12 : decode cX9_comesTo 12 = .ok (.iload_n 2, 1) := by decide +kernel
theorem dX9_comesTo_13 : decode cX9_comesTo 13 = .ok (.iaload, 1) := by decide +kernel
theorem dX9_comesTo_14 : decode cX9_comesTo 14 = .ok (.istore 7, 2) := by decide +kernel
theorem dX9_comesTo_16 : decode cX9_comesTo 16 = .ok (.iload 6, 2) := by decide +kernel
theorem dX9_comesTo_18 : decode cX9_comesTo 18 = .ok (.ifCond .le 11, 3) := by decide +kernel
theorem dX9_comesTo_21 : decode cX9_comesTo 21 = .ok (.iload_n 1, 1) := by decide +kernel
theorem dX9_comesTo_22 : decode cX9_comesTo 22 = .ok (.iload_n 3, 1) := by decide +kernel
theorem dX9_comesTo_23 : decode cX9_comesTo 23 = .ok (.invokestatic 100, 3) := by decide +kernel
theorem dX9_comesTo_26 : decode cX9_comesTo 26 = .ok (.ifCond .ne 33, 3) := by decide +kernel
theorem dX9_comesTo_29 : decode cX9_comesTo 29 = .ok (.iload 6, 2) := by decide +kernel
theorem dX9_comesTo_31 : decode cX9_comesTo 31 = .ok (.iconst 1, 1) := by decide +kernel
theorem dX9_comesTo_32 : decode cX9_comesTo 32 = .ok (.if_icmp .le 12, 3) := by decide +kernel
theorem dX9_comesTo_35 : decode cX9_comesTo 35 = .ok (.iload_n 1, 1) := by decide +kernel
theorem dX9_comesTo_36 : decode cX9_comesTo 36 = .ok (.iload 4, 2) := by decide +kernel
theorem dX9_comesTo_38 : decode cX9_comesTo 38 = .ok (.invokestatic 100, 3) := by decide +kernel
theorem dX9_comesTo_41 : decode cX9_comesTo 41 = .ok (.ifCond .ne 18, 3) := by decide +kernel
theorem dX9_comesTo_44 : decode cX9_comesTo 44 = .ok (.iload 6, 2) := by decide +kernel
theorem dX9_comesTo_46 : decode cX9_comesTo 46 = .ok (.iconst 2, 1) := by decide +kernel
theorem dX9_comesTo_47 : decode cX9_comesTo 47 = .ok (.if_icmp .le 16, 3) := by decide +kernel
theorem dX9_comesTo_50 : decode cX9_comesTo 50 = .ok (.iload_n 1, 1) := by decide +kernel
theorem dX9_comesTo_51 : decode cX9_comesTo 51 = .ok (.iload 5, 2) := by decide +kernel
theorem dX9_comesTo_53 : decode cX9_comesTo 53 = .ok (.invokestatic 100, 3) := by decide +kernel
theorem dX9_comesTo_56 : decode cX9_comesTo 56 = .ok (.ifCond .eq 7, 3) := by decide +kernel
theorem dX9_comesTo_59 : decode cX9_comesTo 59 = .ok (.iconst 1, 1) := by decide +kernel
theorem dX9_comesTo_60 : decode cX9_comesTo 60 = .ok (.goto 4, 3) := by decide +kernel
theorem dX9_comesTo_63 : decode cX9_comesTo 63 = .ok (.iconst 0, 1) := by decide +kernel
theorem dX9_comesTo_64 : decode cX9_comesTo 64 = .ok (.istore 8, 2) := by decide +kernel
theorem dX9_comesTo_66 : decode cX9_comesTo 66 = .ok (.iload 6, 2) := by decide +kernel
theorem dX9_comesTo_68 : decode cX9_comesTo 68 = .ok (.ifCond .le 15, 3) := by decide +kernel
theorem dX9_comesTo_71 : decode cX9_comesTo 71 = .ok (.iload_n 1, 1) := by decide +kernel
theorem dX9_comesTo_72 : decode cX9_comesTo 72 = .ok (.iload_n 3, 1) := by decide +kernel
theorem dX9_comesTo_73 : decode cX9_comesTo 73 = .ok (.invokestatic 100, 3) := by decide +kernel
theorem dX9_comesTo_76 : decode cX9_comesTo 76 = .ok (.ifCond .eq 7, 3) := by decide +kernel
theorem dX9_comesTo_79 : decode cX9_comesTo 79 = .ok (.iconst 1, 1) := by decide +kernel
theorem dX9_comesTo_80 : decode cX9_comesTo 80 = .ok (.goto 4, 3) := by decide +kernel
theorem dX9_comesTo_83 : decode cX9_comesTo 83 = .ok (.iconst 0, 1) := by decide +kernel
theorem dX9_comesTo_84 : decode cX9_comesTo 84 = .ok (.istore 9, 2) := by decide +kernel
theorem dX9_comesTo_86 : decode cX9_comesTo 86 = .ok (.iload 7, 2) := by decide +kernel
theorem dX9_comesTo_88 : decode cX9_comesTo 88 = .ok (.iconst 1, 1) := by decide +kernel
theorem dX9_comesTo_89 : decode cX9_comesTo 89 = .ok (.if_icmp .eq 9, 3) := by decide +kernel
theorem dX9_comesTo_92 : decode cX9_comesTo 92 = .ok (.iload 7, 2) := by decide +kernel
theorem dX9_comesTo_94 : decode cX9_comesTo 94 = .ok (.iconst 3, 1) := by decide +kernel
theorem dX9_comesTo_95 : decode cX9_comesTo 95 = .ok (.if_icmp .ne 8, 3) := by decide +kernel
theorem dX9_comesTo_98 : decode cX9_comesTo 98 = .ok (.iload 8, 2) := by decide +kernel
theorem dX9_comesTo_100 : decode cX9_comesTo 100 = .ok (.ifCond .ne 14, 3) := by decide +kernel
theorem dX9_comesTo_103 : decode cX9_comesTo 103 = .ok (.iload 7, 2) := by decide +kernel
theorem dX9_comesTo_105 : decode cX9_comesTo 105 = .ok (.iconst 2, 1) := by decide +kernel
theorem dX9_comesTo_106 : decode cX9_comesTo 106 = .ok (.if_icmp .ne 13, 3) := by decide +kernel
theorem dX9_comesTo_109 : decode cX9_comesTo 109 = .ok (.iload 9, 2) := by decide +kernel
theorem dX9_comesTo_111 : decode cX9_comesTo 111 = .ok (.ifCond .eq 8, 3) := by decide +kernel
theorem dX9_comesTo_114 : decode cX9_comesTo 114 = .ok (.iload_n 1, 1) := by decide +kernel
theorem dX9_comesTo_115 : decode cX9_comesTo 115 = .ok (.invokestatic 69, 3) := by decide +kernel
theorem dX9_comesTo_118 : decode cX9_comesTo 118 = .ok (.ireturn, 1) := by decide +kernel
theorem dX9_comesTo_119 : decode cX9_comesTo 119 = .ok (.iload 7, 2) := by decide +kernel
theorem dX9_comesTo_121 : decode cX9_comesTo 121 = .ok (.iconst 3, 1) := by decide +kernel
theorem dX9_comesTo_122 : decode cX9_comesTo 122 = .ok (.if_icmp .ne 21, 3) := by decide +kernel
theorem dX9_comesTo_125 : decode cX9_comesTo 125 = .ok (.iload 6, 2) := by decide +kernel
theorem dX9_comesTo_127 : decode cX9_comesTo 127 = .ok (.iconst 2, 1) := by decide +kernel
theorem dX9_comesTo_128 : decode cX9_comesTo 128 = .ok (.if_icmp .ne 15, 3) := by decide +kernel
theorem dX9_comesTo_131 : decode cX9_comesTo 131 = .ok (.aload_n 0, 1) := by decide +kernel
theorem dX9_comesTo_132 : decode cX9_comesTo 132 = .ok (.iload_n 1, 1) := by decide +kernel
theorem dX9_comesTo_133 : decode cX9_comesTo 133 = .ok (.iload_n 2, 1) := by decide +kernel
theorem dX9_comesTo_134 : decode cX9_comesTo 134 = .ok (.iload 4, 2) := by decide +kernel
theorem dX9_comesTo_136 : decode cX9_comesTo 136 = .ok (.iload_n 3, 1) := by decide +kernel
theorem dX9_comesTo_137 : decode cX9_comesTo 137 = .ok (.iload 5, 2) := by decide +kernel
theorem dX9_comesTo_139 : decode cX9_comesTo 139 = .ok (.invokevirtual 104, 3) := by decide +kernel
theorem dX9_comesTo_142 : decode cX9_comesTo 142 = .ok (.ireturn, 1) := by decide +kernel
theorem dX9_comesTo_143 : decode cX9_comesTo 143 = .ok (.iload 7, 2) := by decide +kernel
theorem dX9_comesTo_145 : decode cX9_comesTo 145 = .ok (.iconst 3, 1) := by decide +kernel
theorem dX9_comesTo_146 : decode cX9_comesTo 146 = .ok (.if_icmp .ne 23, 3) := by decide +kernel
theorem dX9_comesTo_149 : decode cX9_comesTo 149 = .ok (.iload 6, 2) := by decide +kernel
theorem dX9_comesTo_151 : decode cX9_comesTo 151 = .ok (.iconst 3, 1) := by decide +kernel
theorem dX9_comesTo_152 : decode cX9_comesTo 152 = .ok (.if_icmp .ne 17, 3) := by decide +kernel
theorem dX9_comesTo_155 : decode cX9_comesTo 155 = .ok (.aload_n 0, 1) := by decide +kernel
theorem dX9_comesTo_156 : decode cX9_comesTo 156 = .ok (.iload_n 1, 1) := by decide +kernel
theorem dX9_comesTo_157 : decode cX9_comesTo 157 = .ok (.iload_n 2, 1) := by decide +kernel
theorem dX9_comesTo_158 : decode cX9_comesTo 158 = .ok (.iload 5, 2) := by decide +kernel
theorem dX9_comesTo_160 : decode cX9_comesTo 160 = .ok (.iload 4, 2) := by decide +kernel
theorem dX9_comesTo_162 : decode cX9_comesTo 162 = .ok (.iload_n 3, 1) := by decide +kernel
theorem dX9_comesTo_163 : decode cX9_comesTo 163 = .ok (.invokevirtual 104, 3) := by decide +kernel
theorem dX9_comesTo_166 : decode cX9_comesTo 166 = .ok (.goto 14, 3) := by decide +kernel
theorem dX9_comesTo_169 : decode cX9_comesTo 169 = .ok (.aload_n 0, 1) := by decide +kernel
theorem dX9_comesTo_170 : decode cX9_comesTo 170 = .ok (.iload_n 1, 1) := by decide +kernel
theorem dX9_comesTo_171 : decode cX9_comesTo 171 = .ok (.iload_n 2, 1) := by decide +kernel
theorem dX9_comesTo_172 : decode cX9_comesTo 172 = .ok (.iload_n 3, 1) := by decide +kernel
theorem dX9_comesTo_173 : decode cX9_comesTo 173 = .ok (.iload 4, 2) := by decide +kernel
theorem dX9_comesTo_175 : decode cX9_comesTo 175 = .ok (.iload 5, 2) := by decide +kernel
theorem dX9_comesTo_177 : decode cX9_comesTo 177 = .ok (.invokevirtual 104, 3) := by decide +kernel
theorem dX9_comesTo_180 : decode cX9_comesTo 180 = .ok (.ireturn, 1) := by decide +kernel
set_option maxRecDepth 20000 in
theorem ggX9_changes_X9_sizeOf : GoodIn wsX9_changes wsX9_sizeOf := goodIn_r _ [7] (by decide +kernel) (by decide +kernel)
set_option maxRecDepth 20000 in
theorem gX9_changes_X9_sizeOf : GoodIn wsX9_changes (va_wsS RX9 107 yX9_sizeOf wsX9_sizeOf) := goodIn_app (goodIn_of _ (by decide +kernel)) ggX9_changes_X9_sizeOf
set_option maxRecDepth 20000 in
theorem ggX9_changes_X9_isRow : GoodIn wsX9_changes wsX9_isRow := goodIn_r _ [11, 12, 13, 14, 6, 15, 61, 62, 63, 64, 65, 66, 67, 68, 69, 70, 71, 72, 73, 74, 75, 76, 77, 78, 79, 80] (by decide +kernel) (by decide +kernel)
set_option maxRecDepth 20000 in
theorem gX9_changes_X9_isRow : GoodIn wsX9_changes (wsV RX9 110 RX9 yX9_isRow wsX9_isRow) := goodIn_app (goodIn_of _ (by decide +kernel)) ggX9_changes_X9_isRow
set_option maxRecDepth 20000 in
theorem ggX9_changes_X9_comesTo : GoodIn wsX9_changes wsX9_comesTo := goodIn_r _ [19, 12, 20, 21, 22, 6, 23, 24, 25, 26, 27, 28, 29, 30, 31, 32, 33, 34, 35, 36, 37, 1, 13, 14, 15, 38, 39, 40, 41, 42, 43, 44, 45, 46, 47, 48, 49, 50, 51, 3, 52, 53, 54, 55, 56, 57, 58, 59, 60, 61, 62, 63, 64, 65, 66, 67, 68, 69, 70, 71, 72, 73, 74, 75, 76, 77, 78, 79, 80] (by decide +kernel) (by decide +kernel)
set_option maxRecDepth 20000 in
theorem gX9_changes_X9_comesTo : GoodIn wsX9_changes (wsV RX9 114 RX9 yX9_comesTo wsX9_comesTo) := goodIn_app (goodIn_of _ (by decide +kernel)) ggX9_changes_X9_comesTo
set_option maxRecDepth 20000 in
theorem ggX9_changes_X9_neverOf : GoodIn wsX9_changes wsX9_neverOf := goodIn_r _ [26] (by decide +kernel) (by decide +kernel)
set_option maxRecDepth 20000 in
theorem gX9_changes_X9_neverOf : GoodIn wsX9_changes (va_wsS RX9 69 yX9_neverOf wsX9_neverOf) := goodIn_app (goodIn_of _ (by decide +kernel)) ggX9_changes_X9_neverOf
set_option maxRecDepth 20000 in
theorem ggX9_changes_X9_tableAt : GoodIn wsX9_changes wsX9_tableAt := goodIn_r _ [51, 3, 61, 62, 63, 64, 65, 66, 67, 68, 69, 70, 71, 72, 73, 74, 75, 76, 77, 78, 79, 80] (by decide +kernel) (by decide +kernel)
set_option maxRecDepth 20000 in
theorem gX9_changes_X9_tableAt : GoodIn wsX9_changes (wsV RX9 76 RX9 yX9_tableAt wsX9_tableAt) := goodIn_app (goodIn_of _ (by decide +kernel)) ggX9_changes_X9_tableAt
theorem dX9_changes_0 : decode cX9_changes 0 = .ok (.iload_n 1, 1) := by decide +kernel
theorem dX9_changes_1 : decode cX9_changes 1 = .ok (.invokestatic 107, 3) := by decide +kernel
theorem dX9_changes_4 : decode cX9_changes 4 = .ok (.istore_n 2, 1) := by decide +kernel
theorem dX9_changes_5 : decode cX9_changes 5 = .ok (.iconst 0, 1) := by decide +kernel
theorem dX9_changes_6 : decode cX9_changes 6 = .ok (.istore_n 3, 1) := by decide +kernel
theorem dX9_changes_7 : decode cX9_changes 7 = .ok (.iconst 0, 1) := by decide +kernel
theorem dX9_changes_8 : decode cX9_changes 8 = .ok (.istore 4, 2) := by decide +kernel
theorem dX9_changes_10 : decode cX9_changes 10 = .ok (.iload 4, 2) := by decide +kernel
theorem dX9_changes_12 : decode cX9_changes 12 = .ok (.aload_n 0, 1) := by decide +kernel
theorem dX9_changes_13 : decode cX9_changes 13 = .ok (.getfield 49, 3) := by decide +kernel
theorem dX9_changes_16 : decode cX9_changes 16 = .ok (.if_icmp .ge 134, 3) := by decide +kernel
theorem dX9_changes_19 : decode cX9_changes 19 = .ok (.iconst 0, 1) := by decide +kernel
theorem dX9_changes_20 : decode cX9_changes 20 = .ok (.istore 5, 2) := by decide +kernel
theorem dX9_changes_22 : decode cX9_changes 22 = .ok (.iload 5, 2) := by decide +kernel
theorem dX9_changes_24 : decode cX9_changes 24 = .ok (.bipush 125, 2) := by decide +kernel
theorem dX9_changes_26 : decode cX9_changes 26 = .ok (.if_icmp .ge 118, 3) := by decide +kernel
theorem dX9_changes_29 : decode cX9_changes 29 = .ok (.iload 5, 2) := by decide +kernel
theorem dX9_changes_31 : decode cX9_changes 31 = .ok (.bipush 25, 2) := by decide +kernel
theorem dX9_changes_33 : decode cX9_changes 33 = .ok (.idiv, 1) := by decide +kernel
theorem dX9_changes_34 : decode cX9_changes 34 = .ok (.istore 6, 2) := by decide +kernel
theorem dX9_changes_36 : decode cX9_changes 36 = .ok (.iload 5, 2) := by decide +kernel
theorem dX9_changes_38 : decode cX9_changes 38 = .ok (.iconst 5, 1) := by decide +kernel
theorem dX9_changes_39 : decode cX9_changes 39 = .ok (.idiv, 1) := by decide +kernel
theorem dX9_changes_40 : decode cX9_changes 40 = .ok (.iconst 5, 1) := by decide +kernel
theorem dX9_changes_41 : decode cX9_changes 41 = .ok (.irem, 1) := by decide +kernel
theorem dX9_changes_42 : decode cX9_changes 42 = .ok (.istore 7, 2) := by decide +kernel
theorem dX9_changes_44 : decode cX9_changes 44 = .ok (.iload 5, 2) := by decide +kernel
theorem dX9_changes_46 : decode cX9_changes 46 = .ok (.iconst 5, 1) := by decide +kernel
theorem dX9_changes_47 : decode cX9_changes 47 = .ok (.irem, 1) := by decide +kernel
theorem dX9_changes_48 : decode cX9_changes 48 = .ok (.istore 8, 2) := by decide +kernel
theorem dX9_changes_50 : decode cX9_changes 50 = .ok (.aload_n 0, 1) := by decide +kernel
theorem dX9_changes_51 : decode cX9_changes 51 = .ok (.iload 4, 2) := by decide +kernel
theorem dX9_changes_53 : decode cX9_changes 53 = .ok (.iload 6, 2) := by decide +kernel
theorem dX9_changes_55 : decode cX9_changes 55 = .ok (.iload 7, 2) := by decide +kernel
theorem dX9_changes_57 : decode cX9_changes 57 = .ok (.iload 8, 2) := by decide +kernel
theorem dX9_changes_59 : decode cX9_changes 59 = .ok (.iload_n 2, 1) := by decide +kernel
theorem dX9_changes_60 : decode cX9_changes 60 = .ok (.invokevirtual 110, 3) := by decide +kernel
theorem dX9_changes_63 : decode cX9_changes 63 = .ok (.istore 9, 2) := by decide +kernel
theorem dX9_changes_65 : decode cX9_changes 65 = .ok (.aload_n 0, 1) := by decide +kernel
theorem dX9_changes_66 : decode cX9_changes 66 = .ok (.getfield 25, 3) := by decide +kernel
theorem dX9_changes_69 : decode cX9_changes 69 = .ok (.bipush 125, 2) := by decide +kernel
theorem dX9_changes_71 : decode cX9_changes 71 = .ok (.iload 4, 2) := by decide +kernel
theorem dX9_changes_73 : decode cX9_changes 73 = .ok (.imul, 1) := by decide +kernel
theorem dX9_changes_74 : decode cX9_changes 74 = .ok (.iload 5, 2) := by decide +kernel
theorem dX9_changes_76 : decode cX9_changes 76 = .ok (.iadd, 1) := by decide +kernel
theorem dX9_changes_77 : decode cX9_changes 77 = .ok (.iload 9, 2) := by decide +kernel
theorem dX9_changes_79 : decode cX9_changes 79 = .ok (.ifCond .eq 19, 3) := by decide +kernel
theorem dX9_changes_82 : decode cX9_changes 82 = .ok (.aload_n 0, 1) := by decide +kernel
theorem dX9_changes_83 : decode cX9_changes 83 = .ok (.iload_n 1, 1) := by decide +kernel
theorem dX9_changes_84 : decode cX9_changes 84 = .ok (.iload 4, 2) := by decide +kernel
theorem dX9_changes_86 : decode cX9_changes 86 = .ok (.iload 6, 2) := by decide +kernel
theorem dX9_changes_88 : decode cX9_changes 88 = .ok (.iload 7, 2) := by decide +kernel
theorem dX9_changes_90 : decode cX9_changes 90 = .ok (.iload 8, 2) := by decide +kernel
theorem dX9_changes_92 : decode cX9_changes 92 = .ok (.invokevirtual 114, 3) := by decide +kernel
theorem dX9_changes_95 : decode cX9_changes 95 = .ok (.goto 7, 3) := by decide +kernel
theorem dX9_changes_98 : decode cX9_changes 98 = .ok (.iload_n 1, 1) := by decide +kernel
theorem dX9_changes_99 : decode cX9_changes 99 = .ok (.invokestatic 69, 3) := by decide +kernel
theorem dX9_changes_102 : decode cX9_changes 102 = .ok (.iastore, 1) := by decide +kernel
theorem dX9_changes_103 : decode cX9_changes 103 = .ok (.iload_n 3, 1) := by decide +kernel
theorem dX9_changes_104 : decode cX9_changes 104 = .ok (.ifCond .ne 28, 3) := by decide +kernel
theorem dX9_changes_107 : decode cX9_changes 107 = .ok (.aload_n 0, 1) := by decide +kernel
theorem dX9_changes_108 : decode cX9_changes 108 = .ok (.getfield 25, 3) := by decide +kernel
theorem dX9_changes_111 : decode cX9_changes 111 = .ok (.bipush 125, 2) := by decide +kernel
theorem dX9_changes_113 : decode cX9_changes 113 = .ok (.iload 4, 2) := by decide +kernel
theorem dX9_changes_115 : decode cX9_changes 115 = .ok (.imul, 1) := by decide +kernel
theorem dX9_changes_116 : decode cX9_changes 116 = .ok (.iload 5, 2) := by decide +kernel
theorem dX9_changes_118 : decode cX9_changes 118 = .ok (.iadd, 1) := by decide +kernel
theorem dX9_changes_119 : decode cX9_changes 119 = .ok (.iaload, 1) := by decide +kernel
theorem dX9_changes_120 : decode cX9_changes 120 = .ok (.aload_n 0, 1) := by decide +kernel
theorem dX9_changes_121 : decode cX9_changes 121 = .ok (.iload_n 1, 1) := by decide +kernel
theorem dX9_changes_122 : decode cX9_changes 122 = .ok (.iload 4, 2) := by decide +kernel
theorem dX9_changes_124 : decode cX9_changes 124 = .ok (.iload 5, 2) := by decide +kernel
theorem dX9_changes_126 : decode cX9_changes 126 = .ok (.invokevirtual 76, 3) := by decide +kernel
theorem dX9_changes_129 : decode cX9_changes 129 = .ok (.if_icmp .eq 7, 3) := by decide +kernel
theorem dX9_changes_132 : decode cX9_changes 132 = .ok (.iconst 1, 1) := by decide +kernel
theorem dX9_changes_133 : decode cX9_changes 133 = .ok (.goto 4, 3) := by decide +kernel
theorem dX9_changes_136 : decode cX9_changes 136 = .ok (.iconst 0, 1) := by decide +kernel
theorem dX9_changes_137 : decode cX9_changes 137 = .ok (.istore_n 3, 1) := by decide +kernel
theorem dX9_changes_138 : decode cX9_changes 138 = .ok (.iinc 5 1, 3) := by decide +kernel
theorem dX9_changes_141 : decode cX9_changes 141 = .ok (.goto (-119), 3) := by decide +kernel
theorem dX9_changes_144 : decode cX9_changes 144 = .ok (.iinc 4 1, 3) := by decide +kernel
theorem dX9_changes_147 : decode cX9_changes 147 = .ok (.goto (-137), 3) := by decide +kernel
theorem dX9_changes_150 : decode cX9_changes 150 = .ok (.iconst 0, 1) := by decide +kernel
theorem dX9_changes_151 : decode cX9_changes 151 = .ok (.istore 4, 2) := by decide +kernel
theorem dX9_changes_153 : decode cX9_changes 153 = .ok (.iload 4, 2) := by decide +kernel
theorem dX9_changes_155 : decode cX9_changes 155 = .ok (.bipush 125, 2) := by decide +kernel
theorem dX9_changes_157 : decode cX9_changes 157 = .ok (.aload_n 0, 1) := by decide +kernel
theorem dX9_changes_158 : decode cX9_changes 158 = .ok (.getfield 49, 3) := by decide +kernel
theorem dX9_changes_161 : decode cX9_changes 161 = .ok (.imul, 1) := by decide +kernel
theorem dX9_changes_162 : decode cX9_changes 162 = .ok (.if_icmp .ge 29, 3) := by decide +kernel
theorem dX9_changes_165 : decode cX9_changes 165 = .ok (.aload_n 0, 1) := by decide +kernel
theorem dX9_changes_166 : decode cX9_changes 166 = .ok (.getfield 22, 3) := by decide +kernel
theorem dX9_changes_169 : decode cX9_changes 169 = .ok (.sipush 500, 3) := by decide +kernel
theorem dX9_changes_172 : decode cX9_changes 172 = .ok (.iload_n 1, 1) := by decide +kernel
theorem dX9_changes_173 : decode cX9_changes 173 = .ok (.imul, 1) := by decide +kernel
theorem dX9_changes_174 : decode cX9_changes 174 = .ok (.iload 4, 2) := by decide +kernel
theorem dX9_changes_176 : decode cX9_changes 176 = .ok (.iadd, 1) := by decide +kernel
theorem dX9_changes_177 : decode cX9_changes 177 = .ok (.aload_n 0, 1) := by decide +kernel
theorem dX9_changes_178 : decode cX9_changes 178 = .ok (.getfield 25, 3) := by decide +kernel
theorem dX9_changes_181 : decode cX9_changes 181 = .ok (.iload 4, 2) := by decide +kernel
theorem dX9_changes_183 : decode cX9_changes 183 = .ok (.iaload, 1) := by decide +kernel
theorem dX9_changes_184 : decode cX9_changes 184 = .ok (.iastore, 1) := by decide +kernel
theorem dX9_changes_185 : decode cX9_changes 185 = .ok (.iinc 4 1, 3) := by decide +kernel
theorem dX9_changes_188 : decode cX9_changes 188 = .ok (.goto (-35), 3) := by decide +kernel
theorem dX9_changes_191 : decode cX9_changes 191 = .ok (.iload_n 3, 1) := by decide +kernel
theorem dX9_changes_192 : decode cX9_changes 192 = .ok (.ireturn, 1) := by decide +kernel
set_option maxRecDepth 20000 in
theorem ggX9_isRow_X9_in : GoodIn wsX9_isRow wsX9_in := goodIn_r _ [5] (by decide +kernel) (by decide +kernel)
set_option maxRecDepth 20000 in
theorem gX9_isRow_X9_in : GoodIn wsX9_isRow (va_wsS RX9 61 yX9_in wsX9_in) := goodIn_app (goodIn_of _ (by decide +kernel)) ggX9_isRow_X9_in
theorem dX9_isRow_0 : decode cX9_isRow 0 = .ok (.aload_n 0, 1) := by decide +kernel
theorem dX9_isRow_1 : decode cX9_isRow 1 = .ok (.getfield 7, 3) := by decide +kernel
theorem dX9_isRow_4 : decode cX9_isRow 4 = .ok (.iload_n 1, 1) := by decide +kernel
theorem dX9_isRow_5 : decode cX9_isRow 5 = .ok (.iaload, 1) := by decide +kernel
theorem dX9_isRow_6 : decode cX9_isRow 6 = .ok (.istore 6, 2) := by decide +kernel
theorem dX9_isRow_8 : decode cX9_isRow 8 = .ok (.iload_n 2, 1) := by decide +kernel
theorem dX9_isRow_9 : decode cX9_isRow 9 = .ok (.iconst 0, 1) := by decide +kernel
theorem dX9_isRow_10 : decode cX9_isRow 10 = .ok (.iload 6, 2) := by decide +kernel
theorem dX9_isRow_12 : decode cX9_isRow 12 = .ok (.ifCond .le 10, 3) := by decide +kernel
theorem dX9_isRow_15 : decode cX9_isRow 15 = .ok (.iload 5, 2) := by decide +kernel
theorem dX9_isRow_17 : decode cX9_isRow 17 = .ok (.iconst 1, 1) := by decide +kernel
theorem dX9_isRow_18 : decode cX9_isRow 18 = .ok (.isub, 1) := by decide +kernel
theorem dX9_isRow_19 : decode cX9_isRow 19 = .ok (.goto 4, 3) := by decide +kernel
theorem dX9_isRow_22 : decode cX9_isRow 22 = .ok (.iconst 0, 1) := by decide +kernel
theorem dX9_isRow_23 : decode cX9_isRow 23 = .ok (.invokestatic 61, 3) := by decide +kernel
theorem dX9_isRow_26 : decode cX9_isRow 26 = .ok (.ifCond .eq 52, 3) := by decide +kernel
theorem dX9_isRow_29 : decode cX9_isRow 29 = .ok (.iload_n 3, 1) := by decide +kernel
theorem dX9_isRow_30 : decode cX9_isRow 30 = .ok (.iconst 0, 1) := by decide +kernel
theorem dX9_isRow_31 : decode cX9_isRow 31 = .ok (.iload 6, 2) := by decide +kernel
theorem dX9_isRow_33 : decode cX9_isRow 33 = .ok (.iconst 1, 1) := by decide +kernel
theorem dX9_isRow_34 : decode cX9_isRow 34 = .ok (.if_icmp .le 10, 3) := by decide +kernel
theorem dX9_isRow_37 : decode cX9_isRow 37 = .ok (.iload 5, 2) := by decide +kernel
theorem dX9_isRow_39 : decode cX9_isRow 39 = .ok (.iconst 1, 1) := by decide +kernel
theorem dX9_isRow_40 : decode cX9_isRow 40 = .ok (.isub, 1) := by decide +kernel
theorem dX9_isRow_41 : decode cX9_isRow 41 = .ok (.goto 4, 3) := by decide +kernel
theorem dX9_isRow_44 : decode cX9_isRow 44 = .ok (.iconst 0, 1) := by decide +kernel
theorem dX9_isRow_45 : decode cX9_isRow 45 = .ok (.invokestatic 61, 3) := by decide +kernel
theorem dX9_isRow_48 : decode cX9_isRow 48 = .ok (.ifCond .eq 30, 3) := by decide +kernel
theorem dX9_isRow_51 : decode cX9_isRow 51 = .ok (.iload 4, 2) := by decide +kernel
theorem dX9_isRow_53 : decode cX9_isRow 53 = .ok (.iconst 0, 1) := by decide +kernel
theorem dX9_isRow_54 : decode cX9_isRow 54 = .ok (.iload 6, 2) := by decide +kernel
theorem dX9_isRow_56 : decode cX9_isRow 56 = .ok (.iconst 2, 1) := by decide +kernel
theorem dX9_isRow_57 : decode cX9_isRow 57 = .ok (.if_icmp .le 10, 3) := by decide +kernel
theorem dX9_isRow_60 : decode cX9_isRow 60 = .ok (.iload 5, 2) := by decide +kernel
theorem dX9_isRow_62 : decode cX9_isRow 62 = .ok (.iconst 1, 1) := by decide +kernel
theorem dX9_isRow_63 : decode cX9_isRow 63 = .ok (.isub, 1) := by decide +kernel
theorem dX9_isRow_64 : decode cX9_isRow 64 = .ok (.goto 4, 3) := by decide +kernel
theorem dX9_isRow_67 : decode cX9_isRow 67 = .ok (.iconst 0, 1) := by decide +kernel
theorem dX9_isRow_68 : decode cX9_isRow 68 = .ok (.invokestatic 61, 3) := by decide +kernel
theorem dX9_isRow_71 : decode cX9_isRow 71 = .ok (.ifCond .eq 7, 3) := by decide +kernel
theorem dX9_isRow_74 : decode cX9_isRow 74 = .ok (.iconst 1, 1) := by decide +kernel
theorem dX9_isRow_75 : decode cX9_isRow 75 = .ok (.goto 4, 3) := by decide +kernel
theorem dX9_isRow_78 : decode cX9_isRow 78 = .ok (.iconst 0, 1) := by decide +kernel
theorem dX9_isRow_79 : decode cX9_isRow 79 = .ok (.ireturn, 1) := by decide +kernel
set_option maxRecDepth 20000 in
theorem ggX9_sets_X9_neverOf : GoodIn wsX9_sets wsX9_neverOf := goodIn_r _ [6] (by decide +kernel) (by decide +kernel)
set_option maxRecDepth 20000 in
theorem gX9_sets_X9_neverOf : GoodIn wsX9_sets (va_wsS RX9 69 yX9_neverOf wsX9_neverOf) := goodIn_app (goodIn_of _ (by decide +kernel)) ggX9_sets_X9_neverOf
set_option maxRecDepth 20000 in
theorem ggX9_sets_X9_changes : GoodIn wsX9_sets wsX9_changes := goodIn_r _ [10, 11, 12, 1, 13, 14, 5, 15, 16, 17, 18, 19, 20, 21, 22, 23, 24, 25, 26, 27, 28, 29, 30, 31, 3, 4, 6, 32, 33, 34, 35, 36, 37, 38, 39, 40, 41, 42, 43, 44, 45, 46, 47, 48, 49, 50, 51, 52, 53, 54, 55, 56, 57, 58, 59, 60, 61, 62, 63, 64, 65, 66, 67, 68, 69, 70, 71, 72, 73, 74, 75, 76, 77, 78, 79, 80, 81, 82, 83, 84, 85] (by decide +kernel) (by decide +kernel)
set_option maxRecDepth 20000 in
theorem gX9_sets_X9_changes : GoodIn wsX9_sets (wsV RX9 117 RX9 yX9_changes wsX9_changes) := goodIn_app (goodIn_of _ (by decide +kernel)) ggX9_sets_X9_changes
theorem dX9_sets_0 : decode cX9_sets 0 = .ok (.iconst 0, 1) := by decide +kernel
theorem dX9_sets_1 : decode cX9_sets 1 = .ok (.istore_n 2, 1) := by decide +kernel
theorem dX9_sets_2 : decode cX9_sets 2 = .ok (.iload_n 2, 1) := by decide +kernel
theorem dX9_sets_3 : decode cX9_sets 3 = .ok (.sipush 500, 3) := by decide +kernel
theorem dX9_sets_6 : decode cX9_sets 6 = .ok (.if_icmp .ge 25, 3) := by decide +kernel
theorem dX9_sets_9 : decode cX9_sets 9 = .ok (.aload_n 0, 1) := by decide +kernel
theorem dX9_sets_10 : decode cX9_sets 10 = .ok (.getfield 22, 3) := by decide +kernel
theorem dX9_sets_13 : decode cX9_sets 13 = .ok (.sipush 500, 3) := by decide +kernel
theorem dX9_sets_16 : decode cX9_sets 16 = .ok (.iload_n 1, 1) := by decide +kernel
theorem dX9_sets_17 : decode cX9_sets 17 = .ok (.imul, 1) := by decide +kernel
theorem dX9_sets_18 : decode cX9_sets 18 = .ok (.iload_n 2, 1) := by decide +kernel
theorem dX9_sets_19 : decode cX9_sets 19 = .ok (.iadd, 1) := by decide +kernel
theorem dX9_sets_20 : decode cX9_sets 20 = .ok (.iload_n 1, 1) := by decide +kernel
theorem dX9_sets_21 : decode cX9_sets 21 = .ok (.invokestatic 69, 3) := by decide +kernel
theorem dX9_sets_24 : decode cX9_sets 24 = .ok (.iastore, 1) := by decide +kernel
theorem dX9_sets_25 : decode cX9_sets 25 = .ok (.iinc 2 1, 3) := by decide +kernel
theorem dX9_sets_28 : decode cX9_sets 28 = .ok (.goto (-26), 3) := by decide +kernel
theorem dX9_sets_31 : decode cX9_sets 31 = .ok (.aload_n 0, 1) := by decide +kernel
theorem dX9_sets_32 : decode cX9_sets 32 = .ok (.getfield 28, 3) := by decide +kernel
theorem dX9_sets_35 : decode cX9_sets 35 = .ok (.iload_n 1, 1) := by decide +kernel
theorem dX9_sets_36 : decode cX9_sets 36 = .ok (.iconst 0, 1) := by decide +kernel
theorem dX9_sets_37 : decode cX9_sets 37 = .ok (.iastore, 1) := by decide +kernel
theorem dX9_sets_38 : decode cX9_sets 38 = .ok (.aload_n 0, 1) := by decide +kernel
theorem dX9_sets_39 : decode cX9_sets 39 = .ok (.iload_n 1, 1) := by decide +kernel
theorem dX9_sets_40 : decode cX9_sets 40 = .ok (.invokevirtual 117, 3) := by decide +kernel
theorem dX9_sets_43 : decode cX9_sets 43 = .ok (.ifCond .eq 16, 3) := by decide +kernel
theorem dX9_sets_46 : decode cX9_sets 46 = .ok (.aload_n 0, 1) := by decide +kernel
theorem dX9_sets_47 : decode cX9_sets 47 = .ok (.getfield 28, 3) := by decide +kernel
theorem dX9_sets_50 : decode cX9_sets 50 = .ok (.iload_n 1, 1) := by decide +kernel
theorem dX9_sets_51 : decode cX9_sets 51 = .ok (.dup2, 1) := by decide +kernel
theorem dX9_sets_52 : decode cX9_sets 52 = .ok (.iaload, 1) := by decide +kernel
theorem dX9_sets_53 : decode cX9_sets 53 = .ok (.iconst 1, 1) := by decide +kernel
theorem dX9_sets_54 : decode cX9_sets 54 = .ok (.iadd, 1) := by decide +kernel
theorem dX9_sets_55 : decode cX9_sets 55 = .ok (.iastore, 1) := by decide +kernel
theorem dX9_sets_56 : decode cX9_sets 56 = .ok (.goto (-18), 3) := by decide +kernel
theorem dX9_sets_59 : decode cX9_sets 59 = .ok (.return_, 1) := by decide +kernel
set_option maxRecDepth 20000 in
theorem ggX9_setAll_X9_sets : GoodIn wsX9_setAll wsX9_sets := goodIn_r _ [6, 7, 8, 9, 10, 5, 11, 12, 13, 14, 15, 16, 17, 18, 19, 20, 21, 22, 23, 24, 25, 26, 27, 28, 29, 30, 31, 32, 33, 34, 35, 36, 37, 38, 39, 40, 41, 42, 43, 44, 45, 46, 47, 48, 49, 50, 51, 52, 53, 54, 55, 56, 57, 58, 59, 60, 61, 62, 63, 64, 65, 66, 67, 68, 69, 70, 71, 72, 73, 74, 75, 76, 77, 78, 79, 80, 81, 82, 83, 84, 85, 86, 87, 88, 89, 90] (by decide +kernel) (by decide +kernel)
set_option maxRecDepth 20000 in
theorem gX9_setAll_X9_sets : GoodIn wsX9_setAll (wsV RX9 125 RX9 yX9_sets wsX9_sets) := goodIn_app (goodIn_of _ (by decide +kernel)) ggX9_setAll_X9_sets
theorem dX9_setAll_0 : decode cX9_setAll 0 = .ok (.aload_n 0, 1) := by decide +kernel
theorem dX9_setAll_1 : decode cX9_setAll 1 = .ok (.getfield 121, 3) := by decide +kernel
theorem dX9_setAll_4 : decode cX9_setAll 4 = .ok (.ifCond .ne 23, 3) := by decide +kernel
theorem dX9_setAll_7 : decode cX9_setAll 7 = .ok (.aload_n 0, 1) := by decide +kernel
theorem dX9_setAll_8 : decode cX9_setAll 8 = .ok (.iconst 0, 1) := by decide +kernel
theorem dX9_setAll_9 : decode cX9_setAll 9 = .ok (.invokevirtual 125, 3) := by decide +kernel
theorem dX9_setAll_12 : decode cX9_setAll 12 = .ok (.aload_n 0, 1) := by decide +kernel
theorem dX9_setAll_13 : decode cX9_setAll 13 = .ok (.iconst 1, 1) := by decide +kernel
theorem dX9_setAll_14 : decode cX9_setAll 14 = .ok (.invokevirtual 125, 3) := by decide +kernel
theorem dX9_setAll_17 : decode cX9_setAll 17 = .ok (.aload_n 0, 1) := by decide +kernel
theorem dX9_setAll_18 : decode cX9_setAll 18 = .ok (.iconst 2, 1) := by decide +kernel
theorem dX9_setAll_19 : decode cX9_setAll 19 = .ok (.invokevirtual 125, 3) := by decide +kernel
theorem dX9_setAll_22 : decode cX9_setAll 22 = .ok (.aload_n 0, 1) := by decide +kernel
theorem dX9_setAll_23 : decode cX9_setAll 23 = .ok (.iconst 1, 1) := by decide +kernel
theorem dX9_setAll_24 : decode cX9_setAll 24 = .ok (.putfield 121, 3) := by decide +kernel
theorem dX9_setAll_27 : decode cX9_setAll 27 = .ok (.return_, 1) := by decide +kernel
set_option maxRecDepth 20000 in
theorem ggX9_function_X9_isFunction : GoodIn wsX9_function wsX9_isFunction := goodIn_r _ [8, 9, 10, 11, 7, 12, 13, 14, 15, 16, 17, 18, 19, 20, 21, 22, 23, 24, 25, 26, 27, 28, 29, 30, 31, 32] (by decide +kernel) (by decide +kernel)
set_option maxRecDepth 20000 in
theorem gX9_function_X9_isFunction : GoodIn wsX9_function (wsV RX9 129 RX9 yX9_isFunction wsX9_isFunction) := goodIn_app (goodIn_of _ (by decide +kernel)) ggX9_function_X9_isFunction
set_option maxRecDepth 20000 in
theorem ggX9_function_X9_in : GoodIn wsX9_function wsX9_in := goodIn_r _ [12] (by decide +kernel) (by decide +kernel)
set_option maxRecDepth 20000 in
theorem gX9_function_X9_in : GoodIn wsX9_function (va_wsS RX9 61 yX9_in wsX9_in) := goodIn_app (goodIn_of _ (by decide +kernel)) ggX9_function_X9_in
theorem dX9_function_0 : decode cX9_function 0 = .ok (.aload_n 0, 1) := by decide +kernel
theorem dX9_function_1 : decode cX9_function 1 = .ok (.iload_n 1, 1) := by decide +kernel
theorem dX9_function_2 : decode cX9_function 2 = .ok (.invokevirtual 129, 3) := by decide +kernel
theorem dX9_function_5 : decode cX9_function 5 = .ok (.ifCond .eq 12, 3) := by decide +kernel
theorem dX9_function_8 : decode cX9_function 8 = .ok (.iload_n 2, 1) := by decide +kernel
theorem dX9_function_9 : decode cX9_function 9 = .ok (.iconst 0, 1) := by decide +kernel
theorem dX9_function_10 : decode cX9_function 10 = .ok (.iconst 2, 1) := by decide +kernel
theorem dX9_function_11 : decode cX9_function 11 = .ok (.invokestatic 61, 3) := by decide +kernel
theorem dX9_function_14 : decode cX9_function 14 = .ok (.ifCond .ne 5, 3) := by decide +kernel
theorem dX9_function_17 : decode cX9_function 17 = .ok (.iconst (-1), 1) := by decide +kernel
theorem dX9_function_18 : decode cX9_function 18 = .ok (.ireturn, 1) := by decide +kernel
theorem dX9_function_19 : decode cX9_function 19 = .ok (.iload_n 2, 1) := by decide +kernel
theorem dX9_function_20 : decode cX9_function 20 = .ok (.ifCond .ne 12, 3) := by decide +kernel
theorem dX9_function_23 : decode cX9_function 23 = .ok (.aload_n 0, 1) := by decide +kernel
theorem dX9_function_24 : decode cX9_function 24 = .ok (.getfield 13, 3) := by decide +kernel
theorem dX9_function_27 : decode cX9_function 27 = .ok (.iload_n 1, 1) := by decide +kernel
theorem dX9_function_28 : decode cX9_function 28 = .ok (.iaload, 1) := by decide +kernel
theorem dX9_function_29 : decode cX9_function 29 = .ok (.goto 23, 3) := by decide +kernel
theorem dX9_function_32 : decode cX9_function 32 = .ok (.iload_n 2, 1) := by decide +kernel
theorem dX9_function_33 : decode cX9_function 33 = .ok (.iconst 1, 1) := by decide +kernel
theorem dX9_function_34 : decode cX9_function 34 = .ok (.if_icmp .ne 12, 3) := by decide +kernel
theorem dX9_function_37 : decode cX9_function 37 = .ok (.aload_n 0, 1) := by decide +kernel
theorem dX9_function_38 : decode cX9_function 38 = .ok (.getfield 7, 3) := by decide +kernel
theorem dX9_function_41 : decode cX9_function 41 = .ok (.iload_n 1, 1) := by decide +kernel
theorem dX9_function_42 : decode cX9_function 42 = .ok (.iaload, 1) := by decide +kernel
theorem dX9_function_43 : decode cX9_function 43 = .ok (.goto 9, 3) := by decide +kernel
theorem dX9_function_46 : decode cX9_function 46 = .ok (.aload_n 0, 1) := by decide +kernel
theorem dX9_function_47 : decode cX9_function 47 = .ok (.getfield 16, 3) := by decide +kernel
theorem dX9_function_50 : decode cX9_function 50 = .ok (.iload_n 1, 1) := by decide +kernel
theorem dX9_function_51 : decode cX9_function 51 = .ok (.iaload, 1) := by decide +kernel
theorem dX9_function_52 : decode cX9_function 52 = .ok (.ireturn, 1) := by decide +kernel
set_option maxRecDepth 20000 in
theorem ggX9_letter_X9_isFunction : GoodIn wsX9_letter wsX9_isFunction := goodIn_r _ [7, 8, 9, 10, 6, 11, 12, 13, 14, 15, 16, 17, 18, 19, 20, 21, 22, 23, 24, 25, 26, 27, 28, 29, 30, 31] (by decide +kernel) (by decide +kernel)
set_option maxRecDepth 20000 in
theorem gX9_letter_X9_isFunction : GoodIn wsX9_letter (wsV RX9 129 RX9 yX9_isFunction wsX9_isFunction) := goodIn_app (goodIn_of _ (by decide +kernel)) ggX9_letter_X9_isFunction
set_option maxRecDepth 20000 in
theorem ggX9_letter_X9_in : GoodIn wsX9_letter wsX9_in := goodIn_r _ [11] (by decide +kernel) (by decide +kernel)
set_option maxRecDepth 20000 in
theorem gX9_letter_X9_in : GoodIn wsX9_letter (va_wsS RX9 61 yX9_in wsX9_in) := goodIn_app (goodIn_of _ (by decide +kernel)) ggX9_letter_X9_in
theorem dX9_letter_0 : decode cX9_letter 0 = .ok (.aload_n 0, 1) := by decide +kernel
theorem dX9_letter_1 : decode cX9_letter 1 = .ok (.iload_n 1, 1) := by decide +kernel
theorem dX9_letter_2 : decode cX9_letter 2 = .ok (.invokevirtual 129, 3) := by decide +kernel
theorem dX9_letter_5 : decode cX9_letter 5 = .ok (.ifCond .eq 33, 3) := by decide +kernel
theorem dX9_letter_8 : decode cX9_letter 8 = .ok (.iload_n 2, 1) := by decide +kernel
theorem dX9_letter_9 : decode cX9_letter 9 = .ok (.iconst 0, 1) := by decide +kernel
theorem dX9_letter_10 : decode cX9_letter 10 = .ok (.aload_n 0, 1) := by decide +kernel
theorem dX9_letter_11 : decode cX9_letter 11 = .ok (.getfield 16, 3) := by decide +kernel
theorem dX9_letter_14 : decode cX9_letter 14 = .ok (.iload_n 1, 1) := by decide +kernel
theorem dX9_letter_15 : decode cX9_letter 15 = .ok (.iaload, 1) := by decide +kernel
theorem dX9_letter_16 : decode cX9_letter 16 = .ok (.iconst 1, 1) := by decide +kernel
theorem dX9_letter_17 : decode cX9_letter 17 = .ok (.isub, 1) := by decide +kernel
theorem dX9_letter_18 : decode cX9_letter 18 = .ok (.invokestatic 61, 3) := by decide +kernel
theorem dX9_letter_21 : decode cX9_letter 21 = .ok (.ifCond .eq 17, 3) := by decide +kernel
theorem dX9_letter_24 : decode cX9_letter 24 = .ok (.aload_n 0, 1) := by decide +kernel
theorem dX9_letter_25 : decode cX9_letter 25 = .ok (.getfield 19, 3) := by decide +kernel
theorem dX9_letter_28 : decode cX9_letter 28 = .ok (.bipush 24, 2) := by decide +kernel
theorem dX9_letter_30 : decode cX9_letter 30 = .ok (.iload_n 1, 1) := by decide +kernel
theorem dX9_letter_31 : decode cX9_letter 31 = .ok (.imul, 1) := by decide +kernel
theorem dX9_letter_32 : decode cX9_letter 32 = .ok (.iload_n 2, 1) := by decide +kernel
theorem dX9_letter_33 : decode cX9_letter 33 = .ok (.iadd, 1) := by decide +kernel
theorem dX9_letter_34 : decode cX9_letter 34 = .ok (.iaload, 1) := by decide +kernel
theorem dX9_letter_35 : decode cX9_letter 35 = .ok (.goto 4, 3) := by decide +kernel
theorem dX9_letter_38 : decode cX9_letter 38 = .ok (.iconst (-1), 1) := by decide +kernel
theorem dX9_letter_39 : decode cX9_letter 39 = .ok (.ireturn, 1) := by decide +kernel
theorem dX9_lays_0 : decode cX9_lays 0 = .ok (.aload_n 1, 1) := by decide +kernel
theorem dX9_lays_1 : decode cX9_lays 1 = .ok (.iload_n 2, 1) := by decide +kernel
theorem dX9_lays_2 : decode cX9_lays 2 = .ok (.aload_n 0, 1) := by decide +kernel
theorem dX9_lays_3 : decode cX9_lays 3 = .ok (.getfield 49, 3) := by decide +kernel
theorem dX9_lays_6 : decode cX9_lays 6 = .ok (.iastore, 1) := by decide +kernel
theorem dX9_lays_7 : decode cX9_lays 7 = .ok (.iconst 0, 1) := by decide +kernel
theorem dX9_lays_8 : decode cX9_lays 8 = .ok (.istore_n 3, 1) := by decide +kernel
theorem dX9_lays_9 : decode cX9_lays 9 = .ok (.iload_n 3, 1) := by decide +kernel
theorem dX9_lays_10 : decode cX9_lays 10 = .ok (.iconst 4, 1) := by decide +kernel
theorem dX9_lays_11 : decode cX9_lays 11 = .ok (.if_icmp .ge 49, 3) := by decide +kernel
theorem dX9_lays_14 : decode cX9_lays 14 = .ok (.aload_n 1, 1) := by decide +kernel
theorem dX9_lays_15 : decode cX9_lays 15 = .ok (.iload_n 2, 1) := by decide +kernel
theorem dX9_lays_16 : decode cX9_lays 16 = .ok (.iconst 1, 1) := by decide +kernel
theorem dX9_lays_17 : decode cX9_lays 17 = .ok (.iadd, 1) := by decide +kernel
theorem dX9_lays_18 : decode cX9_lays 18 = .ok (.iload_n 3, 1) := by decide +kernel
theorem dX9_lays_19 : decode cX9_lays 19 = .ok (.iadd, 1) := by decide +kernel
theorem dX9_lays_20 : decode cX9_lays 20 = .ok (.aload_n 0, 1) := by decide +kernel
theorem dX9_lays_21 : decode cX9_lays 21 = .ok (.getfield 7, 3) := by decide +kernel
theorem dX9_lays_24 : decode cX9_lays 24 = .ok (.iload_n 3, 1) := by decide +kernel
theorem dX9_lays_25 : decode cX9_lays 25 = .ok (.iaload, 1) := by decide +kernel
theorem dX9_lays_26 : decode cX9_lays 26 = .ok (.iastore, 1) := by decide +kernel
theorem dX9_lays_27 : decode cX9_lays 27 = .ok (.aload_n 1, 1) := by decide +kernel
theorem dX9_lays_28 : decode cX9_lays 28 = .ok (.iload_n 2, 1) := by decide +kernel
theorem dX9_lays_29 : decode cX9_lays 29 = .ok (.iconst 5, 1) := by decide +kernel
theorem dX9_lays_30 : decode cX9_lays 30 = .ok (.iadd, 1) := by decide +kernel
theorem dX9_lays_31 : decode cX9_lays 31 = .ok (.iload_n 3, 1) := by decide +kernel
theorem dX9_lays_32 : decode cX9_lays 32 = .ok (.iadd, 1) := by decide +kernel
theorem dX9_lays_33 : decode cX9_lays 33 = .ok (.aload_n 0, 1) := by decide +kernel
theorem dX9_lays_34 : decode cX9_lays 34 = .ok (.getfield 13, 3) := by decide +kernel
theorem dX9_lays_37 : decode cX9_lays 37 = .ok (.iload_n 3, 1) := by decide +kernel
theorem dX9_lays_38 : decode cX9_lays 38 = .ok (.iaload, 1) := by decide +kernel
theorem dX9_lays_39 : decode cX9_lays 39 = .ok (.iastore, 1) := by decide +kernel
theorem dX9_lays_40 : decode cX9_lays 40 = .ok (.aload_n 1, 1) := by decide +kernel
theorem dX9_lays_41 : decode cX9_lays 41 = .ok (.iload_n 2, 1) := by decide +kernel
theorem dX9_lays_42 : decode cX9_lays 42 = .ok (.bipush 9, 2) := by decide +kernel
theorem dX9_lays_44 : decode cX9_lays 44 = .ok (.iadd, 1) := by decide +kernel
theorem dX9_lays_45 : decode cX9_lays 45 = .ok (.iload_n 3, 1) := by decide +kernel
theorem dX9_lays_46 : decode cX9_lays 46 = .ok (.iadd, 1) := by decide +kernel
theorem dX9_lays_47 : decode cX9_lays 47 = .ok (.aload_n 0, 1) := by decide +kernel
theorem dX9_lays_48 : decode cX9_lays 48 = .ok (.getfield 16, 3) := by decide +kernel
theorem dX9_lays_51 : decode cX9_lays 51 = .ok (.iload_n 3, 1) := by decide +kernel
theorem dX9_lays_52 : decode cX9_lays 52 = .ok (.iaload, 1) := by decide +kernel
theorem dX9_lays_53 : decode cX9_lays 53 = .ok (.iastore, 1) := by decide +kernel
theorem dX9_lays_54 : decode cX9_lays 54 = .ok (.iinc 3 1, 3) := by decide +kernel
theorem dX9_lays_57 : decode cX9_lays 57 = .ok (.goto (-48), 3) := by decide +kernel
theorem dX9_lays_60 : decode cX9_lays 60 = .ok (.iconst 0, 1) := by decide +kernel
theorem dX9_lays_61 : decode cX9_lays 61 = .ok (.istore_n 3, 1) := by decide +kernel
theorem dX9_lays_62 : decode cX9_lays 62 = .ok (.iload_n 3, 1) := by decide +kernel
theorem dX9_lays_63 : decode cX9_lays 63 = .ok (.bipush 96, 2) := by decide +kernel
theorem dX9_lays_65 : decode cX9_lays 65 = .ok (.if_icmp .ge 23, 3) := by decide +kernel
theorem dX9_lays_68 : decode cX9_lays 68 = .ok (.aload_n 1, 1) := by decide +kernel
theorem dX9_lays_69 : decode cX9_lays 69 = .ok (.iload_n 2, 1) := by decide +kernel
theorem dX9_lays_70 : decode cX9_lays 70 = .ok (.bipush 13, 2) := by decide +kernel
theorem dX9_lays_72 : decode cX9_lays 72 = .ok (.iadd, 1) := by decide +kernel
theorem dX9_lays_73 : decode cX9_lays 73 = .ok (.iload_n 3, 1) := by decide +kernel
theorem dX9_lays_74 : decode cX9_lays 74 = .ok (.iadd, 1) := by decide +kernel
theorem dX9_lays_75 : decode cX9_lays 75 = .ok (.aload_n 0, 1) := by decide +kernel
theorem dX9_lays_76 : decode cX9_lays 76 = .ok (.getfield 19, 3) := by decide +kernel
theorem dX9_lays_79 : decode cX9_lays 79 = .ok (.iload_n 3, 1) := by decide +kernel
theorem dX9_lays_80 : decode cX9_lays 80 = .ok (.iaload, 1) := by decide +kernel
theorem dX9_lays_81 : decode cX9_lays 81 = .ok (.iastore, 1) := by decide +kernel
theorem dX9_lays_82 : decode cX9_lays 82 = .ok (.iinc 3 1, 3) := by decide +kernel
theorem dX9_lays_85 : decode cX9_lays 85 = .ok (.goto (-23), 3) := by decide +kernel
theorem dX9_lays_88 : decode cX9_lays 88 = .ok (.return_, 1) := by decide +kernel
theorem dX9_takes_0 : decode cX9_takes 0 = .ok (.aload_n 0, 1) := by decide +kernel
theorem dX9_takes_1 : decode cX9_takes 1 = .ok (.aload_n 1, 1) := by decide +kernel
theorem dX9_takes_2 : decode cX9_takes 2 = .ok (.iload_n 2, 1) := by decide +kernel
theorem dX9_takes_3 : decode cX9_takes 3 = .ok (.iaload, 1) := by decide +kernel
theorem dX9_takes_4 : decode cX9_takes 4 = .ok (.putfield 49, 3) := by decide +kernel
theorem dX9_takes_7 : decode cX9_takes 7 = .ok (.iconst 0, 1) := by decide +kernel
theorem dX9_takes_8 : decode cX9_takes 8 = .ok (.istore_n 3, 1) := by decide +kernel
theorem dX9_takes_9 : decode cX9_takes 9 = .ok (.iload_n 3, 1) := by decide +kernel
theorem dX9_takes_10 : decode cX9_takes 10 = .ok (.iconst 4, 1) := by decide +kernel
theorem dX9_takes_11 : decode cX9_takes 11 = .ok (.if_icmp .ge 49, 3) := by decide +kernel
theorem dX9_takes_14 : decode cX9_takes 14 = .ok (.aload_n 0, 1) := by decide +kernel
theorem dX9_takes_15 : decode cX9_takes 15 = .ok (.getfield 7, 3) := by decide +kernel
theorem dX9_takes_18 : decode cX9_takes 18 = .ok (.iload_n 3, 1) := by decide +kernel
theorem dX9_takes_19 : decode cX9_takes 19 = .ok (.aload_n 1, 1) := by decide +kernel
theorem dX9_takes_20 : decode cX9_takes 20 = .ok (.iload_n 2, 1) := by decide +kernel
theorem dX9_takes_21 : decode cX9_takes 21 = .ok (.iconst 1, 1) := by decide +kernel
theorem dX9_takes_22 : decode cX9_takes 22 = .ok (.iadd, 1) := by decide +kernel
theorem dX9_takes_23 : decode cX9_takes 23 = .ok (.iload_n 3, 1) := by decide +kernel
theorem dX9_takes_24 : decode cX9_takes 24 = .ok (.iadd, 1) := by decide +kernel
theorem dX9_takes_25 : decode cX9_takes 25 = .ok (.iaload, 1) := by decide +kernel
theorem dX9_takes_26 : decode cX9_takes 26 = .ok (.iastore, 1) := by decide +kernel
theorem dX9_takes_27 : decode cX9_takes 27 = .ok (.aload_n 0, 1) := by decide +kernel
theorem dX9_takes_28 : decode cX9_takes 28 = .ok (.getfield 13, 3) := by decide +kernel
theorem dX9_takes_31 : decode cX9_takes 31 = .ok (.iload_n 3, 1) := by decide +kernel
theorem dX9_takes_32 : decode cX9_takes 32 = .ok (.aload_n 1, 1) := by decide +kernel
theorem dX9_takes_33 : decode cX9_takes 33 = .ok (.iload_n 2, 1) := by decide +kernel
theorem dX9_takes_34 : decode cX9_takes 34 = .ok (.iconst 5, 1) := by decide +kernel
theorem dX9_takes_35 : decode cX9_takes 35 = .ok (.iadd, 1) := by decide +kernel
theorem dX9_takes_36 : decode cX9_takes 36 = .ok (.iload_n 3, 1) := by decide +kernel
theorem dX9_takes_37 : decode cX9_takes 37 = .ok (.iadd, 1) := by decide +kernel
theorem dX9_takes_38 : decode cX9_takes 38 = .ok (.iaload, 1) := by decide +kernel
theorem dX9_takes_39 : decode cX9_takes 39 = .ok (.iastore, 1) := by decide +kernel
theorem dX9_takes_40 : decode cX9_takes 40 = .ok (.aload_n 0, 1) := by decide +kernel
theorem dX9_takes_41 : decode cX9_takes 41 = .ok (.getfield 16, 3) := by decide +kernel
theorem dX9_takes_44 : decode cX9_takes 44 = .ok (.iload_n 3, 1) := by decide +kernel
theorem dX9_takes_45 : decode cX9_takes 45 = .ok (.aload_n 1, 1) := by decide +kernel
theorem dX9_takes_46 : decode cX9_takes 46 = .ok (.iload_n 2, 1) := by decide +kernel
theorem dX9_takes_47 : decode cX9_takes 47 = .ok (.bipush 9, 2) := by decide +kernel
theorem dX9_takes_49 : decode cX9_takes 49 = .ok (.iadd, 1) := by decide +kernel
theorem dX9_takes_50 : decode cX9_takes 50 = .ok (.iload_n 3, 1) := by decide +kernel
theorem dX9_takes_51 : decode cX9_takes 51 = .ok (.iadd, 1) := by decide +kernel
theorem dX9_takes_52 : decode cX9_takes 52 = .ok (.iaload, 1) := by decide +kernel
theorem dX9_takes_53 : decode cX9_takes 53 = .ok (.iastore, 1) := by decide +kernel
theorem dX9_takes_54 : decode cX9_takes 54 = .ok (.iinc 3 1, 3) := by decide +kernel
theorem dX9_takes_57 : decode cX9_takes 57 = .ok (.goto (-48), 3) := by decide +kernel
theorem dX9_takes_60 : decode cX9_takes 60 = .ok (.iconst 0, 1) := by decide +kernel
theorem dX9_takes_61 : decode cX9_takes 61 = .ok (.istore_n 3, 1) := by decide +kernel
theorem dX9_takes_62 : decode cX9_takes 62 = .ok (.iload_n 3, 1) := by decide +kernel
theorem dX9_takes_63 : decode cX9_takes 63 = .ok (.bipush 96, 2) := by decide +kernel
theorem dX9_takes_65 : decode cX9_takes 65 = .ok (.if_icmp .ge 23, 3) := by decide +kernel
theorem dX9_takes_68 : decode cX9_takes 68 = .ok (.aload_n 0, 1) := by decide +kernel
theorem dX9_takes_69 : decode cX9_takes 69 = .ok (.getfield 19, 3) := by decide +kernel
theorem dX9_takes_72 : decode cX9_takes 72 = .ok (.iload_n 3, 1) := by decide +kernel
theorem dX9_takes_73 : decode cX9_takes 73 = .ok (.aload_n 1, 1) := by decide +kernel
theorem dX9_takes_74 : decode cX9_takes 74 = .ok (.iload_n 2, 1) := by decide +kernel
theorem dX9_takes_75 : decode cX9_takes 75 = .ok (.bipush 13, 2) := by decide +kernel
theorem dX9_takes_77 : decode cX9_takes 77 = .ok (.iadd, 1) := by decide +kernel
theorem dX9_takes_78 : decode cX9_takes 78 = .ok (.iload_n 3, 1) := by decide +kernel
theorem dX9_takes_79 : decode cX9_takes 79 = .ok (.iadd, 1) := by decide +kernel
theorem dX9_takes_80 : decode cX9_takes 80 = .ok (.iaload, 1) := by decide +kernel
theorem dX9_takes_81 : decode cX9_takes 81 = .ok (.iastore, 1) := by decide +kernel
theorem dX9_takes_82 : decode cX9_takes 82 = .ok (.iinc 3 1, 3) := by decide +kernel
theorem dX9_takes_85 : decode cX9_takes 85 = .ok (.goto (-23), 3) := by decide +kernel
theorem dX9_takes_88 : decode cX9_takes 88 = .ok (.aload_n 0, 1) := by decide +kernel
theorem dX9_takes_89 : decode cX9_takes 89 = .ok (.iconst 0, 1) := by decide +kernel
theorem dX9_takes_90 : decode cX9_takes 90 = .ok (.putfield 121, 3) := by decide +kernel
theorem dX9_takes_93 : decode cX9_takes 93 = .ok (.return_, 1) := by decide +kernel
set_option maxRecDepth 20000 in
theorem ggX9_notes_X9_lays : GoodIn wsX9_notes wsX9_lays := goodIn_r _ [8, 9, 10, 11, 12, 13, 14, 15, 16, 17, 18, 19, 20, 21, 22, 23, 24, 25, 26, 27, 28, 29, 30, 31, 32, 33] (by decide +kernel) (by decide +kernel)
set_option maxRecDepth 20000 in
theorem gX9_notes_X9_lays : GoodIn wsX9_notes (wsV RX9 135 RX9 yX9_lays wsX9_lays) := goodIn_app (goodIn_of _ (by decide +kernel)) ggX9_notes_X9_lays
theorem dX9_notes_0 : decode cX9_notes 0 = .ok (.aload_n 0, 1) := by decide +kernel
theorem dX9_notes_1 : decode cX9_notes 1 = .ok (.getfield 132, 3) := by decide +kernel
theorem dX9_notes_4 : decode cX9_notes 4 = .ok (.bipush 8, 2) := by decide +kernel
theorem dX9_notes_6 : decode cX9_notes 6 = .ok (.if_icmp .ne 43, 3) := by decide +kernel
theorem dX9_notes_9 : decode cX9_notes 9 = .ok (.iconst 0, 1) := by decide +kernel
theorem dX9_notes_10 : decode cX9_notes 10 = .ok (.istore_n 1, 1) := by decide +kernel
theorem dX9_notes_11 : decode cX9_notes 11 = .ok (.iload_n 1, 1) := by decide +kernel
theorem dX9_notes_12 : decode cX9_notes 12 = .ok (.sipush 763, 3) := by decide +kernel
theorem dX9_notes_15 : decode cX9_notes 15 = .ok (.if_icmp .ge 24, 3) := by decide +kernel
theorem dX9_notes_18 : decode cX9_notes 18 = .ok (.aload_n 0, 1) := by decide +kernel
theorem dX9_notes_19 : decode cX9_notes 19 = .ok (.getfield 34, 3) := by decide +kernel
theorem dX9_notes_22 : decode cX9_notes 22 = .ok (.iload_n 1, 1) := by decide +kernel
theorem dX9_notes_23 : decode cX9_notes 23 = .ok (.aload_n 0, 1) := by decide +kernel
theorem dX9_notes_24 : decode cX9_notes 24 = .ok (.getfield 34, 3) := by decide +kernel
theorem dX9_notes_27 : decode cX9_notes 27 = .ok (.iload_n 1, 1) := by decide +kernel
theorem dX9_notes_28 : decode cX9_notes 28 = .ok (.bipush 109, 2) := by decide +kernel
theorem dX9_notes_30 : decode cX9_notes 30 = .ok (.iadd, 1) := by decide +kernel
theorem dX9_notes_31 : decode cX9_notes 31 = .ok (.iaload, 1) := by decide +kernel
theorem dX9_notes_32 : decode cX9_notes 32 = .ok (.iastore, 1) := by decide +kernel
theorem dX9_notes_33 : decode cX9_notes 33 = .ok (.iinc 1 1, 3) := by decide +kernel
theorem dX9_notes_36 : decode cX9_notes 36 = .ok (.goto (-25), 3) := by decide +kernel
theorem dX9_notes_39 : decode cX9_notes 39 = .ok (.aload_n 0, 1) := by decide +kernel
theorem dX9_notes_40 : decode cX9_notes 40 = .ok (.dup, 1) := by decide +kernel
theorem dX9_notes_41 : decode cX9_notes 41 = .ok (.getfield 132, 3) := by decide +kernel
theorem dX9_notes_44 : decode cX9_notes 44 = .ok (.iconst 1, 1) := by decide +kernel
theorem dX9_notes_45 : decode cX9_notes 45 = .ok (.isub, 1) := by decide +kernel
theorem dX9_notes_46 : decode cX9_notes 46 = .ok (.putfield 132, 3) := by decide +kernel
theorem dX9_notes_49 : decode cX9_notes 49 = .ok (.aload_n 0, 1) := by decide +kernel
theorem dX9_notes_50 : decode cX9_notes 50 = .ok (.aload_n 0, 1) := by decide +kernel
theorem dX9_notes_51 : decode cX9_notes 51 = .ok (.getfield 34, 3) := by decide +kernel
theorem dX9_notes_54 : decode cX9_notes 54 = .ok (.bipush 109, 2) := by decide +kernel
theorem dX9_notes_56 : decode cX9_notes 56 = .ok (.aload_n 0, 1) := by decide +kernel
theorem dX9_notes_57 : decode cX9_notes 57 = .ok (.getfield 132, 3) := by decide +kernel
theorem dX9_notes_60 : decode cX9_notes 60 = .ok (.imul, 1) := by decide +kernel
theorem dX9_notes_61 : decode cX9_notes 61 = .ok (.invokevirtual 135, 3) := by decide +kernel
theorem dX9_notes_64 : decode cX9_notes 64 = .ok (.aload_n 0, 1) := by decide +kernel
theorem dX9_notes_65 : decode cX9_notes 65 = .ok (.dup, 1) := by decide +kernel
theorem dX9_notes_66 : decode cX9_notes 66 = .ok (.getfield 132, 3) := by decide +kernel
theorem dX9_notes_69 : decode cX9_notes 69 = .ok (.iconst 1, 1) := by decide +kernel
theorem dX9_notes_70 : decode cX9_notes 70 = .ok (.iadd, 1) := by decide +kernel
theorem dX9_notes_71 : decode cX9_notes 71 = .ok (.putfield 132, 3) := by decide +kernel
theorem dX9_notes_74 : decode cX9_notes 74 = .ok (.aload_n 0, 1) := by decide +kernel
theorem dX9_notes_75 : decode cX9_notes 75 = .ok (.iconst 0, 1) := by decide +kernel
theorem dX9_notes_76 : decode cX9_notes 76 = .ok (.putfield 121, 3) := by decide +kernel
theorem dX9_notes_79 : decode cX9_notes 79 = .ok (.return_, 1) := by decide +kernel
set_option maxRecDepth 20000 in
theorem ggX9_mayStand_X9_partsOf : GoodIn wsX9_mayStand wsX9_partsOf := goodIn_r _ [7, 8, 1, 9, 10, 6, 11, 12, 13, 14, 15, 16, 17, 18, 19, 20, 21, 22, 23, 24, 25, 26, 27, 28, 29, 30, 31] (by decide +kernel) (by decide +kernel)
set_option maxRecDepth 20000 in
theorem gX9_mayStand_X9_partsOf : GoodIn wsX9_mayStand (wsV RX9 89 RX9 yX9_partsOf wsX9_partsOf) := goodIn_app (goodIn_of _ (by decide +kernel)) ggX9_mayStand_X9_partsOf
theorem dX9_mayStand_0 : decode cX9_mayStand 0 = .ok (.aload_n 0, 1) := by decide +kernel
theorem dX9_mayStand_1 : decode cX9_mayStand 1 = .ok (.iload_n 3, 1) := by decide +kernel
theorem dX9_mayStand_2 : decode cX9_mayStand 2 = .ok (.aload_n 0, 1) := by decide +kernel
theorem dX9_mayStand_3 : decode cX9_mayStand 3 = .ok (.getfield 7, 3) := by decide +kernel
theorem dX9_mayStand_6 : decode cX9_mayStand 6 = .ok (.iload_n 1, 1) := by decide +kernel
theorem dX9_mayStand_7 : decode cX9_mayStand 7 = .ok (.iaload, 1) := by decide +kernel
theorem dX9_mayStand_8 : decode cX9_mayStand 8 = .ok (.invokevirtual 89, 3) := by decide +kernel
theorem dX9_mayStand_11 : decode cX9_mayStand 11 = .ok (.istore 4, 2) := by decide +kernel
theorem dX9_mayStand_13 : decode cX9_mayStand 13 = .ok (.iload 4, 2) := by decide +kernel
theorem dX9_mayStand_15 : decode cX9_mayStand 15 = .ok (.bipush (-4), 2) := by decide +kernel
theorem dX9_mayStand_17 : decode cX9_mayStand 17 = .ok (.if_icmp .eq 33, 3) := by decide +kernel
theorem dX9_mayStand_20 : decode cX9_mayStand 20 = .ok (.iload 4, 2) := by decide +kernel
theorem dX9_mayStand_22 : decode cX9_mayStand 22 = .ok (.aload_n 0, 1) := by decide +kernel
theorem dX9_mayStand_23 : decode cX9_mayStand 23 = .ok (.aload_n 0, 1) := by decide +kernel
theorem dX9_mayStand_24 : decode cX9_mayStand 24 = .ok (.getfield 19, 3) := by decide +kernel
theorem dX9_mayStand_27 : decode cX9_mayStand 27 = .ok (.bipush 24, 2) := by decide +kernel
theorem dX9_mayStand_29 : decode cX9_mayStand 29 = .ok (.iload_n 1, 1) := by decide +kernel
theorem dX9_mayStand_30 : decode cX9_mayStand 30 = .ok (.imul, 1) := by decide +kernel
theorem dX9_mayStand_31 : decode cX9_mayStand 31 = .ok (.iload_n 2, 1) := by decide +kernel
theorem dX9_mayStand_32 : decode cX9_mayStand 32 = .ok (.iadd, 1) := by decide +kernel
theorem dX9_mayStand_33 : decode cX9_mayStand 33 = .ok (.iaload, 1) := by decide +kernel
theorem dX9_mayStand_34 : decode cX9_mayStand 34 = .ok (.aload_n 0, 1) := by decide +kernel
theorem dX9_mayStand_35 : decode cX9_mayStand 35 = .ok (.getfield 7, 3) := by decide +kernel
theorem dX9_mayStand_38 : decode cX9_mayStand 38 = .ok (.iload_n 1, 1) := by decide +kernel
theorem dX9_mayStand_39 : decode cX9_mayStand 39 = .ok (.iaload, 1) := by decide +kernel
theorem dX9_mayStand_40 : decode cX9_mayStand 40 = .ok (.invokevirtual 89, 3) := by decide +kernel
theorem dX9_mayStand_43 : decode cX9_mayStand 43 = .ok (.if_icmp .ne 7, 3) := by decide +kernel
theorem dX9_mayStand_46 : decode cX9_mayStand 46 = .ok (.iconst 1, 1) := by decide +kernel
theorem dX9_mayStand_47 : decode cX9_mayStand 47 = .ok (.goto 4, 3) := by decide +kernel
theorem dX9_mayStand_50 : decode cX9_mayStand 50 = .ok (.iconst 0, 1) := by decide +kernel
theorem dX9_mayStand_51 : decode cX9_mayStand 51 = .ok (.ireturn, 1) := by decide +kernel
set_option maxRecDepth 20000 in
theorem ggX9_put_X9_isFunction : GoodIn wsX9_put wsX9_isFunction := goodIn_r _ [7, 8, 9, 10, 6, 11, 33, 34, 35, 36, 37, 38, 39, 40, 41, 42, 43, 44, 45, 46, 47, 48, 49, 50, 51, 52] (by decide +kernel) (by decide +kernel)
set_option maxRecDepth 20000 in
theorem gX9_put_X9_isFunction : GoodIn wsX9_put (wsV RX9 129 RX9 yX9_isFunction wsX9_isFunction) := goodIn_app (goodIn_of _ (by decide +kernel)) ggX9_put_X9_isFunction
set_option maxRecDepth 20000 in
theorem ggX9_put_X9_in : GoodIn wsX9_put wsX9_in := goodIn_r _ [11] (by decide +kernel) (by decide +kernel)
set_option maxRecDepth 20000 in
theorem gX9_put_X9_in : GoodIn wsX9_put (va_wsS RX9 61 yX9_in wsX9_in) := goodIn_app (goodIn_of _ (by decide +kernel)) ggX9_put_X9_in
set_option maxRecDepth 20000 in
theorem ggX9_put_X9_mayStand : GoodIn wsX9_put wsX9_mayStand := goodIn_r _ [15, 16, 2, 17, 18, 19, 6, 20, 8, 9, 10, 11, 33, 34, 35, 36, 37, 38, 39, 40, 41, 42, 43, 44, 45, 46, 47, 48, 49, 50, 51, 52] (by decide +kernel) (by decide +kernel)
set_option maxRecDepth 20000 in
theorem gX9_put_X9_mayStand : GoodIn wsX9_put (wsV RX9 139 RX9 yX9_mayStand wsX9_mayStand) := goodIn_app (goodIn_of _ (by decide +kernel)) ggX9_put_X9_mayStand
set_option maxRecDepth 20000 in
theorem ggX9_put_X9_notes : GoodIn wsX9_put wsX9_notes := goodIn_r _ [24, 25, 26, 27, 28, 29, 30, 6, 31, 8, 16, 32, 1, 2, 33, 34, 35, 36, 37, 38, 39, 40, 41, 42, 43, 44, 45, 46, 47, 48, 49, 50, 51, 52] (by decide +kernel) (by decide +kernel)
set_option maxRecDepth 20000 in
theorem gX9_put_X9_notes : GoodIn wsX9_put (wsV RX9 142 RX9 yX9_notes wsX9_notes) := goodIn_app (goodIn_of _ (by decide +kernel)) ggX9_put_X9_notes
theorem dX9_put_0 : decode cX9_put 0 = .ok (.aload_n 0, 1) := by decide +kernel
theorem dX9_put_1 : decode cX9_put 1 = .ok (.iload_n 1, 1) := by decide +kernel
theorem dX9_put_2 : decode cX9_put 2 = .ok (.invokevirtual 129, 3) := by decide +kernel
theorem dX9_put_5 : decode cX9_put 5 = .ok (.ifCond .eq 29, 3) := by decide +kernel
theorem dX9_put_8 : decode cX9_put 8 = .ok (.iload_n 2, 1) := by decide +kernel
theorem dX9_put_9 : decode cX9_put 9 = .ok (.iconst 0, 1) := by decide +kernel
theorem dX9_put_10 : decode cX9_put 10 = .ok (.aload_n 0, 1) := by decide +kernel
theorem dX9_put_11 : decode cX9_put 11 = .ok (.getfield 16, 3) := by decide +kernel
theorem dX9_put_14 : decode cX9_put 14 = .ok (.iload_n 1, 1) := by decide +kernel
theorem dX9_put_15 : decode cX9_put 15 = .ok (.iaload, 1) := by decide +kernel
theorem dX9_put_16 : decode cX9_put 16 = .ok (.iconst 1, 1) := by decide +kernel
theorem dX9_put_17 : decode cX9_put 17 = .ok (.isub, 1) := by decide +kernel
theorem dX9_put_18 : decode cX9_put 18 = .ok (.invokestatic 61, 3) := by decide +kernel
theorem dX9_put_21 : decode cX9_put 21 = .ok (.ifCond .eq 13, 3) := by decide +kernel
theorem dX9_put_24 : decode cX9_put 24 = .ok (.aload_n 0, 1) := by decide +kernel
theorem dX9_put_25 : decode cX9_put 25 = .ok (.iload_n 1, 1) := by decide +kernel
theorem dX9_put_26 : decode cX9_put 26 = .ok (.iload_n 2, 1) := by decide +kernel
theorem dX9_put_27 : decode cX9_put 27 = .ok (.iload_n 3, 1) := by decide +kernel
theorem dX9_put_28 : decode cX9_put 28 = .ok (.invokevirtual 139, 3) := by decide +kernel
theorem dX9_put_31 : decode cX9_put 31 = .ok (.ifCond .ne 5, 3) := by decide +kernel
theorem dX9_put_34 : decode cX9_put 34 = .ok (.iconst (-1), 1) := by decide +kernel
theorem dX9_put_35 : decode cX9_put 35 = .ok (.ireturn, 1) := by decide +kernel
theorem dX9_put_36 : decode cX9_put 36 = .ok (.aload_n 0, 1) := by decide +kernel
theorem dX9_put_37 : decode cX9_put 37 = .ok (.getfield 19, 3) := by decide +kernel
theorem dX9_put_40 : decode cX9_put 40 = .ok (.bipush 24, 2) := by decide +kernel
theorem dX9_put_42 : decode cX9_put 42 = .ok (.iload_n 1, 1) := by decide +kernel
theorem dX9_put_43 : decode cX9_put 43 = .ok (.imul, 1) := by decide +kernel
theorem dX9_put_44 : decode cX9_put 44 = .ok (.iload_n 2, 1) := by decide +kernel
theorem dX9_put_45 : decode cX9_put 45 = .ok (.iadd, 1) := by decide +kernel
theorem dX9_put_46 : decode cX9_put 46 = .ok (.iaload, 1) := by decide +kernel
theorem dX9_put_47 : decode cX9_put 47 = .ok (.istore 4, 2) := by decide +kernel
theorem dX9_put_49 : decode cX9_put 49 = .ok (.iload 4, 2) := by decide +kernel
theorem dX9_put_51 : decode cX9_put 51 = .ok (.iload_n 3, 1) := by decide +kernel
theorem dX9_put_52 : decode cX9_put 52 = .ok (.if_icmp .ne 6, 3) := by decide +kernel
theorem dX9_put_55 : decode cX9_put 55 = .ok (.bipush (-2), 2) := by decide +kernel
theorem dX9_put_57 : decode cX9_put 57 = .ok (.ireturn, 1) := by decide +kernel
theorem dX9_put_58 : decode cX9_put 58 = .ok (.aload_n 0, 1) := by decide +kernel
theorem dX9_put_59 : decode cX9_put 59 = .ok (.invokevirtual 142, 3) := by decide +kernel
theorem dX9_put_62 : decode cX9_put 62 = .ok (.aload_n 0, 1) := by decide +kernel
theorem dX9_put_63 : decode cX9_put 63 = .ok (.getfield 19, 3) := by decide +kernel
theorem dX9_put_66 : decode cX9_put 66 = .ok (.bipush 24, 2) := by decide +kernel
theorem dX9_put_68 : decode cX9_put 68 = .ok (.iload_n 1, 1) := by decide +kernel
theorem dX9_put_69 : decode cX9_put 69 = .ok (.imul, 1) := by decide +kernel
theorem dX9_put_70 : decode cX9_put 70 = .ok (.iload_n 2, 1) := by decide +kernel
theorem dX9_put_71 : decode cX9_put 71 = .ok (.iadd, 1) := by decide +kernel
theorem dX9_put_72 : decode cX9_put 72 = .ok (.iload_n 3, 1) := by decide +kernel
theorem dX9_put_73 : decode cX9_put 73 = .ok (.iastore, 1) := by decide +kernel
theorem dX9_put_74 : decode cX9_put 74 = .ok (.iload 4, 2) := by decide +kernel
theorem dX9_put_76 : decode cX9_put 76 = .ok (.ireturn, 1) := by decide +kernel
set_option maxRecDepth 20000 in
theorem ggX9_rename_X9_isFunction : GoodIn wsX9_rename wsX9_isFunction := goodIn_r _ [6, 7, 8, 9, 5, 10, 25, 26, 27, 28, 29, 30, 31, 32, 33, 34, 35, 36, 37, 38, 39, 40, 41, 42, 43, 44] (by decide +kernel) (by decide +kernel)
set_option maxRecDepth 20000 in
theorem gX9_rename_X9_isFunction : GoodIn wsX9_rename (wsV RX9 129 RX9 yX9_isFunction wsX9_isFunction) := goodIn_app (goodIn_of _ (by decide +kernel)) ggX9_rename_X9_isFunction
set_option maxRecDepth 20000 in
theorem ggX9_rename_X9_in : GoodIn wsX9_rename wsX9_in := goodIn_r _ [10] (by decide +kernel) (by decide +kernel)
set_option maxRecDepth 20000 in
theorem gX9_rename_X9_in : GoodIn wsX9_rename (va_wsS RX9 61 yX9_in wsX9_in) := goodIn_app (goodIn_of _ (by decide +kernel)) ggX9_rename_X9_in
set_option maxRecDepth 20000 in
theorem ggX9_rename_X9_notes : GoodIn wsX9_rename wsX9_notes := goodIn_r _ [14, 15, 16, 17, 18, 19, 20, 5, 21, 7, 22, 1, 23, 24, 25, 26, 27, 28, 29, 30, 31, 32, 33, 34, 35, 36, 37, 38, 39, 40, 41, 42, 43, 44] (by decide +kernel) (by decide +kernel)
set_option maxRecDepth 20000 in
theorem gX9_rename_X9_notes : GoodIn wsX9_rename (wsV RX9 142 RX9 yX9_notes wsX9_notes) := goodIn_app (goodIn_of _ (by decide +kernel)) ggX9_rename_X9_notes
theorem dX9_rename_0 : decode cX9_rename 0 = .ok (.aload_n 0, 1) := by decide +kernel
theorem dX9_rename_1 : decode cX9_rename 1 = .ok (.iload_n 1, 1) := by decide +kernel
theorem dX9_rename_2 : decode cX9_rename 2 = .ok (.invokevirtual 129, 3) := by decide +kernel
theorem dX9_rename_5 : decode cX9_rename 5 = .ok (.ifCond .eq 12, 3) := by decide +kernel
theorem dX9_rename_8 : decode cX9_rename 8 = .ok (.iload_n 2, 1) := by decide +kernel
theorem dX9_rename_9 : decode cX9_rename 9 = .ok (.iconst 0, 1) := by decide +kernel
theorem dX9_rename_10 : decode cX9_rename 10 = .ok (.iconst 3, 1) := by decide +kernel
theorem dX9_rename_11 : decode cX9_rename 11 = .ok (.invokestatic 61, 3) := by decide +kernel
theorem dX9_rename_14 : decode cX9_rename 14 = .ok (.ifCond .ne 5, 3) := by decide +kernel
theorem dX9_rename_17 : decode cX9_rename 17 = .ok (.iconst (-1), 1) := by decide +kernel
theorem dX9_rename_18 : decode cX9_rename 18 = .ok (.ireturn, 1) := by decide +kernel
theorem dX9_rename_19 : decode cX9_rename 19 = .ok (.aload_n 0, 1) := by decide +kernel
theorem dX9_rename_20 : decode cX9_rename 20 = .ok (.getfield 13, 3) := by decide +kernel
theorem dX9_rename_23 : decode cX9_rename 23 = .ok (.iload_n 1, 1) := by decide +kernel
theorem dX9_rename_24 : decode cX9_rename 24 = .ok (.iaload, 1) := by decide +kernel
theorem dX9_rename_25 : decode cX9_rename 25 = .ok (.istore_n 3, 1) := by decide +kernel
theorem dX9_rename_26 : decode cX9_rename 26 = .ok (.iload_n 3, 1) := by decide +kernel
theorem dX9_rename_27 : decode cX9_rename 27 = .ok (.iload_n 2, 1) := by decide +kernel
theorem dX9_rename_28 : decode cX9_rename 28 = .ok (.if_icmp .ne 6, 3) := by decide +kernel
theorem dX9_rename_31 : decode cX9_rename 31 = .ok (.bipush (-2), 2) := by decide +kernel
theorem dX9_rename_33 : decode cX9_rename 33 = .ok (.ireturn, 1) := by decide +kernel
theorem dX9_rename_34 : decode cX9_rename 34 = .ok (.aload_n 0, 1) := by decide +kernel
theorem dX9_rename_35 : decode cX9_rename 35 = .ok (.invokevirtual 142, 3) := by decide +kernel
theorem dX9_rename_38 : decode cX9_rename 38 = .ok (.aload_n 0, 1) := by decide +kernel
theorem dX9_rename_39 : decode cX9_rename 39 = .ok (.getfield 13, 3) := by decide +kernel
theorem dX9_rename_42 : decode cX9_rename 42 = .ok (.iload_n 1, 1) := by decide +kernel
theorem dX9_rename_43 : decode cX9_rename 43 = .ok (.iload_n 2, 1) := by decide +kernel
theorem dX9_rename_44 : decode cX9_rename 44 = .ok (.iastore, 1) := by decide +kernel
theorem dX9_rename_45 : decode cX9_rename 45 = .ok (.iload_n 3, 1) := by decide +kernel
theorem dX9_rename_46 : decode cX9_rename 46 = .ok (.ireturn, 1) := by decide +kernel
set_option maxRecDepth 20000 in
theorem ggX9_undo_X9_takes : GoodIn wsX9_undo wsX9_takes := goodIn_r _ [7, 8, 9, 10, 11, 12, 13, 14, 15, 16, 17, 18, 19, 20, 21, 22, 23, 24, 25, 26, 27, 28, 29, 30, 31, 32, 33] (by decide +kernel) (by decide +kernel)
set_option maxRecDepth 20000 in
theorem gX9_undo_X9_takes : GoodIn wsX9_undo (wsV RX9 145 RX9 yX9_takes wsX9_takes) := goodIn_app (goodIn_of _ (by decide +kernel)) ggX9_undo_X9_takes
theorem dX9_undo_0 : decode cX9_undo 0 = .ok (.aload_n 0, 1) := by decide +kernel
theorem dX9_undo_1 : decode cX9_undo 1 = .ok (.getfield 132, 3) := by decide +kernel
theorem dX9_undo_4 : decode cX9_undo 4 = .ok (.ifCond .ne 6, 3) := by decide +kernel
theorem dX9_undo_7 : decode cX9_undo 7 = .ok (.bipush (-2), 2) := by decide +kernel
theorem dX9_undo_9 : decode cX9_undo 9 = .ok (.ireturn, 1) := by decide +kernel
theorem dX9_undo_10 : decode cX9_undo 10 = .ok (.aload_n 0, 1) := by decide +kernel
theorem dX9_undo_11 : decode cX9_undo 11 = .ok (.dup, 1) := by decide +kernel
theorem dX9_undo_12 : decode cX9_undo 12 = .ok (.getfield 132, 3) := by decide +kernel
theorem dX9_undo_15 : decode cX9_undo 15 = .ok (.iconst 1, 1) := by decide +kernel
theorem dX9_undo_16 : decode cX9_undo 16 = .ok (.isub, 1) := by decide +kernel
theorem dX9_undo_17 : decode cX9_undo 17 = .ok (.putfield 132, 3) := by decide +kernel
theorem dX9_undo_20 : decode cX9_undo 20 = .ok (.aload_n 0, 1) := by decide +kernel
theorem dX9_undo_21 : decode cX9_undo 21 = .ok (.aload_n 0, 1) := by decide +kernel
theorem dX9_undo_22 : decode cX9_undo 22 = .ok (.getfield 34, 3) := by decide +kernel
theorem dX9_undo_25 : decode cX9_undo 25 = .ok (.bipush 109, 2) := by decide +kernel
theorem dX9_undo_27 : decode cX9_undo 27 = .ok (.aload_n 0, 1) := by decide +kernel
theorem dX9_undo_28 : decode cX9_undo 28 = .ok (.getfield 132, 3) := by decide +kernel
theorem dX9_undo_31 : decode cX9_undo 31 = .ok (.imul, 1) := by decide +kernel
theorem dX9_undo_32 : decode cX9_undo 32 = .ok (.invokevirtual 145, 3) := by decide +kernel
theorem dX9_undo_35 : decode cX9_undo 35 = .ok (.aload_n 0, 1) := by decide +kernel
theorem dX9_undo_36 : decode cX9_undo 36 = .ok (.getfield 132, 3) := by decide +kernel
theorem dX9_undo_39 : decode cX9_undo 39 = .ok (.ireturn, 1) := by decide +kernel
set_option maxRecDepth 20000 in
theorem ggX9_keep_X9_lays : GoodIn wsX9_keep wsX9_lays := goodIn_r _ [7, 8, 9, 10, 11, 12, 13, 14, 15, 16, 17, 18, 19, 20, 21, 22, 23, 24, 25, 26, 27, 28, 29, 30, 31, 32] (by decide +kernel) (by decide +kernel)
set_option maxRecDepth 20000 in
theorem gX9_keep_X9_lays : GoodIn wsX9_keep (wsV RX9 135 RX9 yX9_lays wsX9_lays) := goodIn_app (goodIn_of _ (by decide +kernel)) ggX9_keep_X9_lays
theorem dX9_keep_0 : decode cX9_keep 0 = .ok (.aload_n 0, 1) := by decide +kernel
theorem dX9_keep_1 : decode cX9_keep 1 = .ok (.getfield 148, 3) := by decide +kernel
theorem dX9_keep_4 : decode cX9_keep 4 = .ok (.iconst 2, 1) := by decide +kernel
theorem dX9_keep_5 : decode cX9_keep 5 = .ok (.if_icmp .ne 6, 3) := by decide +kernel
theorem dX9_keep_8 : decode cX9_keep 8 = .ok (.bipush (-3), 2) := by decide +kernel
theorem dX9_keep_10 : decode cX9_keep 10 = .ok (.ireturn, 1) := by decide +kernel
theorem dX9_keep_11 : decode cX9_keep 11 = .ok (.aload_n 0, 1) := by decide +kernel
theorem dX9_keep_12 : decode cX9_keep 12 = .ok (.aload_n 0, 1) := by decide +kernel
theorem dX9_keep_13 : decode cX9_keep 13 = .ok (.getfield 37, 3) := by decide +kernel
theorem dX9_keep_16 : decode cX9_keep 16 = .ok (.bipush 109, 2) := by decide +kernel
theorem dX9_keep_18 : decode cX9_keep 18 = .ok (.aload_n 0, 1) := by decide +kernel
theorem dX9_keep_19 : decode cX9_keep 19 = .ok (.getfield 148, 3) := by decide +kernel
theorem dX9_keep_22 : decode cX9_keep 22 = .ok (.imul, 1) := by decide +kernel
theorem dX9_keep_23 : decode cX9_keep 23 = .ok (.invokevirtual 135, 3) := by decide +kernel
theorem dX9_keep_26 : decode cX9_keep 26 = .ok (.aload_n 0, 1) := by decide +kernel
theorem dX9_keep_27 : decode cX9_keep 27 = .ok (.dup, 1) := by decide +kernel
theorem dX9_keep_28 : decode cX9_keep 28 = .ok (.getfield 148, 3) := by decide +kernel
theorem dX9_keep_31 : decode cX9_keep 31 = .ok (.iconst 1, 1) := by decide +kernel
theorem dX9_keep_32 : decode cX9_keep 32 = .ok (.iadd, 1) := by decide +kernel
theorem dX9_keep_33 : decode cX9_keep 33 = .ok (.putfield 148, 3) := by decide +kernel
theorem dX9_keep_36 : decode cX9_keep 36 = .ok (.aload_n 0, 1) := by decide +kernel
theorem dX9_keep_37 : decode cX9_keep 37 = .ok (.getfield 148, 3) := by decide +kernel
theorem dX9_keep_40 : decode cX9_keep 40 = .ok (.ireturn, 1) := by decide +kernel
set_option maxRecDepth 20000 in
theorem ggX9_back_X9_takes : GoodIn wsX9_back wsX9_takes := goodIn_r _ [8, 9, 10, 11, 12, 13, 14, 15, 16, 17, 18, 19, 20, 21, 22, 23, 24, 25, 26, 27, 28, 29, 30, 31, 32, 33, 34] (by decide +kernel) (by decide +kernel)
set_option maxRecDepth 20000 in
theorem gX9_back_X9_takes : GoodIn wsX9_back (wsV RX9 145 RX9 yX9_takes wsX9_takes) := goodIn_app (goodIn_of _ (by decide +kernel)) ggX9_back_X9_takes
theorem dX9_back_0 : decode cX9_back 0 = .ok (.aload_n 0, 1) := by decide +kernel
theorem dX9_back_1 : decode cX9_back 1 = .ok (.getfield 148, 3) := by decide +kernel
theorem dX9_back_4 : decode cX9_back 4 = .ok (.ifCond .ne 6, 3) := by decide +kernel
theorem dX9_back_7 : decode cX9_back 7 = .ok (.bipush (-2), 2) := by decide +kernel
theorem dX9_back_9 : decode cX9_back 9 = .ok (.ireturn, 1) := by decide +kernel
theorem dX9_back_10 : decode cX9_back 10 = .ok (.aload_n 0, 1) := by decide +kernel
theorem dX9_back_11 : decode cX9_back 11 = .ok (.dup, 1) := by decide +kernel
theorem dX9_back_12 : decode cX9_back 12 = .ok (.getfield 148, 3) := by decide +kernel
theorem dX9_back_15 : decode cX9_back 15 = .ok (.iconst 1, 1) := by decide +kernel
theorem dX9_back_16 : decode cX9_back 16 = .ok (.isub, 1) := by decide +kernel
theorem dX9_back_17 : decode cX9_back 17 = .ok (.putfield 148, 3) := by decide +kernel
theorem dX9_back_20 : decode cX9_back 20 = .ok (.aload_n 0, 1) := by decide +kernel
theorem dX9_back_21 : decode cX9_back 21 = .ok (.aload_n 0, 1) := by decide +kernel
theorem dX9_back_22 : decode cX9_back 22 = .ok (.getfield 37, 3) := by decide +kernel
theorem dX9_back_25 : decode cX9_back 25 = .ok (.bipush 109, 2) := by decide +kernel
theorem dX9_back_27 : decode cX9_back 27 = .ok (.aload_n 0, 1) := by decide +kernel
theorem dX9_back_28 : decode cX9_back 28 = .ok (.getfield 148, 3) := by decide +kernel
theorem dX9_back_31 : decode cX9_back 31 = .ok (.imul, 1) := by decide +kernel
theorem dX9_back_32 : decode cX9_back 32 = .ok (.invokevirtual 145, 3) := by decide +kernel
theorem dX9_back_35 : decode cX9_back 35 = .ok (.aload_n 0, 1) := by decide +kernel
theorem dX9_back_36 : decode cX9_back 36 = .ok (.iconst 0, 1) := by decide +kernel
theorem dX9_back_37 : decode cX9_back 37 = .ok (.putfield 132, 3) := by decide +kernel
theorem dX9_back_40 : decode cX9_back 40 = .ok (.aload_n 0, 1) := by decide +kernel
theorem dX9_back_41 : decode cX9_back 41 = .ok (.getfield 148, 3) := by decide +kernel
theorem dX9_back_44 : decode cX9_back 44 = .ok (.ireturn, 1) := by decide +kernel
set_option maxRecDepth 20000 in
theorem ggX9_value_X9_isFunction : GoodIn wsX9_value wsX9_isFunction := goodIn_r _ [5, 6, 7, 8, 4, 9, 79, 80, 81, 82, 83, 84, 85, 86, 87, 88, 89, 90, 91, 92, 93, 94, 95, 96, 97, 98] (by decide +kernel) (by decide +kernel)
set_option maxRecDepth 20000 in
theorem gX9_value_X9_isFunction : GoodIn wsX9_value (wsV RX9 129 RX9 yX9_isFunction wsX9_isFunction) := goodIn_app (goodIn_of _ (by decide +kernel)) ggX9_value_X9_isFunction
set_option maxRecDepth 20000 in
theorem ggX9_value_X9_isRow : GoodIn wsX9_value wsX9_isRow := goodIn_r _ [13, 14, 7, 8, 4, 9, 79, 80, 81, 82, 83, 84, 85, 86, 87, 88, 89, 90, 91, 92, 93, 94, 95, 96, 97, 98] (by decide +kernel) (by decide +kernel)
set_option maxRecDepth 20000 in
theorem gX9_value_X9_isRow : GoodIn wsX9_value (wsV RX9 110 RX9 yX9_isRow wsX9_isRow) := goodIn_app (goodIn_of _ (by decide +kernel)) ggX9_value_X9_isRow
set_option maxRecDepth 20000 in
theorem ggX9_value_X9_setAll : GoodIn wsX9_value wsX9_setAll := goodIn_r _ [18, 19, 20, 21, 22, 4, 23, 24, 25, 26, 27, 28, 29, 30, 31, 32, 6, 33, 34, 35, 36, 10, 11, 12, 13, 14, 7, 8, 9, 37, 38, 39, 40, 41, 42, 43, 44, 45, 46, 47, 48, 49, 50, 51, 52, 53, 54, 55, 56, 57, 58, 59, 60, 61, 62, 63, 64, 65, 66, 67, 68, 69, 70, 71, 72, 73, 74, 75, 76, 77, 78, 79, 80, 81, 82, 83, 84, 85, 86, 87, 88, 89, 90, 91, 92, 93, 94, 95, 96, 97, 98] (by decide +kernel) (by decide +kernel)
set_option maxRecDepth 20000 in
theorem gX9_value_X9_setAll : GoodIn wsX9_value (wsV RX9 151 RX9 yX9_setAll wsX9_setAll) := goodIn_app (goodIn_of _ (by decide +kernel)) ggX9_value_X9_setAll
set_option maxRecDepth 20000 in
theorem ggX9_value_X9_rowOf : GoodIn wsX9_value wsX9_rowOf := goodIn_r _ [65] (by decide +kernel) (by decide +kernel)
set_option maxRecDepth 20000 in
theorem gX9_value_X9_rowOf : GoodIn wsX9_value (va_wsS RX9 72 yX9_rowOf wsX9_rowOf) := goodIn_app (goodIn_of _ (by decide +kernel)) ggX9_value_X9_rowOf
set_option maxRecDepth 20000 in
theorem ggX9_value_X9_tableAt : GoodIn wsX9_value wsX9_tableAt := goodIn_r _ [69, 24, 79, 80, 81, 82, 83, 84, 85, 86, 87, 88, 89, 90, 91, 92, 93, 94, 95, 96, 97, 98] (by decide +kernel) (by decide +kernel)
set_option maxRecDepth 20000 in
theorem gX9_value_X9_tableAt : GoodIn wsX9_value (wsV RX9 76 RX9 yX9_tableAt wsX9_tableAt) := goodIn_app (goodIn_of _ (by decide +kernel)) ggX9_value_X9_tableAt
theorem dX9_value_0 : decode cX9_value 0 = .ok (.aload_n 0, 1) := by decide +kernel
theorem dX9_value_1 : decode cX9_value 1 = .ok (.iload_n 1, 1) := by decide +kernel
theorem dX9_value_2 : decode cX9_value 2 = .ok (.invokevirtual 129, 3) := by decide +kernel
theorem dX9_value_5 : decode cX9_value 5 = .ok (.ifCond .eq 16, 3) := by decide +kernel
theorem dX9_value_8 : decode cX9_value 8 = .ok (.aload_n 0, 1) := by decide +kernel
theorem dX9_value_9 : decode cX9_value 9 = .ok (.iload_n 1, 1) := by decide +kernel
theorem dX9_value_10 : decode cX9_value 10 = .ok (.iload_n 2, 1) := by decide +kernel
theorem dX9_value_11 : decode cX9_value 11 = .ok (.iload_n 3, 1) := by decide +kernel
theorem dX9_value_12 : decode cX9_value 12 = .ok (.iload 4, 2) := by decide +kernel
theorem dX9_value_14 : decode cX9_value 14 = .ok (.iconst 5, 1) := by decide +kernel
theorem dX9_value_15 : decode cX9_value 15 = .ok (.invokevirtual 110, 3) := by decide +kernel
theorem dX9_value_18 : decode cX9_value 18 = .ok (.ifCond .ne 5, 3) := by decide +kernel
theorem dX9_value_21 : decode cX9_value 21 = .ok (.iconst (-1), 1) := by decide +kernel
theorem dX9_value_22 : decode cX9_value 22 = .ok (.ireturn, 1) := by decide +kernel
theorem dX9_value_23 : decode cX9_value 23 = .ok (.aload_n 0, 1) := by decide +kernel
theorem dX9_value_24 : decode cX9_value 24 = .ok (.invokevirtual 151, 3) := by decide +kernel
theorem dX9_value_27 : decode cX9_value 27 = .ok (.aload_n 0, 1) := by decide +kernel
theorem dX9_value_28 : decode cX9_value 28 = .ok (.iconst 0, 1) := by decide +kernel
theorem dX9_value_29 : decode cX9_value 29 = .ok (.iload_n 1, 1) := by decide +kernel
theorem dX9_value_30 : decode cX9_value 30 = .ok (.iload_n 2, 1) := by decide +kernel
theorem dX9_value_31 : decode cX9_value 31 = .ok (.iload_n 3, 1) := by decide +kernel
theorem dX9_value_32 : decode cX9_value 32 = .ok (.iload 4, 2) := by decide +kernel
theorem dX9_value_34 : decode cX9_value 34 = .ok (.invokestatic 72, 3) := by decide +kernel
theorem dX9_value_37 : decode cX9_value 37 = .ok (.invokevirtual 76, 3) := by decide +kernel
theorem dX9_value_40 : decode cX9_value 40 = .ok (.ireturn, 1) := by decide +kernel
set_option maxRecDepth 20000 in
theorem ggX9_roughAt_X9_rowOf : GoodIn wsX9_roughAt wsX9_rowOf := goodIn_r _ [4] (by decide +kernel) (by decide +kernel)
set_option maxRecDepth 20000 in
theorem gX9_roughAt_X9_rowOf : GoodIn wsX9_roughAt (va_wsS RX9 72 yX9_rowOf wsX9_rowOf) := goodIn_app (goodIn_of _ (by decide +kernel)) ggX9_roughAt_X9_rowOf
set_option maxRecDepth 20000 in
theorem ggX9_roughAt_X9_tableAt : GoodIn wsX9_roughAt wsX9_tableAt := goodIn_r _ [8, 9, 10, 11, 12, 13, 14, 15, 16, 17, 18, 19, 20, 21, 22, 23, 24, 25, 26, 27, 28, 29] (by decide +kernel) (by decide +kernel)
set_option maxRecDepth 20000 in
theorem gX9_roughAt_X9_tableAt : GoodIn wsX9_roughAt (wsV RX9 76 RX9 yX9_tableAt wsX9_tableAt) := goodIn_app (goodIn_of _ (by decide +kernel)) ggX9_roughAt_X9_tableAt
theorem dX9_roughAt_0 : decode cX9_roughAt 0 = .ok (.aload_n 0, 1) := by decide +kernel
theorem dX9_roughAt_1 : decode cX9_roughAt 1 = .ok (.iconst 1, 1) := by decide +kernel
theorem dX9_roughAt_2 : decode cX9_roughAt 2 = .ok (.iload_n 1, 1) := by decide +kernel
theorem dX9_roughAt_3 : decode cX9_roughAt 3 = .ok (.iload_n 2, 1) := by decide +kernel
theorem dX9_roughAt_4 : decode cX9_roughAt 4 = .ok (.iconst 1, 1) := by decide +kernel
theorem dX9_roughAt_5 : decode cX9_roughAt 5 = .ok (.iand, 1) := by decide +kernel
theorem dX9_roughAt_6 : decode cX9_roughAt 6 = .ok (.iload_n 2, 1) := by decide +kernel
theorem dX9_roughAt_7 : decode cX9_roughAt 7 = .ok (.iconst 1, 1) := by decide +kernel
theorem dX9_roughAt_8 : decode cX9_roughAt 8 = .ok (.ishr, 1) := by decide +kernel
theorem dX9_roughAt_9 : decode cX9_roughAt 9 = .ok (.iconst 1, 1) := by decide +kernel
theorem dX9_roughAt_10 : decode cX9_roughAt 10 = .ok (.iand, 1) := by decide +kernel
theorem dX9_roughAt_11 : decode cX9_roughAt 11 = .ok (.iload_n 2, 1) := by decide +kernel
theorem dX9_roughAt_12 : decode cX9_roughAt 12 = .ok (.iconst 2, 1) := by decide +kernel
theorem dX9_roughAt_13 : decode cX9_roughAt 13 = .ok (.ishr, 1) := by decide +kernel
theorem dX9_roughAt_14 : decode cX9_roughAt 14 = .ok (.iconst 1, 1) := by decide +kernel
theorem dX9_roughAt_15 : decode cX9_roughAt 15 = .ok (.iand, 1) := by decide +kernel
theorem dX9_roughAt_16 : decode cX9_roughAt 16 = .ok (.invokestatic 72, 3) := by decide +kernel
theorem dX9_roughAt_19 : decode cX9_roughAt 19 = .ok (.invokevirtual 76, 3) := by decide +kernel
theorem dX9_roughAt_22 : decode cX9_roughAt 22 = .ok (.ireturn, 1) := by decide +kernel
theorem dX9_rowsOf_0 : decode cX9_rowsOf 0 = .ok (.iconst 1, 1) := by decide +kernel
theorem dX9_rowsOf_1 : decode cX9_rowsOf 1 = .ok (.aload_n 0, 1) := by decide +kernel
theorem dX9_rowsOf_2 : decode cX9_rowsOf 2 = .ok (.getfield 7, 3) := by decide +kernel
theorem dX9_rowsOf_5 : decode cX9_rowsOf 5 = .ok (.iload_n 1, 1) := by decide +kernel
theorem dX9_rowsOf_6 : decode cX9_rowsOf 6 = .ok (.iaload, 1) := by decide +kernel
theorem dX9_rowsOf_7 : decode cX9_rowsOf 7 = .ok (.ishl, 1) := by decide +kernel
theorem dX9_rowsOf_8 : decode cX9_rowsOf 8 = .ok (.ireturn, 1) := by decide +kernel
set_option maxRecDepth 20000 in
theorem ggX9_rough_X9_isFunction : GoodIn wsX9_rough wsX9_isFunction := goodIn_r _ [5, 6, 7, 8, 4, 9, 87, 88, 89, 90, 91, 92, 93, 94, 95, 96, 97, 98, 99, 100, 101, 102, 103, 104, 105, 106] (by decide +kernel) (by decide +kernel)
set_option maxRecDepth 20000 in
theorem gX9_rough_X9_isFunction : GoodIn wsX9_rough (wsV RX9 129 RX9 yX9_isFunction wsX9_isFunction) := goodIn_app (goodIn_of _ (by decide +kernel)) ggX9_rough_X9_isFunction
set_option maxRecDepth 20000 in
theorem ggX9_rough_X9_rowsOf : GoodIn wsX9_rough wsX9_rowsOf := goodIn_r _ [13, 14, 87, 88, 89, 90, 91, 92, 93, 94, 95, 96, 97, 98, 99, 100, 101, 102, 103, 104, 105, 106] (by decide +kernel) (by decide +kernel)
set_option maxRecDepth 20000 in
theorem gX9_rough_X9_rowsOf : GoodIn wsX9_rough (wsV RX9 154 RX9 yX9_rowsOf wsX9_rowsOf) := goodIn_app (goodIn_of _ (by decide +kernel)) ggX9_rough_X9_rowsOf
set_option maxRecDepth 20000 in
theorem ggX9_rough_X9_in : GoodIn wsX9_rough wsX9_in := goodIn_r _ [9] (by decide +kernel) (by decide +kernel)
set_option maxRecDepth 20000 in
theorem gX9_rough_X9_in : GoodIn wsX9_rough (va_wsS RX9 61 yX9_in wsX9_in) := goodIn_app (goodIn_of _ (by decide +kernel)) ggX9_rough_X9_in
set_option maxRecDepth 20000 in
theorem ggX9_rough_X9_setAll : GoodIn wsX9_rough wsX9_setAll := goodIn_r _ [18, 19, 20, 21, 22, 4, 23, 24, 25, 26, 27, 28, 29, 30, 31, 32, 6, 33, 34, 35, 36, 37, 38, 39, 40, 14, 7, 8, 9, 41, 42, 43, 44, 45, 46, 47, 48, 49, 50, 51, 52, 53, 54, 55, 56, 57, 58, 59, 60, 61, 62, 63, 64, 65, 66, 67, 68, 69, 70, 71, 72, 73, 74, 75, 76, 77, 78, 79, 80, 81, 82, 87, 88, 89, 90, 91, 92, 93, 94, 95, 96, 97, 98, 99, 100, 101, 102, 103, 104, 105, 106] (by decide +kernel) (by decide +kernel)
set_option maxRecDepth 20000 in
theorem gX9_rough_X9_setAll : GoodIn wsX9_rough (wsV RX9 151 RX9 yX9_setAll wsX9_setAll) := goodIn_app (goodIn_of _ (by decide +kernel)) ggX9_rough_X9_setAll
set_option maxRecDepth 20000 in
theorem ggX9_rough_X9_roughAt : GoodIn wsX9_rough wsX9_roughAt := goodIn_r _ [86, 67, 68, 4, 69, 70, 71, 72, 73, 24, 87, 88, 89, 90, 91, 92, 93, 94, 95, 96, 97, 98, 99, 100, 101, 102, 103, 104, 105, 106] (by decide +kernel) (by decide +kernel)
set_option maxRecDepth 20000 in
theorem gX9_rough_X9_roughAt : GoodIn wsX9_rough (wsV RX9 157 RX9 yX9_roughAt wsX9_roughAt) := goodIn_app (goodIn_of _ (by decide +kernel)) ggX9_rough_X9_roughAt
theorem dX9_rough_0 : decode cX9_rough 0 = .ok (.aload_n 0, 1) := by decide +kernel
theorem dX9_rough_1 : decode cX9_rough 1 = .ok (.iload_n 1, 1) := by decide +kernel
theorem dX9_rough_2 : decode cX9_rough 2 = .ok (.invokevirtual 129, 3) := by decide +kernel
theorem dX9_rough_5 : decode cX9_rough 5 = .ok (.ifCond .eq 18, 3) := by decide +kernel
theorem dX9_rough_8 : decode cX9_rough 8 = .ok (.iload_n 2, 1) := by decide +kernel
theorem dX9_rough_9 : decode cX9_rough 9 = .ok (.iconst 0, 1) := by decide +kernel
theorem dX9_rough_10 : decode cX9_rough 10 = .ok (.aload_n 0, 1) := by decide +kernel
theorem dX9_rough_11 : decode cX9_rough 11 = .ok (.iload_n 1, 1) := by decide +kernel
theorem dX9_rough_12 : decode cX9_rough 12 = .ok (.invokevirtual 154, 3) := by decide +kernel
theorem dX9_rough_15 : decode cX9_rough 15 = .ok (.iconst 1, 1) := by decide +kernel
theorem dX9_rough_16 : decode cX9_rough 16 = .ok (.isub, 1) := by decide +kernel
theorem dX9_rough_17 : decode cX9_rough 17 = .ok (.invokestatic 61, 3) := by decide +kernel
theorem dX9_rough_20 : decode cX9_rough 20 = .ok (.ifCond .ne 5, 3) := by decide +kernel
theorem dX9_rough_23 : decode cX9_rough 23 = .ok (.iconst (-1), 1) := by decide +kernel
theorem dX9_rough_24 : decode cX9_rough 24 = .ok (.ireturn, 1) := by decide +kernel
theorem dX9_rough_25 : decode cX9_rough 25 = .ok (.aload_n 0, 1) := by decide +kernel
theorem dX9_rough_26 : decode cX9_rough 26 = .ok (.invokevirtual 151, 3) := by decide +kernel
theorem dX9_rough_29 : decode cX9_rough 29 = .ok (.aload_n 0, 1) := by decide +kernel
theorem dX9_rough_30 : decode cX9_rough 30 = .ok (.iload_n 1, 1) := by decide +kernel
theorem dX9_rough_31 : decode cX9_rough 31 = .ok (.iload_n 2, 1) := by decide +kernel
theorem dX9_rough_32 : decode cX9_rough 32 = .ok (.invokevirtual 157, 3) := by decide +kernel
theorem dX9_rough_35 : decode cX9_rough 35 = .ok (.ireturn, 1) := by decide +kernel
set_option maxRecDepth 20000 in
theorem ggX9_fine_X9_isFunction : GoodIn wsX9_fine wsX9_isFunction := goodIn_r _ [5, 6, 7, 8, 4, 9, 79, 80, 81, 82, 83, 84, 85, 86, 87, 88, 89, 90, 91, 92, 93, 94, 95, 96, 97, 98] (by decide +kernel) (by decide +kernel)
set_option maxRecDepth 20000 in
theorem gX9_fine_X9_isFunction : GoodIn wsX9_fine (wsV RX9 129 RX9 yX9_isFunction wsX9_isFunction) := goodIn_app (goodIn_of _ (by decide +kernel)) ggX9_fine_X9_isFunction
set_option maxRecDepth 20000 in
theorem ggX9_fine_X9_isRow : GoodIn wsX9_fine wsX9_isRow := goodIn_r _ [13, 14, 7, 8, 4, 9, 79, 80, 81, 82, 83, 84, 85, 86, 87, 88, 89, 90, 91, 92, 93, 94, 95, 96, 97, 98] (by decide +kernel) (by decide +kernel)
set_option maxRecDepth 20000 in
theorem gX9_fine_X9_isRow : GoodIn wsX9_fine (wsV RX9 110 RX9 yX9_isRow wsX9_isRow) := goodIn_app (goodIn_of _ (by decide +kernel)) ggX9_fine_X9_isRow
set_option maxRecDepth 20000 in
theorem ggX9_fine_X9_setAll : GoodIn wsX9_fine wsX9_setAll := goodIn_r _ [18, 19, 20, 21, 22, 4, 23, 24, 25, 26, 27, 28, 29, 30, 31, 32, 6, 33, 34, 35, 36, 10, 11, 12, 13, 14, 7, 8, 9, 37, 38, 39, 40, 41, 42, 43, 44, 45, 46, 47, 48, 49, 50, 51, 52, 53, 54, 55, 56, 57, 58, 59, 60, 61, 62, 63, 64, 65, 66, 67, 68, 69, 70, 71, 72, 73, 74, 75, 76, 77, 78, 79, 80, 81, 82, 83, 84, 85, 86, 87, 88, 89, 90, 91, 92, 93, 94, 95, 96, 97, 98] (by decide +kernel) (by decide +kernel)
set_option maxRecDepth 20000 in
theorem gX9_fine_X9_setAll : GoodIn wsX9_fine (wsV RX9 151 RX9 yX9_setAll wsX9_setAll) := goodIn_app (goodIn_of _ (by decide +kernel)) ggX9_fine_X9_setAll
set_option maxRecDepth 20000 in
theorem ggX9_fine_X9_rowOf : GoodIn wsX9_fine wsX9_rowOf := goodIn_r _ [65] (by decide +kernel) (by decide +kernel)
set_option maxRecDepth 20000 in
theorem gX9_fine_X9_rowOf : GoodIn wsX9_fine (va_wsS RX9 72 yX9_rowOf wsX9_rowOf) := goodIn_app (goodIn_of _ (by decide +kernel)) ggX9_fine_X9_rowOf
set_option maxRecDepth 20000 in
theorem ggX9_fine_X9_tableAt : GoodIn wsX9_fine wsX9_tableAt := goodIn_r _ [69, 24, 79, 80, 81, 82, 83, 84, 85, 86, 87, 88, 89, 90, 91, 92, 93, 94, 95, 96, 97, 98] (by decide +kernel) (by decide +kernel)
set_option maxRecDepth 20000 in
theorem gX9_fine_X9_tableAt : GoodIn wsX9_fine (wsV RX9 76 RX9 yX9_tableAt wsX9_tableAt) := goodIn_app (goodIn_of _ (by decide +kernel)) ggX9_fine_X9_tableAt
theorem dX9_fine_0 : decode cX9_fine 0 = .ok (.aload_n 0, 1) := by decide +kernel
theorem dX9_fine_1 : decode cX9_fine 1 = .ok (.iload_n 1, 1) := by decide +kernel
theorem dX9_fine_2 : decode cX9_fine 2 = .ok (.invokevirtual 129, 3) := by decide +kernel
theorem dX9_fine_5 : decode cX9_fine 5 = .ok (.ifCond .eq 16, 3) := by decide +kernel
theorem dX9_fine_8 : decode cX9_fine 8 = .ok (.aload_n 0, 1) := by decide +kernel
theorem dX9_fine_9 : decode cX9_fine 9 = .ok (.iload_n 1, 1) := by decide +kernel
theorem dX9_fine_10 : decode cX9_fine 10 = .ok (.iload_n 2, 1) := by decide +kernel
theorem dX9_fine_11 : decode cX9_fine 11 = .ok (.iload_n 3, 1) := by decide +kernel
theorem dX9_fine_12 : decode cX9_fine 12 = .ok (.iload 4, 2) := by decide +kernel
theorem dX9_fine_14 : decode cX9_fine 14 = .ok (.iconst 4, 1) := by decide +kernel
theorem dX9_fine_15 : decode cX9_fine 15 = .ok (.invokevirtual 110, 3) := by decide +kernel
theorem dX9_fine_18 : decode cX9_fine 18 = .ok (.ifCond .ne 5, 3) := by decide +kernel
theorem dX9_fine_21 : decode cX9_fine 21 = .ok (.iconst (-1), 1) := by decide +kernel
theorem dX9_fine_22 : decode cX9_fine 22 = .ok (.ireturn, 1) := by decide +kernel
theorem dX9_fine_23 : decode cX9_fine 23 = .ok (.aload_n 0, 1) := by decide +kernel
theorem dX9_fine_24 : decode cX9_fine 24 = .ok (.invokevirtual 151, 3) := by decide +kernel
theorem dX9_fine_27 : decode cX9_fine 27 = .ok (.aload_n 0, 1) := by decide +kernel
theorem dX9_fine_28 : decode cX9_fine 28 = .ok (.iconst 2, 1) := by decide +kernel
theorem dX9_fine_29 : decode cX9_fine 29 = .ok (.iload_n 1, 1) := by decide +kernel
theorem dX9_fine_30 : decode cX9_fine 30 = .ok (.iload_n 2, 1) := by decide +kernel
theorem dX9_fine_31 : decode cX9_fine 31 = .ok (.iload_n 3, 1) := by decide +kernel
theorem dX9_fine_32 : decode cX9_fine 32 = .ok (.iload 4, 2) := by decide +kernel
theorem dX9_fine_34 : decode cX9_fine 34 = .ok (.invokestatic 72, 3) := by decide +kernel
theorem dX9_fine_37 : decode cX9_fine 37 = .ok (.invokevirtual 76, 3) := by decide +kernel
theorem dX9_fine_40 : decode cX9_fine 40 = .ok (.ireturn, 1) := by decide +kernel
set_option maxRecDepth 20000 in
theorem ggX9_rounds_X9_in : GoodIn wsX9_rounds wsX9_in := goodIn_r _ [5] (by decide +kernel) (by decide +kernel)
set_option maxRecDepth 20000 in
theorem gX9_rounds_X9_in : GoodIn wsX9_rounds (va_wsS RX9 61 yX9_in wsX9_in) := goodIn_app (goodIn_of _ (by decide +kernel)) ggX9_rounds_X9_in
set_option maxRecDepth 20000 in
theorem ggX9_rounds_X9_setAll : GoodIn wsX9_rounds wsX9_setAll := goodIn_r _ [9, 10, 11, 12, 13, 4, 14, 15, 1, 16, 17, 18, 19, 20, 21, 22, 23, 24, 25, 26, 27, 28, 29, 30, 31, 32, 2, 3, 5, 33, 34, 35, 36, 37, 38, 39, 40, 41, 42, 43, 44, 45, 46, 47, 48, 49, 50, 51, 52, 53, 54, 55, 56, 57, 58, 59, 60, 61, 62, 63, 64, 65, 66, 67, 68, 69, 70, 71, 72, 73, 74, 75, 76, 77, 78, 79, 80, 81, 82, 83, 84, 85, 86, 87, 88, 89, 90, 91, 92, 93, 94] (by decide +kernel) (by decide +kernel)
set_option maxRecDepth 20000 in
theorem gX9_rounds_X9_setAll : GoodIn wsX9_rounds (wsV RX9 151 RX9 yX9_setAll wsX9_setAll) := goodIn_app (goodIn_of _ (by decide +kernel)) ggX9_rounds_X9_setAll
theorem dX9_rounds_0 : decode cX9_rounds 0 = .ok (.iload_n 1, 1) := by decide +kernel
theorem dX9_rounds_1 : decode cX9_rounds 1 = .ok (.iconst 0, 1) := by decide +kernel
theorem dX9_rounds_2 : decode cX9_rounds 2 = .ok (.iconst 2, 1) := by decide +kernel
theorem dX9_rounds_3 : decode cX9_rounds 3 = .ok (.invokestatic 61, 3) := by decide +kernel
theorem dX9_rounds_6 : decode cX9_rounds 6 = .ok (.ifCond .ne 5, 3) := by decide +kernel
theorem dX9_rounds_9 : decode cX9_rounds 9 = .ok (.iconst (-1), 1) := by decide +kernel
theorem dX9_rounds_10 : decode cX9_rounds 10 = .ok (.ireturn, 1) := by decide +kernel
theorem dX9_rounds_11 : decode cX9_rounds 11 = .ok (.aload_n 0, 1) := by decide +kernel
theorem dX9_rounds_12 : decode cX9_rounds 12 = .ok (.invokevirtual 151, 3) := by decide +kernel
theorem dX9_rounds_15 : decode cX9_rounds 15 = .ok (.aload_n 0, 1) := by decide +kernel
theorem dX9_rounds_16 : decode cX9_rounds 16 = .ok (.getfield 28, 3) := by decide +kernel
theorem dX9_rounds_19 : decode cX9_rounds 19 = .ok (.iload_n 1, 1) := by decide +kernel
theorem dX9_rounds_20 : decode cX9_rounds 20 = .ok (.iaload, 1) := by decide +kernel
theorem dX9_rounds_21 : decode cX9_rounds 21 = .ok (.ireturn, 1) := by decide +kernel
set_option maxRecDepth 20000 in
theorem ggX9_isFrontier_X9_roughAt : GoodIn wsX9_isFrontier wsX9_roughAt := goodIn_r _ [5, 6, 7, 4, 8, 9, 10, 11, 12, 13, 14, 15, 16, 17, 18, 19, 20, 21, 22, 23, 24, 25, 26, 27, 28, 29, 30, 31, 32, 33] (by decide +kernel) (by decide +kernel)
set_option maxRecDepth 20000 in
theorem gX9_isFrontier_X9_roughAt : GoodIn wsX9_isFrontier (wsV RX9 157 RX9 yX9_roughAt wsX9_roughAt) := goodIn_app (goodIn_of _ (by decide +kernel)) ggX9_isFrontier_X9_roughAt
theorem dX9_isFrontier_0 : decode cX9_isFrontier 0 = .ok (.aload_n 0, 1) := by decide +kernel
theorem dX9_isFrontier_1 : decode cX9_isFrontier 1 = .ok (.iload_n 1, 1) := by decide +kernel
theorem dX9_isFrontier_2 : decode cX9_isFrontier 2 = .ok (.iload_n 2, 1) := by decide +kernel
theorem dX9_isFrontier_3 : decode cX9_isFrontier 3 = .ok (.invokevirtual 157, 3) := by decide +kernel
theorem dX9_isFrontier_6 : decode cX9_isFrontier 6 = .ok (.iconst 1, 1) := by decide +kernel
theorem dX9_isFrontier_7 : decode cX9_isFrontier 7 = .ok (.if_icmp .ne 7, 3) := by decide +kernel
theorem dX9_isFrontier_10 : decode cX9_isFrontier 10 = .ok (.iconst 1, 1) := by decide +kernel
theorem dX9_isFrontier_11 : decode cX9_isFrontier 11 = .ok (.goto 4, 3) := by decide +kernel
theorem dX9_isFrontier_14 : decode cX9_isFrontier 14 = .ok (.iconst 0, 1) := by decide +kernel
theorem dX9_isFrontier_15 : decode cX9_isFrontier 15 = .ok (.istore_n 3, 1) := by decide +kernel
theorem dX9_isFrontier_16 : decode cX9_isFrontier 16 = .ok (.iconst 0, 1) := by decide +kernel
theorem dX9_isFrontier_17 : decode cX9_isFrontier 17 = .ok (.istore 4, 2) := by decide +kernel
theorem dX9_isFrontier_19 : decode cX9_isFrontier 19 = .ok (.iload 4, 2) := by decide +kernel
theorem dX9_isFrontier_21 : decode cX9_isFrontier 21 = .ok (.iload_n 2, 1) := by decide +kernel
theorem dX9_isFrontier_22 : decode cX9_isFrontier 22 = .ok (.if_icmp .ge 38, 3) := by decide +kernel
theorem dX9_isFrontier_25 : decode cX9_isFrontier 25 = .ok (.iload_n 3, 1) := by decide +kernel
theorem dX9_isFrontier_26 : decode cX9_isFrontier 26 = .ok (.ifCond .eq 26, 3) := by decide +kernel
theorem dX9_isFrontier_29 : decode cX9_isFrontier 29 = .ok (.iload 4, 2) := by decide +kernel
theorem dX9_isFrontier_31 : decode cX9_isFrontier 31 = .ok (.iload_n 2, 1) := by decide +kernel
theorem dX9_isFrontier_32 : decode cX9_isFrontier 32 = .ok (.iconst (-1), 1) := by decide +kernel
theorem dX9_isFrontier_33 : decode cX9_isFrontier 33 = .ok (.ixor, 1) := by decide +kernel
theorem dX9_isFrontier_34 : decode cX9_isFrontier 34 = .ok (.iand, 1) := by decide +kernel
theorem dX9_isFrontier_35 : decode cX9_isFrontier 35 = .ok (.ifCond .ne 13, 3) := by decide +kernel
theorem dX9_isFrontier_38 : decode cX9_isFrontier 38 = .ok (.aload_n 0, 1) := by decide +kernel
theorem dX9_isFrontier_39 : decode cX9_isFrontier 39 = .ok (.iload_n 1, 1) := by decide +kernel
theorem dX9_isFrontier_40 : decode cX9_isFrontier 40 = .ok (.iload 4, 2) := by decide +kernel
theorem dX9_isFrontier_42 : decode cX9_isFrontier 42 = .ok (.invokevirtual 157, 3) := by decide +kernel
theorem dX9_isFrontier_45 : decode cX9_isFrontier 45 = .ok (.ifCond .ne 7, 3) := by decide +kernel
theorem dX9_isFrontier_48 : decode cX9_isFrontier 48 = .ok (.iconst 1, 1) := by decide +kernel
theorem dX9_isFrontier_49 : decode cX9_isFrontier 49 = .ok (.goto 4, 3) := by decide +kernel
theorem dX9_isFrontier_52 : decode cX9_isFrontier 52 = .ok (.iconst 0, 1) := by decide +kernel
theorem dX9_isFrontier_53 : decode cX9_isFrontier 53 = .ok (.istore_n 3, 1) := by decide +kernel
theorem dX9_isFrontier_54 : decode cX9_isFrontier 54 = .ok (.iinc 4 1, 3) := by decide +kernel
theorem dX9_isFrontier_57 : decode cX9_isFrontier 57 = .ok (.goto (-38), 3) := by decide +kernel
theorem dX9_isFrontier_60 : decode cX9_isFrontier 60 = .ok (.iload_n 3, 1) := by decide +kernel
theorem dX9_isFrontier_61 : decode cX9_isFrontier 61 = .ok (.ireturn, 1) := by decide +kernel
set_option maxRecDepth 20000 in
theorem ggX9_frontier_X9_isFunction : GoodIn wsX9_frontier wsX9_isFunction := goodIn_r _ [5, 6, 7, 8, 4, 9, 91, 92, 93, 94, 95, 96, 97, 98, 99, 100, 101, 102, 103, 104, 105, 106, 107, 108, 109, 110] (by decide +kernel) (by decide +kernel)
set_option maxRecDepth 20000 in
theorem gX9_frontier_X9_isFunction : GoodIn wsX9_frontier (wsV RX9 129 RX9 yX9_isFunction wsX9_isFunction) := goodIn_app (goodIn_of _ (by decide +kernel)) ggX9_frontier_X9_isFunction
set_option maxRecDepth 20000 in
theorem ggX9_frontier_X9_setAll : GoodIn wsX9_frontier wsX9_setAll := goodIn_r _ [13, 14, 15, 16, 17, 4, 18, 19, 20, 21, 22, 23, 24, 25, 26, 27, 6, 28, 29, 30, 31, 32, 33, 34, 35, 36, 7, 8, 9, 37, 38, 39, 40, 41, 42, 43, 44, 45, 46, 47, 48, 49, 50, 51, 52, 53, 54, 55, 56, 57, 58, 59, 60, 61, 62, 63, 64, 65, 66, 67, 68, 69, 70, 71, 72, 73, 74, 75, 76, 77, 78, 91, 92, 93, 94, 95, 96, 97, 98, 99, 100, 101, 102, 103, 104, 105, 106, 107, 108, 109, 110] (by decide +kernel) (by decide +kernel)
set_option maxRecDepth 20000 in
theorem gX9_frontier_X9_setAll : GoodIn wsX9_frontier (wsV RX9 151 RX9 yX9_setAll wsX9_setAll) := goodIn_app (goodIn_of _ (by decide +kernel)) ggX9_frontier_X9_setAll
set_option maxRecDepth 20000 in
theorem ggX9_frontier_X9_rowsOf : GoodIn wsX9_frontier wsX9_rowsOf := goodIn_r _ [82, 36, 91, 92, 93, 94, 95, 96, 97, 98, 99, 100, 101, 102, 103, 104, 105, 106, 107, 108, 109, 110] (by decide +kernel) (by decide +kernel)
set_option maxRecDepth 20000 in
theorem gX9_frontier_X9_rowsOf : GoodIn wsX9_frontier (wsV RX9 154 RX9 yX9_rowsOf wsX9_rowsOf) := goodIn_app (goodIn_of _ (by decide +kernel)) ggX9_frontier_X9_rowsOf
set_option maxRecDepth 20000 in
theorem ggX9_frontier_X9_isFrontier : GoodIn wsX9_frontier wsX9_isFrontier := goodIn_r _ [86, 87, 88, 89, 4, 90, 63, 64, 65, 66, 67, 68, 69, 19, 91, 92, 93, 94, 95, 96, 97, 98, 99, 100, 101, 102, 103, 104, 105, 106, 107, 108, 109, 110] (by decide +kernel) (by decide +kernel)
set_option maxRecDepth 20000 in
theorem gX9_frontier_X9_isFrontier : GoodIn wsX9_frontier (wsV RX9 160 RX9 yX9_isFrontier wsX9_isFrontier) := goodIn_app (goodIn_of _ (by decide +kernel)) ggX9_frontier_X9_isFrontier
theorem dX9_frontier_0 : decode cX9_frontier 0 = .ok (.aload_n 0, 1) := by decide +kernel
theorem dX9_frontier_1 : decode cX9_frontier 1 = .ok (.iload_n 1, 1) := by decide +kernel
theorem dX9_frontier_2 : decode cX9_frontier 2 = .ok (.invokevirtual 129, 3) := by decide +kernel
theorem dX9_frontier_5 : decode cX9_frontier 5 = .ok (.ifCond .eq 8, 3) := by decide +kernel
theorem dX9_frontier_8 : decode cX9_frontier 8 = .ok (.iload_n 2, 1) := by decide +kernel
theorem dX9_frontier_9 : decode cX9_frontier 9 = .ok (.iconst (-1), 1) := by decide +kernel
theorem dX9_frontier_10 : decode cX9_frontier 10 = .ok (.if_icmp .ge 5, 3) := by decide +kernel
theorem dX9_frontier_13 : decode cX9_frontier 13 = .ok (.iconst (-1), 1) := by decide +kernel
theorem dX9_frontier_14 : decode cX9_frontier 14 = .ok (.ireturn, 1) := by decide +kernel
theorem dX9_frontier_15 : decode cX9_frontier 15 = .ok (.aload_n 0, 1) := by decide +kernel
theorem dX9_frontier_16 : decode cX9_frontier 16 = .ok (.invokevirtual 151, 3) := by decide +kernel
theorem dX9_frontier_19 : decode cX9_frontier 19 = .ok (.iconst 0, 1) := by decide +kernel
theorem dX9_frontier_20 : decode cX9_frontier 20 = .ok (.istore_n 3, 1) := by decide +kernel
theorem dX9_frontier_21 : decode cX9_frontier 21 = .ok (.bipush (-4), 2) := by decide +kernel
theorem dX9_frontier_23 : decode cX9_frontier 23 = .ok (.istore 4, 2) := by decide +kernel
theorem dX9_frontier_25 : decode cX9_frontier 25 = .ok (.iconst 0, 1) := by decide +kernel
theorem dX9_frontier_26 : decode cX9_frontier 26 = .ok (.istore 5, 2) := by decide +kernel
theorem dX9_frontier_28 : decode cX9_frontier 28 = .ok (.iload 5, 2) := by decide +kernel
theorem dX9_frontier_30 : decode cX9_frontier 30 = .ok (.aload_n 0, 1) := by decide +kernel
theorem dX9_frontier_31 : decode cX9_frontier 31 = .ok (.iload_n 1, 1) := by decide +kernel
theorem dX9_frontier_32 : decode cX9_frontier 32 = .ok (.invokevirtual 154, 3) := by decide +kernel
theorem dX9_frontier_35 : decode cX9_frontier 35 = .ok (.if_icmp .ge 36, 3) := by decide +kernel
theorem dX9_frontier_38 : decode cX9_frontier 38 = .ok (.aload_n 0, 1) := by decide +kernel
theorem dX9_frontier_39 : decode cX9_frontier 39 = .ok (.iload_n 1, 1) := by decide +kernel
theorem dX9_frontier_40 : decode cX9_frontier 40 = .ok (.iload 5, 2) := by decide +kernel
theorem dX9_frontier_42 : decode cX9_frontier 42 = .ok (.invokevirtual 160, 3) := by decide +kernel
theorem dX9_frontier_45 : decode cX9_frontier 45 = .ok (.ifCond .eq 20, 3) := by decide +kernel
theorem dX9_frontier_48 : decode cX9_frontier 48 = .ok (.iload_n 3, 1) := by decide +kernel
theorem dX9_frontier_49 : decode cX9_frontier 49 = .ok (.iload_n 2, 1) := by decide +kernel
theorem dX9_frontier_50 : decode cX9_frontier 50 = .ok (.if_icmp .ne 8, 3) := by decide +kernel
theorem dX9_frontier_53 : decode cX9_frontier 53 = .ok (.iload 5, 2) := by decide +kernel
theorem dX9_frontier_55 : decode cX9_frontier 55 = .ok (.goto 5, 3) := by decide +kernel
theorem dX9_frontier_58 : decode cX9_frontier 58 = .ok (.iload 4, 2) := by decide +kernel
theorem dX9_frontier_60 : decode cX9_frontier 60 = .ok (.istore 4, 2) := by decide +kernel
theorem dX9_frontier_62 : decode cX9_frontier 62 = .ok (.iinc 3 1, 3) := by decide +kernel
theorem dX9_frontier_65 : decode cX9_frontier 65 = .ok (.iinc 5 1, 3) := by decide +kernel
theorem dX9_frontier_68 : decode cX9_frontier 68 = .ok (.goto (-40), 3) := by decide +kernel
theorem dX9_frontier_71 : decode cX9_frontier 71 = .ok (.iload_n 2, 1) := by decide +kernel
theorem dX9_frontier_72 : decode cX9_frontier 72 = .ok (.iconst (-1), 1) := by decide +kernel
theorem dX9_frontier_73 : decode cX9_frontier 73 = .ok (.if_icmp .ne 7, 3) := by decide +kernel
theorem dX9_frontier_76 : decode cX9_frontier 76 = .ok (.iload_n 3, 1) := by decide +kernel
theorem dX9_frontier_77 : decode cX9_frontier 77 = .ok (.goto 5, 3) := by decide +kernel
theorem dX9_frontier_80 : decode cX9_frontier 80 = .ok (.iload 4, 2) := by decide +kernel
theorem dX9_frontier_82 : decode cX9_frontier 82 = .ok (.ireturn, 1) := by decide +kernel
set_option maxRecDepth 20000 in
theorem ggX9_fineStrict_X9_rowOf : GoodIn wsX9_fineStrict wsX9_rowOf := goodIn_r _ [5] (by decide +kernel) (by decide +kernel)
set_option maxRecDepth 20000 in
theorem gX9_fineStrict_X9_rowOf : GoodIn wsX9_fineStrict (va_wsS RX9 72 yX9_rowOf wsX9_rowOf) := goodIn_app (goodIn_of _ (by decide +kernel)) ggX9_fineStrict_X9_rowOf
set_option maxRecDepth 20000 in
theorem ggX9_fineStrict_X9_tableAt : GoodIn wsX9_fineStrict wsX9_tableAt := goodIn_r _ [9, 10, 11, 12, 13, 14, 15, 16, 17, 18, 19, 20, 21, 22, 23, 24, 25, 26, 27, 28, 29, 30] (by decide +kernel) (by decide +kernel)
set_option maxRecDepth 20000 in
theorem gX9_fineStrict_X9_tableAt : GoodIn wsX9_fineStrict (wsV RX9 76 RX9 yX9_tableAt wsX9_tableAt) := goodIn_app (goodIn_of _ (by decide +kernel)) ggX9_fineStrict_X9_tableAt
theorem dX9_fineStrict_0 : decode cX9_fineStrict 0 = .ok (.iload_n 2, 1) := by decide +kernel
theorem dX9_fineStrict_1 : decode cX9_fineStrict 1 = .ok (.ifCond .eq 13, 3) := by decide +kernel
theorem dX9_fineStrict_4 : decode cX9_fineStrict 4 = .ok (.aload_n 0, 1) := by decide +kernel
theorem dX9_fineStrict_5 : decode cX9_fineStrict 5 = .ok (.getfield 7, 3) := by decide +kernel
theorem dX9_fineStrict_8 : decode cX9_fineStrict 8 = .ok (.iload_n 1, 1) := by decide +kernel
theorem dX9_fineStrict_9 : decode cX9_fineStrict 9 = .ok (.iaload, 1) := by decide +kernel
theorem dX9_fineStrict_10 : decode cX9_fineStrict 10 = .ok (.iconst 1, 1) := by decide +kernel
theorem dX9_fineStrict_11 : decode cX9_fineStrict 11 = .ok (.if_icmp .ge 7, 3) := by decide +kernel
theorem dX9_fineStrict_14 : decode cX9_fineStrict 14 = .ok (.iconst 0, 1) := by decide +kernel
theorem dX9_fineStrict_15 : decode cX9_fineStrict 15 = .ok (.goto 4, 3) := by decide +kernel
theorem dX9_fineStrict_18 : decode cX9_fineStrict 18 = .ok (.iconst 3, 1) := by decide +kernel
theorem dX9_fineStrict_19 : decode cX9_fineStrict 19 = .ok (.istore_n 3, 1) := by decide +kernel
theorem dX9_fineStrict_20 : decode cX9_fineStrict 20 = .ok (.iload_n 2, 1) := by decide +kernel
theorem dX9_fineStrict_21 : decode cX9_fineStrict 21 = .ok (.iconst 1, 1) := by decide +kernel
theorem dX9_fineStrict_22 : decode cX9_fineStrict 22 = .ok (.if_icmp .eq 13, 3) := by decide +kernel
theorem dX9_fineStrict_25 : decode cX9_fineStrict 25 = .ok (.aload_n 0, 1) := by decide +kernel
theorem dX9_fineStrict_26 : decode cX9_fineStrict 26 = .ok (.getfield 7, 3) := by decide +kernel
theorem dX9_fineStrict_29 : decode cX9_fineStrict 29 = .ok (.iload_n 1, 1) := by decide +kernel
theorem dX9_fineStrict_30 : decode cX9_fineStrict 30 = .ok (.iaload, 1) := by decide +kernel
theorem dX9_fineStrict_31 : decode cX9_fineStrict 31 = .ok (.iconst 2, 1) := by decide +kernel
theorem dX9_fineStrict_32 : decode cX9_fineStrict 32 = .ok (.if_icmp .ge 7, 3) := by decide +kernel
theorem dX9_fineStrict_35 : decode cX9_fineStrict 35 = .ok (.iconst 0, 1) := by decide +kernel
theorem dX9_fineStrict_36 : decode cX9_fineStrict 36 = .ok (.goto 4, 3) := by decide +kernel
theorem dX9_fineStrict_39 : decode cX9_fineStrict 39 = .ok (.iconst 3, 1) := by decide +kernel
theorem dX9_fineStrict_40 : decode cX9_fineStrict 40 = .ok (.istore 4, 2) := by decide +kernel
theorem dX9_fineStrict_42 : decode cX9_fineStrict 42 = .ok (.iload_n 2, 1) := by decide +kernel
theorem dX9_fineStrict_43 : decode cX9_fineStrict 43 = .ok (.iconst 2, 1) := by decide +kernel
theorem dX9_fineStrict_44 : decode cX9_fineStrict 44 = .ok (.if_icmp .eq 13, 3) := by decide +kernel
theorem dX9_fineStrict_47 : decode cX9_fineStrict 47 = .ok (.aload_n 0, 1) := by decide +kernel
theorem dX9_fineStrict_48 : decode cX9_fineStrict 48 = .ok (.getfield 7, 3) := by decide +kernel
theorem dX9_fineStrict_51 : decode cX9_fineStrict 51 = .ok (.iload_n 1, 1) := by decide +kernel
theorem dX9_fineStrict_52 : decode cX9_fineStrict 52 = .ok (.iaload, 1) := by decide +kernel
theorem dX9_fineStrict_53 : decode cX9_fineStrict 53 = .ok (.iconst 3, 1) := by decide +kernel
theorem dX9_fineStrict_54 : decode cX9_fineStrict 54 = .ok (.if_icmp .ge 7, 3) := by decide +kernel
theorem dX9_fineStrict_57 : decode cX9_fineStrict 57 = .ok (.iconst 0, 1) := by decide +kernel
theorem dX9_fineStrict_58 : decode cX9_fineStrict 58 = .ok (.goto 4, 3) := by decide +kernel
theorem dX9_fineStrict_61 : decode cX9_fineStrict 61 = .ok (.iconst 3, 1) := by decide +kernel
theorem dX9_fineStrict_62 : decode cX9_fineStrict 62 = .ok (.istore 5, 2) := by decide +kernel
theorem dX9_fineStrict_64 : decode cX9_fineStrict 64 = .ok (.aload_n 0, 1) := by decide +kernel
theorem dX9_fineStrict_65 : decode cX9_fineStrict 65 = .ok (.iconst 2, 1) := by decide +kernel
theorem dX9_fineStrict_66 : decode cX9_fineStrict 66 = .ok (.iload_n 1, 1) := by decide +kernel
theorem dX9_fineStrict_67 : decode cX9_fineStrict 67 = .ok (.iload_n 3, 1) := by decide +kernel
theorem dX9_fineStrict_68 : decode cX9_fineStrict 68 = .ok (.iload 4, 2) := by decide +kernel
theorem dX9_fineStrict_70 : decode cX9_fineStrict 70 = .ok (.iload 5, 2) := by decide +kernel
theorem dX9_fineStrict_72 : decode cX9_fineStrict 72 = .ok (.invokestatic 72, 3) := by decide +kernel
theorem dX9_fineStrict_75 : decode cX9_fineStrict 75 = .ok (.invokevirtual 76, 3) := by decide +kernel
theorem dX9_fineStrict_78 : decode cX9_fineStrict 78 = .ok (.ifCond .ne 7, 3) := by decide +kernel
theorem dX9_fineStrict_81 : decode cX9_fineStrict 81 = .ok (.iconst 1, 1) := by decide +kernel
theorem dX9_fineStrict_82 : decode cX9_fineStrict 82 = .ok (.goto 4, 3) := by decide +kernel
theorem dX9_fineStrict_85 : decode cX9_fineStrict 85 = .ok (.iconst 0, 1) := by decide +kernel
theorem dX9_fineStrict_86 : decode cX9_fineStrict 86 = .ok (.ireturn, 1) := by decide +kernel
set_option maxRecDepth 20000 in
theorem ggX9_roughStrict_X9_rowsOf : GoodIn wsX9_roughStrict wsX9_rowsOf := goodIn_r _ [5, 6, 19, 20, 21, 22, 23, 24, 25, 26, 27, 28, 29, 30, 31, 32, 33, 34, 35, 36, 37, 38] (by decide +kernel) (by decide +kernel)
set_option maxRecDepth 20000 in
theorem gX9_roughStrict_X9_rowsOf : GoodIn wsX9_roughStrict (wsV RX9 154 RX9 yX9_rowsOf wsX9_rowsOf) := goodIn_app (goodIn_of _ (by decide +kernel)) ggX9_roughStrict_X9_rowsOf
set_option maxRecDepth 20000 in
theorem ggX9_roughStrict_X9_roughAt : GoodIn wsX9_roughStrict wsX9_roughAt := goodIn_r _ [10, 11, 12, 4, 13, 14, 15, 16, 17, 18, 19, 20, 21, 22, 23, 24, 25, 26, 27, 28, 29, 30, 31, 32, 33, 34, 35, 36, 37, 38] (by decide +kernel) (by decide +kernel)
set_option maxRecDepth 20000 in
theorem gX9_roughStrict_X9_roughAt : GoodIn wsX9_roughStrict (wsV RX9 157 RX9 yX9_roughAt wsX9_roughAt) := goodIn_app (goodIn_of _ (by decide +kernel)) ggX9_roughStrict_X9_roughAt
theorem dX9_roughStrict_0 : decode cX9_roughStrict 0 = .ok (.aload_n 0, 1) := by decide +kernel
theorem dX9_roughStrict_1 : decode cX9_roughStrict 1 = .ok (.iload_n 1, 1) := by decide +kernel
theorem dX9_roughStrict_2 : decode cX9_roughStrict 2 = .ok (.aload_n 0, 1) := by decide +kernel
theorem dX9_roughStrict_3 : decode cX9_roughStrict 3 = .ok (.iload_n 1, 1) := by decide +kernel
theorem dX9_roughStrict_4 : decode cX9_roughStrict 4 = .ok (.invokevirtual 154, 3) := by decide +kernel
theorem dX9_roughStrict_7 : decode cX9_roughStrict 7 = .ok (.iconst 1, 1) := by decide +kernel
theorem dX9_roughStrict_8 : decode cX9_roughStrict 8 = .ok (.isub, 1) := by decide +kernel
theorem dX9_roughStrict_9 : decode cX9_roughStrict 9 = .ok (.iconst 1, 1) := by decide +kernel
theorem dX9_roughStrict_10 : decode cX9_roughStrict 10 = .ok (.iload_n 2, 1) := by decide +kernel
theorem dX9_roughStrict_11 : decode cX9_roughStrict 11 = .ok (.ishl, 1) := by decide +kernel
theorem dX9_roughStrict_12 : decode cX9_roughStrict 12 = .ok (.iconst (-1), 1) := by decide +kernel
theorem dX9_roughStrict_13 : decode cX9_roughStrict 13 = .ok (.ixor, 1) := by decide +kernel
theorem dX9_roughStrict_14 : decode cX9_roughStrict 14 = .ok (.iand, 1) := by decide +kernel
theorem dX9_roughStrict_15 : decode cX9_roughStrict 15 = .ok (.invokevirtual 157, 3) := by decide +kernel
theorem dX9_roughStrict_18 : decode cX9_roughStrict 18 = .ok (.ifCond .ne 7, 3) := by decide +kernel
theorem dX9_roughStrict_21 : decode cX9_roughStrict 21 = .ok (.iconst 1, 1) := by decide +kernel
theorem dX9_roughStrict_22 : decode cX9_roughStrict 22 = .ok (.goto 4, 3) := by decide +kernel
theorem dX9_roughStrict_25 : decode cX9_roughStrict 25 = .ok (.iconst 0, 1) := by decide +kernel
theorem dX9_roughStrict_26 : decode cX9_roughStrict 26 = .ok (.ireturn, 1) := by decide +kernel
theorem dX9_argument_0 : decode cX9_argument 0 = .ok (.iload_n 1, 1) := by decide +kernel
theorem dX9_argument_1 : decode cX9_argument 1 = .ok (.ifCond .ne 10, 3) := by decide +kernel
theorem dX9_argument_4 : decode cX9_argument 4 = .ok (.iload_n 0, 1) := by decide +kernel
theorem dX9_argument_5 : decode cX9_argument 5 = .ok (.bipush 25, 2) := by decide +kernel
theorem dX9_argument_7 : decode cX9_argument 7 = .ok (.idiv, 1) := by decide +kernel
theorem dX9_argument_8 : decode cX9_argument 8 = .ok (.goto 19, 3) := by decide +kernel
theorem dX9_argument_11 : decode cX9_argument 11 = .ok (.iload_n 1, 1) := by decide +kernel
theorem dX9_argument_12 : decode cX9_argument 12 = .ok (.iconst 1, 1) := by decide +kernel
theorem dX9_argument_13 : decode cX9_argument 13 = .ok (.if_icmp .ne 11, 3) := by decide +kernel
theorem dX9_argument_16 : decode cX9_argument 16 = .ok (.iload_n 0, 1) := by decide +kernel
theorem dX9_argument_17 : decode cX9_argument 17 = .ok (.iconst 5, 1) := by decide +kernel
theorem dX9_argument_18 : decode cX9_argument 18 = .ok (.idiv, 1) := by decide +kernel
theorem dX9_argument_19 : decode cX9_argument 19 = .ok (.iconst 5, 1) := by decide +kernel
theorem dX9_argument_20 : decode cX9_argument 20 = .ok (.irem, 1) := by decide +kernel
theorem dX9_argument_21 : decode cX9_argument 21 = .ok (.goto 6, 3) := by decide +kernel
theorem dX9_argument_24 : decode cX9_argument 24 = .ok (.iload_n 0, 1) := by decide +kernel
theorem dX9_argument_25 : decode cX9_argument 25 = .ok (.iconst 5, 1) := by decide +kernel
theorem dX9_argument_26 : decode cX9_argument 26 = .ok (.irem, 1) := by decide +kernel
theorem dX9_argument_27 : decode cX9_argument 27 = .ok (.ireturn, 1) := by decide +kernel
set_option maxRecDepth 20000 in
theorem ggX9_trulyStrict_X9_isRow : GoodIn wsX9_trulyStrict wsX9_isRow := goodIn_r _ [5, 6, 7, 8, 4, 9, 18, 19, 20, 21, 22, 23, 24, 25, 26, 27, 28, 29, 30, 31, 32, 33, 34, 35, 36, 37] (by decide +kernel) (by decide +kernel)
set_option maxRecDepth 20000 in
theorem gX9_trulyStrict_X9_isRow : GoodIn wsX9_trulyStrict (wsV RX9 110 RX9 yX9_isRow wsX9_isRow) := goodIn_app (goodIn_of _ (by decide +kernel)) ggX9_trulyStrict_X9_isRow
set_option maxRecDepth 20000 in
theorem ggX9_trulyStrict_X9_argument : GoodIn wsX9_trulyStrict wsX9_argument := goodIn_r _ [12] (by decide +kernel) (by decide +kernel)
set_option maxRecDepth 20000 in
theorem gX9_trulyStrict_X9_argument : GoodIn wsX9_trulyStrict (va_wsS RX9 163 yX9_argument wsX9_argument) := goodIn_app (goodIn_of _ (by decide +kernel)) ggX9_trulyStrict_X9_argument
set_option maxRecDepth 20000 in
theorem ggX9_trulyStrict_X9_tableAt : GoodIn wsX9_trulyStrict wsX9_tableAt := goodIn_r _ [16, 17, 18, 19, 20, 21, 22, 23, 24, 25, 26, 27, 28, 29, 30, 31, 32, 33, 34, 35, 36, 37] (by decide +kernel) (by decide +kernel)
set_option maxRecDepth 20000 in
theorem gX9_trulyStrict_X9_tableAt : GoodIn wsX9_trulyStrict (wsV RX9 76 RX9 yX9_tableAt wsX9_tableAt) := goodIn_app (goodIn_of _ (by decide +kernel)) ggX9_trulyStrict_X9_tableAt
theorem dX9_trulyStrict_0 : decode cX9_trulyStrict 0 = .ok (.iconst 1, 1) := by decide +kernel
theorem dX9_trulyStrict_1 : decode cX9_trulyStrict 1 = .ok (.istore_n 3, 1) := by decide +kernel
theorem dX9_trulyStrict_2 : decode cX9_trulyStrict 2 = .ok (.iconst 0, 1) := by decide +kernel
theorem dX9_trulyStrict_3 : decode cX9_trulyStrict 3 = .ok (.istore 4, 2) := by decide +kernel
theorem dX9_trulyStrict_5 : decode cX9_trulyStrict 5 = .ok (.iload 4, 2) := by decide +kernel
theorem dX9_trulyStrict_7 : decode cX9_trulyStrict 7 = .ok (.bipush 125, 2) := by decide +kernel
theorem dX9_trulyStrict_9 : decode cX9_trulyStrict 9 = .ok (.if_icmp .ge 77, 3) := by decide +kernel
theorem dX9_trulyStrict_12 : decode cX9_trulyStrict 12 = .ok (.aload_n 0, 1) := by decide +kernel
theorem dX9_trulyStrict_13 : decode cX9_trulyStrict 13 = .ok (.iload_n 1, 1) := by decide +kernel
theorem dX9_trulyStrict_14 : decode cX9_trulyStrict 14 = .ok (.iload 4, 2) := by decide +kernel
theorem dX9_trulyStrict_16 : decode cX9_trulyStrict 16 = .ok (.bipush 25, 2) := by decide +kernel
theorem dX9_trulyStrict_18 : decode cX9_trulyStrict 18 = .ok (.idiv, 1) := by decide +kernel
theorem dX9_trulyStrict_19 : decode cX9_trulyStrict 19 = .ok (.iload 4, 2) := by decide +kernel
theorem dX9_trulyStrict_21 : decode cX9_trulyStrict 21 = .ok (.iconst 5, 1) := by decide +kernel
theorem dX9_trulyStrict_22 : decode cX9_trulyStrict 22 = .ok (.idiv, 1) := by decide +kernel
theorem dX9_trulyStrict_23 : decode cX9_trulyStrict 23 = .ok (.iconst 5, 1) := by decide +kernel
theorem dX9_trulyStrict_24 : decode cX9_trulyStrict 24 = .ok (.irem, 1) := by decide +kernel
theorem dX9_trulyStrict_25 : decode cX9_trulyStrict 25 = .ok (.iload 4, 2) := by decide +kernel
theorem dX9_trulyStrict_27 : decode cX9_trulyStrict 27 = .ok (.iconst 5, 1) := by decide +kernel
theorem dX9_trulyStrict_28 : decode cX9_trulyStrict 28 = .ok (.irem, 1) := by decide +kernel
theorem dX9_trulyStrict_29 : decode cX9_trulyStrict 29 = .ok (.iconst 5, 1) := by decide +kernel
theorem dX9_trulyStrict_30 : decode cX9_trulyStrict 30 = .ok (.invokevirtual 110, 3) := by decide +kernel
theorem dX9_trulyStrict_33 : decode cX9_trulyStrict 33 = .ok (.ifCond .eq 17, 3) := by decide +kernel
theorem dX9_trulyStrict_36 : decode cX9_trulyStrict 36 = .ok (.iload 4, 2) := by decide +kernel
theorem dX9_trulyStrict_38 : decode cX9_trulyStrict 38 = .ok (.iload_n 2, 1) := by decide +kernel
theorem dX9_trulyStrict_39 : decode cX9_trulyStrict 39 = .ok (.invokestatic 163, 3) := by decide +kernel
theorem dX9_trulyStrict_42 : decode cX9_trulyStrict 42 = .ok (.iconst 4, 1) := by decide +kernel
theorem dX9_trulyStrict_43 : decode cX9_trulyStrict 43 = .ok (.if_icmp .ne 7, 3) := by decide +kernel
theorem dX9_trulyStrict_46 : decode cX9_trulyStrict 46 = .ok (.iconst 1, 1) := by decide +kernel
theorem dX9_trulyStrict_47 : decode cX9_trulyStrict 47 = .ok (.goto 4, 3) := by decide +kernel
theorem dX9_trulyStrict_50 : decode cX9_trulyStrict 50 = .ok (.iconst 0, 1) := by decide +kernel
theorem dX9_trulyStrict_51 : decode cX9_trulyStrict 51 = .ok (.istore 5, 2) := by decide +kernel
theorem dX9_trulyStrict_53 : decode cX9_trulyStrict 53 = .ok (.iload_n 3, 1) := by decide +kernel
theorem dX9_trulyStrict_54 : decode cX9_trulyStrict 54 = .ok (.ifCond .eq 24, 3) := by decide +kernel
theorem dX9_trulyStrict_57 : decode cX9_trulyStrict 57 = .ok (.iload 5, 2) := by decide +kernel
theorem dX9_trulyStrict_59 : decode cX9_trulyStrict 59 = .ok (.ifCond .eq 15, 3) := by decide +kernel
theorem dX9_trulyStrict_62 : decode cX9_trulyStrict 62 = .ok (.aload_n 0, 1) := by decide +kernel
theorem dX9_trulyStrict_63 : decode cX9_trulyStrict 63 = .ok (.iconst 0, 1) := by decide +kernel
theorem dX9_trulyStrict_64 : decode cX9_trulyStrict 64 = .ok (.iload_n 1, 1) := by decide +kernel
theorem dX9_trulyStrict_65 : decode cX9_trulyStrict 65 = .ok (.iload 4, 2) := by decide +kernel
theorem dX9_trulyStrict_67 : decode cX9_trulyStrict 67 = .ok (.invokevirtual 76, 3) := by decide +kernel
theorem dX9_trulyStrict_70 : decode cX9_trulyStrict 70 = .ok (.iconst 4, 1) := by decide +kernel
theorem dX9_trulyStrict_71 : decode cX9_trulyStrict 71 = .ok (.if_icmp .ne 7, 3) := by decide +kernel
theorem dX9_trulyStrict_74 : decode cX9_trulyStrict 74 = .ok (.iconst 1, 1) := by decide +kernel
theorem dX9_trulyStrict_75 : decode cX9_trulyStrict 75 = .ok (.goto 4, 3) := by decide +kernel
theorem dX9_trulyStrict_78 : decode cX9_trulyStrict 78 = .ok (.iconst 0, 1) := by decide +kernel
theorem dX9_trulyStrict_79 : decode cX9_trulyStrict 79 = .ok (.istore_n 3, 1) := by decide +kernel
theorem dX9_trulyStrict_80 : decode cX9_trulyStrict 80 = .ok (.iinc 4 1, 3) := by decide +kernel
theorem dX9_trulyStrict_83 : decode cX9_trulyStrict 83 = .ok (.goto (-78), 3) := by decide +kernel
theorem dX9_trulyStrict_86 : decode cX9_trulyStrict 86 = .ok (.iload_n 3, 1) := by decide +kernel
theorem dX9_trulyStrict_87 : decode cX9_trulyStrict 87 = .ok (.ifCond .eq 7, 3) := by decide +kernel
theorem dX9_trulyStrict_90 : decode cX9_trulyStrict 90 = .ok (.iconst 1, 1) := by decide +kernel
theorem dX9_trulyStrict_91 : decode cX9_trulyStrict 91 = .ok (.goto 4, 3) := by decide +kernel
theorem dX9_trulyStrict_94 : decode cX9_trulyStrict 94 = .ok (.iconst 0, 1) := by decide +kernel
theorem dX9_trulyStrict_95 : decode cX9_trulyStrict 95 = .ok (.ireturn, 1) := by decide +kernel
set_option maxRecDepth 20000 in
theorem ggX9_strictSet_X9_roughStrict : GoodIn wsX9_strictSet wsX9_roughStrict := goodIn_r _ [6, 7, 8, 9, 5, 10, 1, 11, 12, 13, 14, 15, 16, 17, 18, 19, 20, 21, 22, 41, 42, 43, 44, 45, 46, 47, 48, 49, 50, 51, 52, 53, 54, 55, 56, 57, 58, 59, 60] (by decide +kernel) (by decide +kernel)
set_option maxRecDepth 20000 in
theorem gX9_strictSet_X9_roughStrict : GoodIn wsX9_strictSet (wsV RX9 166 RX9 yX9_roughStrict wsX9_roughStrict) := goodIn_app (goodIn_of _ (by decide +kernel)) ggX9_strictSet_X9_roughStrict
set_option maxRecDepth 20000 in
theorem ggX9_strictSet_X9_fineStrict : GoodIn wsX9_strictSet wsX9_fineStrict := goodIn_r _ [26, 1, 15, 16, 5, 17, 18, 19, 20, 21, 22, 41, 42, 43, 44, 45, 46, 47, 48, 49, 50, 51, 52, 53, 54, 55, 56, 57, 58, 59, 60] (by decide +kernel) (by decide +kernel)
set_option maxRecDepth 20000 in
theorem gX9_strictSet_X9_fineStrict : GoodIn wsX9_strictSet (wsV RX9 169 RX9 yX9_fineStrict wsX9_fineStrict) := goodIn_app (goodIn_of _ (by decide +kernel)) ggX9_strictSet_X9_fineStrict
set_option maxRecDepth 20000 in
theorem ggX9_strictSet_X9_trulyStrict : GoodIn wsX9_strictSet wsX9_trulyStrict := goodIn_r _ [30, 31, 32, 33, 5, 34, 1, 35, 36, 37, 38, 39, 40, 18, 19, 20, 21, 22, 41, 42, 43, 44, 45, 46, 47, 48, 49, 50, 51, 52, 53, 54, 55, 56, 57, 58, 59, 60] (by decide +kernel) (by decide +kernel)
set_option maxRecDepth 20000 in
theorem gX9_strictSet_X9_trulyStrict : GoodIn wsX9_strictSet (wsV RX9 172 RX9 yX9_trulyStrict wsX9_trulyStrict) := goodIn_app (goodIn_of _ (by decide +kernel)) ggX9_strictSet_X9_trulyStrict
theorem dX9_strictSet_0 : decode cX9_strictSet 0 = .ok (.iconst 0, 1) := by decide +kernel
theorem dX9_strictSet_1 : decode cX9_strictSet 1 = .ok (.istore_n 3, 1) := by decide +kernel
theorem dX9_strictSet_2 : decode cX9_strictSet 2 = .ok (.iconst 0, 1) := by decide +kernel
theorem dX9_strictSet_3 : decode cX9_strictSet 3 = .ok (.istore 4, 2) := by decide +kernel
theorem dX9_strictSet_5 : decode cX9_strictSet 5 = .ok (.iload 4, 2) := by decide +kernel
theorem dX9_strictSet_7 : decode cX9_strictSet 7 = .ok (.aload_n 0, 1) := by decide +kernel
theorem dX9_strictSet_8 : decode cX9_strictSet 8 = .ok (.getfield 7, 3) := by decide +kernel
theorem dX9_strictSet_11 : decode cX9_strictSet 11 = .ok (.iload_n 1, 1) := by decide +kernel
theorem dX9_strictSet_12 : decode cX9_strictSet 12 = .ok (.iaload, 1) := by decide +kernel
theorem dX9_strictSet_13 : decode cX9_strictSet 13 = .ok (.if_icmp .ge 55, 3) := by decide +kernel
theorem dX9_strictSet_16 : decode cX9_strictSet 16 = .ok (.iload_n 2, 1) := by decide +kernel
theorem dX9_strictSet_17 : decode cX9_strictSet 17 = .ok (.ifCond .ne 13, 3) := by decide +kernel
theorem dX9_strictSet_20 : decode cX9_strictSet 20 = .ok (.aload_n 0, 1) := by decide +kernel
theorem dX9_strictSet_21 : decode cX9_strictSet 21 = .ok (.iload_n 1, 1) := by decide +kernel
theorem dX9_strictSet_22 : decode cX9_strictSet 22 = .ok (.iload 4, 2) := by decide +kernel
theorem dX9_strictSet_24 : decode cX9_strictSet 24 = .ok (.invokevirtual 166, 3) := by decide +kernel
theorem dX9_strictSet_27 : decode cX9_strictSet 27 = .ok (.goto 25, 3) := by decide +kernel
theorem dX9_strictSet_30 : decode cX9_strictSet 30 = .ok (.iload_n 2, 1) := by decide +kernel
theorem dX9_strictSet_31 : decode cX9_strictSet 31 = .ok (.iconst 1, 1) := by decide +kernel
theorem dX9_strictSet_32 : decode cX9_strictSet 32 = .ok (.if_icmp .ne 13, 3) := by decide +kernel
theorem dX9_strictSet_35 : decode cX9_strictSet 35 = .ok (.aload_n 0, 1) := by decide +kernel
theorem dX9_strictSet_36 : decode cX9_strictSet 36 = .ok (.iload_n 1, 1) := by decide +kernel
theorem dX9_strictSet_37 : decode cX9_strictSet 37 = .ok (.iload 4, 2) := by decide +kernel
theorem dX9_strictSet_39 : decode cX9_strictSet 39 = .ok (.invokevirtual 169, 3) := by decide +kernel
theorem dX9_strictSet_42 : decode cX9_strictSet 42 = .ok (.goto 10, 3) := by decide +kernel
theorem dX9_strictSet_45 : decode cX9_strictSet 45 = .ok (.aload_n 0, 1) := by decide +kernel
theorem dX9_strictSet_46 : decode cX9_strictSet 46 = .ok (.iload_n 1, 1) := by decide +kernel
theorem dX9_strictSet_47 : decode cX9_strictSet 47 = .ok (.iload 4, 2) := by decide +kernel
theorem dX9_strictSet_49 : decode cX9_strictSet 49 = .ok (.invokevirtual 172, 3) := by decide +kernel
theorem dX9_strictSet_52 : decode cX9_strictSet 52 = .ok (.istore 5, 2) := by decide +kernel
theorem dX9_strictSet_54 : decode cX9_strictSet 54 = .ok (.iload_n 3, 1) := by decide +kernel
theorem dX9_strictSet_55 : decode cX9_strictSet 55 = .ok (.iload 5, 2) := by decide +kernel
theorem dX9_strictSet_57 : decode cX9_strictSet 57 = .ok (.iload 4, 2) := by decide +kernel
theorem dX9_strictSet_59 : decode cX9_strictSet 59 = .ok (.ishl, 1) := by decide +kernel
theorem dX9_strictSet_60 : decode cX9_strictSet 60 = .ok (.ior, 1) := by decide +kernel
theorem dX9_strictSet_61 : decode cX9_strictSet 61 = .ok (.istore_n 3, 1) := by decide +kernel
theorem dX9_strictSet_62 : decode cX9_strictSet 62 = .ok (.iinc 4 1, 3) := by decide +kernel
theorem dX9_strictSet_65 : decode cX9_strictSet 65 = .ok (.goto (-60), 3) := by decide +kernel
theorem dX9_strictSet_68 : decode cX9_strictSet 68 = .ok (.iload_n 3, 1) := by decide +kernel
theorem dX9_strictSet_69 : decode cX9_strictSet 69 = .ok (.ireturn, 1) := by decide +kernel
set_option maxRecDepth 20000 in
theorem ggX9_strict_X9_isFunction : GoodIn wsX9_strict wsX9_isFunction := goodIn_r _ [5, 6, 7, 8, 4, 9, 106, 107, 108, 109, 110, 111, 112, 113, 114, 115, 116, 117, 118, 119, 120, 121, 122, 123, 124, 125] (by decide +kernel) (by decide +kernel)
set_option maxRecDepth 20000 in
theorem gX9_strict_X9_isFunction : GoodIn wsX9_strict (wsV RX9 129 RX9 yX9_isFunction wsX9_isFunction) := goodIn_app (goodIn_of _ (by decide +kernel)) ggX9_strict_X9_isFunction
set_option maxRecDepth 20000 in
theorem ggX9_strict_X9_in : GoodIn wsX9_strict wsX9_in := goodIn_r _ [9] (by decide +kernel) (by decide +kernel)
set_option maxRecDepth 20000 in
theorem gX9_strict_X9_in : GoodIn wsX9_strict (va_wsS RX9 61 yX9_in wsX9_in) := goodIn_app (goodIn_of _ (by decide +kernel)) ggX9_strict_X9_in
set_option maxRecDepth 20000 in
theorem ggX9_strict_X9_setAll : GoodIn wsX9_strict wsX9_setAll := goodIn_r _ [13, 14, 15, 16, 17, 4, 18, 19, 20, 21, 22, 23, 24, 25, 26, 27, 6, 28, 29, 30, 31, 32, 33, 34, 35, 36, 7, 8, 9, 37, 38, 39, 40, 41, 42, 43, 44, 45, 46, 47, 48, 49, 50, 51, 52, 53, 54, 55, 56, 57, 58, 59, 60, 61, 62, 63, 64, 65, 66, 67, 68, 69, 70, 71, 72, 73, 74, 75, 76, 77, 78, 106, 107, 108, 109, 110, 111, 112, 113, 114, 115, 116, 117, 118, 119, 120, 121, 122, 123, 124, 125] (by decide +kernel) (by decide +kernel)
set_option maxRecDepth 20000 in
theorem gX9_strict_X9_setAll : GoodIn wsX9_strict (wsV RX9 151 RX9 yX9_setAll wsX9_setAll) := goodIn_app (goodIn_of _ (by decide +kernel)) ggX9_strict_X9_setAll
set_option maxRecDepth 20000 in
theorem ggX9_strict_X9_strictSet : GoodIn wsX9_strict wsX9_strictSet := goodIn_r _ [82, 36, 83, 84, 85, 4, 86, 87, 88, 89, 90, 91, 92, 93, 94, 63, 64, 65, 66, 67, 68, 69, 19, 95, 96, 97, 98, 99, 100, 101, 102, 32, 33, 34, 35, 7, 8, 9, 103, 104, 105, 106, 107, 108, 109, 110, 111, 112, 113, 114, 115, 116, 117, 118, 119, 120, 121, 122, 123, 124, 125] (by decide +kernel) (by decide +kernel)
set_option maxRecDepth 20000 in
theorem gX9_strict_X9_strictSet : GoodIn wsX9_strict (wsV RX9 175 RX9 yX9_strictSet wsX9_strictSet) := goodIn_app (goodIn_of _ (by decide +kernel)) ggX9_strict_X9_strictSet
theorem dX9_strict_0 : decode cX9_strict 0 = .ok (.aload_n 0, 1) := by decide +kernel
theorem dX9_strict_1 : decode cX9_strict 1 = .ok (.iload_n 1, 1) := by decide +kernel
theorem dX9_strict_2 : decode cX9_strict 2 = .ok (.invokevirtual 129, 3) := by decide +kernel
theorem dX9_strict_5 : decode cX9_strict 5 = .ok (.ifCond .eq 12, 3) := by decide +kernel
theorem dX9_strict_8 : decode cX9_strict 8 = .ok (.iload_n 2, 1) := by decide +kernel
theorem dX9_strict_9 : decode cX9_strict 9 = .ok (.iconst 0, 1) := by decide +kernel
theorem dX9_strict_10 : decode cX9_strict 10 = .ok (.iconst 2, 1) := by decide +kernel
theorem dX9_strict_11 : decode cX9_strict 11 = .ok (.invokestatic 61, 3) := by decide +kernel
theorem dX9_strict_14 : decode cX9_strict 14 = .ok (.ifCond .ne 5, 3) := by decide +kernel
theorem dX9_strict_17 : decode cX9_strict 17 = .ok (.iconst (-1), 1) := by decide +kernel
theorem dX9_strict_18 : decode cX9_strict 18 = .ok (.ireturn, 1) := by decide +kernel
theorem dX9_strict_19 : decode cX9_strict 19 = .ok (.aload_n 0, 1) := by decide +kernel
theorem dX9_strict_20 : decode cX9_strict 20 = .ok (.invokevirtual 151, 3) := by decide +kernel
theorem dX9_strict_23 : decode cX9_strict 23 = .ok (.aload_n 0, 1) := by decide +kernel
theorem dX9_strict_24 : decode cX9_strict 24 = .ok (.iload_n 1, 1) := by decide +kernel
theorem dX9_strict_25 : decode cX9_strict 25 = .ok (.iload_n 2, 1) := by decide +kernel
theorem dX9_strict_26 : decode cX9_strict 26 = .ok (.invokevirtual 175, 3) := by decide +kernel
theorem dX9_strict_29 : decode cX9_strict 29 = .ok (.ireturn, 1) := by decide +kernel
theorem dX9_bits_0 : decode cX9_bits 0 = .ok (.iload_n 0, 1) := by decide +kernel
theorem dX9_bits_1 : decode cX9_bits 1 = .ok (.iconst 1, 1) := by decide +kernel
theorem dX9_bits_2 : decode cX9_bits 2 = .ok (.iand, 1) := by decide +kernel
theorem dX9_bits_3 : decode cX9_bits 3 = .ok (.iload_n 0, 1) := by decide +kernel
theorem dX9_bits_4 : decode cX9_bits 4 = .ok (.iconst 1, 1) := by decide +kernel
theorem dX9_bits_5 : decode cX9_bits 5 = .ok (.ishr, 1) := by decide +kernel
theorem dX9_bits_6 : decode cX9_bits 6 = .ok (.iconst 1, 1) := by decide +kernel
theorem dX9_bits_7 : decode cX9_bits 7 = .ok (.iand, 1) := by decide +kernel
theorem dX9_bits_8 : decode cX9_bits 8 = .ok (.iadd, 1) := by decide +kernel
theorem dX9_bits_9 : decode cX9_bits 9 = .ok (.iload_n 0, 1) := by decide +kernel
theorem dX9_bits_10 : decode cX9_bits 10 = .ok (.iconst 2, 1) := by decide +kernel
theorem dX9_bits_11 : decode cX9_bits 11 = .ok (.ishr, 1) := by decide +kernel
theorem dX9_bits_12 : decode cX9_bits 12 = .ok (.iconst 1, 1) := by decide +kernel
theorem dX9_bits_13 : decode cX9_bits 13 = .ok (.iand, 1) := by decide +kernel
theorem dX9_bits_14 : decode cX9_bits 14 = .ok (.iadd, 1) := by decide +kernel
theorem dX9_bits_15 : decode cX9_bits 15 = .ok (.ireturn, 1) := by decide +kernel
set_option maxRecDepth 20000 in
theorem ggX9_early_X9_isFunction : GoodIn wsX9_early wsX9_isFunction := goodIn_r _ [8, 9, 10, 11, 7, 12, 109, 110, 111, 112, 113, 114, 115, 116, 117, 118, 119, 120, 121, 122, 123, 124, 125, 126, 127, 128] (by decide +kernel) (by decide +kernel)
set_option maxRecDepth 20000 in
theorem gX9_early_X9_isFunction : GoodIn wsX9_early (wsV RX9 129 RX9 yX9_isFunction wsX9_isFunction) := goodIn_app (goodIn_of _ (by decide +kernel)) ggX9_early_X9_isFunction
set_option maxRecDepth 20000 in
theorem ggX9_early_X9_in : GoodIn wsX9_early wsX9_in := goodIn_r _ [12] (by decide +kernel) (by decide +kernel)
set_option maxRecDepth 20000 in
theorem gX9_early_X9_in : GoodIn wsX9_early (va_wsS RX9 61 yX9_in wsX9_in) := goodIn_app (goodIn_of _ (by decide +kernel)) ggX9_early_X9_in
set_option maxRecDepth 20000 in
theorem ggX9_early_X9_setAll : GoodIn wsX9_early wsX9_setAll := goodIn_r _ [16, 17, 18, 19, 20, 7, 21, 22, 23, 24, 25, 26, 27, 28, 29, 30, 9, 31, 32, 33, 34, 35, 36, 37, 38, 3, 10, 11, 12, 39, 40, 41, 42, 43, 44, 45, 46, 47, 48, 49, 50, 1, 2, 51, 52, 53, 54, 55, 56, 57, 58, 59, 60, 61, 62, 63, 64, 65, 66, 67, 68, 69, 70, 71, 72, 73, 74, 75, 76, 77, 78, 109, 110, 111, 112, 113, 114, 115, 116, 117, 118, 119, 120, 121, 122, 123, 124, 125, 126, 127, 128] (by decide +kernel) (by decide +kernel)
set_option maxRecDepth 20000 in
theorem gX9_early_X9_setAll : GoodIn wsX9_early (wsV RX9 151 RX9 yX9_setAll wsX9_setAll) := goodIn_app (goodIn_of _ (by decide +kernel)) ggX9_early_X9_setAll
set_option maxRecDepth 20000 in
theorem ggX9_early_X9_strictSet : GoodIn wsX9_early wsX9_strictSet := goodIn_r _ [82, 3, 83, 84, 85, 7, 86, 87, 88, 89, 90, 91, 92, 93, 94, 63, 64, 65, 66, 67, 68, 69, 22, 95, 96, 97, 98, 99, 100, 101, 102, 35, 36, 37, 38, 10, 11, 12, 103, 104, 105, 109, 110, 111, 112, 113, 114, 115, 116, 117, 118, 119, 120, 121, 122, 123, 124, 125, 126, 127, 128] (by decide +kernel) (by decide +kernel)
set_option maxRecDepth 20000 in
theorem gX9_early_X9_strictSet : GoodIn wsX9_early (wsV RX9 175 RX9 yX9_strictSet wsX9_strictSet) := goodIn_app (goodIn_of _ (by decide +kernel)) ggX9_early_X9_strictSet
set_option maxRecDepth 20000 in
theorem ggX9_early_X9_bits : GoodIn wsX9_early wsX9_bits := goodIn_r _ [108] (by decide +kernel) (by decide +kernel)
set_option maxRecDepth 20000 in
theorem gX9_early_X9_bits : GoodIn wsX9_early (va_wsS RX9 178 yX9_bits wsX9_bits) := goodIn_app (goodIn_of _ (by decide +kernel)) ggX9_early_X9_bits
theorem dX9_early_0 : decode cX9_early 0 = .ok (.aload_n 0, 1) := by decide +kernel
theorem dX9_early_1 : decode cX9_early 1 = .ok (.iload_n 1, 1) := by decide +kernel
theorem dX9_early_2 : decode cX9_early 2 = .ok (.invokevirtual 129, 3) := by decide +kernel
theorem dX9_early_5 : decode cX9_early 5 = .ok (.ifCond .eq 12, 3) := by decide +kernel
theorem dX9_early_8 : decode cX9_early 8 = .ok (.iload_n 2, 1) := by decide +kernel
theorem dX9_early_9 : decode cX9_early 9 = .ok (.iconst 0, 1) := by decide +kernel
theorem dX9_early_10 : decode cX9_early 10 = .ok (.iconst 3, 1) := by decide +kernel
theorem dX9_early_11 : decode cX9_early 11 = .ok (.invokestatic 61, 3) := by decide +kernel
theorem dX9_early_14 : decode cX9_early 14 = .ok (.ifCond .ne 5, 3) := by decide +kernel
theorem dX9_early_17 : decode cX9_early 17 = .ok (.iconst (-1), 1) := by decide +kernel
theorem dX9_early_18 : decode cX9_early 18 = .ok (.ireturn, 1) := by decide +kernel
theorem dX9_early_19 : decode cX9_early 19 = .ok (.aload_n 0, 1) := by decide +kernel
theorem dX9_early_20 : decode cX9_early 20 = .ok (.invokevirtual 151, 3) := by decide +kernel
theorem dX9_early_23 : decode cX9_early 23 = .ok (.iconst 0, 1) := by decide +kernel
theorem dX9_early_24 : decode cX9_early 24 = .ok (.istore_n 3, 1) := by decide +kernel
theorem dX9_early_25 : decode cX9_early 25 = .ok (.iconst 0, 1) := by decide +kernel
theorem dX9_early_26 : decode cX9_early 26 = .ok (.istore 4, 2) := by decide +kernel
theorem dX9_early_28 : decode cX9_early 28 = .ok (.iload 4, 2) := by decide +kernel
theorem dX9_early_30 : decode cX9_early 30 = .ok (.aload_n 0, 1) := by decide +kernel
theorem dX9_early_31 : decode cX9_early 31 = .ok (.getfield 16, 3) := by decide +kernel
theorem dX9_early_34 : decode cX9_early 34 = .ok (.iload_n 1, 1) := by decide +kernel
theorem dX9_early_35 : decode cX9_early 35 = .ok (.iaload, 1) := by decide +kernel
theorem dX9_early_36 : decode cX9_early 36 = .ok (.if_icmp .ge 63, 3) := by decide +kernel
theorem dX9_early_39 : decode cX9_early 39 = .ok (.aload_n 0, 1) := by decide +kernel
theorem dX9_early_40 : decode cX9_early 40 = .ok (.getfield 19, 3) := by decide +kernel
theorem dX9_early_43 : decode cX9_early 43 = .ok (.bipush 24, 2) := by decide +kernel
theorem dX9_early_45 : decode cX9_early 45 = .ok (.iload_n 1, 1) := by decide +kernel
theorem dX9_early_46 : decode cX9_early 46 = .ok (.imul, 1) := by decide +kernel
theorem dX9_early_47 : decode cX9_early 47 = .ok (.iload 4, 2) := by decide +kernel
theorem dX9_early_49 : decode cX9_early 49 = .ok (.iadd, 1) := by decide +kernel
theorem dX9_early_50 : decode cX9_early 50 = .ok (.iaload, 1) := by decide +kernel
theorem dX9_early_51 : decode cX9_early 51 = .ok (.bipush 48, 2) := by decide +kernel
theorem dX9_early_53 : decode cX9_early 53 = .ok (.isub, 1) := by decide +kernel
theorem dX9_early_54 : decode cX9_early 54 = .ok (.istore 5, 2) := by decide +kernel
theorem dX9_early_56 : decode cX9_early 56 = .ok (.aload_n 0, 1) := by decide +kernel
theorem dX9_early_57 : decode cX9_early 57 = .ok (.iload 5, 2) := by decide +kernel
theorem dX9_early_59 : decode cX9_early 59 = .ok (.invokevirtual 129, 3) := by decide +kernel
theorem dX9_early_62 : decode cX9_early 62 = .ok (.ifCond .eq 31, 3) := by decide +kernel
theorem dX9_early_65 : decode cX9_early 65 = .ok (.iload_n 3, 1) := by decide +kernel
theorem dX9_early_66 : decode cX9_early 66 = .ok (.iload_n 2, 1) := by decide +kernel
theorem dX9_early_67 : decode cX9_early 67 = .ok (.iconst 3, 1) := by decide +kernel
theorem dX9_early_68 : decode cX9_early 68 = .ok (.if_icmp .ne 13, 3) := by decide +kernel
theorem dX9_early_71 : decode cX9_early 71 = .ok (.aload_n 0, 1) := by decide +kernel
theorem dX9_early_72 : decode cX9_early 72 = .ok (.getfield 7, 3) := by decide +kernel
theorem dX9_early_75 : decode cX9_early 75 = .ok (.iload 5, 2) := by decide +kernel
theorem dX9_early_77 : decode cX9_early 77 = .ok (.iaload, 1) := by decide +kernel
theorem dX9_early_78 : decode cX9_early 78 = .ok (.goto 13, 3) := by decide +kernel
theorem dX9_early_81 : decode cX9_early 81 = .ok (.aload_n 0, 1) := by decide +kernel
theorem dX9_early_82 : decode cX9_early 82 = .ok (.iload 5, 2) := by decide +kernel
theorem dX9_early_84 : decode cX9_early 84 = .ok (.iload_n 2, 1) := by decide +kernel
theorem dX9_early_85 : decode cX9_early 85 = .ok (.invokevirtual 175, 3) := by decide +kernel
theorem dX9_early_88 : decode cX9_early 88 = .ok (.invokestatic 178, 3) := by decide +kernel
theorem dX9_early_91 : decode cX9_early 91 = .ok (.iadd, 1) := by decide +kernel
theorem dX9_early_92 : decode cX9_early 92 = .ok (.istore_n 3, 1) := by decide +kernel
theorem dX9_early_93 : decode cX9_early 93 = .ok (.iinc 4 1, 3) := by decide +kernel
theorem dX9_early_96 : decode cX9_early 96 = .ok (.goto (-68), 3) := by decide +kernel
theorem dX9_early_99 : decode cX9_early 99 = .ok (.iload_n 3, 1) := by decide +kernel
theorem dX9_early_100 : decode cX9_early 100 = .ok (.ireturn, 1) := by decide +kernel
set_option maxRecDepth 20000 in
theorem ggX9_same_X9_isFunction : GoodIn wsX9_same wsX9_isFunction := goodIn_r _ [6, 7, 8, 9, 5, 10, 79, 80, 81, 82, 83, 84, 85, 86, 87, 88, 89, 90, 91, 92, 93, 94, 95, 96, 97, 98] (by decide +kernel) (by decide +kernel)
set_option maxRecDepth 20000 in
theorem gX9_same_X9_isFunction : GoodIn wsX9_same (wsV RX9 129 RX9 yX9_isFunction wsX9_isFunction) := goodIn_app (goodIn_of _ (by decide +kernel)) ggX9_same_X9_isFunction
set_option maxRecDepth 20000 in
theorem ggX9_same_X9_setAll : GoodIn wsX9_same wsX9_setAll := goodIn_r _ [14, 15, 16, 17, 18, 5, 19, 20, 21, 22, 23, 24, 25, 26, 27, 28, 7, 29, 30, 31, 32, 33, 34, 35, 36, 1, 8, 9, 10, 37, 38, 39, 40, 41, 42, 43, 44, 45, 46, 47, 48, 49, 50, 51, 52, 53, 54, 55, 56, 57, 58, 59, 60, 61, 62, 63, 64, 65, 66, 67, 68, 69, 70, 71, 72, 73, 74, 75, 76, 77, 78, 79, 80, 81, 82, 83, 84, 85, 86, 87, 88, 89, 90, 91, 92, 93, 94, 95, 96, 97, 98] (by decide +kernel) (by decide +kernel)
set_option maxRecDepth 20000 in
theorem gX9_same_X9_setAll : GoodIn wsX9_same (wsV RX9 151 RX9 yX9_setAll wsX9_setAll) := goodIn_app (goodIn_of _ (by decide +kernel)) ggX9_same_X9_setAll
set_option maxRecDepth 20000 in
theorem ggX9_same_X9_tableAt : GoodIn wsX9_same wsX9_tableAt := goodIn_r _ [69, 20, 79, 80, 81, 82, 83, 84, 85, 86, 87, 88, 89, 90, 91, 92, 93, 94, 95, 96, 97, 98] (by decide +kernel) (by decide +kernel)
set_option maxRecDepth 20000 in
theorem gX9_same_X9_tableAt : GoodIn wsX9_same (wsV RX9 76 RX9 yX9_tableAt wsX9_tableAt) := goodIn_app (goodIn_of _ (by decide +kernel)) ggX9_same_X9_tableAt
theorem dX9_same_0 : decode cX9_same 0 = .ok (.aload_n 0, 1) := by decide +kernel
theorem dX9_same_1 : decode cX9_same 1 = .ok (.iload_n 1, 1) := by decide +kernel
theorem dX9_same_2 : decode cX9_same 2 = .ok (.invokevirtual 129, 3) := by decide +kernel
theorem dX9_same_5 : decode cX9_same 5 = .ok (.ifCond .eq 11, 3) := by decide +kernel
theorem dX9_same_8 : decode cX9_same 8 = .ok (.aload_n 0, 1) := by decide +kernel
theorem dX9_same_9 : decode cX9_same 9 = .ok (.iload_n 2, 1) := by decide +kernel
theorem dX9_same_10 : decode cX9_same 10 = .ok (.invokevirtual 129, 3) := by decide +kernel
theorem dX9_same_13 : decode cX9_same 13 = .ok (.ifCond .ne 5, 3) := by decide +kernel
theorem dX9_same_16 : decode cX9_same 16 = .ok (.iconst (-1), 1) := by decide +kernel
theorem dX9_same_17 : decode cX9_same 17 = .ok (.ireturn, 1) := by decide +kernel
theorem dX9_same_18 : decode cX9_same 18 = .ok (.aload_n 0, 1) := by decide +kernel
theorem dX9_same_19 : decode cX9_same 19 = .ok (.invokevirtual 151, 3) := by decide +kernel
theorem dX9_same_22 : decode cX9_same 22 = .ok (.aload_n 0, 1) := by decide +kernel
theorem dX9_same_23 : decode cX9_same 23 = .ok (.getfield 7, 3) := by decide +kernel
theorem dX9_same_26 : decode cX9_same 26 = .ok (.iload_n 1, 1) := by decide +kernel
theorem dX9_same_27 : decode cX9_same 27 = .ok (.iaload, 1) := by decide +kernel
theorem dX9_same_28 : decode cX9_same 28 = .ok (.aload_n 0, 1) := by decide +kernel
theorem dX9_same_29 : decode cX9_same 29 = .ok (.getfield 7, 3) := by decide +kernel
theorem dX9_same_32 : decode cX9_same 32 = .ok (.iload_n 2, 1) := by decide +kernel
theorem dX9_same_33 : decode cX9_same 33 = .ok (.iaload, 1) := by decide +kernel
theorem dX9_same_34 : decode cX9_same 34 = .ok (.if_icmp .ne 7, 3) := by decide +kernel
theorem dX9_same_37 : decode cX9_same 37 = .ok (.iconst 1, 1) := by decide +kernel
theorem dX9_same_38 : decode cX9_same 38 = .ok (.goto 4, 3) := by decide +kernel
theorem dX9_same_41 : decode cX9_same 41 = .ok (.iconst 0, 1) := by decide +kernel
theorem dX9_same_42 : decode cX9_same 42 = .ok (.istore_n 3, 1) := by decide +kernel
theorem dX9_same_43 : decode cX9_same 43 = .ok (.iconst 0, 1) := by decide +kernel
theorem dX9_same_44 : decode cX9_same 44 = .ok (.istore 4, 2) := by decide +kernel
theorem dX9_same_46 : decode cX9_same 46 = .ok (.iload 4, 2) := by decide +kernel
theorem dX9_same_48 : decode cX9_same 48 = .ok (.bipush 125, 2) := by decide +kernel
theorem dX9_same_50 : decode cX9_same 50 = .ok (.if_icmp .ge 38, 3) := by decide +kernel
theorem dX9_same_53 : decode cX9_same 53 = .ok (.iload_n 3, 1) := by decide +kernel
theorem dX9_same_54 : decode cX9_same 54 = .ok (.ifCond .eq 26, 3) := by decide +kernel
theorem dX9_same_57 : decode cX9_same 57 = .ok (.aload_n 0, 1) := by decide +kernel
theorem dX9_same_58 : decode cX9_same 58 = .ok (.iconst 0, 1) := by decide +kernel
theorem dX9_same_59 : decode cX9_same 59 = .ok (.iload_n 1, 1) := by decide +kernel
theorem dX9_same_60 : decode cX9_same 60 = .ok (.iload 4, 2) := by decide +kernel
theorem dX9_same_62 : decode cX9_same 62 = .ok (.invokevirtual 76, 3) := by decide +kernel
theorem dX9_same_65 : decode cX9_same 65 = .ok (.aload_n 0, 1) := by decide +kernel
theorem dX9_same_66 : decode cX9_same 66 = .ok (.iconst 0, 1) := by decide +kernel
theorem dX9_same_67 : decode cX9_same 67 = .ok (.iload_n 2, 1) := by decide +kernel
theorem dX9_same_68 : decode cX9_same 68 = .ok (.iload 4, 2) := by decide +kernel
theorem dX9_same_70 : decode cX9_same 70 = .ok (.invokevirtual 76, 3) := by decide +kernel
theorem dX9_same_73 : decode cX9_same 73 = .ok (.if_icmp .ne 7, 3) := by decide +kernel
theorem dX9_same_76 : decode cX9_same 76 = .ok (.iconst 1, 1) := by decide +kernel
theorem dX9_same_77 : decode cX9_same 77 = .ok (.goto 4, 3) := by decide +kernel
theorem dX9_same_80 : decode cX9_same 80 = .ok (.iconst 0, 1) := by decide +kernel
theorem dX9_same_81 : decode cX9_same 81 = .ok (.istore_n 3, 1) := by decide +kernel
theorem dX9_same_82 : decode cX9_same 82 = .ok (.iinc 4 1, 3) := by decide +kernel
theorem dX9_same_85 : decode cX9_same 85 = .ok (.goto (-39), 3) := by decide +kernel
theorem dX9_same_88 : decode cX9_same 88 = .ok (.iload_n 3, 1) := by decide +kernel
theorem dX9_same_89 : decode cX9_same 89 = .ok (.ifCond .eq 7, 3) := by decide +kernel
theorem dX9_same_92 : decode cX9_same 92 = .ok (.iconst 1, 1) := by decide +kernel
theorem dX9_same_93 : decode cX9_same 93 = .ok (.goto 4, 3) := by decide +kernel
theorem dX9_same_96 : decode cX9_same 96 = .ok (.iconst 0, 1) := by decide +kernel
theorem dX9_same_97 : decode cX9_same 97 = .ok (.ireturn, 1) := by decide +kernel
set_option maxRecDepth 20000 in
theorem ggX9_first_X9_isFunction : GoodIn wsX9_first wsX9_isFunction := goodIn_r _ [5, 6, 7, 8, 4, 9, 79, 80, 81, 82, 83, 84, 85, 86, 87, 88, 89, 90, 91, 92, 93, 94, 95, 96, 97, 98] (by decide +kernel) (by decide +kernel)
set_option maxRecDepth 20000 in
theorem gX9_first_X9_isFunction : GoodIn wsX9_first (wsV RX9 129 RX9 yX9_isFunction wsX9_isFunction) := goodIn_app (goodIn_of _ (by decide +kernel)) ggX9_first_X9_isFunction
set_option maxRecDepth 20000 in
theorem ggX9_first_X9_in : GoodIn wsX9_first wsX9_in := goodIn_r _ [9] (by decide +kernel) (by decide +kernel)
set_option maxRecDepth 20000 in
theorem gX9_first_X9_in : GoodIn wsX9_first (va_wsS RX9 61 yX9_in wsX9_in) := goodIn_app (goodIn_of _ (by decide +kernel)) ggX9_first_X9_in
set_option maxRecDepth 20000 in
theorem ggX9_first_X9_setAll : GoodIn wsX9_first wsX9_setAll := goodIn_r _ [13, 14, 15, 16, 17, 4, 18, 19, 20, 21, 22, 23, 24, 25, 26, 27, 6, 28, 29, 30, 31, 32, 33, 34, 35, 36, 7, 8, 9, 37, 38, 39, 40, 41, 42, 43, 44, 45, 46, 47, 48, 49, 50, 51, 52, 53, 54, 55, 56, 57, 58, 59, 60, 61, 62, 63, 64, 65, 66, 67, 68, 69, 70, 71, 72, 73, 74, 75, 76, 77, 78, 79, 80, 81, 82, 83, 84, 85, 86, 87, 88, 89, 90, 91, 92, 93, 94, 95, 96, 97, 98] (by decide +kernel) (by decide +kernel)
set_option maxRecDepth 20000 in
theorem gX9_first_X9_setAll : GoodIn wsX9_first (wsV RX9 151 RX9 yX9_setAll wsX9_setAll) := goodIn_app (goodIn_of _ (by decide +kernel)) ggX9_first_X9_setAll
set_option maxRecDepth 20000 in
theorem ggX9_first_X9_isRow : GoodIn wsX9_first wsX9_isRow := goodIn_r _ [35, 36, 7, 8, 4, 9, 79, 80, 81, 82, 83, 84, 85, 86, 87, 88, 89, 90, 91, 92, 93, 94, 95, 96, 97, 98] (by decide +kernel) (by decide +kernel)
set_option maxRecDepth 20000 in
theorem gX9_first_X9_isRow : GoodIn wsX9_first (wsV RX9 110 RX9 yX9_isRow wsX9_isRow) := goodIn_app (goodIn_of _ (by decide +kernel)) ggX9_first_X9_isRow
set_option maxRecDepth 20000 in
theorem ggX9_first_X9_tableAt : GoodIn wsX9_first wsX9_tableAt := goodIn_r _ [69, 19, 79, 80, 81, 82, 83, 84, 85, 86, 87, 88, 89, 90, 91, 92, 93, 94, 95, 96, 97, 98] (by decide +kernel) (by decide +kernel)
set_option maxRecDepth 20000 in
theorem gX9_first_X9_tableAt : GoodIn wsX9_first (wsV RX9 76 RX9 yX9_tableAt wsX9_tableAt) := goodIn_app (goodIn_of _ (by decide +kernel)) ggX9_first_X9_tableAt
theorem dX9_first_0 : decode cX9_first 0 = .ok (.aload_n 0, 1) := by decide +kernel
theorem dX9_first_1 : decode cX9_first 1 = .ok (.iload_n 1, 1) := by decide +kernel
theorem dX9_first_2 : decode cX9_first 2 = .ok (.invokevirtual 129, 3) := by decide +kernel
theorem dX9_first_5 : decode cX9_first 5 = .ok (.ifCond .eq 12, 3) := by decide +kernel
theorem dX9_first_8 : decode cX9_first 8 = .ok (.iload_n 2, 1) := by decide +kernel
theorem dX9_first_9 : decode cX9_first 9 = .ok (.iconst 0, 1) := by decide +kernel
theorem dX9_first_10 : decode cX9_first 10 = .ok (.iconst 4, 1) := by decide +kernel
theorem dX9_first_11 : decode cX9_first 11 = .ok (.invokestatic 61, 3) := by decide +kernel
theorem dX9_first_14 : decode cX9_first 14 = .ok (.ifCond .ne 5, 3) := by decide +kernel
theorem dX9_first_17 : decode cX9_first 17 = .ok (.iconst (-1), 1) := by decide +kernel
theorem dX9_first_18 : decode cX9_first 18 = .ok (.ireturn, 1) := by decide +kernel
theorem dX9_first_19 : decode cX9_first 19 = .ok (.aload_n 0, 1) := by decide +kernel
theorem dX9_first_20 : decode cX9_first 20 = .ok (.invokevirtual 151, 3) := by decide +kernel
theorem dX9_first_23 : decode cX9_first 23 = .ok (.iconst 0, 1) := by decide +kernel
theorem dX9_first_24 : decode cX9_first 24 = .ok (.istore_n 3, 1) := by decide +kernel
theorem dX9_first_25 : decode cX9_first 25 = .ok (.iload_n 3, 1) := by decide +kernel
theorem dX9_first_26 : decode cX9_first 26 = .ok (.bipush 125, 2) := by decide +kernel
theorem dX9_first_28 : decode cX9_first 28 = .ok (.if_icmp .ge 62, 3) := by decide +kernel
theorem dX9_first_31 : decode cX9_first 31 = .ok (.aload_n 0, 1) := by decide +kernel
theorem dX9_first_32 : decode cX9_first 32 = .ok (.iload_n 1, 1) := by decide +kernel
theorem dX9_first_33 : decode cX9_first 33 = .ok (.iload_n 3, 1) := by decide +kernel
theorem dX9_first_34 : decode cX9_first 34 = .ok (.bipush 25, 2) := by decide +kernel
theorem dX9_first_36 : decode cX9_first 36 = .ok (.idiv, 1) := by decide +kernel
theorem dX9_first_37 : decode cX9_first 37 = .ok (.iload_n 3, 1) := by decide +kernel
theorem dX9_first_38 : decode cX9_first 38 = .ok (.iconst 5, 1) := by decide +kernel
theorem dX9_first_39 : decode cX9_first 39 = .ok (.idiv, 1) := by decide +kernel
theorem dX9_first_40 : decode cX9_first 40 = .ok (.iconst 5, 1) := by decide +kernel
theorem dX9_first_41 : decode cX9_first 41 = .ok (.irem, 1) := by decide +kernel
theorem dX9_first_42 : decode cX9_first 42 = .ok (.iload_n 3, 1) := by decide +kernel
theorem dX9_first_43 : decode cX9_first 43 = .ok (.iconst 5, 1) := by decide +kernel
theorem dX9_first_44 : decode cX9_first 44 = .ok (.irem, 1) := by decide +kernel
theorem dX9_first_45 : decode cX9_first 45 = .ok (.iconst 5, 1) := by decide +kernel
theorem dX9_first_46 : decode cX9_first 46 = .ok (.invokevirtual 110, 3) := by decide +kernel
theorem dX9_first_49 : decode cX9_first 49 = .ok (.ifCond .eq 35, 3) := by decide +kernel
theorem dX9_first_52 : decode cX9_first 52 = .ok (.aload_n 0, 1) := by decide +kernel
theorem dX9_first_53 : decode cX9_first 53 = .ok (.iconst 0, 1) := by decide +kernel
theorem dX9_first_54 : decode cX9_first 54 = .ok (.iload_n 1, 1) := by decide +kernel
theorem dX9_first_55 : decode cX9_first 55 = .ok (.iload_n 3, 1) := by decide +kernel
theorem dX9_first_56 : decode cX9_first 56 = .ok (.invokevirtual 76, 3) := by decide +kernel
theorem dX9_first_59 : decode cX9_first 59 = .ok (.iload_n 2, 1) := by decide +kernel
theorem dX9_first_60 : decode cX9_first 60 = .ok (.if_icmp .ne 24, 3) := by decide +kernel
theorem dX9_first_63 : decode cX9_first 63 = .ok (.bipush 100, 2) := by decide +kernel
theorem dX9_first_65 : decode cX9_first 65 = .ok (.iload_n 3, 1) := by decide +kernel
theorem dX9_first_66 : decode cX9_first 66 = .ok (.bipush 25, 2) := by decide +kernel
theorem dX9_first_68 : decode cX9_first 68 = .ok (.idiv, 1) := by decide +kernel
theorem dX9_first_69 : decode cX9_first 69 = .ok (.imul, 1) := by decide +kernel
theorem dX9_first_70 : decode cX9_first 70 = .ok (.bipush 10, 2) := by decide +kernel
theorem dX9_first_72 : decode cX9_first 72 = .ok (.iload_n 3, 1) := by decide +kernel
theorem dX9_first_73 : decode cX9_first 73 = .ok (.iconst 5, 1) := by decide +kernel
theorem dX9_first_74 : decode cX9_first 74 = .ok (.idiv, 1) := by decide +kernel
theorem dX9_first_75 : decode cX9_first 75 = .ok (.iconst 5, 1) := by decide +kernel
theorem dX9_first_76 : decode cX9_first 76 = .ok (.irem, 1) := by decide +kernel
theorem dX9_first_77 : decode cX9_first 77 = .ok (.imul, 1) := by decide +kernel
theorem dX9_first_78 : decode cX9_first 78 = .ok (.iadd, 1) := by decide +kernel
theorem dX9_first_79 : decode cX9_first 79 = .ok (.iload_n 3, 1) := by decide +kernel
theorem dX9_first_80 : decode cX9_first 80 = .ok (.iconst 5, 1) := by decide +kernel
theorem dX9_first_81 : decode cX9_first 81 = .ok (.irem, 1) := by decide +kernel
theorem dX9_first_82 : decode cX9_first 82 = .ok (.iadd, 1) := by decide +kernel
theorem dX9_first_83 : decode cX9_first 83 = .ok (.ireturn, 1) := by decide +kernel
theorem dX9_first_84 : decode cX9_first 84 = .ok (.iinc 3 1, 3) := by decide +kernel
theorem dX9_first_87 : decode cX9_first 87 = .ok (.goto (-62), 3) := by decide +kernel
theorem dX9_first_90 : decode cX9_first 90 = .ok (.bipush (-4), 2) := by decide +kernel
theorem dX9_first_92 : decode cX9_first 92 = .ok (.ireturn, 1) := by decide +kernel
set_option maxRecDepth 20000 in
theorem ggX9_makes_X9_isFunction : GoodIn wsX9_makes wsX9_isFunction := goodIn_r _ [9, 10, 11, 12, 8, 13, 90, 91, 92, 93, 94, 95, 96, 97, 98, 99, 100, 101, 102, 103, 104, 105, 106, 107, 108, 109] (by decide +kernel) (by decide +kernel)
set_option maxRecDepth 20000 in
theorem gX9_makes_X9_isFunction : GoodIn wsX9_makes (wsV RX9 129 RX9 yX9_isFunction wsX9_isFunction) := goodIn_app (goodIn_of _ (by decide +kernel)) ggX9_makes_X9_isFunction
set_option maxRecDepth 20000 in
theorem ggX9_makes_X9_in : GoodIn wsX9_makes wsX9_in := goodIn_r _ [13] (by decide +kernel) (by decide +kernel)
set_option maxRecDepth 20000 in
theorem gX9_makes_X9_in : GoodIn wsX9_makes (va_wsS RX9 61 yX9_in wsX9_in) := goodIn_app (goodIn_of _ (by decide +kernel)) ggX9_makes_X9_in
set_option maxRecDepth 20000 in
theorem ggX9_makes_X9_setAll : GoodIn wsX9_makes wsX9_setAll := goodIn_r _ [17, 4, 18, 19, 20, 8, 21, 22, 23, 24, 25, 26, 27, 28, 29, 30, 10, 31, 32, 33, 34, 35, 36, 37, 38, 1, 11, 12, 13, 39, 40, 41, 42, 43, 44, 45, 46, 47, 48, 49, 50, 2, 3, 51, 52, 53, 54, 55, 56, 57, 58, 59, 60, 61, 62, 63, 64, 65, 66, 67, 68, 69, 70, 71, 72, 73, 74, 75, 76, 77, 78, 90, 91, 92, 93, 94, 95, 96, 97, 98, 99, 100, 101, 102, 103, 104, 105, 106, 107, 108, 109] (by decide +kernel) (by decide +kernel)
set_option maxRecDepth 20000 in
theorem gX9_makes_X9_setAll : GoodIn wsX9_makes (wsV RX9 151 RX9 yX9_setAll wsX9_setAll) := goodIn_app (goodIn_of _ (by decide +kernel)) ggX9_makes_X9_setAll
set_option maxRecDepth 20000 in
theorem ggX9_makes_X9_fineStrict : GoodIn wsX9_makes wsX9_fineStrict := goodIn_r _ [82, 1, 63, 64, 8, 65, 66, 67, 68, 69, 22, 90, 91, 92, 93, 94, 95, 96, 97, 98, 99, 100, 101, 102, 103, 104, 105, 106, 107, 108, 109] (by decide +kernel) (by decide +kernel)
set_option maxRecDepth 20000 in
theorem gX9_makes_X9_fineStrict : GoodIn wsX9_makes (wsV RX9 169 RX9 yX9_fineStrict wsX9_fineStrict) := goodIn_app (goodIn_of _ (by decide +kernel)) ggX9_makes_X9_fineStrict
set_option maxRecDepth 20000 in
theorem ggX9_makes_X9_letterBy : GoodIn wsX9_makes wsX9_letterBy := goodIn_r _ [85] (by decide +kernel) (by decide +kernel)
set_option maxRecDepth 20000 in
theorem gX9_makes_X9_letterBy : GoodIn wsX9_makes (va_wsS RX9 65 yX9_letterBy wsX9_letterBy) := goodIn_app (goodIn_of _ (by decide +kernel)) ggX9_makes_X9_letterBy
set_option maxRecDepth 20000 in
theorem ggX9_makes_X9_mayStand : GoodIn wsX9_makes wsX9_mayStand := goodIn_r _ [89, 1, 3, 52, 53, 54, 8, 55, 10, 11, 12, 13, 90, 91, 92, 93, 94, 95, 96, 97, 98, 99, 100, 101, 102, 103, 104, 105, 106, 107, 108, 109] (by decide +kernel) (by decide +kernel)
set_option maxRecDepth 20000 in
theorem gX9_makes_X9_mayStand : GoodIn wsX9_makes (wsV RX9 139 RX9 yX9_mayStand wsX9_mayStand) := goodIn_app (goodIn_of _ (by decide +kernel)) ggX9_makes_X9_mayStand
set_option maxRecDepth 20000 in
theorem ggX9_makes_X9_sets : GoodIn wsX9_makes wsX9_sets := goodIn_r _ [21, 22, 23, 24, 25, 8, 26, 27, 28, 29, 30, 10, 31, 32, 33, 34, 35, 36, 37, 38, 1, 11, 12, 13, 39, 40, 41, 42, 43, 44, 45, 46, 47, 48, 49, 50, 2, 3, 51, 52, 53, 54, 55, 56, 57, 58, 59, 60, 61, 62, 63, 64, 65, 66, 67, 68, 69, 70, 71, 72, 73, 74, 75, 76, 77, 78, 90, 91, 92, 93, 94, 95, 96, 97, 98, 99, 100, 101, 102, 103, 104, 105, 106, 107, 108, 109] (by decide +kernel) (by decide +kernel)
set_option maxRecDepth 20000 in
theorem gX9_makes_X9_sets : GoodIn wsX9_makes (wsV RX9 125 RX9 yX9_sets wsX9_sets) := goodIn_app (goodIn_of _ (by decide +kernel)) ggX9_makes_X9_sets
theorem dX9_makes_0 : decode cX9_makes 0 = .ok (.aload_n 0, 1) := by decide +kernel
theorem dX9_makes_1 : decode cX9_makes 1 = .ok (.iload_n 1, 1) := by decide +kernel
theorem dX9_makes_2 : decode cX9_makes 2 = .ok (.invokevirtual 129, 3) := by decide +kernel
theorem dX9_makes_5 : decode cX9_makes 5 = .ok (.ifCond .eq 19, 3) := by decide +kernel
theorem dX9_makes_8 : decode cX9_makes 8 = .ok (.iload_n 2, 1) := by decide +kernel
theorem dX9_makes_9 : decode cX9_makes 9 = .ok (.iconst 0, 1) := by decide +kernel
theorem dX9_makes_10 : decode cX9_makes 10 = .ok (.aload_n 0, 1) := by decide +kernel
theorem dX9_makes_11 : decode cX9_makes 11 = .ok (.getfield 7, 3) := by decide +kernel
theorem dX9_makes_14 : decode cX9_makes 14 = .ok (.iload_n 1, 1) := by decide +kernel
theorem dX9_makes_15 : decode cX9_makes 15 = .ok (.iaload, 1) := by decide +kernel
theorem dX9_makes_16 : decode cX9_makes 16 = .ok (.iconst 1, 1) := by decide +kernel
theorem dX9_makes_17 : decode cX9_makes 17 = .ok (.isub, 1) := by decide +kernel
theorem dX9_makes_18 : decode cX9_makes 18 = .ok (.invokestatic 61, 3) := by decide +kernel
theorem dX9_makes_21 : decode cX9_makes 21 = .ok (.ifCond .ne 5, 3) := by decide +kernel
theorem dX9_makes_24 : decode cX9_makes 24 = .ok (.iconst (-1), 1) := by decide +kernel
theorem dX9_makes_25 : decode cX9_makes 25 = .ok (.ireturn, 1) := by decide +kernel
theorem dX9_makes_26 : decode cX9_makes 26 = .ok (.aload_n 0, 1) := by decide +kernel
theorem dX9_makes_27 : decode cX9_makes 27 = .ok (.invokevirtual 151, 3) := by decide +kernel
theorem dX9_makes_30 : decode cX9_makes 30 = .ok (.aload_n 0, 1) := by decide +kernel
theorem dX9_makes_31 : decode cX9_makes 31 = .ok (.iload_n 1, 1) := by decide +kernel
theorem dX9_makes_32 : decode cX9_makes 32 = .ok (.iload_n 2, 1) := by decide +kernel
theorem dX9_makes_33 : decode cX9_makes 33 = .ok (.invokevirtual 169, 3) := by decide +kernel
theorem dX9_makes_36 : decode cX9_makes 36 = .ok (.iconst 1, 1) := by decide +kernel
theorem dX9_makes_37 : decode cX9_makes 37 = .ok (.if_icmp .ne 6, 3) := by decide +kernel
theorem dX9_makes_40 : decode cX9_makes 40 = .ok (.bipush (-2), 2) := by decide +kernel
theorem dX9_makes_42 : decode cX9_makes 42 = .ok (.ireturn, 1) := by decide +kernel
theorem dX9_makes_43 : decode cX9_makes 43 = .ok (.bipush (-4), 2) := by decide +kernel
theorem dX9_makes_45 : decode cX9_makes 45 = .ok (.istore_n 3, 1) := by decide +kernel
theorem dX9_makes_46 : decode cX9_makes 46 = .ok (.iconst 0, 1) := by decide +kernel
theorem dX9_makes_47 : decode cX9_makes 47 = .ok (.istore 4, 2) := by decide +kernel
theorem dX9_makes_49 : decode cX9_makes 49 = .ok (.iload 4, 2) := by decide +kernel
theorem dX9_makes_51 : decode cX9_makes 51 = .ok (.aload_n 0, 1) := by decide +kernel
theorem dX9_makes_52 : decode cX9_makes 52 = .ok (.getfield 16, 3) := by decide +kernel
theorem dX9_makes_55 : decode cX9_makes 55 = .ok (.iload_n 1, 1) := by decide +kernel
theorem dX9_makes_56 : decode cX9_makes 56 = .ok (.iaload, 1) := by decide +kernel
theorem dX9_makes_57 : decode cX9_makes 57 = .ok (.if_icmp .ge 135, 3) := by decide +kernel
theorem dX9_makes_60 : decode cX9_makes 60 = .ok (.iload_n 3, 1) := by decide +kernel
theorem dX9_makes_61 : decode cX9_makes 61 = .ok (.bipush (-4), 2) := by decide +kernel
theorem dX9_makes_63 : decode cX9_makes 63 = .ok (.if_icmp .ne 129, 3) := by decide +kernel
theorem dX9_makes_66 : decode cX9_makes 66 = .ok (.aload_n 0, 1) := by decide +kernel
theorem dX9_makes_67 : decode cX9_makes 67 = .ok (.getfield 19, 3) := by decide +kernel
theorem dX9_makes_70 : decode cX9_makes 70 = .ok (.bipush 24, 2) := by decide +kernel
theorem dX9_makes_72 : decode cX9_makes 72 = .ok (.iload_n 1, 1) := by decide +kernel
theorem dX9_makes_73 : decode cX9_makes 73 = .ok (.imul, 1) := by decide +kernel
theorem dX9_makes_74 : decode cX9_makes 74 = .ok (.iload 4, 2) := by decide +kernel
theorem dX9_makes_76 : decode cX9_makes 76 = .ok (.iadd, 1) := by decide +kernel
theorem dX9_makes_77 : decode cX9_makes 77 = .ok (.iaload, 1) := by decide +kernel
theorem dX9_makes_78 : decode cX9_makes 78 = .ok (.istore 5, 2) := by decide +kernel
theorem dX9_makes_80 : decode cX9_makes 80 = .ok (.iconst 0, 1) := by decide +kernel
theorem dX9_makes_81 : decode cX9_makes 81 = .ok (.istore 6, 2) := by decide +kernel
theorem dX9_makes_83 : decode cX9_makes 83 = .ok (.iload 6, 2) := by decide +kernel
theorem dX9_makes_85 : decode cX9_makes 85 = .ok (.bipush 14, 2) := by decide +kernel
theorem dX9_makes_87 : decode cX9_makes 87 = .ok (.if_icmp .ge 99, 3) := by decide +kernel
theorem dX9_makes_90 : decode cX9_makes 90 = .ok (.iload_n 3, 1) := by decide +kernel
theorem dX9_makes_91 : decode cX9_makes 91 = .ok (.bipush (-4), 2) := by decide +kernel
theorem dX9_makes_93 : decode cX9_makes 93 = .ok (.if_icmp .ne 93, 3) := by decide +kernel
theorem dX9_makes_96 : decode cX9_makes 96 = .ok (.iload 6, 2) := by decide +kernel
theorem dX9_makes_98 : decode cX9_makes 98 = .ok (.invokestatic 65, 3) := by decide +kernel
theorem dX9_makes_101 : decode cX9_makes 101 = .ok (.istore 7, 2) := by decide +kernel
theorem dX9_makes_103 : decode cX9_makes 103 = .ok (.iload 7, 2) := by decide +kernel
theorem dX9_makes_105 : decode cX9_makes 105 = .ok (.iload 5, 2) := by decide +kernel
theorem dX9_makes_107 : decode cX9_makes 107 = .ok (.if_icmp .eq 73, 3) := by decide +kernel
theorem dX9_makes_110 : decode cX9_makes 110 = .ok (.aload_n 0, 1) := by decide +kernel
theorem dX9_makes_111 : decode cX9_makes 111 = .ok (.iload_n 1, 1) := by decide +kernel
theorem dX9_makes_112 : decode cX9_makes 112 = .ok (.iload 4, 2) := by decide +kernel
theorem dX9_makes_114 : decode cX9_makes 114 = .ok (.iload 7, 2) := by decide +kernel
theorem dX9_makes_116 : decode cX9_makes 116 = .ok (.invokevirtual 139, 3) := by decide +kernel
theorem dX9_makes_119 : decode cX9_makes 119 = .ok (.ifCond .eq 61, 3) := by decide +kernel
theorem dX9_makes_122 : decode cX9_makes 122 = .ok (.aload_n 0, 1) := by decide +kernel
theorem dX9_makes_123 : decode cX9_makes 123 = .ok (.getfield 19, 3) := by decide +kernel
theorem dX9_makes_126 : decode cX9_makes 126 = .ok (.bipush 24, 2) := by decide +kernel
theorem dX9_makes_128 : decode cX9_makes 128 = .ok (.iload_n 1, 1) := by decide +kernel
theorem dX9_makes_129 : decode cX9_makes 129 = .ok (.imul, 1) := by decide +kernel
theorem dX9_makes_130 : decode cX9_makes 130 = .ok (.iload 4, 2) := by decide +kernel
theorem dX9_makes_132 : decode cX9_makes 132 = .ok (.iadd, 1) := by decide +kernel
theorem dX9_makes_133 : decode cX9_makes 133 = .ok (.iload 7, 2) := by decide +kernel
theorem dX9_makes_135 : decode cX9_makes 135 = .ok (.iastore, 1) := by decide +kernel
theorem dX9_makes_136 : decode cX9_makes 136 = .ok (.aload_n 0, 1) := by decide +kernel
theorem dX9_makes_137 : decode cX9_makes 137 = .ok (.iconst 2, 1) := by decide +kernel
theorem dX9_makes_138 : decode cX9_makes 138 = .ok (.invokevirtual 125, 3) := by decide +kernel
theorem dX9_makes_141 : decode cX9_makes 141 = .ok (.aload_n 0, 1) := by decide +kernel
theorem dX9_makes_142 : decode cX9_makes 142 = .ok (.iload_n 1, 1) := by decide +kernel
theorem dX9_makes_143 : decode cX9_makes 143 = .ok (.iload_n 2, 1) := by decide +kernel
theorem dX9_makes_144 : decode cX9_makes 144 = .ok (.invokevirtual 169, 3) := by decide +kernel
theorem dX9_makes_147 : decode cX9_makes 147 = .ok (.iconst 1, 1) := by decide +kernel
theorem dX9_makes_148 : decode cX9_makes 148 = .ok (.if_icmp .ne 15, 3) := by decide +kernel
theorem dX9_makes_151 : decode cX9_makes 151 = .ok (.sipush 200, 3) := by decide +kernel
theorem dX9_makes_154 : decode cX9_makes 154 = .ok (.iload 4, 2) := by decide +kernel
theorem dX9_makes_156 : decode cX9_makes 156 = .ok (.imul, 1) := by decide +kernel
theorem dX9_makes_157 : decode cX9_makes 157 = .ok (.iload 7, 2) := by decide +kernel
theorem dX9_makes_159 : decode cX9_makes 159 = .ok (.iadd, 1) := by decide +kernel
theorem dX9_makes_160 : decode cX9_makes 160 = .ok (.goto 5, 3) := by decide +kernel
theorem dX9_makes_163 : decode cX9_makes 163 = .ok (.bipush (-4), 2) := by decide +kernel
theorem dX9_makes_165 : decode cX9_makes 165 = .ok (.istore_n 3, 1) := by decide +kernel
theorem dX9_makes_166 : decode cX9_makes 166 = .ok (.aload_n 0, 1) := by decide +kernel
theorem dX9_makes_167 : decode cX9_makes 167 = .ok (.getfield 19, 3) := by decide +kernel
theorem dX9_makes_170 : decode cX9_makes 170 = .ok (.bipush 24, 2) := by decide +kernel
