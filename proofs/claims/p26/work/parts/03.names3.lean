theorem dX7_advance_1 : decode cX7_advance 1 = .ok (.istore_n 2, 1) := by decide +kernel
theorem dX7_advance_2 : decode cX7_advance 2 = .ok (.iconst 0, 1) := by decide +kernel
theorem dX7_advance_3 : decode cX7_advance 3 = .ok (.istore_n 3, 1) := by decide +kernel
theorem dX7_advance_4 : decode cX7_advance 4 = .ok (.iload_n 3, 1) := by decide +kernel
theorem dX7_advance_5 : decode cX7_advance 5 = .ok (.aload_n 1, 1) := by decide +kernel
theorem dX7_advance_6 : decode cX7_advance 6 = .ok (.getfield 93, 3) := by decide +kernel
theorem dX7_advance_9 : decode cX7_advance 9 = .ok (.if_icmp .ge 99, 3) := by decide +kernel
theorem dX7_advance_12 : decode cX7_advance 12 = .ok (.iconst 0, 1) := by decide +kernel
theorem dX7_advance_13 : decode cX7_advance 13 = .ok (.istore 4, 2) := by decide +kernel
theorem dX7_advance_15 : decode cX7_advance 15 = .ok (.iload 4, 2) := by decide +kernel
theorem dX7_advance_17 : decode cX7_advance 17 = .ok (.aload_n 0, 1) := by decide +kernel
theorem dX7_advance_18 : decode cX7_advance 18 = .ok (.aload_n 1, 1) := by decide +kernel
theorem dX7_advance_19 : decode cX7_advance 19 = .ok (.iload_n 3, 1) := by decide +kernel
theorem dX7_advance_20 : decode cX7_advance 20 = .ok (.invokevirtual 61, 3) := by decide +kernel
theorem dX7_advance_23 : decode cX7_advance 23 = .ok (.if_icmp .ge 79, 3) := by decide +kernel
theorem dX7_advance_26 : decode cX7_advance 26 = .ok (.aload_n 0, 1) := by decide +kernel
theorem dX7_advance_27 : decode cX7_advance 27 = .ok (.iload_n 3, 1) := by decide +kernel
theorem dX7_advance_28 : decode cX7_advance 28 = .ok (.iload 4, 2) := by decide +kernel
theorem dX7_advance_30 : decode cX7_advance 30 = .ok (.invokevirtual 83, 3) := by decide +kernel
theorem dX7_advance_33 : decode cX7_advance 33 = .ok (.istore 5, 2) := by decide +kernel
theorem dX7_advance_35 : decode cX7_advance 35 = .ok (.iload 5, 2) := by decide +kernel
theorem dX7_advance_37 : decode cX7_advance 37 = .ok (.istore 6, 2) := by decide +kernel
theorem dX7_advance_39 : decode cX7_advance 39 = .ok (.aload_n 0, 1) := by decide +kernel
theorem dX7_advance_40 : decode cX7_advance 40 = .ok (.iload 5, 2) := by decide +kernel
theorem dX7_advance_42 : decode cX7_advance 42 = .ok (.invokevirtual 96, 3) := by decide +kernel
theorem dX7_advance_45 : decode cX7_advance 45 = .ok (.ifCond .eq 22, 3) := by decide +kernel
theorem dX7_advance_48 : decode cX7_advance 48 = .ok (.aload_n 0, 1) := by decide +kernel
theorem dX7_advance_49 : decode cX7_advance 49 = .ok (.aload_n 1, 1) := by decide +kernel
theorem dX7_advance_50 : decode cX7_advance 50 = .ok (.iload_n 3, 1) := by decide +kernel
theorem dX7_advance_51 : decode cX7_advance 51 = .ok (.iload 4, 2) := by decide +kernel
theorem dX7_advance_53 : decode cX7_advance 53 = .ok (.invokevirtual 99, 3) := by decide +kernel
theorem dX7_advance_56 : decode cX7_advance 56 = .ok (.ifCond .eq 11, 3) := by decide +kernel
theorem dX7_advance_59 : decode cX7_advance 59 = .ok (.aload_n 0, 1) := by decide +kernel
theorem dX7_advance_60 : decode cX7_advance 60 = .ok (.aload_n 1, 1) := by decide +kernel
theorem dX7_advance_61 : decode cX7_advance 61 = .ok (.iload_n 3, 1) := by decide +kernel
theorem dX7_advance_62 : decode cX7_advance 62 = .ok (.invokevirtual 102, 3) := by decide +kernel
theorem dX7_advance_65 : decode cX7_advance 65 = .ok (.istore 6, 2) := by decide +kernel
theorem dX7_advance_67 : decode cX7_advance 67 = .ok (.aload_n 0, 1) := by decide +kernel
theorem dX7_advance_68 : decode cX7_advance 68 = .ok (.getfield 48, 3) := by decide +kernel
theorem dX7_advance_71 : decode cX7_advance 71 = .ok (.iload_n 3, 1) := by decide +kernel
theorem dX7_advance_72 : decode cX7_advance 72 = .ok (.aaload, 1) := by decide +kernel
theorem dX7_advance_73 : decode cX7_advance 73 = .ok (.iload 4, 2) := by decide +kernel
theorem dX7_advance_75 : decode cX7_advance 75 = .ok (.iload 6, 2) := by decide +kernel
theorem dX7_advance_77 : decode cX7_advance 77 = .ok (.i2b, 1) := by decide +kernel
theorem dX7_advance_78 : decode cX7_advance 78 = .ok (.bastore, 1) := by decide +kernel
theorem dX7_advance_79 : decode cX7_advance 79 = .ok (.iload_n 2, 1) := by decide +kernel
theorem dX7_advance_80 : decode cX7_advance 80 = .ok (.ifCond .ne 10, 3) := by decide +kernel
theorem dX7_advance_83 : decode cX7_advance 83 = .ok (.iload 6, 2) := by decide +kernel
theorem dX7_advance_85 : decode cX7_advance 85 = .ok (.iload 5, 2) := by decide +kernel
theorem dX7_advance_87 : decode cX7_advance 87 = .ok (.if_icmp .eq 7, 3) := by decide +kernel
theorem dX7_advance_90 : decode cX7_advance 90 = .ok (.iconst 1, 1) := by decide +kernel
theorem dX7_advance_91 : decode cX7_advance 91 = .ok (.goto 4, 3) := by decide +kernel
theorem dX7_advance_94 : decode cX7_advance 94 = .ok (.iconst 0, 1) := by decide +kernel
theorem dX7_advance_95 : decode cX7_advance 95 = .ok (.istore_n 2, 1) := by decide +kernel
theorem dX7_advance_96 : decode cX7_advance 96 = .ok (.iinc 4 1, 3) := by decide +kernel
theorem dX7_advance_99 : decode cX7_advance 99 = .ok (.goto (-84), 3) := by decide +kernel
theorem dX7_advance_102 : decode cX7_advance 102 = .ok (.iinc 3 1, 3) := by decide +kernel
theorem dX7_advance_105 : decode cX7_advance 105 = .ok (.goto (-101), 3) := by decide +kernel
theorem dX7_advance_108 : decode cX7_advance 108 = .ok (.aload_n 0, 1) := by decide +kernel
theorem dX7_advance_109 : decode cX7_advance 109 = .ok (.getfield 45, 3) := by decide +kernel
theorem dX7_advance_112 : decode cX7_advance 112 = .ok (.astore_n 3, 1) := by decide +kernel
theorem dX7_advance_113 : decode cX7_advance 113 = .ok (.aload_n 0, 1) := by decide +kernel
theorem dX7_advance_114 : decode cX7_advance 114 = .ok (.aload_n 0, 1) := by decide +kernel
theorem dX7_advance_115 : decode cX7_advance 115 = .ok (.getfield 48, 3) := by decide +kernel
theorem dX7_advance_118 : decode cX7_advance 118 = .ok (.putfield 45, 3) := by decide +kernel
theorem dX7_advance_121 : decode cX7_advance 121 = .ok (.aload_n 0, 1) := by decide +kernel
theorem dX7_advance_122 : decode cX7_advance 122 = .ok (.aload_n 3, 1) := by decide +kernel
theorem dX7_advance_123 : decode cX7_advance 123 = .ok (.putfield 48, 3) := by decide +kernel
theorem dX7_advance_126 : decode cX7_advance 126 = .ok (.iload_n 2, 1) := by decide +kernel
theorem dX7_advance_127 : decode cX7_advance 127 = .ok (.ireturn, 1) := by decide +kernel
theorem dX7_handOver_0 : decode cX7_handOver 0 = .ok (.aload_n 1, 1) := by decide +kernel
theorem dX7_handOver_1 : decode cX7_handOver 1 = .ok (.getfield 105, 3) := by decide +kernel
theorem dX7_handOver_4 : decode cX7_handOver 4 = .ok (.iload_n 2, 1) := by decide +kernel
theorem dX7_handOver_5 : decode cX7_handOver 5 = .ok (.iaload, 1) := by decide +kernel
theorem dX7_handOver_6 : decode cX7_handOver 6 = .ok (.istore 4, 2) := by decide +kernel
theorem dX7_handOver_8 : decode cX7_handOver 8 = .ok (.aload_n 1, 1) := by decide +kernel
theorem dX7_handOver_9 : decode cX7_handOver 9 = .ok (.getfield 55, 3) := by decide +kernel
theorem dX7_handOver_12 : decode cX7_handOver 12 = .ok (.iload_n 2, 1) := by decide +kernel
theorem dX7_handOver_13 : decode cX7_handOver 13 = .ok (.iaload, 1) := by decide +kernel
theorem dX7_handOver_14 : decode cX7_handOver 14 = .ok (.iconst 1, 1) := by decide +kernel
theorem dX7_handOver_15 : decode cX7_handOver 15 = .ok (.isub, 1) := by decide +kernel
theorem dX7_handOver_16 : decode cX7_handOver 16 = .ok (.istore 5, 2) := by decide +kernel
theorem dX7_handOver_18 : decode cX7_handOver 18 = .ok (.iload 4, 2) := by decide +kernel
theorem dX7_handOver_20 : decode cX7_handOver 20 = .ok (.iconst 1, 1) := by decide +kernel
theorem dX7_handOver_21 : decode cX7_handOver 21 = .ok (.if_icmp .eq 9, 3) := by decide +kernel
theorem dX7_handOver_24 : decode cX7_handOver 24 = .ok (.iload 4, 2) := by decide +kernel
theorem dX7_handOver_26 : decode cX7_handOver 26 = .ok (.iconst 3, 1) := by decide +kernel
theorem dX7_handOver_27 : decode cX7_handOver 27 = .ok (.if_icmp .ne 7, 3) := by decide +kernel
theorem dX7_handOver_30 : decode cX7_handOver 30 = .ok (.iconst 1, 1) := by decide +kernel
theorem dX7_handOver_31 : decode cX7_handOver 31 = .ok (.goto 4, 3) := by decide +kernel
theorem dX7_handOver_34 : decode cX7_handOver 34 = .ok (.iconst 0, 1) := by decide +kernel
theorem dX7_handOver_35 : decode cX7_handOver 35 = .ok (.istore 6, 2) := by decide +kernel
theorem dX7_handOver_37 : decode cX7_handOver 37 = .ok (.iconst 0, 1) := by decide +kernel
theorem dX7_handOver_38 : decode cX7_handOver 38 = .ok (.istore 7, 2) := by decide +kernel
theorem dX7_handOver_40 : decode cX7_handOver 40 = .ok (.iload 7, 2) := by decide +kernel
theorem dX7_handOver_42 : decode cX7_handOver 42 = .ok (.iload 5, 2) := by decide +kernel
theorem dX7_handOver_44 : decode cX7_handOver 44 = .ok (.if_icmp .gt 70, 3) := by decide +kernel
theorem dX7_handOver_47 : decode cX7_handOver 47 = .ok (.aload_n 0, 1) := by decide +kernel
theorem dX7_handOver_48 : decode cX7_handOver 48 = .ok (.getfield 36, 3) := by decide +kernel
theorem dX7_handOver_51 : decode cX7_handOver 51 = .ok (.iload 7, 2) := by decide +kernel
theorem dX7_handOver_53 : decode cX7_handOver 53 = .ok (.aaload, 1) := by decide +kernel
theorem dX7_handOver_54 : decode cX7_handOver 54 = .ok (.iload_n 3, 1) := by decide +kernel
theorem dX7_handOver_55 : decode cX7_handOver 55 = .ok (.iaload, 1) := by decide +kernel
theorem dX7_handOver_56 : decode cX7_handOver 56 = .ok (.istore 8, 2) := by decide +kernel
theorem dX7_handOver_58 : decode cX7_handOver 58 = .ok (.iload 8, 2) := by decide +kernel
theorem dX7_handOver_60 : decode cX7_handOver 60 = .ok (.aload_n 0, 1) := by decide +kernel
theorem dX7_handOver_61 : decode cX7_handOver 61 = .ok (.getfield 25, 3) := by decide +kernel
theorem dX7_handOver_64 : decode cX7_handOver 64 = .ok (.if_icmp .ne 21, 3) := by decide +kernel
theorem dX7_handOver_67 : decode cX7_handOver 67 = .ok (.iload 6, 2) := by decide +kernel
theorem dX7_handOver_69 : decode cX7_handOver 69 = .ok (.ifCond .ne 14, 3) := by decide +kernel
theorem dX7_handOver_72 : decode cX7_handOver 72 = .ok (.iload 4, 2) := by decide +kernel
theorem dX7_handOver_74 : decode cX7_handOver 74 = .ok (.iconst 2, 1) := by decide +kernel
theorem dX7_handOver_75 : decode cX7_handOver 75 = .ok (.if_icmp .ne 10, 3) := by decide +kernel
theorem dX7_handOver_78 : decode cX7_handOver 78 = .ok (.iload 7, 2) := by decide +kernel
theorem dX7_handOver_80 : decode cX7_handOver 80 = .ok (.ifCond .ne 5, 3) := by decide +kernel
theorem dX7_handOver_83 : decode cX7_handOver 83 = .ok (.iconst 0, 1) := by decide +kernel
theorem dX7_handOver_84 : decode cX7_handOver 84 = .ok (.ireturn, 1) := by decide +kernel
theorem dX7_handOver_85 : decode cX7_handOver 85 = .ok (.aload_n 0, 1) := by decide +kernel
theorem dX7_handOver_86 : decode cX7_handOver 86 = .ok (.getfield 15, 3) := by decide +kernel
theorem dX7_handOver_89 : decode cX7_handOver 89 = .ok (.iload 4, 2) := by decide +kernel
theorem dX7_handOver_91 : decode cX7_handOver 91 = .ok (.iconst 3, 1) := by decide +kernel
theorem dX7_handOver_92 : decode cX7_handOver 92 = .ok (.if_icmp .ne 11, 3) := by decide +kernel
theorem dX7_handOver_95 : decode cX7_handOver 95 = .ok (.iload 5, 2) := by decide +kernel
theorem dX7_handOver_97 : decode cX7_handOver 97 = .ok (.iload 7, 2) := by decide +kernel
theorem dX7_handOver_99 : decode cX7_handOver 99 = .ok (.isub, 1) := by decide +kernel
theorem dX7_handOver_100 : decode cX7_handOver 100 = .ok (.goto 5, 3) := by decide +kernel
theorem dX7_handOver_103 : decode cX7_handOver 103 = .ok (.iload 7, 2) := by decide +kernel
theorem dX7_handOver_105 : decode cX7_handOver 105 = .ok (.iload 8, 2) := by decide +kernel
theorem dX7_handOver_107 : decode cX7_handOver 107 = .ok (.iastore, 1) := by decide +kernel
theorem dX7_handOver_108 : decode cX7_handOver 108 = .ok (.iinc 7 1, 3) := by decide +kernel
theorem dX7_handOver_111 : decode cX7_handOver 111 = .ok (.goto (-71), 3) := by decide +kernel
theorem dX7_handOver_114 : decode cX7_handOver 114 = .ok (.iconst 1, 1) := by decide +kernel
theorem dX7_handOver_115 : decode cX7_handOver 115 = .ok (.ireturn, 1) := by decide +kernel
set_option maxRecDepth 20000 in
theorem ggX7_bodyComesTo_X3_partsOf : GoodIn wsX7_bodyComesTo wsX3_partsOf := goodIn_r _ [8, 9, 10, 11, 12, 7, 13, 14, 130, 131, 132, 133, 134] rfl (by decide +kernel)
set_option maxRecDepth 20000 in
theorem gX7_bodyComesTo_X3_partsOf : GoodIn wsX7_bodyComesTo (wsV RX7 117 RX3 yX3_partsOf wsX3_partsOf) := goodIn_app (goodIn_of _ (by decide +kernel)) ggX7_bodyComesTo_X3_partsOf
set_option maxRecDepth 20000 in
theorem ggX7_bodyComesTo_X7_pop : GoodIn wsX7_bodyComesTo wsX7_pop := goodIn_r _ [20, 1, 21, 22, 91, 92, 93, 94, 95, 96, 97, 98, 99, 100, 101, 102, 103, 104, 105, 106, 107, 108, 109, 110, 111, 112, 113, 114, 115, 116, 117, 118, 119, 120, 121, 122, 123, 124, 125, 126, 127, 128, 129] rfl (by decide +kernel)
set_option maxRecDepth 20000 in
theorem gX7_bodyComesTo_X7_pop_u121X0 : GoodIn wsX7_bodyComesTo (va_wsU RX7 121 RX0 "EarlyValues$View" ⟨"EarlyValues$View", "pop", "()I"⟩ yX7_pop wsX7_pop) := goodIn_app (goodIn_of _ (by decide +kernel)) ggX7_bodyComesTo_X7_pop
set_option maxRecDepth 20000 in
theorem gX7_bodyComesTo_X7_pop_u121X4 : GoodIn wsX7_bodyComesTo (va_wsU RX7 121 RX4 "EarlyValues$View" ⟨"EarlyValues$View", "pop", "()I"⟩ yX7_pop wsX7_pop) := goodIn_app (goodIn_of _ (by decide +kernel)) ggX7_bodyComesTo_X7_pop
set_option maxRecDepth 20000 in
theorem gX7_bodyComesTo_X7_pop_u121X6 : GoodIn wsX7_bodyComesTo (va_wsU RX7 121 RX6 "EarlyValues$View" ⟨"EarlyValues$View", "pop", "()I"⟩ yX7_pop wsX7_pop) := goodIn_app (goodIn_of _ (by decide +kernel)) ggX7_bodyComesTo_X7_pop
set_option maxRecDepth 20000 in
theorem ggX7_bodyComesTo_X7_letterComesTo : GoodIn wsX7_bodyComesTo wsX7_letterComesTo := goodIn_r _ [29, 30, 31, 21, 32, 33, 34, 35, 36, 37, 38, 39, 40, 41, 42, 43, 44, 45, 46, 47, 48, 49, 50, 51, 52, 53, 54, 55, 56, 57, 58, 59, 60, 61, 62, 63, 64, 65, 66, 67, 68, 69, 70, 71, 72, 73, 74, 75, 76, 77, 19, 78, 79, 80, 81, 91, 92, 93, 94, 95, 96, 97, 98, 99, 100, 101, 102, 103, 104, 105, 106, 107, 108, 109, 110, 111, 112, 113, 114, 115, 116, 117, 118, 119, 120, 121, 122, 123, 124, 125, 126, 127, 128, 129] rfl (by decide +kernel)
set_option maxRecDepth 20000 in
theorem gX7_bodyComesTo_X7_letterComesTo_u125X0 : GoodIn wsX7_bodyComesTo (va_wsU RX7 125 RX0 "EarlyValues$View" ⟨"EarlyValues$View", "letterComesTo", "(IIII)I"⟩ yX7_letterComesTo wsX7_letterComesTo) := goodIn_app (goodIn_of _ (by decide +kernel)) ggX7_bodyComesTo_X7_letterComesTo
set_option maxRecDepth 20000 in
theorem gX7_bodyComesTo_X7_letterComesTo_u125X4 : GoodIn wsX7_bodyComesTo (va_wsU RX7 125 RX4 "EarlyValues$View" ⟨"EarlyValues$View", "letterComesTo", "(IIII)I"⟩ yX7_letterComesTo wsX7_letterComesTo) := goodIn_app (goodIn_of _ (by decide +kernel)) ggX7_bodyComesTo_X7_letterComesTo
set_option maxRecDepth 20000 in
theorem gX7_bodyComesTo_X7_letterComesTo_u125X6 : GoodIn wsX7_bodyComesTo (va_wsU RX7 125 RX6 "EarlyValues$View" ⟨"EarlyValues$View", "letterComesTo", "(IIII)I"⟩ yX7_letterComesTo wsX7_letterComesTo) := goodIn_app (goodIn_of _ (by decide +kernel)) ggX7_bodyComesTo_X7_letterComesTo
set_option maxRecDepth 20000 in
theorem ggX7_bodyComesTo_X7_push : GoodIn wsX7_bodyComesTo wsX7_push := goodIn_r _ [88, 1, 22, 91, 92, 93, 94, 95, 96, 97, 98, 99, 100, 101, 102, 103, 104, 105, 106, 107, 108, 109, 110, 111, 112, 113, 114, 115, 116, 117, 118, 119, 120, 121, 122, 123, 124, 125, 126, 127, 128, 129] rfl (by decide +kernel)
set_option maxRecDepth 20000 in
theorem gX7_bodyComesTo_X7_push_u129X0 : GoodIn wsX7_bodyComesTo (va_wsU RX7 129 RX0 "EarlyValues$View" ⟨"EarlyValues$View", "push", "(I)V"⟩ yX7_push wsX7_push) := goodIn_app (goodIn_of _ (by decide +kernel)) ggX7_bodyComesTo_X7_push
set_option maxRecDepth 20000 in
theorem gX7_bodyComesTo_X7_push_u129X4 : GoodIn wsX7_bodyComesTo (va_wsU RX7 129 RX4 "EarlyValues$View" ⟨"EarlyValues$View", "push", "(I)V"⟩ yX7_push wsX7_push) := goodIn_app (goodIn_of _ (by decide +kernel)) ggX7_bodyComesTo_X7_push
set_option maxRecDepth 20000 in
theorem gX7_bodyComesTo_X7_push_u129X6 : GoodIn wsX7_bodyComesTo (va_wsU RX7 129 RX6 "EarlyValues$View" ⟨"EarlyValues$View", "push", "(I)V"⟩ yX7_push wsX7_push) := goodIn_app (goodIn_of _ (by decide +kernel)) ggX7_bodyComesTo_X7_push
theorem dX7_bodyComesTo_0 : decode cX7_bodyComesTo 0 = .ok (.aload_n 0, 1) := by decide +kernel
theorem dX7_bodyComesTo_1 : decode cX7_bodyComesTo 1 = .ok (.iconst 0, 1) := by decide +kernel
theorem dX7_bodyComesTo_2 : decode cX7_bodyComesTo 2 = .ok (.putfield 108, 3) := by decide +kernel
theorem dX7_bodyComesTo_5 : decode cX7_bodyComesTo 5 = .ok (.aload_n 1, 1) := by decide +kernel
theorem dX7_bodyComesTo_6 : decode cX7_bodyComesTo 6 = .ok (.getfield 111, 3) := by decide +kernel
theorem dX7_bodyComesTo_9 : decode cX7_bodyComesTo 9 = .ok (.iload_n 2, 1) := by decide +kernel
theorem dX7_bodyComesTo_10 : decode cX7_bodyComesTo 10 = .ok (.iaload, 1) := by decide +kernel
theorem dX7_bodyComesTo_11 : decode cX7_bodyComesTo 11 = .ok (.iconst 1, 1) := by decide +kernel
theorem dX7_bodyComesTo_12 : decode cX7_bodyComesTo 12 = .ok (.isub, 1) := by decide +kernel
theorem dX7_bodyComesTo_13 : decode cX7_bodyComesTo 13 = .ok (.istore_n 3, 1) := by decide +kernel
theorem dX7_bodyComesTo_14 : decode cX7_bodyComesTo 14 = .ok (.iload_n 3, 1) := by decide +kernel
theorem dX7_bodyComesTo_15 : decode cX7_bodyComesTo 15 = .ok (.ifCond .lt 90, 3) := by decide +kernel
theorem dX7_bodyComesTo_18 : decode cX7_bodyComesTo 18 = .ok (.aload_n 1, 1) := by decide +kernel
theorem dX7_bodyComesTo_19 : decode cX7_bodyComesTo 19 = .ok (.getfield 114, 3) := by decide +kernel
theorem dX7_bodyComesTo_22 : decode cX7_bodyComesTo 22 = .ok (.iload_n 2, 1) := by decide +kernel
theorem dX7_bodyComesTo_23 : decode cX7_bodyComesTo 23 = .ok (.aaload, 1) := by decide +kernel
theorem dX7_bodyComesTo_24 : decode cX7_bodyComesTo 24 = .ok (.iload_n 3, 1) := by decide +kernel
theorem dX7_bodyComesTo_25 : decode cX7_bodyComesTo 25 = .ok (.iaload, 1) := by decide +kernel
theorem dX7_bodyComesTo_26 : decode cX7_bodyComesTo 26 = .ok (.istore 4, 2) := by decide +kernel
theorem dX7_bodyComesTo_28 : decode cX7_bodyComesTo 28 = .ok (.aload_n 1, 1) := by decide +kernel
theorem dX7_bodyComesTo_29 : decode cX7_bodyComesTo 29 = .ok (.iload 4, 2) := by decide +kernel
theorem dX7_bodyComesTo_31 : decode cX7_bodyComesTo 31 = .ok (.invokevirtual 117, 3) := by decide +kernel
theorem dX7_bodyComesTo_34 : decode cX7_bodyComesTo 34 = .ok (.istore 5, 2) := by decide +kernel
theorem dX7_bodyComesTo_36 : decode cX7_bodyComesTo 36 = .ok (.iload 5, 2) := by decide +kernel
theorem dX7_bodyComesTo_38 : decode cX7_bodyComesTo 38 = .ok (.ifCond .le 10, 3) := by decide +kernel
theorem dX7_bodyComesTo_41 : decode cX7_bodyComesTo 41 = .ok (.aload_n 0, 1) := by decide +kernel
theorem dX7_bodyComesTo_42 : decode cX7_bodyComesTo 42 = .ok (.invokevirtual 121, 3) := by decide +kernel
theorem dX7_bodyComesTo_45 : decode cX7_bodyComesTo 45 = .ok (.goto 4, 3) := by decide +kernel
theorem dX7_bodyComesTo_48 : decode cX7_bodyComesTo 48 = .ok (.iconst 0, 1) := by decide +kernel
theorem dX7_bodyComesTo_49 : decode cX7_bodyComesTo 49 = .ok (.istore 6, 2) := by decide +kernel
theorem dX7_bodyComesTo_51 : decode cX7_bodyComesTo 51 = .ok (.iload 5, 2) := by decide +kernel
theorem dX7_bodyComesTo_53 : decode cX7_bodyComesTo 53 = .ok (.iconst 1, 1) := by decide +kernel
theorem dX7_bodyComesTo_54 : decode cX7_bodyComesTo 54 = .ok (.if_icmp .le 10, 3) := by decide +kernel
theorem dX7_bodyComesTo_57 : decode cX7_bodyComesTo 57 = .ok (.aload_n 0, 1) := by decide +kernel
theorem dX7_bodyComesTo_58 : decode cX7_bodyComesTo 58 = .ok (.invokevirtual 121, 3) := by decide +kernel
theorem dX7_bodyComesTo_61 : decode cX7_bodyComesTo 61 = .ok (.goto 4, 3) := by decide +kernel
theorem dX7_bodyComesTo_64 : decode cX7_bodyComesTo 64 = .ok (.iconst 0, 1) := by decide +kernel
theorem dX7_bodyComesTo_65 : decode cX7_bodyComesTo 65 = .ok (.istore 7, 2) := by decide +kernel
theorem dX7_bodyComesTo_67 : decode cX7_bodyComesTo 67 = .ok (.iload 5, 2) := by decide +kernel
theorem dX7_bodyComesTo_69 : decode cX7_bodyComesTo 69 = .ok (.iconst 2, 1) := by decide +kernel
theorem dX7_bodyComesTo_70 : decode cX7_bodyComesTo 70 = .ok (.if_icmp .le 10, 3) := by decide +kernel
theorem dX7_bodyComesTo_73 : decode cX7_bodyComesTo 73 = .ok (.aload_n 0, 1) := by decide +kernel
theorem dX7_bodyComesTo_74 : decode cX7_bodyComesTo 74 = .ok (.invokevirtual 121, 3) := by decide +kernel
theorem dX7_bodyComesTo_77 : decode cX7_bodyComesTo 77 = .ok (.goto 4, 3) := by decide +kernel
theorem dX7_bodyComesTo_80 : decode cX7_bodyComesTo 80 = .ok (.iconst 0, 1) := by decide +kernel
theorem dX7_bodyComesTo_81 : decode cX7_bodyComesTo 81 = .ok (.istore 8, 2) := by decide +kernel
theorem dX7_bodyComesTo_83 : decode cX7_bodyComesTo 83 = .ok (.aload_n 0, 1) := by decide +kernel
theorem dX7_bodyComesTo_84 : decode cX7_bodyComesTo 84 = .ok (.aload_n 0, 1) := by decide +kernel
theorem dX7_bodyComesTo_85 : decode cX7_bodyComesTo 85 = .ok (.iload 4, 2) := by decide +kernel
theorem dX7_bodyComesTo_87 : decode cX7_bodyComesTo 87 = .ok (.iload 6, 2) := by decide +kernel
theorem dX7_bodyComesTo_89 : decode cX7_bodyComesTo 89 = .ok (.iload 7, 2) := by decide +kernel
theorem dX7_bodyComesTo_91 : decode cX7_bodyComesTo 91 = .ok (.iload 8, 2) := by decide +kernel
theorem dX7_bodyComesTo_93 : decode cX7_bodyComesTo 93 = .ok (.invokevirtual 125, 3) := by decide +kernel
theorem dX7_bodyComesTo_96 : decode cX7_bodyComesTo 96 = .ok (.invokevirtual 129, 3) := by decide +kernel
theorem dX7_bodyComesTo_99 : decode cX7_bodyComesTo 99 = .ok (.iinc 3 (-1), 3) := by decide +kernel
theorem dX7_bodyComesTo_102 : decode cX7_bodyComesTo 102 = .ok (.goto (-88), 3) := by decide +kernel
theorem dX7_bodyComesTo_105 : decode cX7_bodyComesTo 105 = .ok (.aload_n 0, 1) := by decide +kernel
theorem dX7_bodyComesTo_106 : decode cX7_bodyComesTo 106 = .ok (.invokevirtual 121, 3) := by decide +kernel
theorem dX7_bodyComesTo_109 : decode cX7_bodyComesTo 109 = .ok (.ireturn, 1) := by decide +kernel
theorem dX7_push_0 : decode cX7_push 0 = .ok (.aload_n 0, 1) := by decide +kernel
theorem dX7_push_1 : decode cX7_push 1 = .ok (.getfield 108, 3) := by decide +kernel
theorem dX7_push_4 : decode cX7_push 4 = .ok (.aload_n 0, 1) := by decide +kernel
theorem dX7_push_5 : decode cX7_push 5 = .ok (.getfield 18, 3) := by decide +kernel
theorem dX7_push_8 : decode cX7_push 8 = .ok (.arraylength, 1) := by decide +kernel
theorem dX7_push_9 : decode cX7_push 9 = .ok (.if_icmp .ge 23, 3) := by decide +kernel
theorem dX7_push_12 : decode cX7_push 12 = .ok (.aload_n 0, 1) := by decide +kernel
theorem dX7_push_13 : decode cX7_push 13 = .ok (.getfield 18, 3) := by decide +kernel
theorem dX7_push_16 : decode cX7_push 16 = .ok (.aload_n 0, 1) := by decide +kernel
theorem dX7_push_17 : decode cX7_push 17 = .ok (.getfield 108, 3) := by decide +kernel
theorem dX7_push_20 : decode cX7_push 20 = .ok (.iload_n 1, 1) := by decide +kernel
theorem dX7_push_21 : decode cX7_push 21 = .ok (.iastore, 1) := by decide +kernel
theorem dX7_push_22 : decode cX7_push 22 = .ok (.aload_n 0, 1) := by decide +kernel
theorem dX7_push_23 : decode cX7_push 23 = .ok (.dup, 1) := by decide +kernel
theorem dX7_push_24 : decode cX7_push 24 = .ok (.getfield 108, 3) := by decide +kernel
theorem dX7_push_27 : decode cX7_push 27 = .ok (.iconst 1, 1) := by decide +kernel
theorem dX7_push_28 : decode cX7_push 28 = .ok (.iadd, 1) := by decide +kernel
theorem dX7_push_29 : decode cX7_push 29 = .ok (.putfield 108, 3) := by decide +kernel
theorem dX7_push_32 : decode cX7_push 32 = .ok (.return_, 1) := by decide +kernel
theorem dX7_pop_0 : decode cX7_pop 0 = .ok (.aload_n 0, 1) := by decide +kernel
theorem dX7_pop_1 : decode cX7_pop 1 = .ok (.getfield 108, 3) := by decide +kernel
theorem dX7_pop_4 : decode cX7_pop 4 = .ok (.ifCond .gt 8, 3) := by decide +kernel
theorem dX7_pop_7 : decode cX7_pop 7 = .ok (.aload_n 0, 1) := by decide +kernel
theorem dX7_pop_8 : decode cX7_pop 8 = .ok (.getfield 25, 3) := by decide +kernel
theorem dX7_pop_11 : decode cX7_pop 11 = .ok (.ireturn, 1) := by decide +kernel
theorem dX7_pop_12 : decode cX7_pop 12 = .ok (.aload_n 0, 1) := by decide +kernel
theorem dX7_pop_13 : decode cX7_pop 13 = .ok (.dup, 1) := by decide +kernel
theorem dX7_pop_14 : decode cX7_pop 14 = .ok (.getfield 108, 3) := by decide +kernel
theorem dX7_pop_17 : decode cX7_pop 17 = .ok (.iconst 1, 1) := by decide +kernel
theorem dX7_pop_18 : decode cX7_pop 18 = .ok (.isub, 1) := by decide +kernel
theorem dX7_pop_19 : decode cX7_pop 19 = .ok (.putfield 108, 3) := by decide +kernel
theorem dX7_pop_22 : decode cX7_pop 22 = .ok (.aload_n 0, 1) := by decide +kernel
theorem dX7_pop_23 : decode cX7_pop 23 = .ok (.getfield 18, 3) := by decide +kernel
theorem dX7_pop_26 : decode cX7_pop 26 = .ok (.aload_n 0, 1) := by decide +kernel
theorem dX7_pop_27 : decode cX7_pop 27 = .ok (.getfield 108, 3) := by decide +kernel
theorem dX7_pop_30 : decode cX7_pop 30 = .ok (.iaload, 1) := by decide +kernel
theorem dX7_pop_31 : decode cX7_pop 31 = .ok (.ireturn, 1) := by decide +kernel
set_option maxRecDepth 20000 in
theorem ggX7_letterComesTo_X0_less : GoodIn wsX7_letterComesTo wsX0_less := goodIn_r _ [11] rfl (by decide +kernel)
set_option maxRecDepth 20000 in
theorem gX7_letterComesTo_X0_less_u132X0 : GoodIn wsX7_letterComesTo (va_wsU RX7 132 RX0 "EarlyValues$View" ⟨"EarlyValues$View", "less", "(I)I"⟩ yX0_less wsX0_less) := goodIn_app (goodIn_of _ (by decide +kernel)) ggX7_letterComesTo_X0_less
set_option maxRecDepth 20000 in
theorem ggX7_letterComesTo_X4_less : GoodIn wsX7_letterComesTo wsX4_less := goodIn_r _ [15] rfl (by decide +kernel)
set_option maxRecDepth 20000 in
theorem gX7_letterComesTo_X4_less_u132X4 : GoodIn wsX7_letterComesTo (va_wsU RX7 132 RX4 "EarlyValues$View" ⟨"EarlyValues$View", "less", "(I)I"⟩ yX4_less wsX4_less) := goodIn_app (goodIn_of _ (by decide +kernel)) ggX7_letterComesTo_X4_less
set_option maxRecDepth 20000 in
theorem ggX7_letterComesTo_X6_less : GoodIn wsX7_letterComesTo wsX6_less := goodIn_r _ [19, 20, 21, 22, 23] rfl (by decide +kernel)
set_option maxRecDepth 20000 in
theorem gX7_letterComesTo_X6_less_u132X6 : GoodIn wsX7_letterComesTo (va_wsU RX7 132 RX6 "EarlyValues$View" ⟨"EarlyValues$View", "less", "(I)I"⟩ yX6_less wsX6_less) := goodIn_app (goodIn_of _ (by decide +kernel)) ggX7_letterComesTo_X6_less
set_option maxRecDepth 20000 in
theorem ggX7_letterComesTo_X0_sum : GoodIn wsX7_letterComesTo wsX0_sum := goodIn_r _ [28] rfl (by decide +kernel)
set_option maxRecDepth 20000 in
theorem gX7_letterComesTo_X0_sum_u135X0 : GoodIn wsX7_letterComesTo (va_wsU RX7 135 RX0 "EarlyValues$View" ⟨"EarlyValues$View", "sum", "(II)I"⟩ yX0_sum wsX0_sum) := goodIn_app (goodIn_of _ (by decide +kernel)) ggX7_letterComesTo_X0_sum
set_option maxRecDepth 20000 in
theorem ggX7_letterComesTo_X4_sum : GoodIn wsX7_letterComesTo wsX4_sum := goodIn_r _ [31] rfl (by decide +kernel)
set_option maxRecDepth 20000 in
theorem gX7_letterComesTo_X4_sum_u135X4 : GoodIn wsX7_letterComesTo (va_wsU RX7 135 RX4 "EarlyValues$View" ⟨"EarlyValues$View", "sum", "(II)I"⟩ yX4_sum wsX4_sum) := goodIn_app (goodIn_of _ (by decide +kernel)) ggX7_letterComesTo_X4_sum
set_option maxRecDepth 20000 in
theorem ggX7_letterComesTo_X6_sum : GoodIn wsX7_letterComesTo wsX6_sum := goodIn_r _ [34] rfl (by decide +kernel)
set_option maxRecDepth 20000 in
theorem gX7_letterComesTo_X6_sum_u135X6 : GoodIn wsX7_letterComesTo (va_wsU RX7 135 RX6 "EarlyValues$View" ⟨"EarlyValues$View", "sum", "(II)I"⟩ yX6_sum wsX6_sum) := goodIn_app (goodIn_of _ (by decide +kernel)) ggX7_letterComesTo_X6_sum
set_option maxRecDepth 20000 in
theorem ggX7_letterComesTo_X0_chosen : GoodIn wsX7_letterComesTo wsX0_chosen := goodIn_r _ [39] rfl (by decide +kernel)
set_option maxRecDepth 20000 in
theorem gX7_letterComesTo_X0_chosen_u138X0 : GoodIn wsX7_letterComesTo (va_wsU RX7 138 RX0 "EarlyValues$View" ⟨"EarlyValues$View", "chosen", "(III)I"⟩ yX0_chosen wsX0_chosen) := goodIn_app (goodIn_of _ (by decide +kernel)) ggX7_letterComesTo_X0_chosen
set_option maxRecDepth 20000 in
theorem ggX7_letterComesTo_X4_chosen : GoodIn wsX7_letterComesTo wsX4_chosen := goodIn_r _ [42] rfl (by decide +kernel)
set_option maxRecDepth 20000 in
theorem gX7_letterComesTo_X4_chosen_u138X4 : GoodIn wsX7_letterComesTo (va_wsU RX7 138 RX4 "EarlyValues$View" ⟨"EarlyValues$View", "chosen", "(III)I"⟩ yX4_chosen wsX4_chosen) := goodIn_app (goodIn_of _ (by decide +kernel)) ggX7_letterComesTo_X4_chosen
set_option maxRecDepth 20000 in
theorem ggX7_letterComesTo_X6_chosen : GoodIn wsX7_letterComesTo wsX6_chosen := goodIn_r _ [45] rfl (by decide +kernel)
set_option maxRecDepth 20000 in
theorem gX7_letterComesTo_X6_chosen_u138X6 : GoodIn wsX7_letterComesTo (va_wsU RX7 138 RX6 "EarlyValues$View" ⟨"EarlyValues$View", "chosen", "(III)I"⟩ yX6_chosen wsX6_chosen) := goodIn_app (goodIn_of _ (by decide +kernel)) ggX7_letterComesTo_X6_chosen
set_option maxRecDepth 20000 in
theorem ggX7_letterComesTo_X7_at : GoodIn wsX7_letterComesTo wsX7_at := goodIn_r _ [51, 52, 3, 55, 56, 57, 58, 59, 60, 61, 62, 63, 64, 65, 66, 67, 68, 69, 70, 71, 72, 73, 74, 75, 76, 77, 78, 79, 80, 81, 82, 83, 84, 85, 86, 87, 88, 89, 90, 91, 92, 93] rfl (by decide +kernel)
set_option maxRecDepth 20000 in
theorem gX7_letterComesTo_X7_at_u83X0 : GoodIn wsX7_letterComesTo (va_wsU RX7 83 RX0 "EarlyValues$View" ⟨"EarlyValues$View", "at", "(II)I"⟩ yX7_at wsX7_at) := goodIn_app (goodIn_of _ (by decide +kernel)) ggX7_letterComesTo_X7_at
set_option maxRecDepth 20000 in
theorem gX7_letterComesTo_X7_at_u83X4 : GoodIn wsX7_letterComesTo (va_wsU RX7 83 RX4 "EarlyValues$View" ⟨"EarlyValues$View", "at", "(II)I"⟩ yX7_at wsX7_at) := goodIn_app (goodIn_of _ (by decide +kernel)) ggX7_letterComesTo_X7_at
set_option maxRecDepth 20000 in
theorem gX7_letterComesTo_X7_at_u83X6 : GoodIn wsX7_letterComesTo (va_wsU RX7 83 RX6 "EarlyValues$View" ⟨"EarlyValues$View", "at", "(II)I"⟩ yX7_at wsX7_at) := goodIn_app (goodIn_of _ (by decide +kernel)) ggX7_letterComesTo_X7_at
theorem dX7_letterComesTo_0 : decode cX7_letterComesTo 0 = .ok (.iload_n 1, 1) := by decide +kernel
theorem dX7_letterComesTo_1 : decode cX7_letterComesTo 1 = .ok (.tableswitch 162 0 9 #[55, 60, 65, 162, 162, 162, 70, 91, 121, 138], 55) := by decide +kernel
theorem dX7_letterComesTo_56 : decode cX7_letterComesTo 56 = .ok (.aload_n 0, 1) := by decide +kernel
theorem dX7_letterComesTo_57 : decode cX7_letterComesTo 57 = .ok (.getfield 28, 3) := by decide +kernel
theorem dX7_letterComesTo_60 : decode cX7_letterComesTo 60 = .ok (.ireturn, 1) := by decide +kernel
theorem dX7_letterComesTo_61 : decode cX7_letterComesTo 61 = .ok (.aload_n 0, 1) := by decide +kernel
theorem dX7_letterComesTo_62 : decode cX7_letterComesTo 62 = .ok (.getfield 31, 3) := by decide +kernel
theorem dX7_letterComesTo_65 : decode cX7_letterComesTo 65 = .ok (.ireturn, 1) := by decide +kernel
theorem dX7_letterComesTo_66 : decode cX7_letterComesTo 66 = .ok (.aload_n 0, 1) := by decide +kernel
theorem dX7_letterComesTo_67 : decode cX7_letterComesTo 67 = .ok (.getfield 25, 3) := by decide +kernel
theorem dX7_letterComesTo_70 : decode cX7_letterComesTo 70 = .ok (.ireturn, 1) := by decide +kernel
theorem dX7_letterComesTo_71 : decode cX7_letterComesTo 71 = .ok (.iload_n 2, 1) := by decide +kernel
theorem dX7_letterComesTo_72 : decode cX7_letterComesTo 72 = .ok (.aload_n 0, 1) := by decide +kernel
theorem dX7_letterComesTo_73 : decode cX7_letterComesTo 73 = .ok (.getfield 25, 3) := by decide +kernel
theorem dX7_letterComesTo_76 : decode cX7_letterComesTo 76 = .ok (.if_icmp .ne 10, 3) := by decide +kernel
theorem dX7_letterComesTo_79 : decode cX7_letterComesTo 79 = .ok (.aload_n 0, 1) := by decide +kernel
theorem dX7_letterComesTo_80 : decode cX7_letterComesTo 80 = .ok (.getfield 25, 3) := by decide +kernel
theorem dX7_letterComesTo_83 : decode cX7_letterComesTo 83 = .ok (.goto 8, 3) := by decide +kernel
theorem dX7_letterComesTo_86 : decode cX7_letterComesTo 86 = .ok (.aload_n 0, 1) := by decide +kernel
theorem dX7_letterComesTo_87 : decode cX7_letterComesTo 87 = .ok (.iload_n 2, 1) := by decide +kernel
theorem dX7_letterComesTo_88 : decode cX7_letterComesTo 88 = .ok (.invokevirtual 132, 3) := by decide +kernel
theorem dX7_letterComesTo_91 : decode cX7_letterComesTo 91 = .ok (.ireturn, 1) := by decide +kernel
theorem dX7_letterComesTo_92 : decode cX7_letterComesTo 92 = .ok (.iload_n 2, 1) := by decide +kernel
theorem dX7_letterComesTo_93 : decode cX7_letterComesTo 93 = .ok (.aload_n 0, 1) := by decide +kernel
theorem dX7_letterComesTo_94 : decode cX7_letterComesTo 94 = .ok (.getfield 25, 3) := by decide +kernel
theorem dX7_letterComesTo_97 : decode cX7_letterComesTo 97 = .ok (.if_icmp .eq 11, 3) := by decide +kernel
theorem dX7_letterComesTo_100 : decode cX7_letterComesTo 100 = .ok (.iload_n 3, 1) := by decide +kernel
theorem dX7_letterComesTo_101 : decode cX7_letterComesTo 101 = .ok (.aload_n 0, 1) := by decide +kernel
theorem dX7_letterComesTo_102 : decode cX7_letterComesTo 102 = .ok (.getfield 25, 3) := by decide +kernel
theorem dX7_letterComesTo_105 : decode cX7_letterComesTo 105 = .ok (.if_icmp .ne 10, 3) := by decide +kernel
theorem dX7_letterComesTo_108 : decode cX7_letterComesTo 108 = .ok (.aload_n 0, 1) := by decide +kernel
theorem dX7_letterComesTo_109 : decode cX7_letterComesTo 109 = .ok (.getfield 25, 3) := by decide +kernel
theorem dX7_letterComesTo_112 : decode cX7_letterComesTo 112 = .ok (.goto 9, 3) := by decide +kernel
theorem dX7_letterComesTo_115 : decode cX7_letterComesTo 115 = .ok (.aload_n 0, 1) := by decide +kernel
theorem dX7_letterComesTo_116 : decode cX7_letterComesTo 116 = .ok (.iload_n 2, 1) := by decide +kernel
theorem dX7_letterComesTo_117 : decode cX7_letterComesTo 117 = .ok (.iload_n 3, 1) := by decide +kernel
theorem dX7_letterComesTo_118 : decode cX7_letterComesTo 118 = .ok (.invokevirtual 135, 3) := by decide +kernel
theorem dX7_letterComesTo_121 : decode cX7_letterComesTo 121 = .ok (.ireturn, 1) := by decide +kernel
theorem dX7_letterComesTo_122 : decode cX7_letterComesTo 122 = .ok (.iload_n 2, 1) := by decide +kernel
theorem dX7_letterComesTo_123 : decode cX7_letterComesTo 123 = .ok (.aload_n 0, 1) := by decide +kernel
theorem dX7_letterComesTo_124 : decode cX7_letterComesTo 124 = .ok (.getfield 25, 3) := by decide +kernel
theorem dX7_letterComesTo_127 : decode cX7_letterComesTo 127 = .ok (.if_icmp .ne 10, 3) := by decide +kernel
theorem dX7_letterComesTo_130 : decode cX7_letterComesTo 130 = .ok (.aload_n 0, 1) := by decide +kernel
theorem dX7_letterComesTo_131 : decode cX7_letterComesTo 131 = .ok (.getfield 25, 3) := by decide +kernel
theorem dX7_letterComesTo_134 : decode cX7_letterComesTo 134 = .ok (.goto 4, 3) := by decide +kernel
theorem dX7_letterComesTo_137 : decode cX7_letterComesTo 137 = .ok (.iload_n 3, 1) := by decide +kernel
theorem dX7_letterComesTo_138 : decode cX7_letterComesTo 138 = .ok (.ireturn, 1) := by decide +kernel
theorem dX7_letterComesTo_139 : decode cX7_letterComesTo 139 = .ok (.iload_n 2, 1) := by decide +kernel
theorem dX7_letterComesTo_140 : decode cX7_letterComesTo 140 = .ok (.aload_n 0, 1) := by decide +kernel
theorem dX7_letterComesTo_141 : decode cX7_letterComesTo 141 = .ok (.getfield 25, 3) := by decide +kernel
theorem dX7_letterComesTo_144 : decode cX7_letterComesTo 144 = .ok (.if_icmp .ne 10, 3) := by decide +kernel
theorem dX7_letterComesTo_147 : decode cX7_letterComesTo 147 = .ok (.aload_n 0, 1) := by decide +kernel
theorem dX7_letterComesTo_148 : decode cX7_letterComesTo 148 = .ok (.getfield 25, 3) := by decide +kernel
theorem dX7_letterComesTo_151 : decode cX7_letterComesTo 151 = .ok (.goto 11, 3) := by decide +kernel
theorem dX7_letterComesTo_154 : decode cX7_letterComesTo 154 = .ok (.aload_n 0, 1) := by decide +kernel
theorem dX7_letterComesTo_155 : decode cX7_letterComesTo 155 = .ok (.iload_n 2, 1) := by decide +kernel
theorem dX7_letterComesTo_156 : decode cX7_letterComesTo 156 = .ok (.iload_n 3, 1) := by decide +kernel
theorem dX7_letterComesTo_157 : decode cX7_letterComesTo 157 = .ok (.iload 4, 2) := by decide +kernel
theorem dX7_letterComesTo_159 : decode cX7_letterComesTo 159 = .ok (.invokevirtual 138, 3) := by decide +kernel
theorem dX7_letterComesTo_162 : decode cX7_letterComesTo 162 = .ok (.ireturn, 1) := by decide +kernel
theorem dX7_letterComesTo_163 : decode cX7_letterComesTo 163 = .ok (.iload_n 1, 1) := by decide +kernel
theorem dX7_letterComesTo_164 : decode cX7_letterComesTo 164 = .ok (.bipush 10, 2) := by decide +kernel
theorem dX7_letterComesTo_166 : decode cX7_letterComesTo 166 = .ok (.if_icmp .lt 32, 3) := by decide +kernel
theorem dX7_letterComesTo_169 : decode cX7_letterComesTo 169 = .ok (.aload_n 0, 1) := by decide +kernel
theorem dX7_letterComesTo_170 : decode cX7_letterComesTo 170 = .ok (.iload_n 1, 1) := by decide +kernel
theorem dX7_letterComesTo_171 : decode cX7_letterComesTo 171 = .ok (.bipush 10, 2) := by decide +kernel
theorem dX7_letterComesTo_173 : decode cX7_letterComesTo 173 = .ok (.isub, 1) := by decide +kernel
theorem dX7_letterComesTo_174 : decode cX7_letterComesTo 174 = .ok (.iload_n 2, 1) := by decide +kernel
theorem dX7_letterComesTo_175 : decode cX7_letterComesTo 175 = .ok (.aload_n 0, 1) := by decide +kernel
theorem dX7_letterComesTo_176 : decode cX7_letterComesTo 176 = .ok (.getfield 9, 3) := by decide +kernel
theorem dX7_letterComesTo_179 : decode cX7_letterComesTo 179 = .ok (.iconst 1, 1) := by decide +kernel
theorem dX7_letterComesTo_180 : decode cX7_letterComesTo 180 = .ok (.iaload, 1) := by decide +kernel
theorem dX7_letterComesTo_181 : decode cX7_letterComesTo 181 = .ok (.iload_n 3, 1) := by decide +kernel
theorem dX7_letterComesTo_182 : decode cX7_letterComesTo 182 = .ok (.imul, 1) := by decide +kernel
theorem dX7_letterComesTo_183 : decode cX7_letterComesTo 183 = .ok (.iadd, 1) := by decide +kernel
theorem dX7_letterComesTo_184 : decode cX7_letterComesTo 184 = .ok (.aload_n 0, 1) := by decide +kernel
theorem dX7_letterComesTo_185 : decode cX7_letterComesTo 185 = .ok (.getfield 9, 3) := by decide +kernel
theorem dX7_letterComesTo_188 : decode cX7_letterComesTo 188 = .ok (.iconst 2, 1) := by decide +kernel
theorem dX7_letterComesTo_189 : decode cX7_letterComesTo 189 = .ok (.iaload, 1) := by decide +kernel
theorem dX7_letterComesTo_190 : decode cX7_letterComesTo 190 = .ok (.iload 4, 2) := by decide +kernel
theorem dX7_letterComesTo_192 : decode cX7_letterComesTo 192 = .ok (.imul, 1) := by decide +kernel
theorem dX7_letterComesTo_193 : decode cX7_letterComesTo 193 = .ok (.iadd, 1) := by decide +kernel
theorem dX7_letterComesTo_194 : decode cX7_letterComesTo 194 = .ok (.invokevirtual 83, 3) := by decide +kernel
theorem dX7_letterComesTo_197 : decode cX7_letterComesTo 197 = .ok (.ireturn, 1) := by decide +kernel
theorem dX7_letterComesTo_198 : decode cX7_letterComesTo 198 = .ok (.iload_n 1, 1) := by decide +kernel
theorem dX7_letterComesTo_199 : decode cX7_letterComesTo 199 = .ok (.iconst 3, 1) := by decide +kernel
theorem dX7_letterComesTo_200 : decode cX7_letterComesTo 200 = .ok (.isub, 1) := by decide +kernel
theorem dX7_letterComesTo_201 : decode cX7_letterComesTo 201 = .ok (.istore 5, 2) := by decide +kernel
theorem dX7_letterComesTo_203 : decode cX7_letterComesTo 203 = .ok (.iload 5, 2) := by decide +kernel
theorem dX7_letterComesTo_205 : decode cX7_letterComesTo 205 = .ok (.ifCond .lt 23, 3) := by decide +kernel
theorem dX7_letterComesTo_208 : decode cX7_letterComesTo 208 = .ok (.iload 5, 2) := by decide +kernel
theorem dX7_letterComesTo_210 : decode cX7_letterComesTo 210 = .ok (.aload_n 0, 1) := by decide +kernel
theorem dX7_letterComesTo_211 : decode cX7_letterComesTo 211 = .ok (.getfield 15, 3) := by decide +kernel
theorem dX7_letterComesTo_214 : decode cX7_letterComesTo 214 = .ok (.arraylength, 1) := by decide +kernel
theorem dX7_letterComesTo_215 : decode cX7_letterComesTo 215 = .ok (.if_icmp .ge 13, 3) := by decide +kernel
theorem dX7_letterComesTo_218 : decode cX7_letterComesTo 218 = .ok (.aload_n 0, 1) := by decide +kernel
theorem dX7_letterComesTo_219 : decode cX7_letterComesTo 219 = .ok (.getfield 15, 3) := by decide +kernel
theorem dX7_letterComesTo_222 : decode cX7_letterComesTo 222 = .ok (.iload 5, 2) := by decide +kernel
theorem dX7_letterComesTo_224 : decode cX7_letterComesTo 224 = .ok (.iaload, 1) := by decide +kernel
theorem dX7_letterComesTo_225 : decode cX7_letterComesTo 225 = .ok (.goto 7, 3) := by decide +kernel
theorem dX7_letterComesTo_228 : decode cX7_letterComesTo 228 = .ok (.aload_n 0, 1) := by decide +kernel
theorem dX7_letterComesTo_229 : decode cX7_letterComesTo 229 = .ok (.getfield 25, 3) := by decide +kernel
theorem dX7_letterComesTo_232 : decode cX7_letterComesTo 232 = .ok (.ireturn, 1) := by decide +kernel
set_option maxRecDepth 20000 in
theorem ggX8_init_X5_init : GoodIn wsX8_init wsX5_init := goodIn_r _ [34, 35, 2, 3, 36, 9, 10, 37, 38, 39, 40, 41, 42, 43, 44, 45, 46, 47, 48, 49, 292, 293, 294, 295, 296, 276, 277, 278, 279, 280] rfl (by decide +kernel)
set_option maxRecDepth 20000 in
theorem gX8_init_X5_init : GoodIn wsX8_init (wsX5_init) := ggX8_init_X5_init
set_option maxRecDepth 20000 in
theorem ggX8_init_X3_init : GoodIn wsX8_init wsX3_init := goodIn_r _ [42, 43, 2, 3, 44, 45, 46, 47, 48, 49, 292, 293, 294, 295, 296] rfl (by decide +kernel)
set_option maxRecDepth 20000 in
theorem gX8_init_X3_init : GoodIn wsX8_init (wsX3_init) := ggX8_init_X3_init
set_option maxRecDepth 20000 in
theorem ggX8_init_X1_init : GoodIn wsX8_init wsX1_init := goodIn_r _ [53, 54, 2, 3, 44, 55, 56, 57, 297, 298, 299, 300] rfl (by decide +kernel)
set_option maxRecDepth 20000 in
theorem gX8_init_X1_init : GoodIn wsX8_init (wsX1_init) := ggX8_init_X1_init
set_option maxRecDepth 20000 in
theorem ggX8_init_X6_init : GoodIn wsX8_init wsX6_init := goodIn_r _ [60, 61, 62, 63, 64, 65, 2, 3, 44, 66, 67, 68, 69, 70, 71, 72, 73, 74, 75, 76, 77, 78, 79, 80, 81, 82, 83, 84, 85, 327, 328, 329, 330, 331, 332, 333, 334, 335, 336, 337, 338, 339, 314, 315, 316, 317, 318, 319, 320, 321, 322, 323, 324, 325, 326, 301, 302, 303, 304, 305, 306, 307, 308, 309, 310, 311, 312, 313] rfl (by decide +kernel)
set_option maxRecDepth 20000 in
theorem gX8_init_X6_init : GoodIn wsX8_init (wsX6_init) := ggX8_init_X6_init
set_option maxRecDepth 20000 in
theorem ggX8_init_X4_init : GoodIn wsX8_init wsX4_init := goodIn_r _ [88, 89, 62, 63, 64, 65, 2, 3, 44, 66, 67, 68, 69, 70, 71, 72, 73, 74, 75, 76, 77, 78, 79, 80, 81, 82, 83, 84, 85, 327, 328, 329, 330, 331, 332, 333, 334, 335, 336, 337, 338, 339, 314, 315, 316, 317, 318, 319, 320, 321, 322, 323, 324, 325, 326, 301, 302, 303, 304, 305, 306, 307, 308, 309, 310, 311, 312, 313] rfl (by decide +kernel)
set_option maxRecDepth 20000 in
theorem gX8_init_X4_init : GoodIn wsX8_init (wsX4_init) := ggX8_init_X4_init
set_option maxRecDepth 20000 in
theorem ggX8_init_X0_init : GoodIn wsX8_init wsX0_init := goodIn_r _ [92, 93, 62, 63, 64, 65, 2, 3, 44, 66, 67, 68, 69, 70, 71, 72, 73, 74, 75, 76, 77, 78, 79, 80, 81, 82, 83, 84, 85, 327, 328, 329, 330, 331, 332, 333, 334, 335, 336, 337, 338, 339, 314, 315, 316, 317, 318, 319, 320, 321, 322, 323, 324, 325, 326, 301, 302, 303, 304, 305, 306, 307, 308, 309, 310, 311, 312, 313] rfl (by decide +kernel)
set_option maxRecDepth 20000 in
theorem gX8_init_X0_init : GoodIn wsX8_init (wsX0_init) := ggX8_init_X0_init
set_option maxRecDepth 20000 in
theorem ggX8_init_X8_layStart : GoodIn wsX8_init wsX8_layStart := goodIn_r _ [98, 7, 11, 99, 100, 101, 102, 103, 104, 105, 106, 107, 108, 109, 110, 111, 112, 113, 114, 115, 116, 117, 118, 119, 120, 121, 122, 123, 124, 125, 126, 127, 128, 129, 130, 131, 132, 133, 134, 135, 136, 137, 138, 139, 140, 141, 142, 143, 144, 145, 146, 147, 148, 149, 150, 151, 6, 152, 153, 39, 154, 155, 156, 157, 158, 159, 37, 160, 161, 162, 163, 164, 165, 166, 167, 168, 169, 170, 171, 172, 173, 174, 175, 176, 177, 178, 179, 180, 181, 10, 182, 183, 184, 185, 186, 187, 188, 189, 190, 191, 192, 193, 194, 195, 196, 197, 198, 199, 200, 201, 202, 203, 204, 205, 206, 207, 208, 209, 210, 211, 212, 213, 214, 215, 216, 217, 218, 219, 220, 221, 222, 223, 224, 225, 226, 227, 228, 229, 230, 231, 232, 233, 234, 235, 236, 237, 238, 239, 240, 241, 242, 243, 244, 245, 246, 247, 248, 249, 250, 251, 252, 253, 254, 255, 256, 257, 258, 45, 259, 260, 261, 262, 263, 264, 265, 266, 267, 46, 47, 49, 268, 269, 270, 271, 272, 273, 274, 275, 281, 282, 283, 284, 285, 286, 287, 288, 289, 290, 291, 276, 277, 278, 279, 280, 292, 293, 294, 295, 296] (by decide +kernel) (by decide +kernel)
set_option maxRecDepth 20000 in
theorem gX8_init_X8_layStart : GoodIn wsX8_init (wsV RX8 62 RX8 yX8_layStart wsX8_layStart) := goodIn_app (goodIn_of _ (by decide +kernel)) ggX8_init_X8_layStart
theorem dX8_init_0 : decode cX8_init 0 = .ok (.aload_n 0, 1) := by decide +kernel
theorem dX8_init_1 : decode cX8_init 1 = .ok (.invokespecial 1, 3) := by decide +kernel
theorem dX8_init_4 : decode cX8_init 4 = .ok (.aload_n 0, 1) := by decide +kernel
theorem dX8_init_5 : decode cX8_init 5 = .ok (.new 7, 3) := by decide +kernel
theorem dX8_init_8 : decode cX8_init 8 = .ok (.dup, 1) := by decide +kernel
theorem dX8_init_9 : decode cX8_init 9 = .ok (.invokespecial 9, 3) := by decide +kernel
theorem dX8_init_12 : decode cX8_init 12 = .ok (.putfield 10, 3) := by decide +kernel
theorem dX8_init_15 : decode cX8_init 15 = .ok (.aload_n 0, 1) := by decide +kernel
theorem dX8_init_16 : decode cX8_init 16 = .ok (.new 16, 3) := by decide +kernel
theorem dX8_init_19 : decode cX8_init 19 = .ok (.dup, 1) := by decide +kernel
theorem dX8_init_20 : decode cX8_init 20 = .ok (.invokespecial 18, 3) := by decide +kernel
theorem dX8_init_23 : decode cX8_init 23 = .ok (.putfield 19, 3) := by decide +kernel
theorem dX8_init_26 : decode cX8_init 26 = .ok (.aload_n 0, 1) := by decide +kernel
theorem dX8_init_27 : decode cX8_init 27 = .ok (.new 16, 3) := by decide +kernel
theorem dX8_init_30 : decode cX8_init 30 = .ok (.dup, 1) := by decide +kernel
theorem dX8_init_31 : decode cX8_init 31 = .ok (.invokespecial 18, 3) := by decide +kernel
theorem dX8_init_34 : decode cX8_init 34 = .ok (.putfield 23, 3) := by decide +kernel
theorem dX8_init_37 : decode cX8_init 37 = .ok (.aload_n 0, 1) := by decide +kernel
theorem dX8_init_38 : decode cX8_init 38 = .ok (.iconst 2, 1) := by decide +kernel
theorem dX8_init_39 : decode cX8_init 39 = .ok (.anewarray 16, 3) := by decide +kernel
theorem dX8_init_42 : decode cX8_init 42 = .ok (.putfield 26, 3) := by decide +kernel
theorem dX8_init_45 : decode cX8_init 45 = .ok (.iconst 0, 1) := by decide +kernel
theorem dX8_init_46 : decode cX8_init 46 = .ok (.istore_n 1, 1) := by decide +kernel
theorem dX8_init_47 : decode cX8_init 47 = .ok (.iload_n 1, 1) := by decide +kernel
theorem dX8_init_48 : decode cX8_init 48 = .ok (.iconst 2, 1) := by decide +kernel
theorem dX8_init_49 : decode cX8_init 49 = .ok (.if_icmp .ge 22, 3) := by decide +kernel
theorem dX8_init_52 : decode cX8_init 52 = .ok (.aload_n 0, 1) := by decide +kernel
theorem dX8_init_53 : decode cX8_init 53 = .ok (.getfield 26, 3) := by decide +kernel
theorem dX8_init_56 : decode cX8_init 56 = .ok (.iload_n 1, 1) := by decide +kernel
theorem dX8_init_57 : decode cX8_init 57 = .ok (.new 16, 3) := by decide +kernel
theorem dX8_init_60 : decode cX8_init 60 = .ok (.dup, 1) := by decide +kernel
theorem dX8_init_61 : decode cX8_init 61 = .ok (.invokespecial 18, 3) := by decide +kernel
theorem dX8_init_64 : decode cX8_init 64 = .ok (.aastore, 1) := by decide +kernel
theorem dX8_init_65 : decode cX8_init 65 = .ok (.iinc 1 1, 3) := by decide +kernel
theorem dX8_init_68 : decode cX8_init 68 = .ok (.goto (-21), 3) := by decide +kernel
theorem dX8_init_71 : decode cX8_init 71 = .ok (.aload_n 0, 1) := by decide +kernel
theorem dX8_init_72 : decode cX8_init 72 = .ok (.new 30, 3) := by decide +kernel
theorem dX8_init_75 : decode cX8_init 75 = .ok (.dup, 1) := by decide +kernel
theorem dX8_init_76 : decode cX8_init 76 = .ok (.invokespecial 32, 3) := by decide +kernel
theorem dX8_init_79 : decode cX8_init 79 = .ok (.putfield 33, 3) := by decide +kernel
theorem dX8_init_82 : decode cX8_init 82 = .ok (.aload_n 0, 1) := by decide +kernel
theorem dX8_init_83 : decode cX8_init 83 = .ok (.new 37, 3) := by decide +kernel
theorem dX8_init_86 : decode cX8_init 86 = .ok (.dup, 1) := by decide +kernel
theorem dX8_init_87 : decode cX8_init 87 = .ok (.invokespecial 39, 3) := by decide +kernel
theorem dX8_init_90 : decode cX8_init 90 = .ok (.putfield 40, 3) := by decide +kernel
theorem dX8_init_93 : decode cX8_init 93 = .ok (.aload_n 0, 1) := by decide +kernel
theorem dX8_init_94 : decode cX8_init 94 = .ok (.new 44, 3) := by decide +kernel
theorem dX8_init_97 : decode cX8_init 97 = .ok (.dup, 1) := by decide +kernel
theorem dX8_init_98 : decode cX8_init 98 = .ok (.invokespecial 46, 3) := by decide +kernel
theorem dX8_init_101 : decode cX8_init 101 = .ok (.putfield 47, 3) := by decide +kernel
theorem dX8_init_104 : decode cX8_init 104 = .ok (.aload_n 0, 1) := by decide +kernel
theorem dX8_init_105 : decode cX8_init 105 = .ok (.new 50, 3) := by decide +kernel
theorem dX8_init_108 : decode cX8_init 108 = .ok (.dup, 1) := by decide +kernel
theorem dX8_init_109 : decode cX8_init 109 = .ok (.invokespecial 52, 3) := by decide +kernel
theorem dX8_init_112 : decode cX8_init 112 = .ok (.putfield 53, 3) := by decide +kernel
theorem dX8_init_115 : decode cX8_init 115 = .ok (.aload_n 0, 1) := by decide +kernel
theorem dX8_init_116 : decode cX8_init 116 = .ok (.new 37, 3) := by decide +kernel
theorem dX8_init_119 : decode cX8_init 119 = .ok (.dup, 1) := by decide +kernel
theorem dX8_init_120 : decode cX8_init 120 = .ok (.invokespecial 39, 3) := by decide +kernel
theorem dX8_init_123 : decode cX8_init 123 = .ok (.putfield 56, 3) := by decide +kernel
theorem dX8_init_126 : decode cX8_init 126 = .ok (.aload_n 0, 1) := by decide +kernel
theorem dX8_init_127 : decode cX8_init 127 = .ok (.new 50, 3) := by decide +kernel
theorem dX8_init_130 : decode cX8_init 130 = .ok (.dup, 1) := by decide +kernel
theorem dX8_init_131 : decode cX8_init 131 = .ok (.invokespecial 52, 3) := by decide +kernel
theorem dX8_init_134 : decode cX8_init 134 = .ok (.putfield 59, 3) := by decide +kernel
theorem dX8_init_137 : decode cX8_init 137 = .ok (.aload_n 0, 1) := by decide +kernel
theorem dX8_init_138 : decode cX8_init 138 = .ok (.invokevirtual 62, 3) := by decide +kernel
theorem dX8_init_141 : decode cX8_init 141 = .ok (.return_, 1) := by decide +kernel
set_option maxRecDepth 20000 in
theorem ggX8_layStart_J0_length_8abf5 : GoodIn wsX8_layStart wsJ0_length_8abf5 := goodIn_r _ [8, 9, 10, 11, 12, 7, 13, 14, 15] rfl (by decide +kernel)
set_option maxRecDepth 20000 in
theorem gX8_layStart_J0_length_8abf5 : GoodIn wsX8_layStart (wsV RX8 67 RJ0 yJ0_length_8abf5 wsJ0_length_8abf5) := goodIn_app (goodIn_of _ (by decide +kernel)) ggX8_layStart_J0_length_8abf5
set_option maxRecDepth 20000 in
theorem ggX8_layStart_J0_charAt_5068e : GoodIn wsX8_layStart wsJ0_charAt_5068e := goodIn_r _ [19, 9, 20, 21, 22, 7, 23, 14, 15, 24, 25, 26, 27, 28, 29, 30, 31, 32, 33, 34, 35, 36, 37, 38, 39, 40, 41, 42, 43, 44, 45, 46, 47, 48, 49, 50, 51, 52] rfl (by decide +kernel)
set_option maxRecDepth 20000 in
theorem gX8_layStart_J0_charAt_5068e : GoodIn wsX8_layStart (wsV RX8 73 RJ0 yJ0_charAt_5068e wsJ0_charAt_5068e) := goodIn_app (goodIn_of _ (by decide +kernel)) ggX8_layStart_J0_charAt_5068e
set_option maxRecDepth 20000 in
theorem ggX8_layStart_X5_add : GoodIn wsX8_layStart wsX5_add := goodIn_r _ [57, 58, 59, 199, 200, 201, 202, 203] rfl (by decide +kernel)
set_option maxRecDepth 20000 in
theorem gX8_layStart_X5_add : GoodIn wsX8_layStart (wsV RX8 77 RX5 yX5_add wsX5_add) := goodIn_app (goodIn_of _ (by decide +kernel)) ggX8_layStart_X5_add
set_option maxRecDepth 20000 in
theorem ggX8_layStart_X5_read : GoodIn wsX8_layStart wsX5_read := goodIn_r _ [63, 64, 65, 66, 67, 58, 68, 69, 70, 56, 71, 72, 73, 74, 75, 59, 76, 77, 78, 79, 80, 81, 82, 83, 84, 85, 86, 87, 88, 89, 90, 91, 92, 93, 94, 95, 96, 97, 98, 99, 100, 101, 102, 103, 104, 7, 105, 106, 107, 108, 109, 9, 20, 21, 22, 23, 14, 15, 110, 5, 6, 8, 10, 11, 12, 13, 111, 112, 26, 113, 114, 115, 116, 117, 118, 119, 120, 121, 122, 123, 124, 125, 126, 127, 128, 38, 129, 130, 131, 132, 133, 134, 135, 136, 137, 138, 43, 44, 45, 139, 140, 141, 31, 142, 143, 34, 144, 145, 146, 147, 47, 48, 49, 50, 51, 52, 148, 149, 150, 151, 152, 153, 154, 155, 156, 157, 158, 159, 160, 161, 162, 163, 164, 165, 166, 167, 168, 169, 170, 171, 172, 199, 200, 201, 202, 203, 204, 205, 206, 207, 208] (by decide +kernel) (by decide +kernel)
set_option maxRecDepth 20000 in
theorem gX8_layStart_X5_read : GoodIn wsX8_layStart (wsV RX8 81 RX5 yX5_read wsX5_read) := goodIn_app (goodIn_of _ (by decide +kernel)) ggX8_layStart_X5_read
set_option maxRecDepth 20000 in
theorem ggX8_layStart_X3_takeFrom : GoodIn wsX8_layStart wsX3_takeFrom := goodIn_r _ [176, 91, 167, 177, 178, 179, 180, 181, 182, 183, 204, 205, 206, 207, 208] rfl (by decide +kernel)
set_option maxRecDepth 20000 in
theorem gX8_layStart_X3_takeFrom : GoodIn wsX8_layStart (wsV RX8 87 RX3 yX3_takeFrom wsX3_takeFrom) := goodIn_app (goodIn_of _ (by decide +kernel)) ggX8_layStart_X3_takeFrom
set_option maxRecDepth 20000 in
theorem ggX8_layStart_X5_clear : GoodIn wsX8_layStart wsX5_clear := goodIn_r _ [187, 58, 199, 200, 201, 202, 203] rfl (by decide +kernel)
set_option maxRecDepth 20000 in
theorem gX8_layStart_X5_clear : GoodIn wsX8_layStart (wsV RX8 91 RX5 yX5_clear wsX5_clear) := goodIn_app (goodIn_of _ (by decide +kernel)) ggX8_layStart_X5_clear
theorem dX8_layStart_0 : decode cX8_layStart 0 = .ok (.iconst 0, 1) := by decide +kernel
theorem dX8_layStart_1 : decode cX8_layStart 1 = .ok (.istore_n 1, 1) := by decide +kernel
theorem dX8_layStart_2 : decode cX8_layStart 2 = .ok (.iload_n 1, 1) := by decide +kernel
theorem dX8_layStart_3 : decode cX8_layStart 3 = .ok (.ldc 65, 2) := by decide +kernel
theorem dX8_layStart_5 : decode cX8_layStart 5 = .ok (.invokevirtual 67, 3) := by decide +kernel
theorem dX8_layStart_8 : decode cX8_layStart 8 = .ok (.if_icmp .ge 22, 3) := by decide +kernel
theorem dX8_layStart_11 : decode cX8_layStart 11 = .ok (.aload_n 0, 1) := by decide +kernel
theorem dX8_layStart_12 : decode cX8_layStart 12 = .ok (.getfield 10, 3) := by decide +kernel
theorem dX8_layStart_15 : decode cX8_layStart 15 = .ok (.ldc 65, 2) := by decide +kernel
theorem dX8_layStart_17 : decode cX8_layStart 17 = .ok (.iload_n 1, 1) := by decide +kernel
theorem dX8_layStart_18 : decode cX8_layStart 18 = .ok (.invokevirtual 73, 3) := by decide +kernel
theorem dX8_layStart_21 : decode cX8_layStart 21 = .ok (.invokevirtual 77, 3) := by decide +kernel
theorem dX8_layStart_24 : decode cX8_layStart 24 = .ok (.iinc 1 1, 3) := by decide +kernel
theorem dX8_layStart_27 : decode cX8_layStart 27 = .ok (.goto (-25), 3) := by decide +kernel
theorem dX8_layStart_30 : decode cX8_layStart 30 = .ok (.aload_n 0, 1) := by decide +kernel
theorem dX8_layStart_31 : decode cX8_layStart 31 = .ok (.getfield 10, 3) := by decide +kernel
theorem dX8_layStart_34 : decode cX8_layStart 34 = .ok (.invokevirtual 81, 3) := by decide +kernel
theorem dX8_layStart_37 : decode cX8_layStart 37 = .ok (.pop, 1) := by decide +kernel
theorem dX8_layStart_38 : decode cX8_layStart 38 = .ok (.aload_n 0, 1) := by decide +kernel
theorem dX8_layStart_39 : decode cX8_layStart 39 = .ok (.getfield 19, 3) := by decide +kernel
theorem dX8_layStart_42 : decode cX8_layStart 42 = .ok (.aload_n 0, 1) := by decide +kernel
theorem dX8_layStart_43 : decode cX8_layStart 43 = .ok (.getfield 10, 3) := by decide +kernel
theorem dX8_layStart_46 : decode cX8_layStart 46 = .ok (.getfield 84, 3) := by decide +kernel
theorem dX8_layStart_49 : decode cX8_layStart 49 = .ok (.invokevirtual 87, 3) := by decide +kernel
theorem dX8_layStart_52 : decode cX8_layStart 52 = .ok (.aload_n 0, 1) := by decide +kernel
theorem dX8_layStart_53 : decode cX8_layStart 53 = .ok (.getfield 10, 3) := by decide +kernel
theorem dX8_layStart_56 : decode cX8_layStart 56 = .ok (.invokevirtual 91, 3) := by decide +kernel
theorem dX8_layStart_59 : decode cX8_layStart 59 = .ok (.return_, 1) := by decide +kernel
set_option maxRecDepth 20000 in
theorem ggX8_write_X5_add : GoodIn wsX8_write wsX5_add := goodIn_r _ [7, 8, 9, 21, 22, 23, 24, 25] rfl (by decide +kernel)
set_option maxRecDepth 20000 in
theorem gX8_write_X5_add : GoodIn wsX8_write (wsV RX8 77 RX5 yX5_add wsX5_add) := goodIn_app (goodIn_of _ (by decide +kernel)) ggX8_write_X5_add
theorem dX8_write_0 : decode cX8_write 0 = .ok (.iload_n 1, 1) := by decide +kernel
theorem dX8_write_1 : decode cX8_write 1 = .ok (.bipush 32, 2) := by decide +kernel
theorem dX8_write_3 : decode cX8_write 3 = .ok (.if_icmp .lt 9, 3) := by decide +kernel
theorem dX8_write_6 : decode cX8_write 6 = .ok (.iload_n 1, 1) := by decide +kernel
theorem dX8_write_7 : decode cX8_write 7 = .ok (.bipush 126, 2) := by decide +kernel
theorem dX8_write_9 : decode cX8_write 9 = .ok (.if_icmp .le 5, 3) := by decide +kernel
theorem dX8_write_12 : decode cX8_write 12 = .ok (.iconst (-1), 1) := by decide +kernel
theorem dX8_write_13 : decode cX8_write 13 = .ok (.ireturn, 1) := by decide +kernel
theorem dX8_write_14 : decode cX8_write 14 = .ok (.aload_n 0, 1) := by decide +kernel
theorem dX8_write_15 : decode cX8_write 15 = .ok (.getfield 10, 3) := by decide +kernel
theorem dX8_write_18 : decode cX8_write 18 = .ok (.getfield 94, 3) := by decide +kernel
theorem dX8_write_21 : decode cX8_write 21 = .ok (.sipush 200, 3) := by decide +kernel
theorem dX8_write_24 : decode cX8_write 24 = .ok (.if_icmp .lt 6, 3) := by decide +kernel
theorem dX8_write_27 : decode cX8_write 27 = .ok (.bipush (-3), 2) := by decide +kernel
theorem dX8_write_29 : decode cX8_write 29 = .ok (.ireturn, 1) := by decide +kernel
theorem dX8_write_30 : decode cX8_write 30 = .ok (.aload_n 0, 1) := by decide +kernel
theorem dX8_write_31 : decode cX8_write 31 = .ok (.getfield 10, 3) := by decide +kernel
theorem dX8_write_34 : decode cX8_write 34 = .ok (.iload_n 1, 1) := by decide +kernel
theorem dX8_write_35 : decode cX8_write 35 = .ok (.i2c, 1) := by decide +kernel
theorem dX8_write_36 : decode cX8_write 36 = .ok (.invokevirtual 77, 3) := by decide +kernel
theorem dX8_write_39 : decode cX8_write 39 = .ok (.aload_n 0, 1) := by decide +kernel
theorem dX8_write_40 : decode cX8_write 40 = .ok (.getfield 10, 3) := by decide +kernel
theorem dX8_write_43 : decode cX8_write 43 = .ok (.getfield 94, 3) := by decide +kernel
theorem dX8_write_46 : decode cX8_write 46 = .ok (.ireturn, 1) := by decide +kernel
set_option maxRecDepth 20000 in
theorem ggX8_wipe_X5_clear : GoodIn wsX8_wipe wsX5_clear := goodIn_r _ [7, 8, 20, 21, 22, 23, 24] rfl (by decide +kernel)
set_option maxRecDepth 20000 in
theorem gX8_wipe_X5_clear : GoodIn wsX8_wipe (wsV RX8 91 RX5 yX5_clear wsX5_clear) := goodIn_app (goodIn_of _ (by decide +kernel)) ggX8_wipe_X5_clear
theorem dX8_wipe_0 : decode cX8_wipe 0 = .ok (.aload_n 0, 1) := by decide +kernel
theorem dX8_wipe_1 : decode cX8_wipe 1 = .ok (.getfield 10, 3) := by decide +kernel
theorem dX8_wipe_4 : decode cX8_wipe 4 = .ok (.getfield 94, 3) := by decide +kernel
theorem dX8_wipe_7 : decode cX8_wipe 7 = .ok (.istore_n 1, 1) := by decide +kernel
theorem dX8_wipe_8 : decode cX8_wipe 8 = .ok (.aload_n 0, 1) := by decide +kernel
theorem dX8_wipe_9 : decode cX8_wipe 9 = .ok (.getfield 10, 3) := by decide +kernel
theorem dX8_wipe_12 : decode cX8_wipe 12 = .ok (.invokevirtual 91, 3) := by decide +kernel
theorem dX8_wipe_15 : decode cX8_wipe 15 = .ok (.iload_n 1, 1) := by decide +kernel
theorem dX8_wipe_16 : decode cX8_wipe 16 = .ok (.ireturn, 1) := by decide +kernel
set_option maxRecDepth 20000 in
theorem ggX8_fault_X5_read : GoodIn wsX8_fault wsX5_read := goodIn_r _ [6, 7, 8, 9, 10, 11, 12, 13, 14, 5, 15, 16, 17, 18, 19, 20, 21, 22, 23, 24, 25, 26, 27, 28, 29, 30, 31, 32, 33, 34, 35, 36, 37, 38, 39, 40, 41, 42, 43, 44, 45, 46, 47, 48, 49, 50, 51, 52, 53, 54, 55, 56, 57, 58, 59, 60, 61, 62, 63, 64, 65, 66, 67, 68, 69, 70, 71, 72, 73, 74, 75, 76, 77, 78, 79, 80, 81, 82, 83, 84, 85, 86, 87, 88, 89, 90, 91, 92, 93, 94, 95, 96, 97, 98, 99, 100, 101, 102, 103, 104, 105, 106, 107, 108, 109, 110, 111, 112, 113, 114, 115, 116, 117, 118, 119, 120, 121, 122, 123, 124, 125, 126, 127, 128, 129, 130, 131, 132, 133, 134, 135, 136, 137, 138, 139, 140, 141, 142, 143, 144, 145, 157, 158, 159, 160, 161, 162, 163, 164, 165, 166] (by decide +kernel) (by decide +kernel)
set_option maxRecDepth 20000 in
theorem gX8_fault_X5_read : GoodIn wsX8_fault (wsV RX8 81 RX5 yX5_read wsX5_read) := goodIn_app (goodIn_of _ (by decide +kernel)) ggX8_fault_X5_read
theorem dX8_fault_0 : decode cX8_fault 0 = .ok (.aload_n 0, 1) := by decide +kernel
theorem dX8_fault_1 : decode cX8_fault 1 = .ok (.getfield 10, 3) := by decide +kernel
theorem dX8_fault_4 : decode cX8_fault 4 = .ok (.invokevirtual 81, 3) := by decide +kernel
theorem dX8_fault_7 : decode cX8_fault 7 = .ok (.ireturn, 1) := by decide +kernel
set_option maxRecDepth 20000 in
theorem ggX8_lay_X5_read : GoodIn wsX8_lay wsX5_read := goodIn_r _ [11, 12, 13, 14, 15, 16, 17, 18, 19, 10, 20, 21, 22, 23, 24, 25, 26, 27, 28, 29, 30, 31, 32, 33, 34, 35, 36, 37, 38, 39, 40, 41, 42, 43, 44, 45, 46, 47, 48, 49, 50, 51, 52, 53, 54, 55, 56, 57, 58, 59, 60, 61, 62, 63, 64, 65, 66, 67, 68, 69, 70, 71, 72, 73, 74, 75, 76, 77, 78, 79, 80, 81, 82, 83, 84, 85, 86, 87, 88, 89, 90, 91, 92, 93, 94, 95, 96, 97, 98, 99, 100, 101, 102, 103, 104, 105, 106, 107, 108, 109, 110, 111, 112, 113, 114, 115, 116, 117, 118, 119, 120, 121, 122, 123, 124, 125, 126, 127, 128, 129, 130, 131, 132, 133, 134, 135, 136, 137, 138, 139, 140, 141, 142, 143, 144, 145, 146, 147, 148, 149, 150, 192, 193, 194, 195, 196, 197, 198, 199, 200, 201] (by decide +kernel) (by decide +kernel)
set_option maxRecDepth 20000 in
theorem gX8_lay_X5_read : GoodIn wsX8_lay (wsV RX8 81 RX5 yX5_read wsX5_read) := goodIn_app (goodIn_of _ (by decide +kernel)) ggX8_lay_X5_read
set_option maxRecDepth 20000 in
theorem ggX8_lay_X5_toldAll : GoodIn wsX8_lay wsX5_toldAll := goodIn_r _ [154, 14, 15, 13, 192, 193, 194, 195, 196, 197, 198, 199, 200, 201] rfl (by decide +kernel)
set_option maxRecDepth 20000 in
theorem gX8_lay_X5_toldAll : GoodIn wsX8_lay (wsV RX8 97 RX5 yX5_toldAll wsX5_toldAll) := goodIn_app (goodIn_of _ (by decide +kernel)) ggX8_lay_X5_toldAll
set_option maxRecDepth 20000 in
theorem ggX8_lay_X3_takeFrom : GoodIn wsX8_lay wsX3_takeFrom := goodIn_r _ [158, 41, 145, 159, 160, 161, 162, 163, 164, 165, 197, 198, 199, 200, 201] rfl (by decide +kernel)
set_option maxRecDepth 20000 in
theorem gX8_lay_X3_takeFrom : GoodIn wsX8_lay (wsV RX8 87 RX3 yX3_takeFrom wsX3_takeFrom) := goodIn_app (goodIn_of _ (by decide +kernel)) ggX8_lay_X3_takeFrom
set_option maxRecDepth 20000 in
theorem ggX8_lay_X1_clear : GoodIn wsX8_lay wsX1_clear := goodIn_r _ [170, 171, 202, 203, 204, 205] rfl (by decide +kernel)
set_option maxRecDepth 20000 in
theorem gX8_lay_X1_clear : GoodIn wsX8_lay (wsV RX8 101 RX1 yX1_clear wsX1_clear) := goodIn_app (goodIn_of _ (by decide +kernel)) ggX8_lay_X1_clear
set_option maxRecDepth 20000 in
theorem ggX8_lay_X8_forgetViews : GoodIn wsX8_lay wsX8_forgetViews := goodIn_r _ [176, 177, 178, 179, 180, 181, 182, 183, 184, 185, 186, 187, 188, 189, 190, 191, 206, 207, 208, 209, 210, 211, 212, 213, 214, 215, 216, 217, 218, 219, 220, 221, 222, 223, 224, 225, 226, 227, 228, 229, 230, 231, 232, 233, 234, 235, 236, 237, 238, 239, 240, 241, 242, 243, 244] rfl (by decide +kernel)
set_option maxRecDepth 20000 in
theorem gX8_lay_X8_forgetViews : GoodIn wsX8_lay (wsV RX8 105 RX8 yX8_forgetViews wsX8_forgetViews) := goodIn_app (goodIn_of _ (by decide +kernel)) ggX8_lay_X8_forgetViews
theorem dX8_lay_0 : decode cX8_lay 0 = .ok (.aload_n 0, 1) := by decide +kernel
theorem dX8_lay_1 : decode cX8_lay 1 = .ok (.getfield 10, 3) := by decide +kernel
theorem dX8_lay_4 : decode cX8_lay 4 = .ok (.invokevirtual 81, 3) := by decide +kernel
theorem dX8_lay_7 : decode cX8_lay 7 = .ok (.bipush (-4), 2) := by decide +kernel
theorem dX8_lay_9 : decode cX8_lay 9 = .ok (.if_icmp .ne 13, 3) := by decide +kernel
theorem dX8_lay_12 : decode cX8_lay 12 = .ok (.aload_n 0, 1) := by decide +kernel
theorem dX8_lay_13 : decode cX8_lay 13 = .ok (.getfield 10, 3) := by decide +kernel
theorem dX8_lay_16 : decode cX8_lay 16 = .ok (.invokevirtual 97, 3) := by decide +kernel
theorem dX8_lay_19 : decode cX8_lay 19 = .ok (.ifCond .ne 6, 3) := by decide +kernel
theorem dX8_lay_22 : decode cX8_lay 22 = .ok (.bipush (-2), 2) := by decide +kernel
theorem dX8_lay_24 : decode cX8_lay 24 = .ok (.ireturn, 1) := by decide +kernel
theorem dX8_lay_25 : decode cX8_lay 25 = .ok (.aload_n 0, 1) := by decide +kernel
theorem dX8_lay_26 : decode cX8_lay 26 = .ok (.getfield 19, 3) := by decide +kernel
theorem dX8_lay_29 : decode cX8_lay 29 = .ok (.aload_n 0, 1) := by decide +kernel
theorem dX8_lay_30 : decode cX8_lay 30 = .ok (.getfield 10, 3) := by decide +kernel
theorem dX8_lay_33 : decode cX8_lay 33 = .ok (.getfield 84, 3) := by decide +kernel
theorem dX8_lay_36 : decode cX8_lay 36 = .ok (.invokevirtual 87, 3) := by decide +kernel
theorem dX8_lay_39 : decode cX8_lay 39 = .ok (.aload_n 0, 1) := by decide +kernel
theorem dX8_lay_40 : decode cX8_lay 40 = .ok (.getfield 33, 3) := by decide +kernel
theorem dX8_lay_43 : decode cX8_lay 43 = .ok (.invokevirtual 101, 3) := by decide +kernel
theorem dX8_lay_46 : decode cX8_lay 46 = .ok (.aload_n 0, 1) := by decide +kernel
theorem dX8_lay_47 : decode cX8_lay 47 = .ok (.iconst 0, 1) := by decide +kernel
theorem dX8_lay_48 : decode cX8_lay 48 = .ok (.putfield 102, 3) := by decide +kernel
theorem dX8_lay_51 : decode cX8_lay 51 = .ok (.aload_n 0, 1) := by decide +kernel
theorem dX8_lay_52 : decode cX8_lay 52 = .ok (.invokevirtual 105, 3) := by decide +kernel
theorem dX8_lay_55 : decode cX8_lay 55 = .ok (.aload_n 0, 1) := by decide +kernel
theorem dX8_lay_56 : decode cX8_lay 56 = .ok (.getfield 19, 3) := by decide +kernel
theorem dX8_lay_59 : decode cX8_lay 59 = .ok (.getfield 108, 3) := by decide +kernel
theorem dX8_lay_62 : decode cX8_lay 62 = .ok (.ireturn, 1) := by decide +kernel
set_option maxRecDepth 20000 in
theorem ggX8_function_X3_has : GoodIn wsX8_function wsX3_has := goodIn_r _ [9, 10, 22, 23, 24, 25, 26] rfl (by decide +kernel)
set_option maxRecDepth 20000 in
theorem gX8_function_X3_has : GoodIn wsX8_function (wsV RX8 111 RX3 yX3_has wsX3_has) := goodIn_app (goodIn_of _ (by decide +kernel)) ggX8_function_X3_has
theorem dX8_function_0 : decode cX8_function 0 = .ok (.aload_n 0, 1) := by decide +kernel
theorem dX8_function_1 : decode cX8_function 1 = .ok (.getfield 19, 3) := by decide +kernel
theorem dX8_function_4 : decode cX8_function 4 = .ok (.iload_n 1, 1) := by decide +kernel
theorem dX8_function_5 : decode cX8_function 5 = .ok (.invokevirtual 111, 3) := by decide +kernel
theorem dX8_function_8 : decode cX8_function 8 = .ok (.ifCond .ne 5, 3) := by decide +kernel
theorem dX8_function_11 : decode cX8_function 11 = .ok (.iconst (-1), 1) := by decide +kernel
theorem dX8_function_12 : decode cX8_function 12 = .ok (.ireturn, 1) := by decide +kernel
theorem dX8_function_13 : decode cX8_function 13 = .ok (.iload_n 2, 1) := by decide +kernel
theorem dX8_function_14 : decode cX8_function 14 = .ok (.tableswitch 56 0 2 #[26, 36, 46], 26) := by decide +kernel
theorem dX8_function_40 : decode cX8_function 40 = .ok (.aload_n 0, 1) := by decide +kernel
theorem dX8_function_41 : decode cX8_function 41 = .ok (.getfield 19, 3) := by decide +kernel
theorem dX8_function_44 : decode cX8_function 44 = .ok (.getfield 115, 3) := by decide +kernel
theorem dX8_function_47 : decode cX8_function 47 = .ok (.iload_n 1, 1) := by decide +kernel
theorem dX8_function_48 : decode cX8_function 48 = .ok (.iaload, 1) := by decide +kernel
theorem dX8_function_49 : decode cX8_function 49 = .ok (.ireturn, 1) := by decide +kernel
theorem dX8_function_50 : decode cX8_function 50 = .ok (.aload_n 0, 1) := by decide +kernel
theorem dX8_function_51 : decode cX8_function 51 = .ok (.getfield 19, 3) := by decide +kernel
theorem dX8_function_54 : decode cX8_function 54 = .ok (.getfield 119, 3) := by decide +kernel
theorem dX8_function_57 : decode cX8_function 57 = .ok (.iload_n 1, 1) := by decide +kernel
theorem dX8_function_58 : decode cX8_function 58 = .ok (.iaload, 1) := by decide +kernel
theorem dX8_function_59 : decode cX8_function 59 = .ok (.ireturn, 1) := by decide +kernel
theorem dX8_function_60 : decode cX8_function 60 = .ok (.aload_n 0, 1) := by decide +kernel
theorem dX8_function_61 : decode cX8_function 61 = .ok (.getfield 19, 3) := by decide +kernel
theorem dX8_function_64 : decode cX8_function 64 = .ok (.getfield 122, 3) := by decide +kernel
theorem dX8_function_67 : decode cX8_function 67 = .ok (.iload_n 1, 1) := by decide +kernel
theorem dX8_function_68 : decode cX8_function 68 = .ok (.iaload, 1) := by decide +kernel
theorem dX8_function_69 : decode cX8_function 69 = .ok (.ireturn, 1) := by decide +kernel
theorem dX8_function_70 : decode cX8_function 70 = .ok (.iconst (-1), 1) := by decide +kernel
theorem dX8_function_71 : decode cX8_function 71 = .ok (.ireturn, 1) := by decide +kernel
set_option maxRecDepth 20000 in
theorem ggX8_letter_X3_hasPlace : GoodIn wsX8_letter wsX3_hasPlace := goodIn_r _ [7, 8, 9, 10, 11, 6, 12, 13, 70, 71, 72, 73, 74] rfl (by decide +kernel)
set_option maxRecDepth 20000 in
theorem gX8_letter_X3_hasPlace : GoodIn wsX8_letter (wsV RX8 125 RX3 yX3_hasPlace wsX3_hasPlace) := goodIn_app (goodIn_of _ (by decide +kernel)) ggX8_letter_X3_hasPlace
set_option maxRecDepth 20000 in
theorem ggX8_letter_X2_signOf : GoodIn wsX8_letter wsX2_signOf := goodIn_r _ [17, 18, 19, 20, 21, 22, 23, 24, 25, 26, 27, 28, 29, 30, 31, 32, 33, 34, 35, 36, 37, 38, 39, 40, 41, 42, 43, 44, 45, 46, 47, 48, 49, 50, 51, 52, 53, 54, 55, 56, 57, 58] rfl (by decide +kernel)
set_option maxRecDepth 20000 in
theorem gX8_letter_X2_signOf : GoodIn wsX8_letter (va_wsS RX8 133 yX2_signOf wsX2_signOf) := goodIn_app (goodIn_of _ (by decide +kernel)) ggX8_letter_X2_signOf
theorem dX8_letter_0 : decode cX8_letter 0 = .ok (.aload_n 0, 1) := by decide +kernel
theorem dX8_letter_1 : decode cX8_letter 1 = .ok (.getfield 19, 3) := by decide +kernel
theorem dX8_letter_4 : decode cX8_letter 4 = .ok (.iload_n 1, 1) := by decide +kernel
theorem dX8_letter_5 : decode cX8_letter 5 = .ok (.iload_n 2, 1) := by decide +kernel
theorem dX8_letter_6 : decode cX8_letter 6 = .ok (.invokevirtual 125, 3) := by decide +kernel
theorem dX8_letter_9 : decode cX8_letter 9 = .ok (.ifCond .eq 20, 3) := by decide +kernel
theorem dX8_letter_12 : decode cX8_letter 12 = .ok (.aload_n 0, 1) := by decide +kernel
theorem dX8_letter_13 : decode cX8_letter 13 = .ok (.getfield 19, 3) := by decide +kernel
theorem dX8_letter_16 : decode cX8_letter 16 = .ok (.getfield 129, 3) := by decide +kernel
theorem dX8_letter_19 : decode cX8_letter 19 = .ok (.iload_n 1, 1) := by decide +kernel
theorem dX8_letter_20 : decode cX8_letter 20 = .ok (.aaload, 1) := by decide +kernel
theorem dX8_letter_21 : decode cX8_letter 21 = .ok (.iload_n 2, 1) := by decide +kernel
theorem dX8_letter_22 : decode cX8_letter 22 = .ok (.iaload, 1) := by decide +kernel
theorem dX8_letter_23 : decode cX8_letter 23 = .ok (.invokestatic 133, 3) := by decide +kernel
theorem dX8_letter_26 : decode cX8_letter 26 = .ok (.goto 4, 3) := by decide +kernel
theorem dX8_letter_29 : decode cX8_letter 29 = .ok (.iconst (-1), 1) := by decide +kernel
theorem dX8_letter_30 : decode cX8_letter 30 = .ok (.ireturn, 1) := by decide +kernel
set_option maxRecDepth 20000 in
theorem ggX8_put_X2_numberOf : GoodIn wsX8_put wsX2_numberOf := goodIn_r _ [7, 8, 9, 10, 11, 12, 13, 14, 15, 16, 17, 18, 19, 20, 21, 22, 23, 24, 25, 26, 27, 28, 29, 30, 31, 32, 33, 34, 35, 36, 37, 38, 39, 40, 41, 42, 43, 44, 45, 46, 47, 48, 49, 50, 51, 52, 53, 54, 55, 56, 57, 58, 59, 60, 61, 62, 63, 64, 65, 66, 67, 68, 69, 70, 71, 72, 73, 74, 75, 76, 77, 78, 79, 80, 81, 82, 83, 84, 85, 86, 87, 88, 89, 90, 91, 92, 93, 94, 95, 96] rfl (by decide +kernel)
set_option maxRecDepth 20000 in
theorem gX8_put_X2_numberOf : GoodIn wsX8_put (va_wsS RX8 139 yX2_numberOf wsX2_numberOf) := goodIn_app (goodIn_of _ (by decide +kernel)) ggX8_put_X2_numberOf
set_option maxRecDepth 20000 in
theorem ggX8_put_X3_hasPlace : GoodIn wsX8_put wsX3_hasPlace := goodIn_r _ [101, 102, 103, 104, 105, 100, 106, 107, 179, 180, 181, 182, 183] rfl (by decide +kernel)
set_option maxRecDepth 20000 in
theorem gX8_put_X3_hasPlace : GoodIn wsX8_put (wsV RX8 125 RX3 yX3_hasPlace wsX3_hasPlace) := goodIn_app (goodIn_of _ (by decide +kernel)) ggX8_put_X3_hasPlace
set_option maxRecDepth 20000 in
theorem ggX8_put_X3_fits : GoodIn wsX8_put wsX3_fits := goodIn_r _ [111, 112, 113, 98, 99, 100, 101, 102, 103, 104, 105, 106, 107, 114, 115, 116, 117, 118, 119, 120, 121, 122, 179, 180, 181, 182, 183] rfl (by decide +kernel)
set_option maxRecDepth 20000 in
theorem gX8_put_X3_fits : GoodIn wsX8_put (wsV RX8 142 RX3 yX3_fits wsX3_fits) := goodIn_app (goodIn_of _ (by decide +kernel)) ggX8_put_X3_fits
set_option maxRecDepth 20000 in
theorem ggX8_put_X1_add : GoodIn wsX8_put wsX1_add := goodIn_r _ [127, 128, 129, 130, 131, 132, 133, 134, 135, 184, 185, 186, 187] rfl (by decide +kernel)
set_option maxRecDepth 20000 in
theorem gX8_put_X1_add : GoodIn wsX8_put (wsV RX8 146 RX1 yX1_add wsX1_add) := goodIn_app (goodIn_of _ (by decide +kernel)) ggX8_put_X1_add
set_option maxRecDepth 20000 in
theorem ggX8_put_X8_forgetViews : GoodIn wsX8_put wsX8_forgetViews := goodIn_r _ [140, 141, 142, 143, 144, 168, 169, 170, 171, 172, 173, 174, 175, 176, 177, 178, 188, 189, 190, 191, 192, 193, 194, 195, 196, 197, 198, 199, 200, 201, 202, 203, 204, 205, 206, 207, 208, 209, 210, 211, 212, 213, 214, 215, 216, 217, 218, 219, 220, 221, 222, 223, 224, 225, 226] rfl (by decide +kernel)
set_option maxRecDepth 20000 in
theorem gX8_put_X8_forgetViews : GoodIn wsX8_put (wsV RX8 105 RX8 yX8_forgetViews wsX8_forgetViews) := goodIn_app (goodIn_of _ (by decide +kernel)) ggX8_put_X8_forgetViews
set_option maxRecDepth 20000 in
theorem ggX8_put_X2_signOf : GoodIn wsX8_put wsX2_signOf := goodIn_r _ [147, 148, 149, 150, 11, 151, 17, 18, 19, 20, 21, 22, 23, 152, 153, 34, 154, 155, 156, 157, 68, 158, 159, 71, 160, 161, 162, 51, 163, 164, 165, 166, 62, 63, 64, 167, 76, 77, 78, 79, 80, 81] rfl (by decide +kernel)
set_option maxRecDepth 20000 in
theorem gX8_put_X2_signOf : GoodIn wsX8_put (va_wsS RX8 133 yX2_signOf wsX2_signOf) := goodIn_app (goodIn_of _ (by decide +kernel)) ggX8_put_X2_signOf
theorem dX8_put_0 : decode cX8_put 0 = .ok (.iload_n 3, 1) := by decide +kernel
theorem dX8_put_1 : decode cX8_put 1 = .ok (.invokestatic 139, 3) := by decide +kernel
theorem dX8_put_4 : decode cX8_put 4 = .ok (.istore 4, 2) := by decide +kernel
theorem dX8_put_6 : decode cX8_put 6 = .ok (.aload_n 0, 1) := by decide +kernel
theorem dX8_put_7 : decode cX8_put 7 = .ok (.getfield 19, 3) := by decide +kernel
theorem dX8_put_10 : decode cX8_put 10 = .ok (.iload_n 1, 1) := by decide +kernel
theorem dX8_put_11 : decode cX8_put 11 = .ok (.iload_n 2, 1) := by decide +kernel
theorem dX8_put_12 : decode cX8_put 12 = .ok (.invokevirtual 125, 3) := by decide +kernel
theorem dX8_put_15 : decode cX8_put 15 = .ok (.ifCond .eq 17, 3) := by decide +kernel
theorem dX8_put_18 : decode cX8_put 18 = .ok (.aload_n 0, 1) := by decide +kernel
theorem dX8_put_19 : decode cX8_put 19 = .ok (.getfield 19, 3) := by decide +kernel
theorem dX8_put_22 : decode cX8_put 22 = .ok (.iload_n 1, 1) := by decide +kernel
theorem dX8_put_23 : decode cX8_put 23 = .ok (.iload_n 2, 1) := by decide +kernel
theorem dX8_put_24 : decode cX8_put 24 = .ok (.iload 4, 2) := by decide +kernel
theorem dX8_put_26 : decode cX8_put 26 = .ok (.invokevirtual 142, 3) := by decide +kernel
theorem dX8_put_29 : decode cX8_put 29 = .ok (.ifCond .ne 5, 3) := by decide +kernel
theorem dX8_put_32 : decode cX8_put 32 = .ok (.iconst (-1), 1) := by decide +kernel
theorem dX8_put_33 : decode cX8_put 33 = .ok (.ireturn, 1) := by decide +kernel
theorem dX8_put_34 : decode cX8_put 34 = .ok (.aload_n 0, 1) := by decide +kernel
theorem dX8_put_35 : decode cX8_put 35 = .ok (.getfield 19, 3) := by decide +kernel
theorem dX8_put_38 : decode cX8_put 38 = .ok (.getfield 129, 3) := by decide +kernel
theorem dX8_put_41 : decode cX8_put 41 = .ok (.iload_n 1, 1) := by decide +kernel
theorem dX8_put_42 : decode cX8_put 42 = .ok (.aaload, 1) := by decide +kernel
theorem dX8_put_43 : decode cX8_put 43 = .ok (.iload_n 2, 1) := by decide +kernel
theorem dX8_put_44 : decode cX8_put 44 = .ok (.iaload, 1) := by decide +kernel
theorem dX8_put_45 : decode cX8_put 45 = .ok (.istore 5, 2) := by decide +kernel
theorem dX8_put_47 : decode cX8_put 47 = .ok (.iload 5, 2) := by decide +kernel
theorem dX8_put_49 : decode cX8_put 49 = .ok (.iload 4, 2) := by decide +kernel
theorem dX8_put_51 : decode cX8_put 51 = .ok (.if_icmp .ne 6, 3) := by decide +kernel
theorem dX8_put_54 : decode cX8_put 54 = .ok (.bipush (-2), 2) := by decide +kernel
theorem dX8_put_56 : decode cX8_put 56 = .ok (.ireturn, 1) := by decide +kernel
theorem dX8_put_57 : decode cX8_put 57 = .ok (.aload_n 0, 1) := by decide +kernel
theorem dX8_put_58 : decode cX8_put 58 = .ok (.getfield 33, 3) := by decide +kernel
theorem dX8_put_61 : decode cX8_put 61 = .ok (.iload_n 1, 1) := by decide +kernel
theorem dX8_put_62 : decode cX8_put 62 = .ok (.iload_n 2, 1) := by decide +kernel
theorem dX8_put_63 : decode cX8_put 63 = .ok (.iload 5, 2) := by decide +kernel
theorem dX8_put_65 : decode cX8_put 65 = .ok (.invokevirtual 146, 3) := by decide +kernel
theorem dX8_put_68 : decode cX8_put 68 = .ok (.aload_n 0, 1) := by decide +kernel
theorem dX8_put_69 : decode cX8_put 69 = .ok (.getfield 19, 3) := by decide +kernel
theorem dX8_put_72 : decode cX8_put 72 = .ok (.getfield 129, 3) := by decide +kernel
theorem dX8_put_75 : decode cX8_put 75 = .ok (.iload_n 1, 1) := by decide +kernel
theorem dX8_put_76 : decode cX8_put 76 = .ok (.aaload, 1) := by decide +kernel
theorem dX8_put_77 : decode cX8_put 77 = .ok (.iload_n 2, 1) := by decide +kernel
theorem dX8_put_78 : decode cX8_put 78 = .ok (.iload 4, 2) := by decide +kernel
theorem dX8_put_80 : decode cX8_put 80 = .ok (.iastore, 1) := by decide +kernel
theorem dX8_put_81 : decode cX8_put 81 = .ok (.aload_n 0, 1) := by decide +kernel
theorem dX8_put_82 : decode cX8_put 82 = .ok (.invokevirtual 105, 3) := by decide +kernel
theorem dX8_put_85 : decode cX8_put 85 = .ok (.iload 5, 2) := by decide +kernel
theorem dX8_put_87 : decode cX8_put 87 = .ok (.invokestatic 133, 3) := by decide +kernel
theorem dX8_put_90 : decode cX8_put 90 = .ok (.ireturn, 1) := by decide +kernel
set_option maxRecDepth 20000 in
theorem ggX8_rename_X3_has : GoodIn wsX8_rename wsX3_has := goodIn_r _ [8, 9, 43, 44, 45, 46, 47] rfl (by decide +kernel)
set_option maxRecDepth 20000 in
theorem gX8_rename_X3_has : GoodIn wsX8_rename (wsV RX8 111 RX3 yX3_has wsX3_has) := goodIn_app (goodIn_of _ (by decide +kernel)) ggX8_rename_X3_has
set_option maxRecDepth 20000 in
theorem ggX8_rename_X1_add : GoodIn wsX8_rename wsX1_add := goodIn_r _ [14, 15, 16, 17, 18, 19, 20, 21, 22, 48, 49, 50, 51] rfl (by decide +kernel)
set_option maxRecDepth 20000 in
theorem gX8_rename_X1_add : GoodIn wsX8_rename (wsV RX8 146 RX1 yX1_add wsX1_add) := goodIn_app (goodIn_of _ (by decide +kernel)) ggX8_rename_X1_add
set_option maxRecDepth 20000 in
theorem ggX8_rename_X8_forgetViews : GoodIn wsX8_rename wsX8_forgetViews := goodIn_r _ [27, 28, 29, 30, 31, 32, 33, 34, 35, 36, 37, 38, 39, 40, 41, 42, 52, 53, 54, 55, 56, 57, 58, 59, 60, 61, 62, 63, 64, 65, 66, 67, 68, 69, 70, 71, 72, 73, 74, 75, 76, 77, 78, 79, 80, 81, 82, 83, 84, 85, 86, 87, 88, 89, 90] rfl (by decide +kernel)
set_option maxRecDepth 20000 in
theorem gX8_rename_X8_forgetViews : GoodIn wsX8_rename (wsV RX8 105 RX8 yX8_forgetViews wsX8_forgetViews) := goodIn_app (goodIn_of _ (by decide +kernel)) ggX8_rename_X8_forgetViews
theorem dX8_rename_0 : decode cX8_rename 0 = .ok (.aload_n 0, 1) := by decide +kernel
theorem dX8_rename_1 : decode cX8_rename 1 = .ok (.getfield 19, 3) := by decide +kernel
theorem dX8_rename_4 : decode cX8_rename 4 = .ok (.iload_n 1, 1) := by decide +kernel
theorem dX8_rename_5 : decode cX8_rename 5 = .ok (.invokevirtual 111, 3) := by decide +kernel
theorem dX8_rename_8 : decode cX8_rename 8 = .ok (.ifCond .eq 12, 3) := by decide +kernel
theorem dX8_rename_11 : decode cX8_rename 11 = .ok (.iload_n 2, 1) := by decide +kernel
theorem dX8_rename_12 : decode cX8_rename 12 = .ok (.ifCond .lt 8, 3) := by decide +kernel
theorem dX8_rename_15 : decode cX8_rename 15 = .ok (.iload_n 2, 1) := by decide +kernel
theorem dX8_rename_16 : decode cX8_rename 16 = .ok (.iconst 3, 1) := by decide +kernel
theorem dX8_rename_17 : decode cX8_rename 17 = .ok (.if_icmp .le 5, 3) := by decide +kernel
theorem dX8_rename_20 : decode cX8_rename 20 = .ok (.iconst (-1), 1) := by decide +kernel
theorem dX8_rename_21 : decode cX8_rename 21 = .ok (.ireturn, 1) := by decide +kernel
theorem dX8_rename_22 : decode cX8_rename 22 = .ok (.aload_n 0, 1) := by decide +kernel
theorem dX8_rename_23 : decode cX8_rename 23 = .ok (.getfield 19, 3) := by decide +kernel
theorem dX8_rename_26 : decode cX8_rename 26 = .ok (.getfield 115, 3) := by decide +kernel
theorem dX8_rename_29 : decode cX8_rename 29 = .ok (.iload_n 1, 1) := by decide +kernel
theorem dX8_rename_30 : decode cX8_rename 30 = .ok (.iaload, 1) := by decide +kernel
theorem dX8_rename_31 : decode cX8_rename 31 = .ok (.istore_n 3, 1) := by decide +kernel
theorem dX8_rename_32 : decode cX8_rename 32 = .ok (.iload_n 3, 1) := by decide +kernel
theorem dX8_rename_33 : decode cX8_rename 33 = .ok (.iload_n 2, 1) := by decide +kernel
theorem dX8_rename_34 : decode cX8_rename 34 = .ok (.if_icmp .ne 6, 3) := by decide +kernel
theorem dX8_rename_37 : decode cX8_rename 37 = .ok (.bipush (-2), 2) := by decide +kernel
theorem dX8_rename_39 : decode cX8_rename 39 = .ok (.ireturn, 1) := by decide +kernel
theorem dX8_rename_40 : decode cX8_rename 40 = .ok (.aload_n 0, 1) := by decide +kernel
theorem dX8_rename_41 : decode cX8_rename 41 = .ok (.getfield 33, 3) := by decide +kernel
theorem dX8_rename_44 : decode cX8_rename 44 = .ok (.iload_n 1, 1) := by decide +kernel
theorem dX8_rename_45 : decode cX8_rename 45 = .ok (.iconst (-1), 1) := by decide +kernel
theorem dX8_rename_46 : decode cX8_rename 46 = .ok (.iload_n 3, 1) := by decide +kernel
theorem dX8_rename_47 : decode cX8_rename 47 = .ok (.invokevirtual 146, 3) := by decide +kernel
theorem dX8_rename_50 : decode cX8_rename 50 = .ok (.aload_n 0, 1) := by decide +kernel
theorem dX8_rename_51 : decode cX8_rename 51 = .ok (.getfield 19, 3) := by decide +kernel
theorem dX8_rename_54 : decode cX8_rename 54 = .ok (.getfield 115, 3) := by decide +kernel
theorem dX8_rename_57 : decode cX8_rename 57 = .ok (.iload_n 1, 1) := by decide +kernel
theorem dX8_rename_58 : decode cX8_rename 58 = .ok (.iload_n 2, 1) := by decide +kernel
theorem dX8_rename_59 : decode cX8_rename 59 = .ok (.iastore, 1) := by decide +kernel
theorem dX8_rename_60 : decode cX8_rename 60 = .ok (.aload_n 0, 1) := by decide +kernel
theorem dX8_rename_61 : decode cX8_rename 61 = .ok (.invokevirtual 105, 3) := by decide +kernel
theorem dX8_rename_64 : decode cX8_rename 64 = .ok (.iload_n 3, 1) := by decide +kernel
theorem dX8_rename_65 : decode cX8_rename 65 = .ok (.ireturn, 1) := by decide +kernel
set_option maxRecDepth 20000 in
theorem ggX8_undo_X1_takeBack : GoodIn wsX8_undo wsX1_takeBack := goodIn_r _ [8, 9, 10, 11, 12, 13, 14, 15, 16, 17, 18, 19, 20, 21, 22, 23, 24, 25, 26, 47, 48, 49, 50, 51, 52, 53, 54, 55] rfl (by decide +kernel)
set_option maxRecDepth 20000 in
theorem gX8_undo_X1_takeBack : GoodIn wsX8_undo (wsV RX8 152 RX1 yX1_takeBack wsX1_takeBack) := goodIn_app (goodIn_of _ (by decide +kernel)) ggX8_undo_X1_takeBack
set_option maxRecDepth 20000 in
theorem ggX8_undo_X8_forgetViews : GoodIn wsX8_undo wsX8_forgetViews := goodIn_r _ [31, 32, 33, 34, 35, 36, 37, 38, 39, 40, 41, 42, 43, 44, 45, 46, 56, 57, 58, 59, 60, 61, 62, 63, 64, 65, 66, 67, 68, 69, 70, 71, 72, 73, 74, 75, 76, 77, 78, 79, 80, 81, 82, 83, 84, 85, 86, 87, 88, 89, 90, 91, 92, 93, 94] rfl (by decide +kernel)
set_option maxRecDepth 20000 in
theorem gX8_undo_X8_forgetViews : GoodIn wsX8_undo (wsV RX8 105 RX8 yX8_forgetViews wsX8_forgetViews) := goodIn_app (goodIn_of _ (by decide +kernel)) ggX8_undo_X8_forgetViews
theorem dX8_undo_0 : decode cX8_undo 0 = .ok (.aload_n 0, 1) := by decide +kernel
theorem dX8_undo_1 : decode cX8_undo 1 = .ok (.getfield 33, 3) := by decide +kernel
theorem dX8_undo_4 : decode cX8_undo 4 = .ok (.getfield 149, 3) := by decide +kernel
theorem dX8_undo_7 : decode cX8_undo 7 = .ok (.ifCond .ne 6, 3) := by decide +kernel
theorem dX8_undo_10 : decode cX8_undo 10 = .ok (.bipush (-2), 2) := by decide +kernel
theorem dX8_undo_12 : decode cX8_undo 12 = .ok (.ireturn, 1) := by decide +kernel
theorem dX8_undo_13 : decode cX8_undo 13 = .ok (.aload_n 0, 1) := by decide +kernel
theorem dX8_undo_14 : decode cX8_undo 14 = .ok (.getfield 33, 3) := by decide +kernel
theorem dX8_undo_17 : decode cX8_undo 17 = .ok (.aload_n 0, 1) := by decide +kernel
theorem dX8_undo_18 : decode cX8_undo 18 = .ok (.getfield 19, 3) := by decide +kernel
theorem dX8_undo_21 : decode cX8_undo 21 = .ok (.invokevirtual 152, 3) := by decide +kernel
theorem dX8_undo_24 : decode cX8_undo 24 = .ok (.aload_n 0, 1) := by decide +kernel
theorem dX8_undo_25 : decode cX8_undo 25 = .ok (.invokevirtual 105, 3) := by decide +kernel
theorem dX8_undo_28 : decode cX8_undo 28 = .ok (.aload_n 0, 1) := by decide +kernel
theorem dX8_undo_29 : decode cX8_undo 29 = .ok (.getfield 33, 3) := by decide +kernel
theorem dX8_undo_32 : decode cX8_undo 32 = .ok (.getfield 149, 3) := by decide +kernel
theorem dX8_undo_35 : decode cX8_undo 35 = .ok (.ireturn, 1) := by decide +kernel
set_option maxRecDepth 20000 in
theorem ggX8_value_X7_rowOf : GoodIn wsX8_value wsX7_rowOf := goodIn_r _ [8, 9, 10, 11, 12, 13, 14, 15, 16, 17, 18, 19, 7, 20, 21, 22, 23, 24, 25, 26, 27, 28, 29, 30, 31, 191, 192, 193, 194, 195, 196, 197, 198, 199, 200, 201, 202, 203, 204, 205, 206, 207, 208, 209, 210, 211, 212, 213, 214, 215, 216, 217, 218, 219, 220, 221, 222, 223, 224, 225, 226, 227, 228, 229, 230, 231, 232, 233, 234] rfl (by decide +kernel)
set_option maxRecDepth 20000 in
theorem gX8_value_X7_rowOf_u155X0 : GoodIn wsX8_value (va_wsU RX8 155 RX0 "EarlyValues$View" ⟨"EarlyValues$View", "rowOf", "(LEarlyValues$Program;IIII)I"⟩ yX7_rowOf wsX7_rowOf) := goodIn_app (goodIn_of _ (by decide +kernel)) ggX8_value_X7_rowOf
set_option maxRecDepth 20000 in
theorem gX8_value_X7_rowOf_u155X4 : GoodIn wsX8_value (va_wsU RX8 155 RX4 "EarlyValues$View" ⟨"EarlyValues$View", "rowOf", "(LEarlyValues$Program;IIII)I"⟩ yX7_rowOf wsX7_rowOf) := goodIn_app (goodIn_of _ (by decide +kernel)) ggX8_value_X7_rowOf
set_option maxRecDepth 20000 in
theorem gX8_value_X7_rowOf_u155X6 : GoodIn wsX8_value (va_wsU RX8 155 RX6 "EarlyValues$View" ⟨"EarlyValues$View", "rowOf", "(LEarlyValues$Program;IIII)I"⟩ yX7_rowOf wsX7_rowOf) := goodIn_app (goodIn_of _ (by decide +kernel)) ggX8_value_X7_rowOf
set_option maxRecDepth 20000 in
theorem ggX8_value_X8_solved : GoodIn wsX8_value wsX8_solved := goodIn_r _ [38, 39, 2, 40, 41, 42, 43, 7, 44, 45, 46, 47, 48, 49, 50, 51, 52, 53, 54, 55, 56, 57, 58, 59, 60, 61, 62, 63, 64, 65, 66, 24, 25, 26, 27, 28, 9, 29, 10, 11, 12, 13, 14, 15, 30, 31, 67, 68, 69, 70, 71, 72, 73, 74, 75, 76, 77, 78, 79, 80, 81, 82, 83, 84, 85, 86, 87, 88, 89, 90, 91, 92, 93, 94, 95, 96, 97, 98, 99, 100, 101, 102, 103, 104, 105, 106, 107, 108, 109, 110, 111, 112, 113, 114, 115, 116, 117, 118, 119, 120, 121, 122, 123, 124, 125, 126, 127, 128, 129, 130, 131, 132, 133, 134, 135, 136, 137, 138, 139, 140, 141, 142, 143, 144, 145, 146, 147, 148, 149, 150, 151, 152, 153, 154, 155, 156, 157, 158, 159, 160, 161, 162, 163, 164, 165, 166, 167, 168, 169, 170, 171, 172, 173, 174, 175, 176, 177, 178, 191, 192, 193, 194, 195, 196, 197, 198, 199, 200, 201, 202, 203, 204, 205, 206, 207, 208, 209, 210, 211, 212, 213, 214, 215, 216, 217, 218, 219, 220, 221, 222, 223, 224, 225, 226, 227, 228, 229, 180, 181, 182, 183, 184, 185, 186, 187, 188, 189, 190, 230, 231, 232, 233, 234] (by decide +kernel) (by decide +kernel)
set_option maxRecDepth 20000 in
theorem gX8_value_X8_solved : GoodIn wsX8_value (wsV RX8 161 RX8 yX8_solved wsX8_solved) := goodIn_app (goodIn_of _ (by decide +kernel)) ggX8_value_X8_solved
set_option maxRecDepth 20000 in
theorem ggX8_value_X7_at : GoodIn wsX8_value wsX7_at := goodIn_r _ [71, 52, 53, 191, 192, 193, 194, 195, 196, 197, 198, 199, 200, 201, 202, 203, 204, 205, 206, 207, 208, 209, 210, 211, 212, 213, 214, 215, 216, 217, 218, 219, 220, 221, 222, 223, 224, 225, 226, 227, 228, 229] rfl (by decide +kernel)
set_option maxRecDepth 20000 in
theorem gX8_value_X7_at_u165X0 : GoodIn wsX8_value (va_wsU RX8 165 RX0 "EarlyValues$View" ⟨"EarlyValues$View", "at", "(II)I"⟩ yX7_at wsX7_at) := goodIn_app (goodIn_of _ (by decide +kernel)) ggX8_value_X7_at
set_option maxRecDepth 20000 in
theorem gX8_value_X7_at_u165X4 : GoodIn wsX8_value (va_wsU RX8 165 RX4 "EarlyValues$View" ⟨"EarlyValues$View", "at", "(II)I"⟩ yX7_at wsX7_at) := goodIn_app (goodIn_of _ (by decide +kernel)) ggX8_value_X7_at
set_option maxRecDepth 20000 in
theorem gX8_value_X7_at_u165X6 : GoodIn wsX8_value (va_wsU RX8 165 RX6 "EarlyValues$View" ⟨"EarlyValues$View", "at", "(II)I"⟩ yX7_at wsX7_at) := goodIn_app (goodIn_of _ (by decide +kernel)) ggX8_value_X7_at
theorem dX8_value_0 : decode cX8_value 0 = .ok (.aload_n 0, 1) := by decide +kernel
theorem dX8_value_1 : decode cX8_value 1 = .ok (.getfield 40, 3) := by decide +kernel
theorem dX8_value_4 : decode cX8_value 4 = .ok (.aload_n 0, 1) := by decide +kernel
theorem dX8_value_5 : decode cX8_value 5 = .ok (.getfield 19, 3) := by decide +kernel
theorem dX8_value_8 : decode cX8_value 8 = .ok (.iload_n 1, 1) := by decide +kernel
theorem dX8_value_9 : decode cX8_value 9 = .ok (.iload_n 2, 1) := by decide +kernel
theorem dX8_value_10 : decode cX8_value 10 = .ok (.iload_n 3, 1) := by decide +kernel
theorem dX8_value_11 : decode cX8_value 11 = .ok (.iload 4, 2) := by decide +kernel
theorem dX8_value_13 : decode cX8_value 13 = .ok (.invokevirtual 155, 3) := by decide +kernel
theorem dX8_value_16 : decode cX8_value 16 = .ok (.istore 5, 2) := by decide +kernel
theorem dX8_value_18 : decode cX8_value 18 = .ok (.iload 5, 2) := by decide +kernel
theorem dX8_value_20 : decode cX8_value 20 = .ok (.ifCond .ge 7, 3) := by decide +kernel
theorem dX8_value_23 : decode cX8_value 23 = .ok (.iconst (-1), 1) := by decide +kernel
theorem dX8_value_24 : decode cX8_value 24 = .ok (.goto 17, 3) := by decide +kernel
theorem dX8_value_27 : decode cX8_value 27 = .ok (.aload_n 0, 1) := by decide +kernel
theorem dX8_value_28 : decode cX8_value 28 = .ok (.aload_n 0, 1) := by decide +kernel
theorem dX8_value_29 : decode cX8_value 29 = .ok (.getfield 40, 3) := by decide +kernel
theorem dX8_value_32 : decode cX8_value 32 = .ok (.invokevirtual 161, 3) := by decide +kernel
theorem dX8_value_35 : decode cX8_value 35 = .ok (.iload_n 1, 1) := by decide +kernel
theorem dX8_value_36 : decode cX8_value 36 = .ok (.iload 5, 2) := by decide +kernel
theorem dX8_value_38 : decode cX8_value 38 = .ok (.invokevirtual 165, 3) := by decide +kernel
theorem dX8_value_41 : decode cX8_value 41 = .ok (.ireturn, 1) := by decide +kernel
set_option maxRecDepth 20000 in
theorem ggX8_rough_X3_has : GoodIn wsX8_rough wsX3_has := goodIn_r _ [7, 8, 178, 179, 180, 181, 182] rfl (by decide +kernel)
set_option maxRecDepth 20000 in
theorem gX8_rough_X3_has : GoodIn wsX8_rough (wsV RX8 111 RX3 yX3_has wsX3_has) := goodIn_app (goodIn_of _ (by decide +kernel)) ggX8_rough_X3_has
set_option maxRecDepth 20000 in
theorem ggX8_rough_X7_rowsOf : GoodIn wsX8_rough wsX7_rowsOf := goodIn_r _ [14, 15, 16, 17, 4, 5, 6, 7, 8, 183, 184, 185, 186, 187, 188, 189, 190, 191, 192, 193, 194, 195, 196, 197, 198, 199, 200, 201, 202, 203, 204, 205, 206, 207, 208, 209, 210, 211, 212, 213, 214, 215, 216, 217, 218, 219, 220, 221, 178, 179, 180, 181, 182] rfl (by decide +kernel)
set_option maxRecDepth 20000 in
theorem gX8_rough_X7_rowsOf_u169X0 : GoodIn wsX8_rough (va_wsU RX8 169 RX0 "EarlyValues$View" ⟨"EarlyValues$View", "rowsOf", "(LEarlyValues$Program;I)I"⟩ yX7_rowsOf wsX7_rowsOf) := goodIn_app (goodIn_of _ (by decide +kernel)) ggX8_rough_X7_rowsOf
set_option maxRecDepth 20000 in
theorem gX8_rough_X7_rowsOf_u169X4 : GoodIn wsX8_rough (va_wsU RX8 169 RX4 "EarlyValues$View" ⟨"EarlyValues$View", "rowsOf", "(LEarlyValues$Program;I)I"⟩ yX7_rowsOf wsX7_rowsOf) := goodIn_app (goodIn_of _ (by decide +kernel)) ggX8_rough_X7_rowsOf
set_option maxRecDepth 20000 in
theorem gX8_rough_X7_rowsOf_u169X6 : GoodIn wsX8_rough (va_wsU RX8 169 RX6 "EarlyValues$View" ⟨"EarlyValues$View", "rowsOf", "(LEarlyValues$Program;I)I"⟩ yX7_rowsOf wsX7_rowsOf) := goodIn_app (goodIn_of _ (by decide +kernel)) ggX8_rough_X7_rowsOf
set_option maxRecDepth 20000 in
theorem ggX8_rough_X8_solved : GoodIn wsX8_rough wsX8_solved := goodIn_r _ [24, 25, 1, 26, 27, 28, 29, 13, 30, 31, 32, 33, 34, 35, 36, 37, 38, 39, 40, 41, 42, 43, 44, 45, 46, 47, 48, 49, 50, 51, 52, 53, 10, 11, 12, 14, 15, 16, 17, 4, 5, 6, 7, 8, 18, 19, 54, 55, 56, 57, 58, 59, 60, 61, 62, 63, 64, 65, 66, 67, 68, 69, 70, 71, 72, 73, 74, 75, 76, 77, 78, 79, 80, 81, 82, 83, 84, 85, 86, 87, 88, 89, 90, 91, 92, 93, 94, 95, 96, 97, 98, 99, 100, 101, 102, 103, 104, 105, 106, 107, 108, 109, 110, 111, 112, 113, 114, 115, 116, 117, 118, 119, 120, 121, 122, 123, 124, 125, 126, 127, 128, 129, 130, 131, 132, 133, 134, 135, 136, 137, 138, 139, 140, 141, 142, 143, 144, 145, 146, 147, 148, 149, 150, 151, 152, 153, 154, 155, 156, 157, 158, 159, 160, 161, 162, 163, 164, 165, 183, 184, 185, 186, 187, 188, 189, 190, 191, 192, 193, 194, 195, 196, 197, 198, 199, 200, 201, 202, 203, 204, 205, 206, 207, 208, 209, 210, 211, 212, 213, 214, 215, 216, 217, 218, 219, 220, 221, 167, 168, 169, 170, 171, 172, 173, 174, 175, 176, 177, 178, 179, 180, 181, 182] (by decide +kernel) (by decide +kernel)
set_option maxRecDepth 20000 in
theorem gX8_rough_X8_solved : GoodIn wsX8_rough (wsV RX8 161 RX8 yX8_solved wsX8_solved) := goodIn_app (goodIn_of _ (by decide +kernel)) ggX8_rough_X8_solved
set_option maxRecDepth 20000 in
theorem ggX8_rough_X7_at : GoodIn wsX8_rough wsX7_at := goodIn_r _ [58, 38, 39, 183, 184, 185, 186, 187, 188, 189, 190, 191, 192, 193, 194, 195, 196, 197, 198, 199, 200, 201, 202, 203, 204, 205, 206, 207, 208, 209, 210, 211, 212, 213, 214, 215, 216, 217, 218, 219, 220, 221] rfl (by decide +kernel)
set_option maxRecDepth 20000 in
theorem gX8_rough_X7_at_u165X0 : GoodIn wsX8_rough (va_wsU RX8 165 RX0 "EarlyValues$View" ⟨"EarlyValues$View", "at", "(II)I"⟩ yX7_at wsX7_at) := goodIn_app (goodIn_of _ (by decide +kernel)) ggX8_rough_X7_at
set_option maxRecDepth 20000 in
theorem gX8_rough_X7_at_u165X4 : GoodIn wsX8_rough (va_wsU RX8 165 RX4 "EarlyValues$View" ⟨"EarlyValues$View", "at", "(II)I"⟩ yX7_at wsX7_at) := goodIn_app (goodIn_of _ (by decide +kernel)) ggX8_rough_X7_at
set_option maxRecDepth 20000 in
theorem gX8_rough_X7_at_u165X6 : GoodIn wsX8_rough (va_wsU RX8 165 RX6 "EarlyValues$View" ⟨"EarlyValues$View", "at", "(II)I"⟩ yX7_at wsX7_at) := goodIn_app (goodIn_of _ (by decide +kernel)) ggX8_rough_X7_at
theorem dX8_rough_0 : decode cX8_rough 0 = .ok (.aload_n 0, 1) := by decide +kernel
theorem dX8_rough_1 : decode cX8_rough 1 = .ok (.getfield 19, 3) := by decide +kernel
theorem dX8_rough_4 : decode cX8_rough 4 = .ok (.iload_n 1, 1) := by decide +kernel
theorem dX8_rough_5 : decode cX8_rough 5 = .ok (.invokevirtual 111, 3) := by decide +kernel
theorem dX8_rough_8 : decode cX8_rough 8 = .ok (.ifCond .eq 23, 3) := by decide +kernel
theorem dX8_rough_11 : decode cX8_rough 11 = .ok (.iload_n 2, 1) := by decide +kernel
theorem dX8_rough_12 : decode cX8_rough 12 = .ok (.ifCond .lt 19, 3) := by decide +kernel
theorem dX8_rough_15 : decode cX8_rough 15 = .ok (.iload_n 2, 1) := by decide +kernel
theorem dX8_rough_16 : decode cX8_rough 16 = .ok (.aload_n 0, 1) := by decide +kernel
theorem dX8_rough_17 : decode cX8_rough 17 = .ok (.getfield 47, 3) := by decide +kernel
theorem dX8_rough_20 : decode cX8_rough 20 = .ok (.aload_n 0, 1) := by decide +kernel
theorem dX8_rough_21 : decode cX8_rough 21 = .ok (.getfield 19, 3) := by decide +kernel
theorem dX8_rough_24 : decode cX8_rough 24 = .ok (.iload_n 1, 1) := by decide +kernel
theorem dX8_rough_25 : decode cX8_rough 25 = .ok (.invokevirtual 169, 3) := by decide +kernel
theorem dX8_rough_28 : decode cX8_rough 28 = .ok (.if_icmp .lt 5, 3) := by decide +kernel
theorem dX8_rough_31 : decode cX8_rough 31 = .ok (.iconst (-1), 1) := by decide +kernel
theorem dX8_rough_32 : decode cX8_rough 32 = .ok (.ireturn, 1) := by decide +kernel
theorem dX8_rough_33 : decode cX8_rough 33 = .ok (.aload_n 0, 1) := by decide +kernel
theorem dX8_rough_34 : decode cX8_rough 34 = .ok (.aload_n 0, 1) := by decide +kernel
theorem dX8_rough_35 : decode cX8_rough 35 = .ok (.getfield 47, 3) := by decide +kernel
theorem dX8_rough_38 : decode cX8_rough 38 = .ok (.invokevirtual 161, 3) := by decide +kernel
theorem dX8_rough_41 : decode cX8_rough 41 = .ok (.iload_n 1, 1) := by decide +kernel
theorem dX8_rough_42 : decode cX8_rough 42 = .ok (.iload_n 2, 1) := by decide +kernel
theorem dX8_rough_43 : decode cX8_rough 43 = .ok (.invokevirtual 165, 3) := by decide +kernel
theorem dX8_rough_46 : decode cX8_rough 46 = .ok (.ireturn, 1) := by decide +kernel
set_option maxRecDepth 20000 in
theorem ggX8_rounds_X8_solved : GoodIn wsX8_rounds wsX8_solved := goodIn_r _ [9, 10, 11, 12, 13, 14, 15, 16, 17, 18, 19, 20, 21, 22, 23, 24, 25, 26, 27, 28, 29, 30, 31, 32, 33, 34, 35, 36, 37, 38, 39, 40, 41, 42, 43, 44, 45, 46, 47, 48, 49, 50, 51, 52, 53, 54, 55, 56, 57, 58, 59, 60, 61, 62, 63, 64, 65, 66, 67, 68, 69, 70, 71, 72, 73, 74, 75, 76, 77, 78, 79, 80, 81, 82, 83, 84, 85, 86, 87, 88, 89, 90, 91, 92, 93, 94, 95, 96, 97, 98, 99, 100, 101, 102, 103, 104, 105, 106, 107, 108, 109, 110, 111, 112, 113, 114, 115, 116, 117, 118, 119, 120, 121, 122, 123, 124, 125, 126, 127, 128, 129, 130, 131, 132, 133, 134, 135, 136, 137, 138, 139, 140, 141, 142, 143, 144, 145, 146, 147, 148, 149, 150, 151, 152, 153, 154, 155, 156, 157, 158, 159, 160, 161, 162, 163, 164, 165, 166, 178, 179, 180, 181, 182, 183, 184, 185, 186, 187, 188, 189, 190, 191, 192, 193, 194, 195, 196, 197, 198, 199, 200, 201, 202, 203, 204, 205, 206, 207, 208, 209, 210, 211, 212, 213, 214, 215, 216, 167, 168, 169, 170, 171, 172, 173, 174, 175, 176, 177, 217, 218, 219, 220, 221] (by decide +kernel) (by decide +kernel)
set_option maxRecDepth 20000 in
theorem gX8_rounds_X8_solved : GoodIn wsX8_rounds (wsV RX8 161 RX8 yX8_solved wsX8_solved) := goodIn_app (goodIn_of _ (by decide +kernel)) ggX8_rounds_X8_solved
theorem dX8_rounds_0 : decode cX8_rounds 0 = .ok (.iload_n 1, 1) := by decide +kernel
theorem dX8_rounds_1 : decode cX8_rounds 1 = .ok (.tableswitch 63 0 2 #[27, 39, 51], 27) := by decide +kernel
theorem dX8_rounds_28 : decode cX8_rounds 28 = .ok (.aload_n 0, 1) := by decide +kernel
theorem dX8_rounds_29 : decode cX8_rounds 29 = .ok (.aload_n 0, 1) := by decide +kernel
theorem dX8_rounds_30 : decode cX8_rounds 30 = .ok (.getfield 40, 3) := by decide +kernel
theorem dX8_rounds_33 : decode cX8_rounds 33 = .ok (.invokevirtual 161, 3) := by decide +kernel
theorem dX8_rounds_36 : decode cX8_rounds 36 = .ok (.getfield 173, 3) := by decide +kernel
theorem dX8_rounds_39 : decode cX8_rounds 39 = .ok (.ireturn, 1) := by decide +kernel
theorem dX8_rounds_40 : decode cX8_rounds 40 = .ok (.aload_n 0, 1) := by decide +kernel
theorem dX8_rounds_41 : decode cX8_rounds 41 = .ok (.aload_n 0, 1) := by decide +kernel
theorem dX8_rounds_42 : decode cX8_rounds 42 = .ok (.getfield 47, 3) := by decide +kernel
theorem dX8_rounds_45 : decode cX8_rounds 45 = .ok (.invokevirtual 161, 3) := by decide +kernel
theorem dX8_rounds_48 : decode cX8_rounds 48 = .ok (.getfield 173, 3) := by decide +kernel
theorem dX8_rounds_51 : decode cX8_rounds 51 = .ok (.ireturn, 1) := by decide +kernel
theorem dX8_rounds_52 : decode cX8_rounds 52 = .ok (.aload_n 0, 1) := by decide +kernel
theorem dX8_rounds_53 : decode cX8_rounds 53 = .ok (.aload_n 0, 1) := by decide +kernel
theorem dX8_rounds_54 : decode cX8_rounds 54 = .ok (.getfield 53, 3) := by decide +kernel
theorem dX8_rounds_57 : decode cX8_rounds 57 = .ok (.invokevirtual 161, 3) := by decide +kernel
theorem dX8_rounds_60 : decode cX8_rounds 60 = .ok (.getfield 173, 3) := by decide +kernel
theorem dX8_rounds_63 : decode cX8_rounds 63 = .ok (.ireturn, 1) := by decide +kernel
theorem dX8_rounds_64 : decode cX8_rounds 64 = .ok (.iconst (-1), 1) := by decide +kernel
theorem dX8_rounds_65 : decode cX8_rounds 65 = .ok (.ireturn, 1) := by decide +kernel
set_option maxRecDepth 20000 in
theorem ggX8_frontier_X3_has : GoodIn wsX8_frontier wsX3_has := goodIn_r _ [7, 8, 182, 183, 184, 185, 186] rfl (by decide +kernel)
set_option maxRecDepth 20000 in
theorem gX8_frontier_X3_has : GoodIn wsX8_frontier (wsV RX8 111 RX3 yX3_has wsX3_has) := goodIn_app (goodIn_of _ (by decide +kernel)) ggX8_frontier_X3_has
set_option maxRecDepth 20000 in
theorem ggX8_frontier_X8_solved : GoodIn wsX8_frontier wsX8_solved := goodIn_r _ [13, 14, 1, 15, 16, 17, 18, 19, 20, 21, 22, 23, 24, 25, 26, 27, 28, 29, 30, 31, 32, 33, 34, 35, 36, 37, 38, 39, 40, 41, 42, 43, 44, 45, 46, 47, 48, 49, 50, 4, 5, 6, 7, 8, 51, 52, 53, 54, 55, 56, 57, 58, 59, 60, 61, 62, 63, 64, 65, 66, 67, 68, 69, 70, 71, 72, 73, 74, 75, 76, 77, 78, 79, 80, 81, 82, 83, 84, 85, 86, 87, 88, 89, 90, 91, 92, 93, 94, 95, 96, 97, 98, 99, 100, 101, 102, 103, 104, 105, 106, 107, 108, 109, 110, 111, 112, 113, 114, 115, 116, 117, 118, 119, 120, 121, 122, 123, 124, 125, 126, 127, 128, 129, 130, 131, 132, 133, 134, 135, 136, 137, 138, 139, 140, 141, 142, 143, 144, 145, 146, 147, 148, 149, 150, 151, 152, 153, 154, 155, 156, 157, 158, 159, 160, 161, 162, 163, 164, 187, 188, 189, 190, 191, 192, 193, 194, 195, 196, 197, 198, 199, 200, 201, 202, 203, 204, 205, 206, 207, 208, 209, 210, 211, 212, 213, 214, 215, 216, 217, 218, 219, 220, 221, 222, 223, 224, 225, 171, 172, 173, 174, 175, 176, 177, 178, 179, 180, 181, 182, 183, 184, 185, 186] (by decide +kernel) (by decide +kernel)
set_option maxRecDepth 20000 in
theorem gX8_frontier_X8_solved : GoodIn wsX8_frontier (wsV RX8 161 RX8 yX8_solved wsX8_solved) := goodIn_app (goodIn_of _ (by decide +kernel)) ggX8_frontier_X8_solved
set_option maxRecDepth 20000 in
theorem ggX8_frontier_X7_rowsOf : GoodIn wsX8_frontier wsX7_rowsOf := goodIn_r _ [47, 48, 49, 50, 4, 5, 6, 7, 8, 187, 188, 189, 190, 191, 192, 193, 194, 195, 196, 197, 198, 199, 200, 201, 202, 203, 204, 205, 206, 207, 208, 209, 210, 211, 212, 213, 214, 215, 216, 217, 218, 219, 220, 221, 222, 223, 224, 225, 182, 183, 184, 185, 186] rfl (by decide +kernel)
set_option maxRecDepth 20000 in
theorem gX8_frontier_X7_rowsOf_u169X0 : GoodIn wsX8_frontier (va_wsU RX8 169 RX0 "EarlyValues$View" ⟨"EarlyValues$View", "rowsOf", "(LEarlyValues$Program;I)I"⟩ yX7_rowsOf wsX7_rowsOf) := goodIn_app (goodIn_of _ (by decide +kernel)) ggX8_frontier_X7_rowsOf
set_option maxRecDepth 20000 in
theorem gX8_frontier_X7_rowsOf_u169X4 : GoodIn wsX8_frontier (va_wsU RX8 169 RX4 "EarlyValues$View" ⟨"EarlyValues$View", "rowsOf", "(LEarlyValues$Program;I)I"⟩ yX7_rowsOf wsX7_rowsOf) := goodIn_app (goodIn_of _ (by decide +kernel)) ggX8_frontier_X7_rowsOf
set_option maxRecDepth 20000 in
theorem gX8_frontier_X7_rowsOf_u169X6 : GoodIn wsX8_frontier (va_wsU RX8 169 RX6 "EarlyValues$View" ⟨"EarlyValues$View", "rowsOf", "(LEarlyValues$Program;I)I"⟩ yX7_rowsOf wsX7_rowsOf) := goodIn_app (goodIn_of _ (by decide +kernel)) ggX8_frontier_X7_rowsOf
set_option maxRecDepth 20000 in
theorem ggX8_frontier_X8_isLeast : GoodIn wsX8_frontier wsX8_isLeast := goodIn_r _ [169, 170, 54, 55, 56, 19, 57, 28, 29, 58, 59, 187, 188, 189, 190, 191, 192, 193, 194, 195, 196, 197, 198, 199, 200, 201, 202, 203, 204, 205, 206, 207, 208, 209, 210, 211, 212, 213, 214, 215, 216, 217, 218, 219, 220, 221, 222, 223, 224, 225] rfl (by decide +kernel)
set_option maxRecDepth 20000 in
theorem gX8_frontier_X8_isLeast : GoodIn wsX8_frontier (wsV RX8 176 RX8 yX8_isLeast wsX8_isLeast) := goodIn_app (goodIn_of _ (by decide +kernel)) ggX8_frontier_X8_isLeast
theorem dX8_frontier_0 : decode cX8_frontier 0 = .ok (.aload_n 0, 1) := by decide +kernel
theorem dX8_frontier_1 : decode cX8_frontier 1 = .ok (.getfield 19, 3) := by decide +kernel
theorem dX8_frontier_4 : decode cX8_frontier 4 = .ok (.iload_n 1, 1) := by decide +kernel
theorem dX8_frontier_5 : decode cX8_frontier 5 = .ok (.invokevirtual 111, 3) := by decide +kernel
theorem dX8_frontier_8 : decode cX8_frontier 8 = .ok (.ifCond .eq 8, 3) := by decide +kernel
theorem dX8_frontier_11 : decode cX8_frontier 11 = .ok (.iload_n 2, 1) := by decide +kernel
theorem dX8_frontier_12 : decode cX8_frontier 12 = .ok (.iconst (-1), 1) := by decide +kernel
theorem dX8_frontier_13 : decode cX8_frontier 13 = .ok (.if_icmp .ge 5, 3) := by decide +kernel
theorem dX8_frontier_16 : decode cX8_frontier 16 = .ok (.iconst (-1), 1) := by decide +kernel
theorem dX8_frontier_17 : decode cX8_frontier 17 = .ok (.ireturn, 1) := by decide +kernel
theorem dX8_frontier_18 : decode cX8_frontier 18 = .ok (.aload_n 0, 1) := by decide +kernel
theorem dX8_frontier_19 : decode cX8_frontier 19 = .ok (.aload_n 0, 1) := by decide +kernel
theorem dX8_frontier_20 : decode cX8_frontier 20 = .ok (.getfield 47, 3) := by decide +kernel
theorem dX8_frontier_23 : decode cX8_frontier 23 = .ok (.invokevirtual 161, 3) := by decide +kernel
theorem dX8_frontier_26 : decode cX8_frontier 26 = .ok (.astore_n 3, 1) := by decide +kernel
theorem dX8_frontier_27 : decode cX8_frontier 27 = .ok (.iconst 0, 1) := by decide +kernel
theorem dX8_frontier_28 : decode cX8_frontier 28 = .ok (.istore 4, 2) := by decide +kernel
theorem dX8_frontier_30 : decode cX8_frontier 30 = .ok (.iconst 0, 1) := by decide +kernel
theorem dX8_frontier_31 : decode cX8_frontier 31 = .ok (.istore 5, 2) := by decide +kernel
theorem dX8_frontier_33 : decode cX8_frontier 33 = .ok (.iload 5, 2) := by decide +kernel
theorem dX8_frontier_35 : decode cX8_frontier 35 = .ok (.aload_n 3, 1) := by decide +kernel
theorem dX8_frontier_36 : decode cX8_frontier 36 = .ok (.aload_n 0, 1) := by decide +kernel
theorem dX8_frontier_37 : decode cX8_frontier 37 = .ok (.getfield 19, 3) := by decide +kernel
theorem dX8_frontier_40 : decode cX8_frontier 40 = .ok (.iload_n 1, 1) := by decide +kernel
theorem dX8_frontier_41 : decode cX8_frontier 41 = .ok (.invokevirtual 169, 3) := by decide +kernel
theorem dX8_frontier_44 : decode cX8_frontier 44 = .ok (.if_icmp .ge 32, 3) := by decide +kernel
theorem dX8_frontier_47 : decode cX8_frontier 47 = .ok (.aload_n 0, 1) := by decide +kernel
theorem dX8_frontier_48 : decode cX8_frontier 48 = .ok (.aload_n 3, 1) := by decide +kernel
theorem dX8_frontier_49 : decode cX8_frontier 49 = .ok (.iload_n 1, 1) := by decide +kernel
theorem dX8_frontier_50 : decode cX8_frontier 50 = .ok (.iload 5, 2) := by decide +kernel
theorem dX8_frontier_52 : decode cX8_frontier 52 = .ok (.invokevirtual 176, 3) := by decide +kernel
theorem dX8_frontier_55 : decode cX8_frontier 55 = .ok (.ifCond .eq 15, 3) := by decide +kernel
theorem dX8_frontier_58 : decode cX8_frontier 58 = .ok (.iload 4, 2) := by decide +kernel
theorem dX8_frontier_60 : decode cX8_frontier 60 = .ok (.iload_n 2, 1) := by decide +kernel
theorem dX8_frontier_61 : decode cX8_frontier 61 = .ok (.if_icmp .ne 6, 3) := by decide +kernel
theorem dX8_frontier_64 : decode cX8_frontier 64 = .ok (.iload 5, 2) := by decide +kernel
theorem dX8_frontier_66 : decode cX8_frontier 66 = .ok (.ireturn, 1) := by decide +kernel
theorem dX8_frontier_67 : decode cX8_frontier 67 = .ok (.iinc 4 1, 3) := by decide +kernel
theorem dX8_frontier_70 : decode cX8_frontier 70 = .ok (.iinc 5 1, 3) := by decide +kernel
theorem dX8_frontier_73 : decode cX8_frontier 73 = .ok (.goto (-40), 3) := by decide +kernel
theorem dX8_frontier_76 : decode cX8_frontier 76 = .ok (.iload_n 2, 1) := by decide +kernel
theorem dX8_frontier_77 : decode cX8_frontier 77 = .ok (.iconst (-1), 1) := by decide +kernel
theorem dX8_frontier_78 : decode cX8_frontier 78 = .ok (.if_icmp .ne 8, 3) := by decide +kernel
theorem dX8_frontier_81 : decode cX8_frontier 81 = .ok (.iload 4, 2) := by decide +kernel
theorem dX8_frontier_83 : decode cX8_frontier 83 = .ok (.goto 5, 3) := by decide +kernel
theorem dX8_frontier_86 : decode cX8_frontier 86 = .ok (.bipush (-4), 2) := by decide +kernel
theorem dX8_frontier_88 : decode cX8_frontier 88 = .ok (.ireturn, 1) := by decide +kernel
set_option maxRecDepth 20000 in
theorem ggX8_strict_X8_strictView : GoodIn wsX8_strict wsX8_strictView := goodIn_r _ [6, 7, 8, 9, 185, 186, 187, 188, 189, 190, 191, 192, 193, 194, 195] rfl (by decide +kernel)
set_option maxRecDepth 20000 in
theorem gX8_strict_X8_strictView : GoodIn wsX8_strict (wsV RX8 180 RX8 yX8_strictView wsX8_strictView) := goodIn_app (goodIn_of _ (by decide +kernel)) ggX8_strict_X8_strictView
set_option maxRecDepth 20000 in
theorem ggX8_strict_X3_has : GoodIn wsX8_strict wsX3_has := goodIn_r _ [14, 15, 196, 197, 198, 199, 200] rfl (by decide +kernel)
set_option maxRecDepth 20000 in
theorem gX8_strict_X3_has : GoodIn wsX8_strict (wsV RX8 111 RX3 yX3_has wsX3_has) := goodIn_app (goodIn_of _ (by decide +kernel)) ggX8_strict_X3_has
set_option maxRecDepth 20000 in
theorem ggX8_strict_X8_solved : GoodIn wsX8_strict wsX8_solved := goodIn_r _ [19, 20, 1, 21, 22, 23, 24, 25, 26, 27, 28, 29, 30, 31, 32, 33, 34, 35, 36, 37, 38, 39, 40, 41, 42, 43, 44, 45, 46, 47, 48, 49, 50, 51, 52, 53, 54, 55, 56, 11, 12, 13, 14, 15, 57, 58, 59, 60, 61, 62, 63, 64, 65, 66, 67, 68, 69, 70, 71, 72, 73, 74, 75, 76, 77, 78, 79, 80, 81, 82, 83, 84, 85, 86, 87, 88, 89, 90, 91, 92, 93, 94, 95, 96, 97, 98, 99, 100, 101, 102, 103, 104, 105, 106, 107, 108, 109, 110, 111, 112, 113, 114, 115, 116, 117, 118, 119, 120, 121, 122, 123, 124, 125, 126, 127, 128, 129, 130, 131, 132, 133, 134, 135, 136, 137, 138, 139, 140, 141, 142, 143, 144, 145, 146, 147, 148, 149, 150, 151, 152, 153, 154, 155, 156, 157, 158, 159, 160, 161, 162, 163, 164, 165, 166, 167, 168, 169, 170, 201, 202, 203, 204, 205, 206, 207, 208, 209, 210, 211, 212, 213, 214, 215, 216, 217, 218, 219, 220, 221, 222, 223, 224, 225, 226, 227, 228, 229, 230, 231, 232, 233, 234, 235, 236, 237, 238, 239, 185, 186, 187, 188, 189, 190, 191, 192, 193, 194, 195, 196, 197, 198, 199, 200] (by decide +kernel) (by decide +kernel)
set_option maxRecDepth 20000 in
theorem gX8_strict_X8_solved : GoodIn wsX8_strict (wsV RX8 161 RX8 yX8_solved wsX8_solved) := goodIn_app (goodIn_of _ (by decide +kernel)) ggX8_strict_X8_solved
set_option maxRecDepth 20000 in
theorem ggX8_strict_X7_strictBits : GoodIn wsX8_strict wsX7_strictBits := goodIn_r _ [175, 55, 56, 11, 12, 13, 14, 15, 176, 177, 178, 179, 25, 180, 86, 35, 49, 50, 51, 52, 53, 54, 57, 58, 59, 60, 61, 62, 63, 34, 64, 65, 181, 182, 196, 197, 198, 199, 200, 201, 202, 203, 204, 205, 206, 207, 208, 209, 210, 211, 212, 213, 214, 215, 216, 217, 218, 219, 220, 221, 222, 223, 224, 225, 226, 227, 228, 229, 230, 231, 232, 233, 234, 235, 236, 237, 238, 239] rfl (by decide +kernel)
set_option maxRecDepth 20000 in
theorem gX8_strict_X7_strictBits_u184X0 : GoodIn wsX8_strict (va_wsU RX8 184 RX0 "EarlyValues$View" ⟨"EarlyValues$View", "strictBits", "(LEarlyValues$Program;I)I"⟩ yX7_strictBits wsX7_strictBits) := goodIn_app (goodIn_of _ (by decide +kernel)) ggX8_strict_X7_strictBits
set_option maxRecDepth 20000 in
theorem gX8_strict_X7_strictBits_u184X4 : GoodIn wsX8_strict (va_wsU RX8 184 RX4 "EarlyValues$View" ⟨"EarlyValues$View", "strictBits", "(LEarlyValues$Program;I)I"⟩ yX7_strictBits wsX7_strictBits) := goodIn_app (goodIn_of _ (by decide +kernel)) ggX8_strict_X7_strictBits
set_option maxRecDepth 20000 in
theorem gX8_strict_X7_strictBits_u184X6 : GoodIn wsX8_strict (va_wsU RX8 184 RX6 "EarlyValues$View" ⟨"EarlyValues$View", "strictBits", "(LEarlyValues$Program;I)I"⟩ yX7_strictBits wsX7_strictBits) := goodIn_app (goodIn_of _ (by decide +kernel)) ggX8_strict_X7_strictBits
theorem dX8_strict_0 : decode cX8_strict 0 = .ok (.aload_n 0, 1) := by decide +kernel
theorem dX8_strict_1 : decode cX8_strict 1 = .ok (.iload_n 2, 1) := by decide +kernel
theorem dX8_strict_2 : decode cX8_strict 2 = .ok (.invokevirtual 180, 3) := by decide +kernel
theorem dX8_strict_5 : decode cX8_strict 5 = .ok (.astore_n 3, 1) := by decide +kernel
theorem dX8_strict_6 : decode cX8_strict 6 = .ok (.aload_n 3, 1) := by decide +kernel
theorem dX8_strict_7 : decode cX8_strict 7 = .ok (.ifnull 14, 3) := by decide +kernel
theorem dX8_strict_10 : decode cX8_strict 10 = .ok (.aload_n 0, 1) := by decide +kernel
theorem dX8_strict_11 : decode cX8_strict 11 = .ok (.getfield 19, 3) := by decide +kernel
theorem dX8_strict_14 : decode cX8_strict 14 = .ok (.iload_n 1, 1) := by decide +kernel
theorem dX8_strict_15 : decode cX8_strict 15 = .ok (.invokevirtual 111, 3) := by decide +kernel
theorem dX8_strict_18 : decode cX8_strict 18 = .ok (.ifCond .ne 7, 3) := by decide +kernel
theorem dX8_strict_21 : decode cX8_strict 21 = .ok (.iconst (-1), 1) := by decide +kernel
theorem dX8_strict_22 : decode cX8_strict 22 = .ok (.goto 16, 3) := by decide +kernel
theorem dX8_strict_25 : decode cX8_strict 25 = .ok (.aload_n 0, 1) := by decide +kernel
theorem dX8_strict_26 : decode cX8_strict 26 = .ok (.aload_n 3, 1) := by decide +kernel
theorem dX8_strict_27 : decode cX8_strict 27 = .ok (.invokevirtual 161, 3) := by decide +kernel
theorem dX8_strict_30 : decode cX8_strict 30 = .ok (.aload_n 0, 1) := by decide +kernel
theorem dX8_strict_31 : decode cX8_strict 31 = .ok (.getfield 19, 3) := by decide +kernel
theorem dX8_strict_34 : decode cX8_strict 34 = .ok (.iload_n 1, 1) := by decide +kernel
theorem dX8_strict_35 : decode cX8_strict 35 = .ok (.invokevirtual 184, 3) := by decide +kernel
theorem dX8_strict_38 : decode cX8_strict 38 = .ok (.ireturn, 1) := by decide +kernel
set_option maxRecDepth 20000 in
theorem ggX8_early_X8_strictView : GoodIn wsX8_early wsX8_strictView := goodIn_r _ [9, 10, 11, 12, 195, 196, 197, 198, 199, 200, 201, 202, 203, 204, 205] rfl (by decide +kernel)
set_option maxRecDepth 20000 in
theorem gX8_early_X8_strictView : GoodIn wsX8_early (wsV RX8 180 RX8 yX8_strictView wsX8_strictView) := goodIn_app (goodIn_of _ (by decide +kernel)) ggX8_early_X8_strictView
set_option maxRecDepth 20000 in
theorem ggX8_early_X3_has : GoodIn wsX8_early wsX3_has := goodIn_r _ [17, 18, 206, 207, 208, 209, 210] rfl (by decide +kernel)
set_option maxRecDepth 20000 in
theorem gX8_early_X3_has : GoodIn wsX8_early (wsV RX8 111 RX3 yX3_has wsX3_has) := goodIn_app (goodIn_of _ (by decide +kernel)) ggX8_early_X3_has
set_option maxRecDepth 20000 in
theorem ggX8_early_X8_solved : GoodIn wsX8_early wsX8_solved := goodIn_r _ [22, 23, 1, 24, 25, 26, 27, 28, 29, 30, 31, 32, 33, 34, 35, 36, 37, 38, 39, 40, 41, 42, 43, 44, 45, 46, 47, 48, 49, 50, 51, 52, 53, 54, 55, 56, 57, 58, 59, 14, 15, 16, 17, 18, 60, 61, 62, 63, 64, 65, 66, 67, 68, 69, 70, 71, 72, 73, 74, 75, 76, 77, 78, 79, 80, 81, 82, 83, 84, 85, 86, 87, 88, 89, 90, 91, 92, 93, 94, 95, 96, 97, 98, 99, 100, 101, 102, 103, 104, 105, 106, 107, 108, 109, 110, 111, 112, 113, 114, 115, 116, 117, 118, 119, 120, 121, 122, 123, 124, 125, 126, 127, 128, 129, 130, 131, 132, 133, 134, 135, 136, 137, 138, 139, 140, 141, 142, 143, 144, 145, 146, 147, 148, 149, 150, 151, 152, 153, 154, 155, 156, 157, 158, 159, 160, 161, 162, 163, 164, 165, 166, 167, 168, 169, 170, 171, 172, 173, 211, 212, 213, 214, 215, 216, 217, 218, 219, 220, 221, 222, 223, 224, 225, 226, 227, 228, 229, 230, 231, 232, 233, 234, 235, 236, 237, 238, 239, 240, 241, 242, 243, 244, 245, 246, 247, 248, 249, 195, 196, 197, 198, 199, 200, 201, 202, 203, 204, 205, 206, 207, 208, 209, 210] (by decide +kernel) (by decide +kernel)
set_option maxRecDepth 20000 in
theorem gX8_early_X8_solved : GoodIn wsX8_early (wsV RX8 161 RX8 yX8_solved wsX8_solved) := goodIn_app (goodIn_of _ (by decide +kernel)) ggX8_early_X8_solved
set_option maxRecDepth 20000 in
theorem ggX8_early_X7_strictBits : GoodIn wsX8_early wsX7_strictBits := goodIn_r _ [178, 58, 59, 14, 15, 16, 17, 18, 179, 180, 181, 182, 28, 183, 89, 38, 52, 53, 54, 55, 56, 57, 60, 61, 62, 63, 64, 65, 66, 37, 67, 68, 184, 185, 206, 207, 208, 209, 210, 211, 212, 213, 214, 215, 216, 217, 218, 219, 220, 221, 222, 223, 224, 225, 226, 227, 228, 229, 230, 231, 232, 233, 234, 235, 236, 237, 238, 239, 240, 241, 242, 243, 244, 245, 246, 247, 248, 249] rfl (by decide +kernel)
set_option maxRecDepth 20000 in
theorem gX8_early_X7_strictBits_u184X0 : GoodIn wsX8_early (va_wsU RX8 184 RX0 "EarlyValues$View" ⟨"EarlyValues$View", "strictBits", "(LEarlyValues$Program;I)I"⟩ yX7_strictBits wsX7_strictBits) := goodIn_app (goodIn_of _ (by decide +kernel)) ggX8_early_X7_strictBits
set_option maxRecDepth 20000 in
theorem gX8_early_X7_strictBits_u184X4 : GoodIn wsX8_early (va_wsU RX8 184 RX4 "EarlyValues$View" ⟨"EarlyValues$View", "strictBits", "(LEarlyValues$Program;I)I"⟩ yX7_strictBits wsX7_strictBits) := goodIn_app (goodIn_of _ (by decide +kernel)) ggX8_early_X7_strictBits
set_option maxRecDepth 20000 in
theorem gX8_early_X7_strictBits_u184X6 : GoodIn wsX8_early (va_wsU RX8 184 RX6 "EarlyValues$View" ⟨"EarlyValues$View", "strictBits", "(LEarlyValues$Program;I)I"⟩ yX7_strictBits wsX7_strictBits) := goodIn_app (goodIn_of _ (by decide +kernel)) ggX8_early_X7_strictBits
set_option maxRecDepth 20000 in
theorem ggX8_early_J6_bitCount_0f7a4 : GoodIn wsX8_early wsJ6_bitCount_0f7a4 := goodIn_r _ [191, 192, 193, 194] rfl (by decide +kernel)
set_option maxRecDepth 20000 in
theorem gX8_early_J6_bitCount_0f7a4 : GoodIn wsX8_early (va_wsS RX8 187 yJ6_bitCount_0f7a4 wsJ6_bitCount_0f7a4) := goodIn_app (goodIn_of _ (by decide +kernel)) ggX8_early_J6_bitCount_0f7a4
theorem dX8_early_0 : decode cX8_early 0 = .ok (.aload_n 0, 1) := by decide +kernel
theorem dX8_early_1 : decode cX8_early 1 = .ok (.iload_n 2, 1) := by decide +kernel
theorem dX8_early_2 : decode cX8_early 2 = .ok (.invokevirtual 180, 3) := by decide +kernel
theorem dX8_early_5 : decode cX8_early 5 = .ok (.astore_n 3, 1) := by decide +kernel
theorem dX8_early_6 : decode cX8_early 6 = .ok (.iload_n 2, 1) := by decide +kernel
theorem dX8_early_7 : decode cX8_early 7 = .ok (.iconst 3, 1) := by decide +kernel
theorem dX8_early_8 : decode cX8_early 8 = .ok (.if_icmp .ne 7, 3) := by decide +kernel
theorem dX8_early_11 : decode cX8_early 11 = .ok (.iconst 1, 1) := by decide +kernel
theorem dX8_early_12 : decode cX8_early 12 = .ok (.goto 4, 3) := by decide +kernel
theorem dX8_early_15 : decode cX8_early 15 = .ok (.iconst 0, 1) := by decide +kernel
theorem dX8_early_16 : decode cX8_early 16 = .ok (.istore 4, 2) := by decide +kernel
theorem dX8_early_18 : decode cX8_early 18 = .ok (.aload_n 0, 1) := by decide +kernel
theorem dX8_early_19 : decode cX8_early 19 = .ok (.getfield 19, 3) := by decide +kernel
theorem dX8_early_22 : decode cX8_early 22 = .ok (.iload_n 1, 1) := by decide +kernel
theorem dX8_early_23 : decode cX8_early 23 = .ok (.invokevirtual 111, 3) := by decide +kernel
theorem dX8_early_26 : decode cX8_early 26 = .ok (.ifCond .eq 12, 3) := by decide +kernel
theorem dX8_early_29 : decode cX8_early 29 = .ok (.aload_n 3, 1) := by decide +kernel
theorem dX8_early_30 : decode cX8_early 30 = .ok (.ifnonnull 10, 3) := by decide +kernel
theorem dX8_early_33 : decode cX8_early 33 = .ok (.iload 4, 2) := by decide +kernel
theorem dX8_early_35 : decode cX8_early 35 = .ok (.ifCond .ne 5, 3) := by decide +kernel
theorem dX8_early_38 : decode cX8_early 38 = .ok (.iconst (-1), 1) := by decide +kernel
theorem dX8_early_39 : decode cX8_early 39 = .ok (.ireturn, 1) := by decide +kernel
theorem dX8_early_40 : decode cX8_early 40 = .ok (.iconst 0, 1) := by decide +kernel
theorem dX8_early_41 : decode cX8_early 41 = .ok (.istore 5, 2) := by decide +kernel
theorem dX8_early_43 : decode cX8_early 43 = .ok (.iconst 0, 1) := by decide +kernel
theorem dX8_early_44 : decode cX8_early 44 = .ok (.istore 6, 2) := by decide +kernel
theorem dX8_early_46 : decode cX8_early 46 = .ok (.iload 6, 2) := by decide +kernel
theorem dX8_early_48 : decode cX8_early 48 = .ok (.aload_n 0, 1) := by decide +kernel
theorem dX8_early_49 : decode cX8_early 49 = .ok (.getfield 19, 3) := by decide +kernel
theorem dX8_early_52 : decode cX8_early 52 = .ok (.getfield 122, 3) := by decide +kernel
theorem dX8_early_55 : decode cX8_early 55 = .ok (.iload_n 1, 1) := by decide +kernel
theorem dX8_early_56 : decode cX8_early 56 = .ok (.iaload, 1) := by decide +kernel
theorem dX8_early_57 : decode cX8_early 57 = .ok (.if_icmp .ge 77, 3) := by decide +kernel
theorem dX8_early_60 : decode cX8_early 60 = .ok (.aload_n 0, 1) := by decide +kernel
theorem dX8_early_61 : decode cX8_early 61 = .ok (.getfield 19, 3) := by decide +kernel
theorem dX8_early_64 : decode cX8_early 64 = .ok (.getfield 129, 3) := by decide +kernel
theorem dX8_early_67 : decode cX8_early 67 = .ok (.iload_n 1, 1) := by decide +kernel
theorem dX8_early_68 : decode cX8_early 68 = .ok (.aaload, 1) := by decide +kernel
theorem dX8_early_69 : decode cX8_early 69 = .ok (.iload 6, 2) := by decide +kernel
theorem dX8_early_71 : decode cX8_early 71 = .ok (.iaload, 1) := by decide +kernel
theorem dX8_early_72 : decode cX8_early 72 = .ok (.bipush 10, 2) := by decide +kernel
theorem dX8_early_74 : decode cX8_early 74 = .ok (.isub, 1) := by decide +kernel
theorem dX8_early_75 : decode cX8_early 75 = .ok (.istore 7, 2) := by decide +kernel
theorem dX8_early_77 : decode cX8_early 77 = .ok (.aload_n 0, 1) := by decide +kernel
theorem dX8_early_78 : decode cX8_early 78 = .ok (.getfield 19, 3) := by decide +kernel
theorem dX8_early_81 : decode cX8_early 81 = .ok (.iload 7, 2) := by decide +kernel
theorem dX8_early_83 : decode cX8_early 83 = .ok (.invokevirtual 111, 3) := by decide +kernel
theorem dX8_early_86 : decode cX8_early 86 = .ok (.ifCond .eq 42, 3) := by decide +kernel
theorem dX8_early_89 : decode cX8_early 89 = .ok (.iload 5, 2) := by decide +kernel
theorem dX8_early_91 : decode cX8_early 91 = .ok (.aload_n 3, 1) := by decide +kernel
theorem dX8_early_92 : decode cX8_early 92 = .ok (.ifnonnull 16, 3) := by decide +kernel
theorem dX8_early_95 : decode cX8_early 95 = .ok (.aload_n 0, 1) := by decide +kernel
theorem dX8_early_96 : decode cX8_early 96 = .ok (.getfield 19, 3) := by decide +kernel
theorem dX8_early_99 : decode cX8_early 99 = .ok (.getfield 119, 3) := by decide +kernel
theorem dX8_early_102 : decode cX8_early 102 = .ok (.iload 7, 2) := by decide +kernel
theorem dX8_early_104 : decode cX8_early 104 = .ok (.iaload, 1) := by decide +kernel
theorem dX8_early_105 : decode cX8_early 105 = .ok (.goto 20, 3) := by decide +kernel
theorem dX8_early_108 : decode cX8_early 108 = .ok (.aload_n 0, 1) := by decide +kernel
theorem dX8_early_109 : decode cX8_early 109 = .ok (.aload_n 3, 1) := by decide +kernel
theorem dX8_early_110 : decode cX8_early 110 = .ok (.invokevirtual 161, 3) := by decide +kernel
theorem dX8_early_113 : decode cX8_early 113 = .ok (.aload_n 0, 1) := by decide +kernel
theorem dX8_early_114 : decode cX8_early 114 = .ok (.getfield 19, 3) := by decide +kernel
theorem dX8_early_117 : decode cX8_early 117 = .ok (.iload 7, 2) := by decide +kernel
theorem dX8_early_119 : decode cX8_early 119 = .ok (.invokevirtual 184, 3) := by decide +kernel
theorem dX8_early_122 : decode cX8_early 122 = .ok (.invokestatic 187, 3) := by decide +kernel
theorem dX8_early_125 : decode cX8_early 125 = .ok (.iadd, 1) := by decide +kernel
theorem dX8_early_126 : decode cX8_early 126 = .ok (.istore 5, 2) := by decide +kernel
theorem dX8_early_128 : decode cX8_early 128 = .ok (.iinc 6 1, 3) := by decide +kernel
theorem dX8_early_131 : decode cX8_early 131 = .ok (.goto (-85), 3) := by decide +kernel
theorem dX8_early_134 : decode cX8_early 134 = .ok (.iload 5, 2) := by decide +kernel
theorem dX8_early_136 : decode cX8_early 136 = .ok (.ireturn, 1) := by decide +kernel
set_option maxRecDepth 20000 in
theorem ggX8_same_X3_has : GoodIn wsX8_same wsX3_has := goodIn_r _ [8, 9, 179, 180, 181, 182, 183] rfl (by decide +kernel)
set_option maxRecDepth 20000 in
theorem gX8_same_X3_has : GoodIn wsX8_same (wsV RX8 111 RX3 yX3_has wsX3_has) := goodIn_app (goodIn_of _ (by decide +kernel)) ggX8_same_X3_has
set_option maxRecDepth 20000 in
theorem ggX8_same_X8_solved : GoodIn wsX8_same wsX8_solved := goodIn_r _ [14, 15, 1, 16, 17, 18, 19, 20, 21, 22, 23, 24, 25, 26, 27, 28, 29, 30, 31, 32, 33, 34, 35, 36, 37, 38, 39, 40, 41, 42, 43, 44, 45, 46, 47, 48, 49, 50, 51, 5, 6, 7, 8, 9, 52, 53, 54, 55, 56, 57, 58, 59, 60, 61, 62, 63, 64, 65, 66, 67, 68, 69, 70, 71, 72, 73, 74, 75, 76, 77, 78, 79, 80, 81, 82, 83, 84, 85, 86, 87, 88, 89, 90, 91, 92, 93, 94, 95, 96, 97, 98, 99, 100, 101, 102, 103, 104, 105, 106, 107, 108, 109, 110, 111, 112, 113, 114, 115, 116, 117, 118, 119, 120, 121, 122, 123, 124, 125, 126, 127, 128, 129, 130, 131, 132, 133, 134, 135, 136, 137, 138, 139, 140, 141, 142, 143, 144, 145, 146, 147, 148, 149, 150, 151, 152, 153, 154, 155, 156, 157, 158, 159, 160, 161, 162, 163, 164, 165, 184, 185, 186, 187, 188, 189, 190, 191, 192, 193, 194, 195, 196, 197, 198, 199, 200, 201, 202, 203, 204, 205, 206, 207, 208, 209, 210, 211, 212, 213, 214, 215, 216, 217, 218, 219, 220, 221, 222, 168, 169, 170, 171, 172, 173, 174, 175, 176, 177, 178, 179, 180, 181, 182, 183] (by decide +kernel) (by decide +kernel)
set_option maxRecDepth 20000 in
theorem gX8_same_X8_solved : GoodIn wsX8_same (wsV RX8 161 RX8 yX8_solved wsX8_solved) := goodIn_app (goodIn_of _ (by decide +kernel)) ggX8_same_X8_solved
set_option maxRecDepth 20000 in
theorem ggX8_same_X7_rowsOf : GoodIn wsX8_same wsX7_rowsOf := goodIn_r _ [48, 49, 50, 51, 5, 6, 7, 8, 9, 184, 185, 186, 187, 188, 189, 190, 191, 192, 193, 194, 195, 196, 197, 198, 199, 200, 201, 202, 203, 204, 205, 206, 207, 208, 209, 210, 211, 212, 213, 214, 215, 216, 217, 218, 219, 220, 221, 222, 179, 180, 181, 182, 183] rfl (by decide +kernel)
set_option maxRecDepth 20000 in
theorem gX8_same_X7_rowsOf_u169X0 : GoodIn wsX8_same (va_wsU RX8 169 RX0 "EarlyValues$View" ⟨"EarlyValues$View", "rowsOf", "(LEarlyValues$Program;I)I"⟩ yX7_rowsOf wsX7_rowsOf) := goodIn_app (goodIn_of _ (by decide +kernel)) ggX8_same_X7_rowsOf
set_option maxRecDepth 20000 in
theorem gX8_same_X7_rowsOf_u169X4 : GoodIn wsX8_same (va_wsU RX8 169 RX4 "EarlyValues$View" ⟨"EarlyValues$View", "rowsOf", "(LEarlyValues$Program;I)I"⟩ yX7_rowsOf wsX7_rowsOf) := goodIn_app (goodIn_of _ (by decide +kernel)) ggX8_same_X7_rowsOf
set_option maxRecDepth 20000 in
theorem gX8_same_X7_rowsOf_u169X6 : GoodIn wsX8_same (va_wsU RX8 169 RX6 "EarlyValues$View" ⟨"EarlyValues$View", "rowsOf", "(LEarlyValues$Program;I)I"⟩ yX7_rowsOf wsX7_rowsOf) := goodIn_app (goodIn_of _ (by decide +kernel)) ggX8_same_X7_rowsOf
set_option maxRecDepth 20000 in
theorem ggX8_same_X7_at : GoodIn wsX8_same wsX7_at := goodIn_r _ [58, 29, 30, 184, 185, 186, 187, 188, 189, 190, 191, 192, 193, 194, 195, 196, 197, 198, 199, 200, 201, 202, 203, 204, 205, 206, 207, 208, 209, 210, 211, 212, 213, 214, 215, 216, 217, 218, 219, 220, 221, 222] rfl (by decide +kernel)
set_option maxRecDepth 20000 in
theorem gX8_same_X7_at_u165X0 : GoodIn wsX8_same (va_wsU RX8 165 RX0 "EarlyValues$View" ⟨"EarlyValues$View", "at", "(II)I"⟩ yX7_at wsX7_at) := goodIn_app (goodIn_of _ (by decide +kernel)) ggX8_same_X7_at
set_option maxRecDepth 20000 in
theorem gX8_same_X7_at_u165X4 : GoodIn wsX8_same (va_wsU RX8 165 RX4 "EarlyValues$View" ⟨"EarlyValues$View", "at", "(II)I"⟩ yX7_at wsX7_at) := goodIn_app (goodIn_of _ (by decide +kernel)) ggX8_same_X7_at
set_option maxRecDepth 20000 in
theorem gX8_same_X7_at_u165X6 : GoodIn wsX8_same (va_wsU RX8 165 RX6 "EarlyValues$View" ⟨"EarlyValues$View", "at", "(II)I"⟩ yX7_at wsX7_at) := goodIn_app (goodIn_of _ (by decide +kernel)) ggX8_same_X7_at
theorem dX8_same_0 : decode cX8_same 0 = .ok (.aload_n 0, 1) := by decide +kernel
theorem dX8_same_1 : decode cX8_same 1 = .ok (.getfield 19, 3) := by decide +kernel
theorem dX8_same_4 : decode cX8_same 4 = .ok (.iload_n 1, 1) := by decide +kernel
theorem dX8_same_5 : decode cX8_same 5 = .ok (.invokevirtual 111, 3) := by decide +kernel
theorem dX8_same_8 : decode cX8_same 8 = .ok (.ifCond .eq 14, 3) := by decide +kernel
theorem dX8_same_11 : decode cX8_same 11 = .ok (.aload_n 0, 1) := by decide +kernel
theorem dX8_same_12 : decode cX8_same 12 = .ok (.getfield 19, 3) := by decide +kernel
theorem dX8_same_15 : decode cX8_same 15 = .ok (.iload_n 2, 1) := by decide +kernel
theorem dX8_same_16 : decode cX8_same 16 = .ok (.invokevirtual 111, 3) := by decide +kernel
theorem dX8_same_19 : decode cX8_same 19 = .ok (.ifCond .ne 5, 3) := by decide +kernel
theorem dX8_same_22 : decode cX8_same 22 = .ok (.iconst (-1), 1) := by decide +kernel
theorem dX8_same_23 : decode cX8_same 23 = .ok (.ireturn, 1) := by decide +kernel
theorem dX8_same_24 : decode cX8_same 24 = .ok (.aload_n 0, 1) := by decide +kernel
theorem dX8_same_25 : decode cX8_same 25 = .ok (.getfield 19, 3) := by decide +kernel
theorem dX8_same_28 : decode cX8_same 28 = .ok (.getfield 119, 3) := by decide +kernel
theorem dX8_same_31 : decode cX8_same 31 = .ok (.iload_n 1, 1) := by decide +kernel
theorem dX8_same_32 : decode cX8_same 32 = .ok (.iaload, 1) := by decide +kernel
theorem dX8_same_33 : decode cX8_same 33 = .ok (.aload_n 0, 1) := by decide +kernel
theorem dX8_same_34 : decode cX8_same 34 = .ok (.getfield 19, 3) := by decide +kernel
theorem dX8_same_37 : decode cX8_same 37 = .ok (.getfield 119, 3) := by decide +kernel
theorem dX8_same_40 : decode cX8_same 40 = .ok (.iload_n 2, 1) := by decide +kernel
theorem dX8_same_41 : decode cX8_same 41 = .ok (.iaload, 1) := by decide +kernel
theorem dX8_same_42 : decode cX8_same 42 = .ok (.if_icmp .eq 5, 3) := by decide +kernel
theorem dX8_same_45 : decode cX8_same 45 = .ok (.iconst 0, 1) := by decide +kernel
theorem dX8_same_46 : decode cX8_same 46 = .ok (.ireturn, 1) := by decide +kernel
theorem dX8_same_47 : decode cX8_same 47 = .ok (.aload_n 0, 1) := by decide +kernel
theorem dX8_same_48 : decode cX8_same 48 = .ok (.aload_n 0, 1) := by decide +kernel
theorem dX8_same_49 : decode cX8_same 49 = .ok (.getfield 40, 3) := by decide +kernel
theorem dX8_same_52 : decode cX8_same 52 = .ok (.invokevirtual 161, 3) := by decide +kernel
theorem dX8_same_55 : decode cX8_same 55 = .ok (.astore_n 3, 1) := by decide +kernel
theorem dX8_same_56 : decode cX8_same 56 = .ok (.iconst 0, 1) := by decide +kernel
theorem dX8_same_57 : decode cX8_same 57 = .ok (.istore 4, 2) := by decide +kernel
theorem dX8_same_59 : decode cX8_same 59 = .ok (.iload 4, 2) := by decide +kernel
theorem dX8_same_61 : decode cX8_same 61 = .ok (.aload_n 3, 1) := by decide +kernel
theorem dX8_same_62 : decode cX8_same 62 = .ok (.aload_n 0, 1) := by decide +kernel
theorem dX8_same_63 : decode cX8_same 63 = .ok (.getfield 19, 3) := by decide +kernel
theorem dX8_same_66 : decode cX8_same 66 = .ok (.iload_n 1, 1) := by decide +kernel
theorem dX8_same_67 : decode cX8_same 67 = .ok (.invokevirtual 169, 3) := by decide +kernel
theorem dX8_same_70 : decode cX8_same 70 = .ok (.if_icmp .ge 28, 3) := by decide +kernel
theorem dX8_same_73 : decode cX8_same 73 = .ok (.aload_n 3, 1) := by decide +kernel
theorem dX8_same_74 : decode cX8_same 74 = .ok (.iload_n 1, 1) := by decide +kernel
theorem dX8_same_75 : decode cX8_same 75 = .ok (.iload 4, 2) := by decide +kernel
theorem dX8_same_77 : decode cX8_same 77 = .ok (.invokevirtual 165, 3) := by decide +kernel
theorem dX8_same_80 : decode cX8_same 80 = .ok (.aload_n 3, 1) := by decide +kernel
theorem dX8_same_81 : decode cX8_same 81 = .ok (.iload_n 2, 1) := by decide +kernel
theorem dX8_same_82 : decode cX8_same 82 = .ok (.iload 4, 2) := by decide +kernel
theorem dX8_same_84 : decode cX8_same 84 = .ok (.invokevirtual 165, 3) := by decide +kernel
theorem dX8_same_87 : decode cX8_same 87 = .ok (.if_icmp .eq 5, 3) := by decide +kernel
theorem dX8_same_90 : decode cX8_same 90 = .ok (.iconst 0, 1) := by decide +kernel
theorem dX8_same_91 : decode cX8_same 91 = .ok (.ireturn, 1) := by decide +kernel
theorem dX8_same_92 : decode cX8_same 92 = .ok (.iinc 4 1, 3) := by decide +kernel
theorem dX8_same_95 : decode cX8_same 95 = .ok (.goto (-36), 3) := by decide +kernel
theorem dX8_same_98 : decode cX8_same 98 = .ok (.iconst 1, 1) := by decide +kernel
theorem dX8_same_99 : decode cX8_same 99 = .ok (.ireturn, 1) := by decide +kernel
set_option maxRecDepth 20000 in
theorem ggX8_first_X3_has : GoodIn wsX8_first wsX3_has := goodIn_r _ [8, 9, 218, 219, 220, 221, 222] rfl (by decide +kernel)
set_option maxRecDepth 20000 in
theorem gX8_first_X3_has : GoodIn wsX8_first (wsV RX8 111 RX3 yX3_has wsX3_has) := goodIn_app (goodIn_of _ (by decide +kernel)) ggX8_first_X3_has
set_option maxRecDepth 20000 in
theorem ggX8_first_X8_solved : GoodIn wsX8_first wsX8_solved := goodIn_r _ [14, 15, 1, 16, 17, 18, 19, 20, 21, 22, 23, 24, 25, 26, 27, 28, 29, 30, 31, 32, 33, 34, 35, 36, 37, 38, 39, 40, 41, 42, 43, 44, 45, 46, 47, 48, 49, 50, 51, 5, 6, 7, 8, 9, 52, 53, 54, 55, 56, 57, 58, 59, 60, 61, 62, 63, 64, 65, 66, 67, 68, 69, 70, 71, 72, 73, 74, 75, 76, 77, 78, 79, 80, 81, 82, 83, 84, 85, 86, 87, 88, 89, 90, 91, 92, 93, 94, 95, 96, 97, 98, 99, 100, 101, 102, 103, 104, 105, 106, 107, 108, 109, 110, 111, 112, 113, 114, 115, 116, 117, 118, 119, 120, 121, 122, 123, 124, 125, 126, 127, 128, 129, 130, 131, 132, 133, 134, 135, 136, 137, 138, 139, 140, 141, 142, 143, 144, 145, 146, 147, 148, 149, 150, 151, 152, 153, 154, 155, 156, 157, 158, 159, 160, 161, 162, 163, 164, 165, 179, 180, 181, 182, 183, 184, 185, 186, 187, 188, 189, 190, 191, 192, 193, 194, 195, 196, 197, 198, 199, 200, 201, 202, 203, 204, 205, 206, 207, 208, 209, 210, 211, 212, 213, 214, 215, 216, 217, 168, 169, 170, 171, 172, 173, 174, 175, 176, 177, 178, 218, 219, 220, 221, 222] (by decide +kernel) (by decide +kernel)
set_option maxRecDepth 20000 in
theorem gX8_first_X8_solved : GoodIn wsX8_first (wsV RX8 161 RX8 yX8_solved wsX8_solved) := goodIn_app (goodIn_of _ (by decide +kernel)) ggX8_first_X8_solved
set_option maxRecDepth 20000 in
theorem ggX8_first_X7_rowsOf : GoodIn wsX8_first wsX7_rowsOf := goodIn_r _ [48, 49, 50, 51, 5, 6, 7, 8, 9, 179, 180, 181, 182, 183, 184, 185, 186, 187, 188, 189, 190, 191, 192, 193, 194, 195, 196, 197, 198, 199, 200, 201, 202, 203, 204, 205, 206, 207, 208, 209, 210, 211, 212, 213, 214, 215, 216, 217, 218, 219, 220, 221, 222] rfl (by decide +kernel)
set_option maxRecDepth 20000 in
theorem gX8_first_X7_rowsOf_u169X0 : GoodIn wsX8_first (va_wsU RX8 169 RX0 "EarlyValues$View" ⟨"EarlyValues$View", "rowsOf", "(LEarlyValues$Program;I)I"⟩ yX7_rowsOf wsX7_rowsOf) := goodIn_app (goodIn_of _ (by decide +kernel)) ggX8_first_X7_rowsOf
set_option maxRecDepth 20000 in
theorem gX8_first_X7_rowsOf_u169X4 : GoodIn wsX8_first (va_wsU RX8 169 RX4 "EarlyValues$View" ⟨"EarlyValues$View", "rowsOf", "(LEarlyValues$Program;I)I"⟩ yX7_rowsOf wsX7_rowsOf) := goodIn_app (goodIn_of _ (by decide +kernel)) ggX8_first_X7_rowsOf
set_option maxRecDepth 20000 in
theorem gX8_first_X7_rowsOf_u169X6 : GoodIn wsX8_first (va_wsU RX8 169 RX6 "EarlyValues$View" ⟨"EarlyValues$View", "rowsOf", "(LEarlyValues$Program;I)I"⟩ yX7_rowsOf wsX7_rowsOf) := goodIn_app (goodIn_of _ (by decide +kernel)) ggX8_first_X7_rowsOf
set_option maxRecDepth 20000 in
theorem ggX8_first_X7_at : GoodIn wsX8_first wsX7_at := goodIn_r _ [58, 29, 30, 179, 180, 181, 182, 183, 184, 185, 186, 187, 188, 189, 190, 191, 192, 193, 194, 195, 196, 197, 198, 199, 200, 201, 202, 203, 204, 205, 206, 207, 208, 209, 210, 211, 212, 213, 214, 215, 216, 217] rfl (by decide +kernel)
set_option maxRecDepth 20000 in
theorem gX8_first_X7_at_u165X0 : GoodIn wsX8_first (va_wsU RX8 165 RX0 "EarlyValues$View" ⟨"EarlyValues$View", "at", "(II)I"⟩ yX7_at wsX7_at) := goodIn_app (goodIn_of _ (by decide +kernel)) ggX8_first_X7_at
set_option maxRecDepth 20000 in
theorem gX8_first_X7_at_u165X4 : GoodIn wsX8_first (va_wsU RX8 165 RX4 "EarlyValues$View" ⟨"EarlyValues$View", "at", "(II)I"⟩ yX7_at wsX7_at) := goodIn_app (goodIn_of _ (by decide +kernel)) ggX8_first_X7_at
set_option maxRecDepth 20000 in
theorem gX8_first_X7_at_u165X6 : GoodIn wsX8_first (va_wsU RX8 165 RX6 "EarlyValues$View" ⟨"EarlyValues$View", "at", "(II)I"⟩ yX7_at wsX7_at) := goodIn_app (goodIn_of _ (by decide +kernel)) ggX8_first_X7_at
theorem dX8_first_0 : decode cX8_first 0 = .ok (.aload_n 0, 1) := by decide +kernel
theorem dX8_first_1 : decode cX8_first 1 = .ok (.getfield 19, 3) := by decide +kernel
theorem dX8_first_4 : decode cX8_first 4 = .ok (.iload_n 1, 1) := by decide +kernel
theorem dX8_first_5 : decode cX8_first 5 = .ok (.invokevirtual 111, 3) := by decide +kernel
theorem dX8_first_8 : decode cX8_first 8 = .ok (.ifCond .eq 12, 3) := by decide +kernel
theorem dX8_first_11 : decode cX8_first 11 = .ok (.iload_n 2, 1) := by decide +kernel
theorem dX8_first_12 : decode cX8_first 12 = .ok (.ifCond .lt 8, 3) := by decide +kernel
theorem dX8_first_15 : decode cX8_first 15 = .ok (.iload_n 2, 1) := by decide +kernel
theorem dX8_first_16 : decode cX8_first 16 = .ok (.iconst 4, 1) := by decide +kernel
theorem dX8_first_17 : decode cX8_first 17 = .ok (.if_icmp .le 5, 3) := by decide +kernel
theorem dX8_first_20 : decode cX8_first 20 = .ok (.iconst (-1), 1) := by decide +kernel
theorem dX8_first_21 : decode cX8_first 21 = .ok (.ireturn, 1) := by decide +kernel
theorem dX8_first_22 : decode cX8_first 22 = .ok (.aload_n 0, 1) := by decide +kernel
theorem dX8_first_23 : decode cX8_first 23 = .ok (.aload_n 0, 1) := by decide +kernel
theorem dX8_first_24 : decode cX8_first 24 = .ok (.getfield 40, 3) := by decide +kernel
theorem dX8_first_27 : decode cX8_first 27 = .ok (.invokevirtual 161, 3) := by decide +kernel
theorem dX8_first_30 : decode cX8_first 30 = .ok (.astore_n 3, 1) := by decide +kernel
theorem dX8_first_31 : decode cX8_first 31 = .ok (.bipush (-4), 2) := by decide +kernel
theorem dX8_first_33 : decode cX8_first 33 = .ok (.istore 4, 2) := by decide +kernel
theorem dX8_first_35 : decode cX8_first 35 = .ok (.iconst 0, 1) := by decide +kernel
theorem dX8_first_36 : decode cX8_first 36 = .ok (.istore 5, 2) := by decide +kernel
theorem dX8_first_38 : decode cX8_first 38 = .ok (.iload 5, 2) := by decide +kernel
theorem dX8_first_40 : decode cX8_first 40 = .ok (.aload_n 3, 1) := by decide +kernel
theorem dX8_first_41 : decode cX8_first 41 = .ok (.aload_n 0, 1) := by decide +kernel
theorem dX8_first_42 : decode cX8_first 42 = .ok (.getfield 19, 3) := by decide +kernel
theorem dX8_first_45 : decode cX8_first 45 = .ok (.iload_n 1, 1) := by decide +kernel
theorem dX8_first_46 : decode cX8_first 46 = .ok (.invokevirtual 169, 3) := by decide +kernel
theorem dX8_first_49 : decode cX8_first 49 = .ok (.if_icmp .ge 75, 3) := by decide +kernel
theorem dX8_first_52 : decode cX8_first 52 = .ok (.bipush 100, 2) := by decide +kernel
theorem dX8_first_54 : decode cX8_first 54 = .ok (.aload_n 3, 1) := by decide +kernel
theorem dX8_first_55 : decode cX8_first 55 = .ok (.getfield 192, 3) := by decide +kernel
theorem dX8_first_58 : decode cX8_first 58 = .ok (.iconst 0, 1) := by decide +kernel
theorem dX8_first_59 : decode cX8_first 59 = .ok (.aaload, 1) := by decide +kernel
theorem dX8_first_60 : decode cX8_first 60 = .ok (.iload 5, 2) := by decide +kernel
theorem dX8_first_62 : decode cX8_first 62 = .ok (.iaload, 1) := by decide +kernel
theorem dX8_first_63 : decode cX8_first 63 = .ok (.imul, 1) := by decide +kernel
theorem dX8_first_64 : decode cX8_first 64 = .ok (.bipush 10, 2) := by decide +kernel
theorem dX8_first_66 : decode cX8_first 66 = .ok (.aload_n 3, 1) := by decide +kernel
theorem dX8_first_67 : decode cX8_first 67 = .ok (.getfield 192, 3) := by decide +kernel
theorem dX8_first_70 : decode cX8_first 70 = .ok (.iconst 1, 1) := by decide +kernel
theorem dX8_first_71 : decode cX8_first 71 = .ok (.aaload, 1) := by decide +kernel
theorem dX8_first_72 : decode cX8_first 72 = .ok (.iload 5, 2) := by decide +kernel
theorem dX8_first_74 : decode cX8_first 74 = .ok (.iaload, 1) := by decide +kernel
theorem dX8_first_75 : decode cX8_first 75 = .ok (.imul, 1) := by decide +kernel
theorem dX8_first_76 : decode cX8_first 76 = .ok (.iadd, 1) := by decide +kernel
theorem dX8_first_77 : decode cX8_first 77 = .ok (.aload_n 3, 1) := by decide +kernel
theorem dX8_first_78 : decode cX8_first 78 = .ok (.getfield 192, 3) := by decide +kernel
theorem dX8_first_81 : decode cX8_first 81 = .ok (.iconst 2, 1) := by decide +kernel
theorem dX8_first_82 : decode cX8_first 82 = .ok (.aaload, 1) := by decide +kernel
theorem dX8_first_83 : decode cX8_first 83 = .ok (.iload 5, 2) := by decide +kernel
theorem dX8_first_85 : decode cX8_first 85 = .ok (.iaload, 1) := by decide +kernel
theorem dX8_first_86 : decode cX8_first 86 = .ok (.iadd, 1) := by decide +kernel
theorem dX8_first_87 : decode cX8_first 87 = .ok (.istore 6, 2) := by decide +kernel
theorem dX8_first_89 : decode cX8_first 89 = .ok (.aload_n 3, 1) := by decide +kernel
theorem dX8_first_90 : decode cX8_first 90 = .ok (.iload_n 1, 1) := by decide +kernel
theorem dX8_first_91 : decode cX8_first 91 = .ok (.iload 5, 2) := by decide +kernel
theorem dX8_first_93 : decode cX8_first 93 = .ok (.invokevirtual 165, 3) := by decide +kernel
theorem dX8_first_96 : decode cX8_first 96 = .ok (.iload_n 2, 1) := by decide +kernel
theorem dX8_first_97 : decode cX8_first 97 = .ok (.if_icmp .ne 21, 3) := by decide +kernel
theorem dX8_first_100 : decode cX8_first 100 = .ok (.iload 4, 2) := by decide +kernel
theorem dX8_first_102 : decode cX8_first 102 = .ok (.bipush (-4), 2) := by decide +kernel
theorem dX8_first_104 : decode cX8_first 104 = .ok (.if_icmp .eq 10, 3) := by decide +kernel
theorem dX8_first_107 : decode cX8_first 107 = .ok (.iload 6, 2) := by decide +kernel
theorem dX8_first_109 : decode cX8_first 109 = .ok (.iload 4, 2) := by decide +kernel
theorem dX8_first_111 : decode cX8_first 111 = .ok (.if_icmp .ge 7, 3) := by decide +kernel
theorem dX8_first_114 : decode cX8_first 114 = .ok (.iload 6, 2) := by decide +kernel
theorem dX8_first_116 : decode cX8_first 116 = .ok (.istore 4, 2) := by decide +kernel
theorem dX8_first_118 : decode cX8_first 118 = .ok (.iinc 5 1, 3) := by decide +kernel
theorem dX8_first_121 : decode cX8_first 121 = .ok (.goto (-83), 3) := by decide +kernel
theorem dX8_first_124 : decode cX8_first 124 = .ok (.iload 4, 2) := by decide +kernel
theorem dX8_first_126 : decode cX8_first 126 = .ok (.ireturn, 1) := by decide +kernel
set_option maxRecDepth 20000 in
theorem ggX8_makes_X3_has : GoodIn wsX8_makes wsX3_has := goodIn_r _ [12, 13, 265, 266, 267, 268, 269] rfl (by decide +kernel)
set_option maxRecDepth 20000 in
theorem gX8_makes_X3_has : GoodIn wsX8_makes (wsV RX8 111 RX3 yX3_has wsX3_has) := goodIn_app (goodIn_of _ (by decide +kernel)) ggX8_makes_X3_has
set_option maxRecDepth 20000 in
theorem ggX8_makes_X8_solved : GoodIn wsX8_makes wsX8_solved := goodIn_r _ [18, 19, 1, 20, 21, 22, 23, 24, 25, 26, 27, 28, 29, 30, 31, 32, 33, 34, 35, 36, 37, 38, 39, 40, 41, 42, 43, 44, 45, 46, 47, 48, 49, 50, 51, 52, 53, 54, 55, 9, 10, 11, 12, 13, 56, 57, 58, 59, 60, 61, 62, 63, 64, 65, 66, 67, 68, 69, 70, 71, 72, 73, 74, 75, 76, 77, 78, 79, 80, 81, 82, 83, 84, 85, 86, 87, 88, 89, 90, 91, 92, 93, 94, 95, 96, 97, 98, 99, 100, 101, 102, 103, 104, 105, 106, 107, 108, 109, 110, 111, 112, 113, 114, 115, 116, 117, 118, 119, 120, 121, 122, 123, 124, 125, 126, 127, 128, 129, 130, 131, 132, 133, 134, 135, 136, 137, 138, 139, 140, 141, 142, 143, 144, 145, 146, 147, 148, 149, 150, 151, 152, 153, 154, 155, 156, 157, 158, 159, 160, 161, 162, 163, 164, 165, 166, 167, 168, 169, 270, 271, 272, 273, 274, 275, 276, 277, 278, 279, 280, 281, 282, 283, 284, 285, 286, 287, 288, 289, 290, 291, 292, 293, 294, 295, 296, 297, 298, 299, 300, 301, 302, 303, 304, 305, 306, 307, 308, 254, 255, 256, 257, 258, 259, 260, 261, 262, 263, 264, 265, 266, 267, 268, 269] (by decide +kernel) (by decide +kernel)
set_option maxRecDepth 20000 in
theorem gX8_makes_X8_solved : GoodIn wsX8_makes (wsV RX8 161 RX8 yX8_solved wsX8_solved) := goodIn_app (goodIn_of _ (by decide +kernel)) ggX8_makes_X8_solved
set_option maxRecDepth 20000 in
theorem ggX8_makes_X7_isStrict : GoodIn wsX8_makes wsX7_isStrict := goodIn_r _ [174, 85, 34, 48, 49, 50, 51, 24, 52, 53, 54, 55, 9, 10, 11, 12, 13, 56, 57, 58, 59, 60, 61, 62, 33, 63, 64, 270, 271, 272, 273, 274, 275, 276, 277, 278, 279, 280, 281, 282, 283, 284, 285, 286, 287, 288, 289, 290, 291, 292, 293, 294, 295, 296, 297, 298, 299, 300, 301, 302, 303, 304, 305, 306, 307, 308, 265, 266, 267, 268, 269] rfl (by decide +kernel)
set_option maxRecDepth 20000 in
theorem gX8_makes_X7_isStrict_u195X0 : GoodIn wsX8_makes (va_wsU RX8 195 RX0 "EarlyValues$View" ⟨"EarlyValues$View", "isStrict", "(LEarlyValues$Program;II)Z"⟩ yX7_isStrict wsX7_isStrict) := goodIn_app (goodIn_of _ (by decide +kernel)) ggX8_makes_X7_isStrict
set_option maxRecDepth 20000 in
theorem gX8_makes_X7_isStrict_u195X4 : GoodIn wsX8_makes (va_wsU RX8 195 RX4 "EarlyValues$View" ⟨"EarlyValues$View", "isStrict", "(LEarlyValues$Program;II)Z"⟩ yX7_isStrict wsX7_isStrict) := goodIn_app (goodIn_of _ (by decide +kernel)) ggX8_makes_X7_isStrict
set_option maxRecDepth 20000 in
theorem gX8_makes_X7_isStrict_u195X6 : GoodIn wsX8_makes (va_wsU RX8 195 RX6 "EarlyValues$View" ⟨"EarlyValues$View", "isStrict", "(LEarlyValues$Program;II)Z"⟩ yX7_isStrict wsX7_isStrict) := goodIn_app (goodIn_of _ (by decide +kernel)) ggX8_makes_X7_isStrict
set_option maxRecDepth 20000 in
theorem ggX8_makes_X3_takeFrom : GoodIn wsX8_makes wsX3_takeFrom := goodIn_r _ [180, 13, 101, 181, 182, 183, 184, 185, 186, 187, 265, 266, 267, 268, 269] rfl (by decide +kernel)
set_option maxRecDepth 20000 in
theorem gX8_makes_X3_takeFrom : GoodIn wsX8_makes (wsV RX8 87 RX3 yX3_takeFrom wsX3_takeFrom) := goodIn_app (goodIn_of _ (by decide +kernel)) ggX8_makes_X3_takeFrom
set_option maxRecDepth 20000 in
theorem ggX8_makes_X3_fits : GoodIn wsX8_makes wsX3_fits := goodIn_r _ [191, 183, 192, 193, 194, 11, 195, 182, 102, 9, 10, 12, 13, 196, 197, 198, 199, 101, 200, 98, 99, 100, 265, 266, 267, 268, 269] rfl (by decide +kernel)
set_option maxRecDepth 20000 in
theorem gX8_makes_X3_fits : GoodIn wsX8_makes (wsV RX8 142 RX3 yX3_fits wsX3_fits) := goodIn_app (goodIn_of _ (by decide +kernel)) ggX8_makes_X3_fits
set_option maxRecDepth 20000 in
theorem ggX8_makes_X7_staysStrict : GoodIn wsX8_makes wsX7_staysStrict := goodIn_r _ [205, 28, 29, 30, 31, 24, 32, 33, 34, 35, 36, 37, 38, 39, 40, 41, 42, 43, 44, 45, 46, 47, 48, 49, 50, 51, 52, 53, 54, 55, 9, 10, 11, 12, 13, 56, 57, 58, 59, 60, 61, 62, 63, 64, 65, 66, 67, 68, 69, 70, 71, 72, 73, 74, 75, 76, 77, 78, 79, 80, 81, 82, 83, 84, 85, 86, 87, 88, 89, 90, 91, 92, 93, 94, 95, 96, 97, 98, 99, 100, 101, 102, 103, 104, 105, 106, 107, 108, 109, 110, 111, 112, 113, 114, 115, 116, 117, 118, 119, 120, 121, 122, 123, 124, 125, 126, 127, 128, 129, 130, 131, 132, 133, 134, 135, 136, 137, 138, 139, 140, 141, 142, 143, 144, 145, 146, 147, 148, 149, 150, 151, 152, 153, 154, 155, 156, 157, 158, 159, 160, 161, 162, 163, 164, 165, 166, 167, 206, 171, 172, 173, 174, 175, 176, 270, 271, 272, 273, 274, 275, 276, 277, 278, 279, 280, 281, 282, 283, 284, 285, 286, 287, 288, 289, 290, 291, 292, 293, 294, 295, 296, 297, 298, 299, 300, 301, 302, 303, 304, 305, 306, 307, 308, 265, 266, 267, 268, 269] (by decide +kernel) (by decide +kernel)
set_option maxRecDepth 20000 in
theorem gX8_makes_X7_staysStrict_u199X0 : GoodIn wsX8_makes (va_wsU RX8 199 RX0 "EarlyValues$View" ⟨"EarlyValues$View", "staysStrict", "(LEarlyValues$Program;II)Z"⟩ yX7_staysStrict wsX7_staysStrict) := goodIn_app (goodIn_of _ (by decide +kernel)) ggX8_makes_X7_staysStrict
set_option maxRecDepth 20000 in
theorem gX8_makes_X7_staysStrict_u199X4 : GoodIn wsX8_makes (va_wsU RX8 199 RX4 "EarlyValues$View" ⟨"EarlyValues$View", "staysStrict", "(LEarlyValues$Program;II)Z"⟩ yX7_staysStrict wsX7_staysStrict) := goodIn_app (goodIn_of _ (by decide +kernel)) ggX8_makes_X7_staysStrict
set_option maxRecDepth 20000 in
theorem gX8_makes_X7_staysStrict_u199X6 : GoodIn wsX8_makes (va_wsU RX8 199 RX6 "EarlyValues$View" ⟨"EarlyValues$View", "staysStrict", "(LEarlyValues$Program;II)Z"⟩ yX7_staysStrict wsX7_staysStrict) := goodIn_app (goodIn_of _ (by decide +kernel)) ggX8_makes_X7_staysStrict
set_option maxRecDepth 20000 in
theorem ggX8_makes_X2_signOf : GoodIn wsX8_makes wsX2_signOf := goodIn_r _ [212, 213, 214, 215, 216, 217, 218, 219, 220, 221, 222, 223, 224, 225, 226, 227, 228, 229, 230, 231, 232, 233, 234, 235, 236, 237, 238, 239, 240, 241, 242, 243, 244, 245, 246, 247, 248, 249, 250, 251, 252, 253] rfl (by decide +kernel)
set_option maxRecDepth 20000 in
theorem gX8_makes_X2_signOf : GoodIn wsX8_makes (va_wsS RX8 133 yX2_signOf wsX2_signOf) := goodIn_app (goodIn_of _ (by decide +kernel)) ggX8_makes_X2_signOf
theorem dX8_makes_0 : decode cX8_makes 0 = .ok (.aload_n 0, 1) := by decide +kernel
theorem dX8_makes_1 : decode cX8_makes 1 = .ok (.getfield 19, 3) := by decide +kernel
theorem dX8_makes_4 : decode cX8_makes 4 = .ok (.iload_n 1, 1) := by decide +kernel
theorem dX8_makes_5 : decode cX8_makes 5 = .ok (.invokevirtual 111, 3) := by decide +kernel
theorem dX8_makes_8 : decode cX8_makes 8 = .ok (.ifCond .eq 20, 3) := by decide +kernel
theorem dX8_makes_11 : decode cX8_makes 11 = .ok (.iload_n 2, 1) := by decide +kernel
theorem dX8_makes_12 : decode cX8_makes 12 = .ok (.ifCond .lt 16, 3) := by decide +kernel
theorem dX8_makes_15 : decode cX8_makes 15 = .ok (.iload_n 2, 1) := by decide +kernel
theorem dX8_makes_16 : decode cX8_makes 16 = .ok (.aload_n 0, 1) := by decide +kernel
theorem dX8_makes_17 : decode cX8_makes 17 = .ok (.getfield 19, 3) := by decide +kernel
theorem dX8_makes_20 : decode cX8_makes 20 = .ok (.getfield 119, 3) := by decide +kernel
theorem dX8_makes_23 : decode cX8_makes 23 = .ok (.iload_n 1, 1) := by decide +kernel
theorem dX8_makes_24 : decode cX8_makes 24 = .ok (.iaload, 1) := by decide +kernel
theorem dX8_makes_25 : decode cX8_makes 25 = .ok (.if_icmp .lt 5, 3) := by decide +kernel
theorem dX8_makes_28 : decode cX8_makes 28 = .ok (.iconst (-1), 1) := by decide +kernel
theorem dX8_makes_29 : decode cX8_makes 29 = .ok (.ireturn, 1) := by decide +kernel
theorem dX8_makes_30 : decode cX8_makes 30 = .ok (.aload_n 0, 1) := by decide +kernel
theorem dX8_makes_31 : decode cX8_makes 31 = .ok (.aload_n 0, 1) := by decide +kernel
theorem dX8_makes_32 : decode cX8_makes 32 = .ok (.getfield 53, 3) := by decide +kernel
theorem dX8_makes_35 : decode cX8_makes 35 = .ok (.invokevirtual 161, 3) := by decide +kernel
theorem dX8_makes_38 : decode cX8_makes 38 = .ok (.aload_n 0, 1) := by decide +kernel
theorem dX8_makes_39 : decode cX8_makes 39 = .ok (.getfield 19, 3) := by decide +kernel
theorem dX8_makes_42 : decode cX8_makes 42 = .ok (.iload_n 1, 1) := by decide +kernel
theorem dX8_makes_43 : decode cX8_makes 43 = .ok (.iload_n 2, 1) := by decide +kernel
theorem dX8_makes_44 : decode cX8_makes 44 = .ok (.invokevirtual 195, 3) := by decide +kernel
theorem dX8_makes_47 : decode cX8_makes 47 = .ok (.ifCond .eq 6, 3) := by decide +kernel
theorem dX8_makes_50 : decode cX8_makes 50 = .ok (.bipush (-2), 2) := by decide +kernel
theorem dX8_makes_52 : decode cX8_makes 52 = .ok (.ireturn, 1) := by decide +kernel
theorem dX8_makes_53 : decode cX8_makes 53 = .ok (.aload_n 0, 1) := by decide +kernel
theorem dX8_makes_54 : decode cX8_makes 54 = .ok (.getfield 23, 3) := by decide +kernel
theorem dX8_makes_57 : decode cX8_makes 57 = .ok (.aload_n 0, 1) := by decide +kernel
theorem dX8_makes_58 : decode cX8_makes 58 = .ok (.getfield 19, 3) := by decide +kernel
theorem dX8_makes_61 : decode cX8_makes 61 = .ok (.invokevirtual 87, 3) := by decide +kernel
theorem dX8_makes_64 : decode cX8_makes 64 = .ok (.iconst 0, 1) := by decide +kernel
theorem dX8_makes_65 : decode cX8_makes 65 = .ok (.istore_n 3, 1) := by decide +kernel
theorem dX8_makes_66 : decode cX8_makes 66 = .ok (.iload_n 3, 1) := by decide +kernel
theorem dX8_makes_67 : decode cX8_makes 67 = .ok (.aload_n 0, 1) := by decide +kernel
theorem dX8_makes_68 : decode cX8_makes 68 = .ok (.getfield 19, 3) := by decide +kernel
theorem dX8_makes_71 : decode cX8_makes 71 = .ok (.getfield 122, 3) := by decide +kernel
theorem dX8_makes_74 : decode cX8_makes 74 = .ok (.iload_n 1, 1) := by decide +kernel
theorem dX8_makes_75 : decode cX8_makes 75 = .ok (.iaload, 1) := by decide +kernel
theorem dX8_makes_76 : decode cX8_makes 76 = .ok (.if_icmp .ge 118, 3) := by decide +kernel
theorem dX8_makes_79 : decode cX8_makes 79 = .ok (.iconst 0, 1) := by decide +kernel
theorem dX8_makes_80 : decode cX8_makes 80 = .ok (.istore 4, 2) := by decide +kernel
theorem dX8_makes_82 : decode cX8_makes 82 = .ok (.iload 4, 2) := by decide +kernel
theorem dX8_makes_84 : decode cX8_makes 84 = .ok (.bipush 14, 2) := by decide +kernel
theorem dX8_makes_86 : decode cX8_makes 86 = .ok (.if_icmp .ge 80, 3) := by decide +kernel
theorem dX8_makes_89 : decode cX8_makes 89 = .ok (.aload_n 0, 1) := by decide +kernel
theorem dX8_makes_90 : decode cX8_makes 90 = .ok (.getfield 19, 3) := by decide +kernel
theorem dX8_makes_93 : decode cX8_makes 93 = .ok (.getfield 129, 3) := by decide +kernel
theorem dX8_makes_96 : decode cX8_makes 96 = .ok (.iload_n 1, 1) := by decide +kernel
theorem dX8_makes_97 : decode cX8_makes 97 = .ok (.aaload, 1) := by decide +kernel
theorem dX8_makes_98 : decode cX8_makes 98 = .ok (.iload_n 3, 1) := by decide +kernel
theorem dX8_makes_99 : decode cX8_makes 99 = .ok (.iaload, 1) := by decide +kernel
theorem dX8_makes_100 : decode cX8_makes 100 = .ok (.iload 4, 2) := by decide +kernel
theorem dX8_makes_102 : decode cX8_makes 102 = .ok (.if_icmp .eq 58, 3) := by decide +kernel
theorem dX8_makes_105 : decode cX8_makes 105 = .ok (.aload_n 0, 1) := by decide +kernel
theorem dX8_makes_106 : decode cX8_makes 106 = .ok (.getfield 19, 3) := by decide +kernel
theorem dX8_makes_109 : decode cX8_makes 109 = .ok (.iload_n 1, 1) := by decide +kernel
theorem dX8_makes_110 : decode cX8_makes 110 = .ok (.iload_n 3, 1) := by decide +kernel
theorem dX8_makes_111 : decode cX8_makes 111 = .ok (.iload 4, 2) := by decide +kernel
theorem dX8_makes_113 : decode cX8_makes 113 = .ok (.invokevirtual 142, 3) := by decide +kernel
theorem dX8_makes_116 : decode cX8_makes 116 = .ok (.ifCond .eq 44, 3) := by decide +kernel
theorem dX8_makes_119 : decode cX8_makes 119 = .ok (.aload_n 0, 1) := by decide +kernel
theorem dX8_makes_120 : decode cX8_makes 120 = .ok (.getfield 23, 3) := by decide +kernel
theorem dX8_makes_123 : decode cX8_makes 123 = .ok (.getfield 129, 3) := by decide +kernel
theorem dX8_makes_126 : decode cX8_makes 126 = .ok (.iload_n 1, 1) := by decide +kernel
