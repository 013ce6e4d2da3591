abbrev vwCl : List vw_C := [(RX0, TX0, 13), (RX1, TX1, 4), (RX3, TX3, 5), (RX4, TX4, 13), (RX5, TX5, 5), (RX6, TX6, 13), (RX8, TX8, 11), (RX9, TX9, 20)]

theorem dX9_makes_172 : decode cX9_makes 172 = .ok (.iload_n 1, 1) := by decide +kernel
theorem dX9_makes_173 : decode cX9_makes 173 = .ok (.imul, 1) := by decide +kernel
theorem dX9_makes_174 : decode cX9_makes 174 = .ok (.iload 4, 2) := by decide +kernel
theorem dX9_makes_176 : decode cX9_makes 176 = .ok (.iadd, 1) := by decide +kernel
theorem dX9_makes_177 : decode cX9_makes 177 = .ok (.iload 5, 2) := by decide +kernel
theorem dX9_makes_179 : decode cX9_makes 179 = .ok (.iastore, 1) := by decide +kernel
theorem dX9_makes_180 : decode cX9_makes 180 = .ok (.iinc 6 1, 3) := by decide +kernel
theorem dX9_makes_183 : decode cX9_makes 183 = .ok (.goto (-100), 3) := by decide +kernel
theorem dX9_makes_186 : decode cX9_makes 186 = .ok (.iinc 4 1, 3) := by decide +kernel
theorem dX9_makes_189 : decode cX9_makes 189 = .ok (.goto (-140), 3) := by decide +kernel
theorem dX9_makes_192 : decode cX9_makes 192 = .ok (.aload_n 0, 1) := by decide +kernel
theorem dX9_makes_193 : decode cX9_makes 193 = .ok (.iconst 0, 1) := by decide +kernel
theorem dX9_makes_194 : decode cX9_makes 194 = .ok (.putfield 121, 3) := by decide +kernel
theorem dX9_makes_197 : decode cX9_makes 197 = .ok (.iload_n 3, 1) := by decide +kernel
theorem dX9_makes_198 : decode cX9_makes 198 = .ok (.ireturn, 1) := by decide +kernel
set_option maxRecDepth 20000 in
theorem ggX9_turns_X9_placeOf : GoodIn wsX9_turns wsX9_placeOf := goodIn_r _ [7, 8, 9, 6, 10] (by decide +kernel) (by decide +kernel)
set_option maxRecDepth 20000 in
theorem gX9_turns_X9_placeOf : GoodIn wsX9_turns (va_wsS RX9 181 yX9_placeOf wsX9_placeOf) := goodIn_app (goodIn_of _ (by decide +kernel)) ggX9_turns_X9_placeOf
set_option maxRecDepth 20000 in
theorem ggX9_turns_X9_letterBy : GoodIn wsX9_turns wsX9_letterBy := goodIn_r _ [10] (by decide +kernel) (by decide +kernel)
set_option maxRecDepth 20000 in
theorem gX9_turns_X9_letterBy : GoodIn wsX9_turns (va_wsS RX9 65 yX9_letterBy wsX9_letterBy) := goodIn_app (goodIn_of _ (by decide +kernel)) ggX9_turns_X9_letterBy
set_option maxRecDepth 20000 in
theorem ggX9_turns_X9_mayStand : GoodIn wsX9_turns wsX9_mayStand := goodIn_r _ [14, 15, 3, 16, 17, 18, 6, 19, 1, 20, 21, 22, 23, 24, 25, 26, 27, 28, 29, 30, 31, 32, 33, 34, 35, 36, 37, 38, 39, 40, 41, 42] (by decide +kernel) (by decide +kernel)
set_option maxRecDepth 20000 in
theorem gX9_turns_X9_mayStand : GoodIn wsX9_turns (wsV RX9 139 RX9 yX9_mayStand wsX9_mayStand) := goodIn_app (goodIn_of _ (by decide +kernel)) ggX9_turns_X9_mayStand
theorem dX9_turns_0 : decode cX9_turns 0 = .ok (.iload_n 1, 1) := by decide +kernel
theorem dX9_turns_1 : decode cX9_turns 1 = .ok (.aload_n 0, 1) := by decide +kernel
theorem dX9_turns_2 : decode cX9_turns 2 = .ok (.getfield 49, 3) := by decide +kernel
theorem dX9_turns_5 : decode cX9_turns 5 = .ok (.irem, 1) := by decide +kernel
theorem dX9_turns_6 : decode cX9_turns 6 = .ok (.istore_n 2, 1) := by decide +kernel
theorem dX9_turns_7 : decode cX9_turns 7 = .ok (.iload_n 1, 1) := by decide +kernel
theorem dX9_turns_8 : decode cX9_turns 8 = .ok (.bipush 8, 2) := by decide +kernel
theorem dX9_turns_10 : decode cX9_turns 10 = .ok (.idiv, 1) := by decide +kernel
theorem dX9_turns_11 : decode cX9_turns 11 = .ok (.aload_n 0, 1) := by decide +kernel
theorem dX9_turns_12 : decode cX9_turns 12 = .ok (.getfield 16, 3) := by decide +kernel
theorem dX9_turns_15 : decode cX9_turns 15 = .ok (.iload_n 2, 1) := by decide +kernel
theorem dX9_turns_16 : decode cX9_turns 16 = .ok (.iaload, 1) := by decide +kernel
theorem dX9_turns_17 : decode cX9_turns 17 = .ok (.irem, 1) := by decide +kernel
theorem dX9_turns_18 : decode cX9_turns 18 = .ok (.istore_n 3, 1) := by decide +kernel
theorem dX9_turns_19 : decode cX9_turns 19 = .ok (.aload_n 0, 1) := by decide +kernel
theorem dX9_turns_20 : decode cX9_turns 20 = .ok (.getfield 19, 3) := by decide +kernel
theorem dX9_turns_23 : decode cX9_turns 23 = .ok (.bipush 24, 2) := by decide +kernel
theorem dX9_turns_25 : decode cX9_turns 25 = .ok (.iload_n 2, 1) := by decide +kernel
theorem dX9_turns_26 : decode cX9_turns 26 = .ok (.imul, 1) := by decide +kernel
theorem dX9_turns_27 : decode cX9_turns 27 = .ok (.iload_n 3, 1) := by decide +kernel
theorem dX9_turns_28 : decode cX9_turns 28 = .ok (.iadd, 1) := by decide +kernel
theorem dX9_turns_29 : decode cX9_turns 29 = .ok (.iaload, 1) := by decide +kernel
theorem dX9_turns_30 : decode cX9_turns 30 = .ok (.invokestatic 181, 3) := by decide +kernel
theorem dX9_turns_33 : decode cX9_turns 33 = .ok (.istore 4, 2) := by decide +kernel
theorem dX9_turns_35 : decode cX9_turns 35 = .ok (.iload 4, 2) := by decide +kernel
theorem dX9_turns_37 : decode cX9_turns 37 = .ok (.iconst 1, 1) := by decide +kernel
theorem dX9_turns_38 : decode cX9_turns 38 = .ok (.iadd, 1) := by decide +kernel
theorem dX9_turns_39 : decode cX9_turns 39 = .ok (.bipush 14, 2) := by decide +kernel
theorem dX9_turns_41 : decode cX9_turns 41 = .ok (.irem, 1) := by decide +kernel
theorem dX9_turns_42 : decode cX9_turns 42 = .ok (.istore 5, 2) := by decide +kernel
theorem dX9_turns_44 : decode cX9_turns 44 = .ok (.aload_n 0, 1) := by decide +kernel
theorem dX9_turns_45 : decode cX9_turns 45 = .ok (.iload_n 2, 1) := by decide +kernel
theorem dX9_turns_46 : decode cX9_turns 46 = .ok (.iload_n 3, 1) := by decide +kernel
theorem dX9_turns_47 : decode cX9_turns 47 = .ok (.iload 5, 2) := by decide +kernel
theorem dX9_turns_49 : decode cX9_turns 49 = .ok (.invokestatic 65, 3) := by decide +kernel
theorem dX9_turns_52 : decode cX9_turns 52 = .ok (.invokevirtual 139, 3) := by decide +kernel
theorem dX9_turns_55 : decode cX9_turns 55 = .ok (.ifCond .ne 15, 3) := by decide +kernel
theorem dX9_turns_58 : decode cX9_turns 58 = .ok (.iload 5, 2) := by decide +kernel
theorem dX9_turns_60 : decode cX9_turns 60 = .ok (.iconst 1, 1) := by decide +kernel
theorem dX9_turns_61 : decode cX9_turns 61 = .ok (.iadd, 1) := by decide +kernel
theorem dX9_turns_62 : decode cX9_turns 62 = .ok (.bipush 14, 2) := by decide +kernel
theorem dX9_turns_64 : decode cX9_turns 64 = .ok (.irem, 1) := by decide +kernel
theorem dX9_turns_65 : decode cX9_turns 65 = .ok (.istore 5, 2) := by decide +kernel
theorem dX9_turns_67 : decode cX9_turns 67 = .ok (.goto (-23), 3) := by decide +kernel
theorem dX9_turns_70 : decode cX9_turns 70 = .ok (.aload_n 0, 1) := by decide +kernel
theorem dX9_turns_71 : decode cX9_turns 71 = .ok (.getfield 19, 3) := by decide +kernel
theorem dX9_turns_74 : decode cX9_turns 74 = .ok (.bipush 24, 2) := by decide +kernel
theorem dX9_turns_76 : decode cX9_turns 76 = .ok (.iload_n 2, 1) := by decide +kernel
theorem dX9_turns_77 : decode cX9_turns 77 = .ok (.imul, 1) := by decide +kernel
theorem dX9_turns_78 : decode cX9_turns 78 = .ok (.iload_n 3, 1) := by decide +kernel
theorem dX9_turns_79 : decode cX9_turns 79 = .ok (.iadd, 1) := by decide +kernel
theorem dX9_turns_80 : decode cX9_turns 80 = .ok (.iload 5, 2) := by decide +kernel
theorem dX9_turns_82 : decode cX9_turns 82 = .ok (.invokestatic 65, 3) := by decide +kernel
theorem dX9_turns_85 : decode cX9_turns 85 = .ok (.iastore, 1) := by decide +kernel
theorem dX9_turns_86 : decode cX9_turns 86 = .ok (.return_, 1) := by decide +kernel
set_option maxRecDepth 20000 in
theorem ggX9_valueRows_X9_tableAt : GoodIn wsX9_valueRows wsX9_tableAt := goodIn_r _ [6, 7, 8, 9, 10, 11, 12, 13, 14, 15, 16, 17, 18, 19, 20, 21, 22, 23, 24, 25, 26, 27] (by decide +kernel) (by decide +kernel)
set_option maxRecDepth 20000 in
theorem gX9_valueRows_X9_tableAt : GoodIn wsX9_valueRows (wsV RX9 76 RX9 yX9_tableAt wsX9_tableAt) := goodIn_app (goodIn_of _ (by decide +kernel)) ggX9_valueRows_X9_tableAt
theorem dX9_valueRows_0 : decode cX9_valueRows 0 = .ok (.iconst 0, 1) := by decide +kernel
theorem dX9_valueRows_1 : decode cX9_valueRows 1 = .ok (.istore_n 1, 1) := by decide +kernel
theorem dX9_valueRows_2 : decode cX9_valueRows 2 = .ok (.iconst 0, 1) := by decide +kernel
theorem dX9_valueRows_3 : decode cX9_valueRows 3 = .ok (.istore_n 2, 1) := by decide +kernel
theorem dX9_valueRows_4 : decode cX9_valueRows 4 = .ok (.iload_n 2, 1) := by decide +kernel
theorem dX9_valueRows_5 : decode cX9_valueRows 5 = .ok (.aload_n 0, 1) := by decide +kernel
theorem dX9_valueRows_6 : decode cX9_valueRows 6 = .ok (.getfield 49, 3) := by decide +kernel
theorem dX9_valueRows_9 : decode cX9_valueRows 9 = .ok (.if_icmp .ge 42, 3) := by decide +kernel
theorem dX9_valueRows_12 : decode cX9_valueRows 12 = .ok (.iconst 0, 1) := by decide +kernel
theorem dX9_valueRows_13 : decode cX9_valueRows 13 = .ok (.istore_n 3, 1) := by decide +kernel
theorem dX9_valueRows_14 : decode cX9_valueRows 14 = .ok (.iload_n 3, 1) := by decide +kernel
theorem dX9_valueRows_15 : decode cX9_valueRows 15 = .ok (.bipush 125, 2) := by decide +kernel
theorem dX9_valueRows_17 : decode cX9_valueRows 17 = .ok (.if_icmp .ge 28, 3) := by decide +kernel
theorem dX9_valueRows_20 : decode cX9_valueRows 20 = .ok (.iload_n 1, 1) := by decide +kernel
theorem dX9_valueRows_21 : decode cX9_valueRows 21 = .ok (.aload_n 0, 1) := by decide +kernel
theorem dX9_valueRows_22 : decode cX9_valueRows 22 = .ok (.iconst 0, 1) := by decide +kernel
theorem dX9_valueRows_23 : decode cX9_valueRows 23 = .ok (.iload_n 2, 1) := by decide +kernel
theorem dX9_valueRows_24 : decode cX9_valueRows 24 = .ok (.iload_n 3, 1) := by decide +kernel
theorem dX9_valueRows_25 : decode cX9_valueRows 25 = .ok (.invokevirtual 76, 3) := by decide +kernel
theorem dX9_valueRows_28 : decode cX9_valueRows 28 = .ok (.iconst 4, 1) := by decide +kernel
theorem dX9_valueRows_29 : decode cX9_valueRows 29 = .ok (.if_icmp .ne 7, 3) := by decide +kernel
theorem dX9_valueRows_32 : decode cX9_valueRows 32 = .ok (.iconst 0, 1) := by decide +kernel
theorem dX9_valueRows_33 : decode cX9_valueRows 33 = .ok (.goto 4, 3) := by decide +kernel
theorem dX9_valueRows_36 : decode cX9_valueRows 36 = .ok (.iconst 1, 1) := by decide +kernel
theorem dX9_valueRows_37 : decode cX9_valueRows 37 = .ok (.iadd, 1) := by decide +kernel
theorem dX9_valueRows_38 : decode cX9_valueRows 38 = .ok (.istore_n 1, 1) := by decide +kernel
theorem dX9_valueRows_39 : decode cX9_valueRows 39 = .ok (.iinc 3 1, 3) := by decide +kernel
theorem dX9_valueRows_42 : decode cX9_valueRows 42 = .ok (.goto (-28), 3) := by decide +kernel
theorem dX9_valueRows_45 : decode cX9_valueRows 45 = .ok (.iinc 2 1, 3) := by decide +kernel
theorem dX9_valueRows_48 : decode cX9_valueRows 48 = .ok (.goto (-44), 3) := by decide +kernel
theorem dX9_valueRows_51 : decode cX9_valueRows 51 = .ok (.iload_n 1, 1) := by decide +kernel
theorem dX9_valueRows_52 : decode cX9_valueRows 52 = .ok (.ireturn, 1) := by decide +kernel
set_option maxRecDepth 20000 in
theorem ggX9_day_X9_in : GoodIn wsX9_day wsX9_in := goodIn_r _ [10] (by decide +kernel) (by decide +kernel)
set_option maxRecDepth 20000 in
theorem gX9_day_X9_in : GoodIn wsX9_day (va_wsS RX9 61 yX9_in wsX9_in) := goodIn_app (goodIn_of _ (by decide +kernel)) ggX9_day_X9_in
set_option maxRecDepth 20000 in
theorem ggX9_day_X9_lays : GoodIn wsX9_day wsX9_lays := goodIn_r _ [14, 6, 15, 16, 17, 18, 135, 136, 137, 138, 139, 140, 141, 142, 143, 144, 145, 146, 147, 148, 149, 150, 151, 152, 153, 154] (by decide +kernel) (by decide +kernel)
set_option maxRecDepth 20000 in
theorem gX9_day_X9_lays : GoodIn wsX9_day (wsV RX9 135 RX9 yX9_lays wsX9_lays) := goodIn_app (goodIn_of _ (by decide +kernel)) ggX9_day_X9_lays
set_option maxRecDepth 20000 in
theorem ggX9_day_X9_turns : GoodIn wsX9_day wsX9_turns := goodIn_r _ [22, 6, 17, 18, 23, 24, 9, 25, 26, 27, 28, 29, 30, 31, 32, 15, 33, 34, 35, 36, 7, 8, 10, 135, 136, 137, 138, 139, 140, 141, 142, 143, 144, 145, 146, 147, 148, 149, 150, 151, 152, 153, 154] (by decide +kernel) (by decide +kernel)
set_option maxRecDepth 20000 in
theorem gX9_day_X9_turns : GoodIn wsX9_day (wsV RX9 190 RX9 yX9_turns wsX9_turns) := goodIn_app (goodIn_of _ (by decide +kernel)) ggX9_day_X9_turns
set_option maxRecDepth 20000 in
theorem ggX9_day_X9_setAll : GoodIn wsX9_day wsX9_setAll := goodIn_r _ [40, 5, 41, 42, 43, 9, 44, 45, 46, 47, 48, 49, 50, 51, 52, 53, 6, 54, 55, 56, 57, 58, 59, 60, 61, 15, 7, 8, 10, 62, 63, 64, 65, 16, 66, 67, 68, 69, 70, 71, 72, 17, 18, 73, 33, 34, 35, 36, 74, 75, 76, 77, 78, 79, 80, 81, 82, 83, 84, 85, 86, 87, 88, 89, 90, 91, 92, 93, 94, 95, 96, 135, 136, 137, 138, 139, 140, 141, 142, 143, 144, 145, 146, 147, 148, 149, 150, 151, 152, 153, 154] (by decide +kernel) (by decide +kernel)
set_option maxRecDepth 20000 in
theorem gX9_day_X9_setAll : GoodIn wsX9_day (wsV RX9 151 RX9 yX9_setAll wsX9_setAll) := goodIn_app (goodIn_of _ (by decide +kernel)) ggX9_day_X9_setAll
set_option maxRecDepth 20000 in
theorem ggX9_day_X9_strictSet : GoodIn wsX9_day wsX9_strictSet := goodIn_r _ [100, 15, 101, 102, 103, 9, 104, 105, 106, 107, 108, 109, 110, 111, 112, 81, 82, 83, 84, 85, 86, 87, 45, 113, 114, 115, 116, 117, 118, 119, 120, 58, 59, 60, 61, 7, 8, 10, 121, 122, 123, 135, 136, 137, 138, 139, 140, 141, 142, 143, 144, 145, 146, 147, 148, 149, 150, 151, 152, 153, 154] (by decide +kernel) (by decide +kernel)
set_option maxRecDepth 20000 in
theorem gX9_day_X9_strictSet : GoodIn wsX9_day (wsV RX9 175 RX9 yX9_strictSet wsX9_strictSet) := goodIn_app (goodIn_of _ (by decide +kernel)) ggX9_day_X9_strictSet
set_option maxRecDepth 20000 in
theorem ggX9_day_X9_bits : GoodIn wsX9_day wsX9_bits := goodIn_r _ [126] (by decide +kernel) (by decide +kernel)
set_option maxRecDepth 20000 in
theorem gX9_day_X9_bits : GoodIn wsX9_day (va_wsS RX9 178 yX9_bits wsX9_bits) := goodIn_app (goodIn_of _ (by decide +kernel)) ggX9_day_X9_bits
set_option maxRecDepth 20000 in
theorem ggX9_day_X9_valueRows : GoodIn wsX9_day wsX9_valueRows := goodIn_r _ [130, 6, 84, 85, 86, 9, 87, 45, 135, 136, 137, 138, 139, 140, 141, 142, 143, 144, 145, 146, 147, 148, 149, 150, 151, 152, 153, 154] (by decide +kernel) (by decide +kernel)
set_option maxRecDepth 20000 in
theorem gX9_day_X9_valueRows : GoodIn wsX9_day (wsV RX9 193 RX9 yX9_valueRows wsX9_valueRows) := goodIn_app (goodIn_of _ (by decide +kernel)) ggX9_day_X9_valueRows
set_option maxRecDepth 20000 in
theorem ggX9_day_X9_takes : GoodIn wsX9_day wsX9_takes := goodIn_r _ [134, 6, 15, 16, 17, 18, 5, 135, 136, 137, 138, 139, 140, 141, 142, 143, 144, 145, 146, 147, 148, 149, 150, 151, 152, 153, 154] (by decide +kernel) (by decide +kernel)
set_option maxRecDepth 20000 in
theorem gX9_day_X9_takes : GoodIn wsX9_day (wsV RX9 145 RX9 yX9_takes wsX9_takes) := goodIn_app (goodIn_of _ (by decide +kernel)) ggX9_day_X9_takes
theorem dX9_day_0 : decode cX9_day 0 = .ok (.iload_n 1, 1) := by decide +kernel
theorem dX9_day_1 : decode cX9_day 1 = .ok (.iconst 0, 1) := by decide +kernel
theorem dX9_day_2 : decode cX9_day 2 = .ok (.sipush 9999, 3) := by decide +kernel
theorem dX9_day_5 : decode cX9_day 5 = .ok (.invokestatic 61, 3) := by decide +kernel
theorem dX9_day_8 : decode cX9_day 8 = .ok (.ifCond .eq 22, 3) := by decide +kernel
theorem dX9_day_11 : decode cX9_day 11 = .ok (.iload_n 2, 1) := by decide +kernel
theorem dX9_day_12 : decode cX9_day 12 = .ok (.iconst 1, 1) := by decide +kernel
theorem dX9_day_13 : decode cX9_day 13 = .ok (.bipush 20, 2) := by decide +kernel
theorem dX9_day_15 : decode cX9_day 15 = .ok (.invokestatic 61, 3) := by decide +kernel
theorem dX9_day_18 : decode cX9_day 18 = .ok (.ifCond .eq 12, 3) := by decide +kernel
theorem dX9_day_21 : decode cX9_day 21 = .ok (.iload_n 3, 1) := by decide +kernel
theorem dX9_day_22 : decode cX9_day 22 = .ok (.iconst 0, 1) := by decide +kernel
theorem dX9_day_23 : decode cX9_day 23 = .ok (.iconst 2, 1) := by decide +kernel
theorem dX9_day_24 : decode cX9_day 24 = .ok (.invokestatic 61, 3) := by decide +kernel
theorem dX9_day_27 : decode cX9_day 27 = .ok (.ifCond .ne 5, 3) := by decide +kernel
theorem dX9_day_30 : decode cX9_day 30 = .ok (.iconst (-1), 1) := by decide +kernel
theorem dX9_day_31 : decode cX9_day 31 = .ok (.ireturn, 1) := by decide +kernel
theorem dX9_day_32 : decode cX9_day 32 = .ok (.aload_n 0, 1) := by decide +kernel
theorem dX9_day_33 : decode cX9_day 33 = .ok (.aload_n 0, 1) := by decide +kernel
theorem dX9_day_34 : decode cX9_day 34 = .ok (.getfield 40, 3) := by decide +kernel
theorem dX9_day_37 : decode cX9_day 37 = .ok (.iconst 0, 1) := by decide +kernel
theorem dX9_day_38 : decode cX9_day 38 = .ok (.invokevirtual 135, 3) := by decide +kernel
theorem dX9_day_41 : decode cX9_day 41 = .ok (.iconst 0, 1) := by decide +kernel
theorem dX9_day_42 : decode cX9_day 42 = .ok (.istore 4, 2) := by decide +kernel
theorem dX9_day_44 : decode cX9_day 44 = .ok (.iload 4, 2) := by decide +kernel
theorem dX9_day_46 : decode cX9_day 46 = .ok (.iload_n 2, 1) := by decide +kernel
theorem dX9_day_47 : decode cX9_day 47 = .ok (.if_icmp .ge 41, 3) := by decide +kernel
theorem dX9_day_50 : decode cX9_day 50 = .ok (.ldc2_w 184, 3) := by decide +kernel
theorem dX9_day_53 : decode cX9_day 53 = .ok (.iload_n 1, 1) := by decide +kernel
theorem dX9_day_54 : decode cX9_day 54 = .ok (.i2l, 1) := by decide +kernel
theorem dX9_day_55 : decode cX9_day 55 = .ok (.lmul, 1) := by decide +kernel
theorem dX9_day_56 : decode cX9_day 56 = .ok (.ldc2_w 186, 3) := by decide +kernel
theorem dX9_day_59 : decode cX9_day 59 = .ok (.iload 4, 2) := by decide +kernel
theorem dX9_day_61 : decode cX9_day 61 = .ok (.i2l, 1) := by decide +kernel
theorem dX9_day_62 : decode cX9_day 62 = .ok (.lmul, 1) := by decide +kernel
theorem dX9_day_63 : decode cX9_day 63 = .ok (.ladd, 1) := by decide +kernel
theorem dX9_day_64 : decode cX9_day 64 = .ok (.lconst 1, 1) := by decide +kernel
theorem dX9_day_65 : decode cX9_day 65 = .ok (.ladd, 1) := by decide +kernel
theorem dX9_day_66 : decode cX9_day 66 = .ok (.lstore 5, 2) := by decide +kernel
theorem dX9_day_68 : decode cX9_day 68 = .ok (.aload_n 0, 1) := by decide +kernel
theorem dX9_day_69 : decode cX9_day 69 = .ok (.lload 5, 2) := by decide +kernel
theorem dX9_day_71 : decode cX9_day 71 = .ok (.lload 5, 2) := by decide +kernel
theorem dX9_day_73 : decode cX9_day 73 = .ok (.lmul, 1) := by decide +kernel
theorem dX9_day_74 : decode cX9_day 74 = .ok (.ldc2_w 188, 3) := by decide +kernel
theorem dX9_day_77 : decode cX9_day 77 = .ok (.lrem, 1) := by decide +kernel
theorem dX9_day_78 : decode cX9_day 78 = .ok (.l2i, 1) := by decide +kernel
theorem dX9_day_79 : decode cX9_day 79 = .ok (.invokevirtual 190, 3) := by decide +kernel
theorem dX9_day_82 : decode cX9_day 82 = .ok (.iinc 4 1, 3) := by decide +kernel
theorem dX9_day_85 : decode cX9_day 85 = .ok (.goto (-41), 3) := by decide +kernel
theorem dX9_day_88 : decode cX9_day 88 = .ok (.aload_n 0, 1) := by decide +kernel
theorem dX9_day_89 : decode cX9_day 89 = .ok (.iconst 0, 1) := by decide +kernel
theorem dX9_day_90 : decode cX9_day 90 = .ok (.putfield 121, 3) := by decide +kernel
theorem dX9_day_93 : decode cX9_day 93 = .ok (.aload_n 0, 1) := by decide +kernel
theorem dX9_day_94 : decode cX9_day 94 = .ok (.invokevirtual 151, 3) := by decide +kernel
theorem dX9_day_97 : decode cX9_day 97 = .ok (.iconst 0, 1) := by decide +kernel
theorem dX9_day_98 : decode cX9_day 98 = .ok (.istore 4, 2) := by decide +kernel
theorem dX9_day_100 : decode cX9_day 100 = .ok (.iconst 0, 1) := by decide +kernel
theorem dX9_day_101 : decode cX9_day 101 = .ok (.istore 5, 2) := by decide +kernel
theorem dX9_day_103 : decode cX9_day 103 = .ok (.iload 5, 2) := by decide +kernel
theorem dX9_day_105 : decode cX9_day 105 = .ok (.aload_n 0, 1) := by decide +kernel
theorem dX9_day_106 : decode cX9_day 106 = .ok (.getfield 49, 3) := by decide +kernel
theorem dX9_day_109 : decode cX9_day 109 = .ok (.if_icmp .ge 31, 3) := by decide +kernel
theorem dX9_day_112 : decode cX9_day 112 = .ok (.iload_n 3, 1) := by decide +kernel
theorem dX9_day_113 : decode cX9_day 113 = .ok (.iconst 2, 1) := by decide +kernel
theorem dX9_day_114 : decode cX9_day 114 = .ok (.if_icmp .ge 26, 3) := by decide +kernel
theorem dX9_day_117 : decode cX9_day 117 = .ok (.iload 4, 2) := by decide +kernel
theorem dX9_day_119 : decode cX9_day 119 = .ok (.aload_n 0, 1) := by decide +kernel
theorem dX9_day_120 : decode cX9_day 120 = .ok (.iload 5, 2) := by decide +kernel
theorem dX9_day_122 : decode cX9_day 122 = .ok (.iload_n 3, 1) := by decide +kernel
theorem dX9_day_123 : decode cX9_day 123 = .ok (.iconst 1, 1) := by decide +kernel
theorem dX9_day_124 : decode cX9_day 124 = .ok (.iadd, 1) := by decide +kernel
theorem dX9_day_125 : decode cX9_day 125 = .ok (.invokevirtual 175, 3) := by decide +kernel
theorem dX9_day_128 : decode cX9_day 128 = .ok (.invokestatic 178, 3) := by decide +kernel
theorem dX9_day_131 : decode cX9_day 131 = .ok (.iadd, 1) := by decide +kernel
theorem dX9_day_132 : decode cX9_day 132 = .ok (.istore 4, 2) := by decide +kernel
theorem dX9_day_134 : decode cX9_day 134 = .ok (.iinc 5 1, 3) := by decide +kernel
theorem dX9_day_137 : decode cX9_day 137 = .ok (.goto (-34), 3) := by decide +kernel
theorem dX9_day_140 : decode cX9_day 140 = .ok (.iload 4, 2) := by decide +kernel
theorem dX9_day_142 : decode cX9_day 142 = .ok (.iload_n 3, 1) := by decide +kernel
theorem dX9_day_143 : decode cX9_day 143 = .ok (.iconst 2, 1) := by decide +kernel
theorem dX9_day_144 : decode cX9_day 144 = .ok (.if_icmp .ne 10, 3) := by decide +kernel
theorem dX9_day_147 : decode cX9_day 147 = .ok (.aload_n 0, 1) := by decide +kernel
theorem dX9_day_148 : decode cX9_day 148 = .ok (.invokevirtual 193, 3) := by decide +kernel
theorem dX9_day_151 : decode cX9_day 151 = .ok (.goto 4, 3) := by decide +kernel
theorem dX9_day_154 : decode cX9_day 154 = .ok (.iconst 0, 1) := by decide +kernel
theorem dX9_day_155 : decode cX9_day 155 = .ok (.iadd, 1) := by decide +kernel
theorem dX9_day_156 : decode cX9_day 156 = .ok (.istore 4, 2) := by decide +kernel
theorem dX9_day_158 : decode cX9_day 158 = .ok (.aload_n 0, 1) := by decide +kernel
theorem dX9_day_159 : decode cX9_day 159 = .ok (.aload_n 0, 1) := by decide +kernel
theorem dX9_day_160 : decode cX9_day 160 = .ok (.getfield 40, 3) := by decide +kernel
theorem dX9_day_163 : decode cX9_day 163 = .ok (.iconst 0, 1) := by decide +kernel
theorem dX9_day_164 : decode cX9_day 164 = .ok (.invokevirtual 145, 3) := by decide +kernel
theorem dX9_day_167 : decode cX9_day 167 = .ok (.iload 4, 2) := by decide +kernel
theorem dX9_day_169 : decode cX9_day 169 = .ok (.ireturn, 1) := by decide +kernel
theorem dX9_sumOf_0 : decode cX9_sumOf 0 = .ok (.iconst 0, 1) := by decide +kernel
theorem dX9_sumOf_1 : decode cX9_sumOf 1 = .ok (.istore_n 2, 1) := by decide +kernel
theorem dX9_sumOf_2 : decode cX9_sumOf 2 = .ok (.iconst 0, 1) := by decide +kernel
theorem dX9_sumOf_3 : decode cX9_sumOf 3 = .ok (.istore_n 3, 1) := by decide +kernel
theorem dX9_sumOf_4 : decode cX9_sumOf 4 = .ok (.iload_n 3, 1) := by decide +kernel
theorem dX9_sumOf_5 : decode cX9_sumOf 5 = .ok (.aload_n 0, 1) := by decide +kernel
theorem dX9_sumOf_6 : decode cX9_sumOf 6 = .ok (.getfield 49, 3) := by decide +kernel
theorem dX9_sumOf_9 : decode cX9_sumOf 9 = .ok (.if_icmp .ge 15, 3) := by decide +kernel
theorem dX9_sumOf_12 : decode cX9_sumOf 12 = .ok (.iload_n 2, 1) := by decide +kernel
theorem dX9_sumOf_13 : decode cX9_sumOf 13 = .ok (.aload_n 1, 1) := by decide +kernel
theorem dX9_sumOf_14 : decode cX9_sumOf 14 = .ok (.iload_n 3, 1) := by decide +kernel
theorem dX9_sumOf_15 : decode cX9_sumOf 15 = .ok (.iaload, 1) := by decide +kernel
theorem dX9_sumOf_16 : decode cX9_sumOf 16 = .ok (.iadd, 1) := by decide +kernel
theorem dX9_sumOf_17 : decode cX9_sumOf 17 = .ok (.istore_n 2, 1) := by decide +kernel
theorem dX9_sumOf_18 : decode cX9_sumOf 18 = .ok (.iinc 3 1, 3) := by decide +kernel
theorem dX9_sumOf_21 : decode cX9_sumOf 21 = .ok (.goto (-17), 3) := by decide +kernel
theorem dX9_sumOf_24 : decode cX9_sumOf 24 = .ok (.iload_n 2, 1) := by decide +kernel
theorem dX9_sumOf_25 : decode cX9_sumOf 25 = .ok (.ireturn, 1) := by decide +kernel
set_option maxRecDepth 20000 in
theorem ggX9_count_X9_in : GoodIn wsX9_count wsX9_in := goodIn_r _ [10] (by decide +kernel) (by decide +kernel)
set_option maxRecDepth 20000 in
theorem gX9_count_X9_in : GoodIn wsX9_count (va_wsS RX9 61 yX9_in wsX9_in) := goodIn_app (goodIn_of _ (by decide +kernel)) ggX9_count_X9_in
set_option maxRecDepth 20000 in
theorem ggX9_count_X9_sumOf : GoodIn wsX9_count wsX9_sumOf := goodIn_r _ [14, 1, 15, 16, 17, 18, 19, 20, 21, 22, 23, 24, 25, 26, 27, 28, 29, 30, 31, 32, 33, 34] (by decide +kernel) (by decide +kernel)
set_option maxRecDepth 20000 in
theorem gX9_count_X9_sumOf : GoodIn wsX9_count (wsV RX9 197 RX9 yX9_sumOf wsX9_sumOf) := goodIn_app (goodIn_of _ (by decide +kernel)) ggX9_count_X9_sumOf
theorem dX9_count_0 : decode cX9_count 0 = .ok (.iload_n 1, 1) := by decide +kernel
theorem dX9_count_1 : decode cX9_count 1 = .ok (.iconst 0, 1) := by decide +kernel
theorem dX9_count_2 : decode cX9_count 2 = .ok (.iconst 5, 1) := by decide +kernel
theorem dX9_count_3 : decode cX9_count 3 = .ok (.invokestatic 61, 3) := by decide +kernel
theorem dX9_count_6 : decode cX9_count 6 = .ok (.ifCond .ne 5, 3) := by decide +kernel
theorem dX9_count_9 : decode cX9_count 9 = .ok (.iconst (-1), 1) := by decide +kernel
theorem dX9_count_10 : decode cX9_count 10 = .ok (.ireturn, 1) := by decide +kernel
theorem dX9_count_11 : decode cX9_count 11 = .ok (.iload_n 1, 1) := by decide +kernel
theorem dX9_count_12 : decode cX9_count 12 = .ok (.tableswitch 69 0 4 #[36, 41, 50, 59, 64], 36) := by decide +kernel
theorem dX9_count_48 : decode cX9_count 48 = .ok (.aload_n 0, 1) := by decide +kernel
theorem dX9_count_49 : decode cX9_count 49 = .ok (.getfield 49, 3) := by decide +kernel
theorem dX9_count_52 : decode cX9_count 52 = .ok (.ireturn, 1) := by decide +kernel
theorem dX9_count_53 : decode cX9_count 53 = .ok (.aload_n 0, 1) := by decide +kernel
theorem dX9_count_54 : decode cX9_count 54 = .ok (.aload_n 0, 1) := by decide +kernel
theorem dX9_count_55 : decode cX9_count 55 = .ok (.getfield 16, 3) := by decide +kernel
theorem dX9_count_58 : decode cX9_count 58 = .ok (.invokevirtual 197, 3) := by decide +kernel
theorem dX9_count_61 : decode cX9_count 61 = .ok (.ireturn, 1) := by decide +kernel
theorem dX9_count_62 : decode cX9_count 62 = .ok (.aload_n 0, 1) := by decide +kernel
theorem dX9_count_63 : decode cX9_count 63 = .ok (.aload_n 0, 1) := by decide +kernel
theorem dX9_count_64 : decode cX9_count 64 = .ok (.getfield 7, 3) := by decide +kernel
theorem dX9_count_67 : decode cX9_count 67 = .ok (.invokevirtual 197, 3) := by decide +kernel
theorem dX9_count_70 : decode cX9_count 70 = .ok (.ireturn, 1) := by decide +kernel
theorem dX9_count_71 : decode cX9_count 71 = .ok (.aload_n 0, 1) := by decide +kernel
theorem dX9_count_72 : decode cX9_count 72 = .ok (.getfield 132, 3) := by decide +kernel
theorem dX9_count_75 : decode cX9_count 75 = .ok (.ireturn, 1) := by decide +kernel
theorem dX9_count_76 : decode cX9_count 76 = .ok (.aload_n 0, 1) := by decide +kernel
theorem dX9_count_77 : decode cX9_count 77 = .ok (.getfield 148, 3) := by decide +kernel
theorem dX9_count_80 : decode cX9_count 80 = .ok (.ireturn, 1) := by decide +kernel
theorem dX9_count_81 : decode cX9_count 81 = .ok (.aload_n 0, 1) := by decide +kernel
theorem dX9_count_82 : decode cX9_count 82 = .ok (.getfield 201, 3) := by decide +kernel
theorem dX9_count_85 : decode cX9_count 85 = .ok (.ireturn, 1) := by decide +kernel
set_option maxRecDepth 20000 in
theorem ggX9_write_X9_in : GoodIn wsX9_write wsX9_in := goodIn_r _ [6] (by decide +kernel) (by decide +kernel)
set_option maxRecDepth 20000 in
theorem gX9_write_X9_in : GoodIn wsX9_write (va_wsS RX9 61 yX9_in wsX9_in) := goodIn_app (goodIn_of _ (by decide +kernel)) ggX9_write_X9_in
theorem dX9_write_0 : decode cX9_write 0 = .ok (.iload_n 1, 1) := by decide +kernel
theorem dX9_write_1 : decode cX9_write 1 = .ok (.bipush 32, 2) := by decide +kernel
theorem dX9_write_3 : decode cX9_write 3 = .ok (.bipush 126, 2) := by decide +kernel
theorem dX9_write_5 : decode cX9_write 5 = .ok (.invokestatic 61, 3) := by decide +kernel
theorem dX9_write_8 : decode cX9_write 8 = .ok (.ifCond .ne 5, 3) := by decide +kernel
theorem dX9_write_11 : decode cX9_write 11 = .ok (.iconst (-1), 1) := by decide +kernel
theorem dX9_write_12 : decode cX9_write 12 = .ok (.ireturn, 1) := by decide +kernel
theorem dX9_write_13 : decode cX9_write 13 = .ok (.aload_n 0, 1) := by decide +kernel
theorem dX9_write_14 : decode cX9_write 14 = .ok (.getfield 201, 3) := by decide +kernel
theorem dX9_write_17 : decode cX9_write 17 = .ok (.sipush 200, 3) := by decide +kernel
theorem dX9_write_20 : decode cX9_write 20 = .ok (.if_icmp .ne 6, 3) := by decide +kernel
theorem dX9_write_23 : decode cX9_write 23 = .ok (.bipush (-3), 2) := by decide +kernel
theorem dX9_write_25 : decode cX9_write 25 = .ok (.ireturn, 1) := by decide +kernel
theorem dX9_write_26 : decode cX9_write 26 = .ok (.aload_n 0, 1) := by decide +kernel
theorem dX9_write_27 : decode cX9_write 27 = .ok (.getfield 43, 3) := by decide +kernel
theorem dX9_write_30 : decode cX9_write 30 = .ok (.aload_n 0, 1) := by decide +kernel
theorem dX9_write_31 : decode cX9_write 31 = .ok (.getfield 201, 3) := by decide +kernel
theorem dX9_write_34 : decode cX9_write 34 = .ok (.iload_n 1, 1) := by decide +kernel
theorem dX9_write_35 : decode cX9_write 35 = .ok (.iastore, 1) := by decide +kernel
theorem dX9_write_36 : decode cX9_write 36 = .ok (.aload_n 0, 1) := by decide +kernel
theorem dX9_write_37 : decode cX9_write 37 = .ok (.dup, 1) := by decide +kernel
theorem dX9_write_38 : decode cX9_write 38 = .ok (.getfield 201, 3) := by decide +kernel
theorem dX9_write_41 : decode cX9_write 41 = .ok (.iconst 1, 1) := by decide +kernel
theorem dX9_write_42 : decode cX9_write 42 = .ok (.iadd, 1) := by decide +kernel
theorem dX9_write_43 : decode cX9_write 43 = .ok (.putfield 201, 3) := by decide +kernel
theorem dX9_write_46 : decode cX9_write 46 = .ok (.aload_n 0, 1) := by decide +kernel
theorem dX9_write_47 : decode cX9_write 47 = .ok (.getfield 201, 3) := by decide +kernel
theorem dX9_write_50 : decode cX9_write 50 = .ok (.ireturn, 1) := by decide +kernel
theorem dX9_wipe_0 : decode cX9_wipe 0 = .ok (.aload_n 0, 1) := by decide +kernel
theorem dX9_wipe_1 : decode cX9_wipe 1 = .ok (.getfield 201, 3) := by decide +kernel
theorem dX9_wipe_4 : decode cX9_wipe 4 = .ok (.istore_n 1, 1) := by decide +kernel
theorem dX9_wipe_5 : decode cX9_wipe 5 = .ok (.aload_n 0, 1) := by decide +kernel
theorem dX9_wipe_6 : decode cX9_wipe 6 = .ok (.iconst 0, 1) := by decide +kernel
theorem dX9_wipe_7 : decode cX9_wipe 7 = .ok (.putfield 201, 3) := by decide +kernel
theorem dX9_wipe_10 : decode cX9_wipe 10 = .ok (.iload_n 1, 1) := by decide +kernel
theorem dX9_wipe_11 : decode cX9_wipe 11 = .ok (.ireturn, 1) := by decide +kernel
theorem dX9_here_0 : decode cX9_here 0 = .ok (.aload_n 0, 1) := by decide +kernel
theorem dX9_here_1 : decode cX9_here 1 = .ok (.getfield 204, 3) := by decide +kernel
theorem dX9_here_4 : decode cX9_here 4 = .ok (.aload_n 0, 1) := by decide +kernel
theorem dX9_here_5 : decode cX9_here 5 = .ok (.getfield 201, 3) := by decide +kernel
theorem dX9_here_8 : decode cX9_here 8 = .ok (.if_icmp .ge 15, 3) := by decide +kernel
theorem dX9_here_11 : decode cX9_here 11 = .ok (.aload_n 0, 1) := by decide +kernel
theorem dX9_here_12 : decode cX9_here 12 = .ok (.getfield 43, 3) := by decide +kernel
theorem dX9_here_15 : decode cX9_here 15 = .ok (.aload_n 0, 1) := by decide +kernel
theorem dX9_here_16 : decode cX9_here 16 = .ok (.getfield 204, 3) := by decide +kernel
theorem dX9_here_19 : decode cX9_here 19 = .ok (.iaload, 1) := by decide +kernel
theorem dX9_here_20 : decode cX9_here 20 = .ok (.goto 4, 3) := by decide +kernel
theorem dX9_here_23 : decode cX9_here 23 = .ok (.iconst 0, 1) := by decide +kernel
theorem dX9_here_24 : decode cX9_here 24 = .ok (.ireturn, 1) := by decide +kernel
set_option maxRecDepth 20000 in
theorem ggX9_reads_X9_here : GoodIn wsX9_reads wsX9_here := goodIn_r _ [6, 1, 7, 8, 9, 10, 11, 12, 13, 14, 15, 16, 17, 18, 19, 20, 21, 22, 23, 24, 25, 26, 27, 28] (by decide +kernel) (by decide +kernel)
set_option maxRecDepth 20000 in
theorem gX9_reads_X9_here : GoodIn wsX9_reads (wsV RX9 207 RX9 yX9_here wsX9_here) := goodIn_app (goodIn_of _ (by decide +kernel)) ggX9_reads_X9_here
theorem dX9_reads_0 : decode cX9_reads 0 = .ok (.aload_n 0, 1) := by decide +kernel
theorem dX9_reads_1 : decode cX9_reads 1 = .ok (.invokevirtual 207, 3) := by decide +kernel
theorem dX9_reads_4 : decode cX9_reads 4 = .ok (.iload_n 1, 1) := by decide +kernel
theorem dX9_reads_5 : decode cX9_reads 5 = .ok (.if_icmp .eq 5, 3) := by decide +kernel
theorem dX9_reads_8 : decode cX9_reads 8 = .ok (.iconst 0, 1) := by decide +kernel
theorem dX9_reads_9 : decode cX9_reads 9 = .ok (.ireturn, 1) := by decide +kernel
theorem dX9_reads_10 : decode cX9_reads 10 = .ok (.aload_n 0, 1) := by decide +kernel
theorem dX9_reads_11 : decode cX9_reads 11 = .ok (.dup, 1) := by decide +kernel
theorem dX9_reads_12 : decode cX9_reads 12 = .ok (.getfield 204, 3) := by decide +kernel
theorem dX9_reads_15 : decode cX9_reads 15 = .ok (.iconst 1, 1) := by decide +kernel
theorem dX9_reads_16 : decode cX9_reads 16 = .ok (.iadd, 1) := by decide +kernel
theorem dX9_reads_17 : decode cX9_reads 17 = .ok (.putfield 204, 3) := by decide +kernel
theorem dX9_reads_20 : decode cX9_reads 20 = .ok (.iconst 1, 1) := by decide +kernel
theorem dX9_reads_21 : decode cX9_reads 21 = .ok (.ireturn, 1) := by decide +kernel
set_option maxRecDepth 20000 in
theorem ggX9_readsNumbers_X9_here : GoodIn wsX9_readsNumbers wsX9_here := goodIn_r _ [8, 3, 9, 10, 18, 19, 20, 21, 22, 23, 24, 25, 26, 27, 28, 29, 30, 31, 32, 33, 34, 35, 36, 37] (by decide +kernel) (by decide +kernel)
set_option maxRecDepth 20000 in
theorem gX9_readsNumbers_X9_here : GoodIn wsX9_readsNumbers (wsV RX9 207 RX9 yX9_here wsX9_here) := goodIn_app (goodIn_of _ (by decide +kernel)) ggX9_readsNumbers_X9_here
set_option maxRecDepth 20000 in
theorem ggX9_readsNumbers_X9_in : GoodIn wsX9_readsNumbers wsX9_in := goodIn_r _ [13] (by decide +kernel) (by decide +kernel)
set_option maxRecDepth 20000 in
theorem gX9_readsNumbers_X9_in : GoodIn wsX9_readsNumbers (va_wsS RX9 61 yX9_in wsX9_in) := goodIn_app (goodIn_of _ (by decide +kernel)) ggX9_readsNumbers_X9_in
set_option maxRecDepth 20000 in
theorem ggX9_readsNumbers_X9_reads : GoodIn wsX9_readsNumbers wsX9_reads := goodIn_r _ [17, 3, 4, 5, 6, 7, 8, 9, 10, 18, 19, 20, 21, 22, 23, 24, 25, 26, 27, 28, 29, 30, 31, 32, 33, 34, 35, 36, 37] (by decide +kernel) (by decide +kernel)
set_option maxRecDepth 20000 in
theorem gX9_readsNumbers_X9_reads : GoodIn wsX9_readsNumbers (wsV RX9 210 RX9 yX9_reads wsX9_reads) := goodIn_app (goodIn_of _ (by decide +kernel)) ggX9_readsNumbers_X9_reads
theorem dX9_readsNumbers_0 : decode cX9_readsNumbers 0 = .ok (.aload_n 0, 1) := by decide +kernel
theorem dX9_readsNumbers_1 : decode cX9_readsNumbers 1 = .ok (.invokevirtual 207, 3) := by decide +kernel
theorem dX9_readsNumbers_4 : decode cX9_readsNumbers 4 = .ok (.bipush 48, 2) := by decide +kernel
theorem dX9_readsNumbers_6 : decode cX9_readsNumbers 6 = .ok (.bipush 51, 2) := by decide +kernel
theorem dX9_readsNumbers_8 : decode cX9_readsNumbers 8 = .ok (.invokestatic 61, 3) := by decide +kernel
theorem dX9_readsNumbers_11 : decode cX9_readsNumbers 11 = .ok (.ifCond .eq 50, 3) := by decide +kernel
theorem dX9_readsNumbers_14 : decode cX9_readsNumbers 14 = .ok (.aload_n 0, 1) := by decide +kernel
theorem dX9_readsNumbers_15 : decode cX9_readsNumbers 15 = .ok (.getfield 49, 3) := by decide +kernel
theorem dX9_readsNumbers_18 : decode cX9_readsNumbers 18 = .ok (.iconst 4, 1) := by decide +kernel
theorem dX9_readsNumbers_19 : decode cX9_readsNumbers 19 = .ok (.if_icmp .ge 42, 3) := by decide +kernel
theorem dX9_readsNumbers_22 : decode cX9_readsNumbers 22 = .ok (.aload_n 0, 1) := by decide +kernel
theorem dX9_readsNumbers_23 : decode cX9_readsNumbers 23 = .ok (.getfield 7, 3) := by decide +kernel
theorem dX9_readsNumbers_26 : decode cX9_readsNumbers 26 = .ok (.aload_n 0, 1) := by decide +kernel
theorem dX9_readsNumbers_27 : decode cX9_readsNumbers 27 = .ok (.getfield 49, 3) := by decide +kernel
theorem dX9_readsNumbers_30 : decode cX9_readsNumbers 30 = .ok (.aload_n 0, 1) := by decide +kernel
theorem dX9_readsNumbers_31 : decode cX9_readsNumbers 31 = .ok (.invokevirtual 207, 3) := by decide +kernel
theorem dX9_readsNumbers_34 : decode cX9_readsNumbers 34 = .ok (.bipush 48, 2) := by decide +kernel
theorem dX9_readsNumbers_36 : decode cX9_readsNumbers 36 = .ok (.isub, 1) := by decide +kernel
theorem dX9_readsNumbers_37 : decode cX9_readsNumbers 37 = .ok (.iastore, 1) := by decide +kernel
theorem dX9_readsNumbers_38 : decode cX9_readsNumbers 38 = .ok (.aload_n 0, 1) := by decide +kernel
theorem dX9_readsNumbers_39 : decode cX9_readsNumbers 39 = .ok (.dup, 1) := by decide +kernel
theorem dX9_readsNumbers_40 : decode cX9_readsNumbers 40 = .ok (.getfield 49, 3) := by decide +kernel
theorem dX9_readsNumbers_43 : decode cX9_readsNumbers 43 = .ok (.iconst 1, 1) := by decide +kernel
theorem dX9_readsNumbers_44 : decode cX9_readsNumbers 44 = .ok (.iadd, 1) := by decide +kernel
theorem dX9_readsNumbers_45 : decode cX9_readsNumbers 45 = .ok (.putfield 49, 3) := by decide +kernel
theorem dX9_readsNumbers_48 : decode cX9_readsNumbers 48 = .ok (.aload_n 0, 1) := by decide +kernel
theorem dX9_readsNumbers_49 : decode cX9_readsNumbers 49 = .ok (.dup, 1) := by decide +kernel
theorem dX9_readsNumbers_50 : decode cX9_readsNumbers 50 = .ok (.getfield 204, 3) := by decide +kernel
theorem dX9_readsNumbers_53 : decode cX9_readsNumbers 53 = .ok (.iconst 1, 1) := by decide +kernel
theorem dX9_readsNumbers_54 : decode cX9_readsNumbers 54 = .ok (.iadd, 1) := by decide +kernel
theorem dX9_readsNumbers_55 : decode cX9_readsNumbers 55 = .ok (.putfield 204, 3) := by decide +kernel
theorem dX9_readsNumbers_58 : decode cX9_readsNumbers 58 = .ok (.goto (-58), 3) := by decide +kernel
theorem dX9_readsNumbers_61 : decode cX9_readsNumbers 61 = .ok (.aload_n 0, 1) := by decide +kernel
theorem dX9_readsNumbers_62 : decode cX9_readsNumbers 62 = .ok (.getfield 49, 3) := by decide +kernel
theorem dX9_readsNumbers_65 : decode cX9_readsNumbers 65 = .ok (.ifCond .le 16, 3) := by decide +kernel
theorem dX9_readsNumbers_68 : decode cX9_readsNumbers 68 = .ok (.aload_n 0, 1) := by decide +kernel
theorem dX9_readsNumbers_69 : decode cX9_readsNumbers 69 = .ok (.bipush 59, 2) := by decide +kernel
theorem dX9_readsNumbers_71 : decode cX9_readsNumbers 71 = .ok (.invokevirtual 210, 3) := by decide +kernel
theorem dX9_readsNumbers_74 : decode cX9_readsNumbers 74 = .ok (.ifCond .eq 7, 3) := by decide +kernel
theorem dX9_readsNumbers_77 : decode cX9_readsNumbers 77 = .ok (.iconst 1, 1) := by decide +kernel
theorem dX9_readsNumbers_78 : decode cX9_readsNumbers 78 = .ok (.goto 4, 3) := by decide +kernel
theorem dX9_readsNumbers_81 : decode cX9_readsNumbers 81 = .ok (.iconst 0, 1) := by decide +kernel
theorem dX9_readsNumbers_82 : decode cX9_readsNumbers 82 = .ok (.ireturn, 1) := by decide +kernel
set_option maxRecDepth 20000 in
theorem ggX9_readsBody_X9_here : GoodIn wsX9_readsBody wsX9_here := goodIn_r _ [10, 1, 2, 11, 24, 25, 26, 27, 28, 29, 30, 31, 32, 33, 34, 35, 36, 37, 38, 39, 40, 41, 42, 43] (by decide +kernel) (by decide +kernel)
set_option maxRecDepth 20000 in
theorem gX9_readsBody_X9_here : GoodIn wsX9_readsBody (wsV RX9 207 RX9 yX9_here wsX9_here) := goodIn_app (goodIn_of _ (by decide +kernel)) ggX9_readsBody_X9_here
set_option maxRecDepth 20000 in
theorem ggX9_readsBody_X9_partsOf : GoodIn wsX9_readsBody wsX9_partsOf := goodIn_r _ [15, 16, 3, 17, 18, 9, 19, 24, 25, 26, 27, 28, 29, 30, 31, 32, 33, 34, 35, 36, 37, 38, 39, 40, 41, 42, 43] (by decide +kernel) (by decide +kernel)
set_option maxRecDepth 20000 in
theorem gX9_readsBody_X9_partsOf : GoodIn wsX9_readsBody (wsV RX9 89 RX9 yX9_partsOf wsX9_partsOf) := goodIn_app (goodIn_of _ (by decide +kernel)) ggX9_readsBody_X9_partsOf
set_option maxRecDepth 20000 in
theorem ggX9_readsBody_X9_reads : GoodIn wsX9_readsBody wsX9_reads := goodIn_r _ [23, 1, 6, 7, 8, 9, 10, 2, 11, 24, 25, 26, 27, 28, 29, 30, 31, 32, 33, 34, 35, 36, 37, 38, 39, 40, 41, 42, 43] (by decide +kernel) (by decide +kernel)
set_option maxRecDepth 20000 in
theorem gX9_readsBody_X9_reads : GoodIn wsX9_readsBody (wsV RX9 210 RX9 yX9_reads wsX9_reads) := goodIn_app (goodIn_of _ (by decide +kernel)) ggX9_readsBody_X9_reads
theorem dX9_readsBody_0 : decode cX9_readsBody 0 = .ok (.iconst 1, 1) := by decide +kernel
theorem dX9_readsBody_1 : decode cX9_readsBody 1 = .ok (.istore_n 2, 1) := by decide +kernel
theorem dX9_readsBody_2 : decode cX9_readsBody 2 = .ok (.iconst 0, 1) := by decide +kernel
theorem dX9_readsBody_3 : decode cX9_readsBody 3 = .ok (.istore_n 3, 1) := by decide +kernel
theorem dX9_readsBody_4 : decode cX9_readsBody 4 = .ok (.iload_n 2, 1) := by decide +kernel
theorem dX9_readsBody_5 : decode cX9_readsBody 5 = .ok (.ifCond .le 88, 3) := by decide +kernel
theorem dX9_readsBody_8 : decode cX9_readsBody 8 = .ok (.iload_n 3, 1) := by decide +kernel
theorem dX9_readsBody_9 : decode cX9_readsBody 9 = .ok (.bipush 24, 2) := by decide +kernel
theorem dX9_readsBody_11 : decode cX9_readsBody 11 = .ok (.if_icmp .ge 82, 3) := by decide +kernel
theorem dX9_readsBody_14 : decode cX9_readsBody 14 = .ok (.aload_n 0, 1) := by decide +kernel
theorem dX9_readsBody_15 : decode cX9_readsBody 15 = .ok (.getfield 204, 3) := by decide +kernel
theorem dX9_readsBody_18 : decode cX9_readsBody 18 = .ok (.aload_n 0, 1) := by decide +kernel
theorem dX9_readsBody_19 : decode cX9_readsBody 19 = .ok (.getfield 201, 3) := by decide +kernel
theorem dX9_readsBody_22 : decode cX9_readsBody 22 = .ok (.if_icmp .ge 20, 3) := by decide +kernel
theorem dX9_readsBody_25 : decode cX9_readsBody 25 = .ok (.aload_n 0, 1) := by decide +kernel
theorem dX9_readsBody_26 : decode cX9_readsBody 26 = .ok (.aload_n 0, 1) := by decide +kernel
theorem dX9_readsBody_27 : decode cX9_readsBody 27 = .ok (.invokevirtual 207, 3) := by decide +kernel
theorem dX9_readsBody_30 : decode cX9_readsBody 30 = .ok (.aload_n 0, 1) := by decide +kernel
theorem dX9_readsBody_31 : decode cX9_readsBody 31 = .ok (.getfield 7, 3) := by decide +kernel
theorem dX9_readsBody_34 : decode cX9_readsBody 34 = .ok (.iload_n 1, 1) := by decide +kernel
theorem dX9_readsBody_35 : decode cX9_readsBody 35 = .ok (.iaload, 1) := by decide +kernel
theorem dX9_readsBody_36 : decode cX9_readsBody 36 = .ok (.invokevirtual 89, 3) := by decide +kernel
theorem dX9_readsBody_39 : decode cX9_readsBody 39 = .ok (.goto 5, 3) := by decide +kernel
theorem dX9_readsBody_42 : decode cX9_readsBody 42 = .ok (.bipush (-4), 2) := by decide +kernel
theorem dX9_readsBody_44 : decode cX9_readsBody 44 = .ok (.istore 4, 2) := by decide +kernel
theorem dX9_readsBody_46 : decode cX9_readsBody 46 = .ok (.iload 4, 2) := by decide +kernel
theorem dX9_readsBody_48 : decode cX9_readsBody 48 = .ok (.bipush (-4), 2) := by decide +kernel
theorem dX9_readsBody_50 : decode cX9_readsBody 50 = .ok (.if_icmp .ne 5, 3) := by decide +kernel
theorem dX9_readsBody_53 : decode cX9_readsBody 53 = .ok (.iconst 0, 1) := by decide +kernel
theorem dX9_readsBody_54 : decode cX9_readsBody 54 = .ok (.ireturn, 1) := by decide +kernel
theorem dX9_readsBody_55 : decode cX9_readsBody 55 = .ok (.aload_n 0, 1) := by decide +kernel
theorem dX9_readsBody_56 : decode cX9_readsBody 56 = .ok (.getfield 19, 3) := by decide +kernel
theorem dX9_readsBody_59 : decode cX9_readsBody 59 = .ok (.bipush 24, 2) := by decide +kernel
theorem dX9_readsBody_61 : decode cX9_readsBody 61 = .ok (.iload_n 1, 1) := by decide +kernel
theorem dX9_readsBody_62 : decode cX9_readsBody 62 = .ok (.imul, 1) := by decide +kernel
theorem dX9_readsBody_63 : decode cX9_readsBody 63 = .ok (.iload_n 3, 1) := by decide +kernel
theorem dX9_readsBody_64 : decode cX9_readsBody 64 = .ok (.iadd, 1) := by decide +kernel
theorem dX9_readsBody_65 : decode cX9_readsBody 65 = .ok (.aload_n 0, 1) := by decide +kernel
theorem dX9_readsBody_66 : decode cX9_readsBody 66 = .ok (.invokevirtual 207, 3) := by decide +kernel
theorem dX9_readsBody_69 : decode cX9_readsBody 69 = .ok (.iastore, 1) := by decide +kernel
theorem dX9_readsBody_70 : decode cX9_readsBody 70 = .ok (.iinc 3 1, 3) := by decide +kernel
theorem dX9_readsBody_73 : decode cX9_readsBody 73 = .ok (.iload_n 2, 1) := by decide +kernel
theorem dX9_readsBody_74 : decode cX9_readsBody 74 = .ok (.iload 4, 2) := by decide +kernel
theorem dX9_readsBody_76 : decode cX9_readsBody 76 = .ok (.iconst 1, 1) := by decide +kernel
theorem dX9_readsBody_77 : decode cX9_readsBody 77 = .ok (.isub, 1) := by decide +kernel
theorem dX9_readsBody_78 : decode cX9_readsBody 78 = .ok (.iadd, 1) := by decide +kernel
theorem dX9_readsBody_79 : decode cX9_readsBody 79 = .ok (.istore_n 2, 1) := by decide +kernel
theorem dX9_readsBody_80 : decode cX9_readsBody 80 = .ok (.aload_n 0, 1) := by decide +kernel
theorem dX9_readsBody_81 : decode cX9_readsBody 81 = .ok (.dup, 1) := by decide +kernel
theorem dX9_readsBody_82 : decode cX9_readsBody 82 = .ok (.getfield 204, 3) := by decide +kernel
theorem dX9_readsBody_85 : decode cX9_readsBody 85 = .ok (.iconst 1, 1) := by decide +kernel
theorem dX9_readsBody_86 : decode cX9_readsBody 86 = .ok (.iadd, 1) := by decide +kernel
theorem dX9_readsBody_87 : decode cX9_readsBody 87 = .ok (.putfield 204, 3) := by decide +kernel
theorem dX9_readsBody_90 : decode cX9_readsBody 90 = .ok (.goto (-86), 3) := by decide +kernel
theorem dX9_readsBody_93 : decode cX9_readsBody 93 = .ok (.aload_n 0, 1) := by decide +kernel
theorem dX9_readsBody_94 : decode cX9_readsBody 94 = .ok (.getfield 16, 3) := by decide +kernel
theorem dX9_readsBody_97 : decode cX9_readsBody 97 = .ok (.iload_n 1, 1) := by decide +kernel
theorem dX9_readsBody_98 : decode cX9_readsBody 98 = .ok (.iload_n 3, 1) := by decide +kernel
theorem dX9_readsBody_99 : decode cX9_readsBody 99 = .ok (.iastore, 1) := by decide +kernel
theorem dX9_readsBody_100 : decode cX9_readsBody 100 = .ok (.iload_n 2, 1) := by decide +kernel
theorem dX9_readsBody_101 : decode cX9_readsBody 101 = .ok (.ifCond .ne 16, 3) := by decide +kernel
theorem dX9_readsBody_104 : decode cX9_readsBody 104 = .ok (.aload_n 0, 1) := by decide +kernel
theorem dX9_readsBody_105 : decode cX9_readsBody 105 = .ok (.bipush 59, 2) := by decide +kernel
theorem dX9_readsBody_107 : decode cX9_readsBody 107 = .ok (.invokevirtual 210, 3) := by decide +kernel
theorem dX9_readsBody_110 : decode cX9_readsBody 110 = .ok (.ifCond .eq 7, 3) := by decide +kernel
theorem dX9_readsBody_113 : decode cX9_readsBody 113 = .ok (.iconst 1, 1) := by decide +kernel
theorem dX9_readsBody_114 : decode cX9_readsBody 114 = .ok (.goto 4, 3) := by decide +kernel
theorem dX9_readsBody_117 : decode cX9_readsBody 117 = .ok (.iconst 0, 1) := by decide +kernel
theorem dX9_readsBody_118 : decode cX9_readsBody 118 = .ok (.ireturn, 1) := by decide +kernel
set_option maxRecDepth 20000 in
theorem ggX9_readsFunction_X9_here : GoodIn wsX9_readsFunction wsX9_here := goodIn_r _ [9, 4, 10, 11, 30, 31, 32, 33, 34, 35, 36, 37, 38, 39, 40, 41, 42, 43, 44, 45, 46, 47, 48, 49] (by decide +kernel) (by decide +kernel)
set_option maxRecDepth 20000 in
theorem gX9_readsFunction_X9_here : GoodIn wsX9_readsFunction (wsV RX9 207 RX9 yX9_here wsX9_here) := goodIn_app (goodIn_of _ (by decide +kernel)) ggX9_readsFunction_X9_here
set_option maxRecDepth 20000 in
theorem ggX9_readsFunction_X9_in : GoodIn wsX9_readsFunction wsX9_in := goodIn_r _ [14] (by decide +kernel) (by decide +kernel)
set_option maxRecDepth 20000 in
theorem gX9_readsFunction_X9_in : GoodIn wsX9_readsFunction (va_wsS RX9 61 yX9_in wsX9_in) := goodIn_app (goodIn_of _ (by decide +kernel)) ggX9_readsFunction_X9_in
set_option maxRecDepth 20000 in
theorem ggX9_readsFunction_X9_reads : GoodIn wsX9_readsFunction wsX9_reads := goodIn_r _ [18, 4, 5, 6, 7, 8, 9, 10, 11, 30, 31, 32, 33, 34, 35, 36, 37, 38, 39, 40, 41, 42, 43, 44, 45, 46, 47, 48, 49] (by decide +kernel) (by decide +kernel)
set_option maxRecDepth 20000 in
theorem gX9_readsFunction_X9_reads : GoodIn wsX9_readsFunction (wsV RX9 210 RX9 yX9_reads wsX9_reads) := goodIn_app (goodIn_of _ (by decide +kernel)) ggX9_readsFunction_X9_reads
set_option maxRecDepth 20000 in
theorem ggX9_readsFunction_X9_readsBody : GoodIn wsX9_readsFunction wsX9_readsBody := goodIn_r _ [22, 4, 10, 23, 24, 25, 5, 6, 7, 8, 9, 11, 26, 27, 28, 29, 2, 12, 13, 14, 15, 16, 17, 18, 30, 31, 32, 33, 34, 35, 36, 37, 38, 39, 40, 41, 42, 43, 44, 45, 46, 47, 48, 49] (by decide +kernel) (by decide +kernel)
set_option maxRecDepth 20000 in
theorem gX9_readsFunction_X9_readsBody : GoodIn wsX9_readsFunction (wsV RX9 216 RX9 yX9_readsBody wsX9_readsBody) := goodIn_app (goodIn_of _ (by decide +kernel)) ggX9_readsFunction_X9_readsBody
theorem dX9_readsFunction_0 : decode cX9_readsFunction 0 = .ok (.aload_n 0, 1) := by decide +kernel
theorem dX9_readsFunction_1 : decode cX9_readsFunction 1 = .ok (.getfield 213, 3) := by decide +kernel
theorem dX9_readsFunction_4 : decode cX9_readsFunction 4 = .ok (.aload_n 0, 1) := by decide +kernel
theorem dX9_readsFunction_5 : decode cX9_readsFunction 5 = .ok (.getfield 49, 3) := by decide +kernel
theorem dX9_readsFunction_8 : decode cX9_readsFunction 8 = .ok (.if_icmp .eq 17, 3) := by decide +kernel
theorem dX9_readsFunction_11 : decode cX9_readsFunction 11 = .ok (.aload_n 0, 1) := by decide +kernel
theorem dX9_readsFunction_12 : decode cX9_readsFunction 12 = .ok (.invokevirtual 207, 3) := by decide +kernel
theorem dX9_readsFunction_15 : decode cX9_readsFunction 15 = .ok (.bipush 48, 2) := by decide +kernel
theorem dX9_readsFunction_17 : decode cX9_readsFunction 17 = .ok (.bipush 51, 2) := by decide +kernel
theorem dX9_readsFunction_19 : decode cX9_readsFunction 19 = .ok (.invokestatic 61, 3) := by decide +kernel
theorem dX9_readsFunction_22 : decode cX9_readsFunction 22 = .ok (.ifCond .ne 5, 3) := by decide +kernel
theorem dX9_readsFunction_25 : decode cX9_readsFunction 25 = .ok (.iconst 0, 1) := by decide +kernel
theorem dX9_readsFunction_26 : decode cX9_readsFunction 26 = .ok (.ireturn, 1) := by decide +kernel
theorem dX9_readsFunction_27 : decode cX9_readsFunction 27 = .ok (.aload_n 0, 1) := by decide +kernel
theorem dX9_readsFunction_28 : decode cX9_readsFunction 28 = .ok (.getfield 13, 3) := by decide +kernel
theorem dX9_readsFunction_31 : decode cX9_readsFunction 31 = .ok (.aload_n 0, 1) := by decide +kernel
theorem dX9_readsFunction_32 : decode cX9_readsFunction 32 = .ok (.getfield 213, 3) := by decide +kernel
theorem dX9_readsFunction_35 : decode cX9_readsFunction 35 = .ok (.aload_n 0, 1) := by decide +kernel
theorem dX9_readsFunction_36 : decode cX9_readsFunction 36 = .ok (.invokevirtual 207, 3) := by decide +kernel
theorem dX9_readsFunction_39 : decode cX9_readsFunction 39 = .ok (.bipush 48, 2) := by decide +kernel
theorem dX9_readsFunction_41 : decode cX9_readsFunction 41 = .ok (.isub, 1) := by decide +kernel
theorem dX9_readsFunction_42 : decode cX9_readsFunction 42 = .ok (.iastore, 1) := by decide +kernel
theorem dX9_readsFunction_43 : decode cX9_readsFunction 43 = .ok (.aload_n 0, 1) := by decide +kernel
theorem dX9_readsFunction_44 : decode cX9_readsFunction 44 = .ok (.dup, 1) := by decide +kernel
theorem dX9_readsFunction_45 : decode cX9_readsFunction 45 = .ok (.getfield 204, 3) := by decide +kernel
theorem dX9_readsFunction_48 : decode cX9_readsFunction 48 = .ok (.iconst 1, 1) := by decide +kernel
theorem dX9_readsFunction_49 : decode cX9_readsFunction 49 = .ok (.iadd, 1) := by decide +kernel
theorem dX9_readsFunction_50 : decode cX9_readsFunction 50 = .ok (.putfield 204, 3) := by decide +kernel
theorem dX9_readsFunction_53 : decode cX9_readsFunction 53 = .ok (.aload_n 0, 1) := by decide +kernel
theorem dX9_readsFunction_54 : decode cX9_readsFunction 54 = .ok (.bipush 44, 2) := by decide +kernel
theorem dX9_readsFunction_56 : decode cX9_readsFunction 56 = .ok (.invokevirtual 210, 3) := by decide +kernel
theorem dX9_readsFunction_59 : decode cX9_readsFunction 59 = .ok (.ifCond .eq 14, 3) := by decide +kernel
theorem dX9_readsFunction_62 : decode cX9_readsFunction 62 = .ok (.aload_n 0, 1) := by decide +kernel
theorem dX9_readsFunction_63 : decode cX9_readsFunction 63 = .ok (.aload_n 0, 1) := by decide +kernel
theorem dX9_readsFunction_64 : decode cX9_readsFunction 64 = .ok (.getfield 213, 3) := by decide +kernel
theorem dX9_readsFunction_67 : decode cX9_readsFunction 67 = .ok (.invokevirtual 216, 3) := by decide +kernel
theorem dX9_readsFunction_70 : decode cX9_readsFunction 70 = .ok (.ifCond .ne 5, 3) := by decide +kernel
theorem dX9_readsFunction_73 : decode cX9_readsFunction 73 = .ok (.iconst 0, 1) := by decide +kernel
theorem dX9_readsFunction_74 : decode cX9_readsFunction 74 = .ok (.ireturn, 1) := by decide +kernel
theorem dX9_readsFunction_75 : decode cX9_readsFunction 75 = .ok (.aload_n 0, 1) := by decide +kernel
theorem dX9_readsFunction_76 : decode cX9_readsFunction 76 = .ok (.dup, 1) := by decide +kernel
theorem dX9_readsFunction_77 : decode cX9_readsFunction 77 = .ok (.getfield 213, 3) := by decide +kernel
theorem dX9_readsFunction_80 : decode cX9_readsFunction 80 = .ok (.iconst 1, 1) := by decide +kernel
theorem dX9_readsFunction_81 : decode cX9_readsFunction 81 = .ok (.iadd, 1) := by decide +kernel
theorem dX9_readsFunction_82 : decode cX9_readsFunction 82 = .ok (.putfield 213, 3) := by decide +kernel
theorem dX9_readsFunction_85 : decode cX9_readsFunction 85 = .ok (.iconst 1, 1) := by decide +kernel
theorem dX9_readsFunction_86 : decode cX9_readsFunction 86 = .ok (.ireturn, 1) := by decide +kernel
set_option maxRecDepth 20000 in
theorem ggX9_readsItem_X9_here : GoodIn wsX9_readsItem wsX9_here := goodIn_r _ [6, 1, 7, 8, 38, 39, 40, 41, 42, 43, 44, 45, 46, 47, 48, 49, 50, 51, 52, 53, 54, 55, 56, 57] (by decide +kernel) (by decide +kernel)
set_option maxRecDepth 20000 in
theorem gX9_readsItem_X9_here : GoodIn wsX9_readsItem (wsV RX9 207 RX9 yX9_here wsX9_here) := goodIn_app (goodIn_of _ (by decide +kernel)) ggX9_readsItem_X9_here
set_option maxRecDepth 20000 in
theorem ggX9_readsItem_X9_readsNumbers : GoodIn wsX9_readsItem wsX9_readsNumbers := goodIn_r _ [12, 13, 14, 1, 2, 3, 4, 5, 6, 7, 8, 15, 16, 17, 18, 19, 20, 21, 38, 39, 40, 41, 42, 43, 44, 45, 46, 47, 48, 49, 50, 51, 52, 53, 54, 55, 56, 57] (by decide +kernel) (by decide +kernel)
set_option maxRecDepth 20000 in
theorem gX9_readsItem_X9_readsNumbers : GoodIn wsX9_readsItem (wsV RX9 219 RX9 yX9_readsNumbers wsX9_readsNumbers) := goodIn_app (goodIn_of _ (by decide +kernel)) ggX9_readsItem_X9_readsNumbers
set_option maxRecDepth 20000 in
theorem ggX9_readsItem_X9_readsFunction : GoodIn wsX9_readsItem wsX9_readsFunction := goodIn_r _ [25, 26, 13, 27, 1, 2, 3, 4, 5, 6, 7, 8, 15, 16, 17, 18, 19, 20, 21, 28, 29, 30, 31, 14, 32, 33, 34, 35, 36, 37, 38, 39, 40, 41, 42, 43, 44, 45, 46, 47, 48, 49, 50, 51, 52, 53, 54, 55, 56, 57] (by decide +kernel) (by decide +kernel)
set_option maxRecDepth 20000 in
theorem gX9_readsItem_X9_readsFunction : GoodIn wsX9_readsItem (wsV RX9 223 RX9 yX9_readsFunction wsX9_readsFunction) := goodIn_app (goodIn_of _ (by decide +kernel)) ggX9_readsItem_X9_readsFunction
theorem dX9_readsItem_0 : decode cX9_readsItem 0 = .ok (.aload_n 0, 1) := by decide +kernel
theorem dX9_readsItem_1 : decode cX9_readsItem 1 = .ok (.invokevirtual 207, 3) := by decide +kernel
theorem dX9_readsItem_4 : decode cX9_readsItem 4 = .ok (.istore_n 2, 1) := by decide +kernel
theorem dX9_readsItem_5 : decode cX9_readsItem 5 = .ok (.aload_n 0, 1) := by decide +kernel
theorem dX9_readsItem_6 : decode cX9_readsItem 6 = .ok (.dup, 1) := by decide +kernel
theorem dX9_readsItem_7 : decode cX9_readsItem 7 = .ok (.getfield 204, 3) := by decide +kernel
theorem dX9_readsItem_10 : decode cX9_readsItem 10 = .ok (.iconst 1, 1) := by decide +kernel
theorem dX9_readsItem_11 : decode cX9_readsItem 11 = .ok (.iadd, 1) := by decide +kernel
theorem dX9_readsItem_12 : decode cX9_readsItem 12 = .ok (.putfield 204, 3) := by decide +kernel
theorem dX9_readsItem_15 : decode cX9_readsItem 15 = .ok (.iload_n 2, 1) := by decide +kernel
theorem dX9_readsItem_16 : decode cX9_readsItem 16 = .ok (.bipush 110, 2) := by decide +kernel
theorem dX9_readsItem_18 : decode cX9_readsItem 18 = .ok (.if_icmp .ne 22, 3) := by decide +kernel
theorem dX9_readsItem_21 : decode cX9_readsItem 21 = .ok (.iload_n 1, 1) := by decide +kernel
theorem dX9_readsItem_22 : decode cX9_readsItem 22 = .ok (.ifCond .eq 14, 3) := by decide +kernel
theorem dX9_readsItem_25 : decode cX9_readsItem 25 = .ok (.aload_n 0, 1) := by decide +kernel
theorem dX9_readsItem_26 : decode cX9_readsItem 26 = .ok (.invokevirtual 219, 3) := by decide +kernel
theorem dX9_readsItem_29 : decode cX9_readsItem 29 = .ok (.ifCond .eq 7, 3) := by decide +kernel
theorem dX9_readsItem_32 : decode cX9_readsItem 32 = .ok (.iconst 1, 1) := by decide +kernel
theorem dX9_readsItem_33 : decode cX9_readsItem 33 = .ok (.goto 25, 3) := by decide +kernel
theorem dX9_readsItem_36 : decode cX9_readsItem 36 = .ok (.iconst 0, 1) := by decide +kernel
theorem dX9_readsItem_37 : decode cX9_readsItem 37 = .ok (.goto 21, 3) := by decide +kernel
theorem dX9_readsItem_40 : decode cX9_readsItem 40 = .ok (.iload_n 2, 1) := by decide +kernel
theorem dX9_readsItem_41 : decode cX9_readsItem 41 = .ok (.bipush 102, 2) := by decide +kernel
theorem dX9_readsItem_43 : decode cX9_readsItem 43 = .ok (.if_icmp .ne 14, 3) := by decide +kernel
theorem dX9_readsItem_46 : decode cX9_readsItem 46 = .ok (.aload_n 0, 1) := by decide +kernel
theorem dX9_readsItem_47 : decode cX9_readsItem 47 = .ok (.invokevirtual 223, 3) := by decide +kernel
theorem dX9_readsItem_50 : decode cX9_readsItem 50 = .ok (.ifCond .eq 7, 3) := by decide +kernel
theorem dX9_readsItem_53 : decode cX9_readsItem 53 = .ok (.iconst 1, 1) := by decide +kernel
theorem dX9_readsItem_54 : decode cX9_readsItem 54 = .ok (.goto 4, 3) := by decide +kernel
theorem dX9_readsItem_57 : decode cX9_readsItem 57 = .ok (.iconst 0, 1) := by decide +kernel
theorem dX9_readsItem_58 : decode cX9_readsItem 58 = .ok (.ireturn, 1) := by decide +kernel
set_option maxRecDepth 20000 in
theorem ggX9_readsAll_X9_readsItem : GoodIn wsX9_readsAll wsX9_readsItem := goodIn_r _ [9, 1, 10, 11, 12, 8, 13, 4, 14, 15, 16, 17, 18, 3, 19, 20, 21, 22, 23, 24, 25, 26, 27, 28, 29, 30, 2, 31, 32, 33, 34, 35, 36, 37, 38, 39, 40, 41, 42, 43, 44, 45, 46, 47, 48, 49, 50, 51, 52, 53, 54, 55, 56, 57, 58, 59, 60, 61] (by decide +kernel) (by decide +kernel)
set_option maxRecDepth 20000 in
theorem gX9_readsAll_X9_readsItem : GoodIn wsX9_readsAll (wsV RX9 226 RX9 yX9_readsItem wsX9_readsItem) := goodIn_app (goodIn_of _ (by decide +kernel)) ggX9_readsAll_X9_readsItem
theorem dX9_readsAll_0 : decode cX9_readsAll 0 = .ok (.aload_n 0, 1) := by decide +kernel
theorem dX9_readsAll_1 : decode cX9_readsAll 1 = .ok (.iconst 0, 1) := by decide +kernel
theorem dX9_readsAll_2 : decode cX9_readsAll 2 = .ok (.putfield 204, 3) := by decide +kernel
theorem dX9_readsAll_5 : decode cX9_readsAll 5 = .ok (.aload_n 0, 1) := by decide +kernel
theorem dX9_readsAll_6 : decode cX9_readsAll 6 = .ok (.iconst 0, 1) := by decide +kernel
theorem dX9_readsAll_7 : decode cX9_readsAll 7 = .ok (.putfield 213, 3) := by decide +kernel
theorem dX9_readsAll_10 : decode cX9_readsAll 10 = .ok (.aload_n 0, 1) := by decide +kernel
theorem dX9_readsAll_11 : decode cX9_readsAll 11 = .ok (.iconst 0, 1) := by decide +kernel
theorem dX9_readsAll_12 : decode cX9_readsAll 12 = .ok (.putfield 49, 3) := by decide +kernel
theorem dX9_readsAll_15 : decode cX9_readsAll 15 = .ok (.aload_n 0, 1) := by decide +kernel
theorem dX9_readsAll_16 : decode cX9_readsAll 16 = .ok (.getfield 204, 3) := by decide +kernel
theorem dX9_readsAll_19 : decode cX9_readsAll 19 = .ok (.aload_n 0, 1) := by decide +kernel
theorem dX9_readsAll_20 : decode cX9_readsAll 20 = .ok (.getfield 201, 3) := by decide +kernel
theorem dX9_readsAll_23 : decode cX9_readsAll 23 = .ok (.if_icmp .ge 29, 3) := by decide +kernel
theorem dX9_readsAll_26 : decode cX9_readsAll 26 = .ok (.aload_n 0, 1) := by decide +kernel
theorem dX9_readsAll_27 : decode cX9_readsAll 27 = .ok (.getfield 204, 3) := by decide +kernel
theorem dX9_readsAll_30 : decode cX9_readsAll 30 = .ok (.istore_n 1, 1) := by decide +kernel
theorem dX9_readsAll_31 : decode cX9_readsAll 31 = .ok (.aload_n 0, 1) := by decide +kernel
theorem dX9_readsAll_32 : decode cX9_readsAll 32 = .ok (.iload_n 1, 1) := by decide +kernel
theorem dX9_readsAll_33 : decode cX9_readsAll 33 = .ok (.ifCond .ne 7, 3) := by decide +kernel
theorem dX9_readsAll_36 : decode cX9_readsAll 36 = .ok (.iconst 1, 1) := by decide +kernel
theorem dX9_readsAll_37 : decode cX9_readsAll 37 = .ok (.goto 4, 3) := by decide +kernel
theorem dX9_readsAll_40 : decode cX9_readsAll 40 = .ok (.iconst 0, 1) := by decide +kernel
theorem dX9_readsAll_41 : decode cX9_readsAll 41 = .ok (.invokevirtual 226, 3) := by decide +kernel
theorem dX9_readsAll_44 : decode cX9_readsAll 44 = .ok (.ifCond .ne 5, 3) := by decide +kernel
theorem dX9_readsAll_47 : decode cX9_readsAll 47 = .ok (.iload_n 1, 1) := by decide +kernel
theorem dX9_readsAll_48 : decode cX9_readsAll 48 = .ok (.ireturn, 1) := by decide +kernel
theorem dX9_readsAll_49 : decode cX9_readsAll 49 = .ok (.goto (-34), 3) := by decide +kernel
theorem dX9_readsAll_52 : decode cX9_readsAll 52 = .ok (.bipush (-4), 2) := by decide +kernel
theorem dX9_readsAll_54 : decode cX9_readsAll 54 = .ok (.ireturn, 1) := by decide +kernel
set_option maxRecDepth 20000 in
theorem ggX9_fault_X9_lays : GoodIn wsX9_fault wsX9_lays := goodIn_r _ [7, 8, 9, 10, 11, 12, 56, 57, 58, 59, 60, 61, 62, 63, 64, 65, 66, 67, 68, 69, 70, 71, 72, 73, 74, 75] (by decide +kernel) (by decide +kernel)
set_option maxRecDepth 20000 in
theorem gX9_fault_X9_lays : GoodIn wsX9_fault (wsV RX9 135 RX9 yX9_lays wsX9_lays) := goodIn_app (goodIn_of _ (by decide +kernel)) ggX9_fault_X9_lays
set_option maxRecDepth 20000 in
theorem ggX9_fault_X9_readsAll : GoodIn wsX9_fault wsX9_readsAll := goodIn_r _ [16, 17, 18, 8, 19, 20, 21, 22, 6, 23, 24, 25, 26, 27, 28, 29, 30, 31, 32, 9, 33, 34, 35, 36, 37, 38, 39, 40, 41, 42, 43, 10, 44, 45, 46, 47, 12, 11, 48, 49, 50, 51, 56, 57, 58, 59, 60, 61, 62, 63, 64, 65, 66, 67, 68, 69, 70, 71, 72, 73, 74, 75] (by decide +kernel) (by decide +kernel)
set_option maxRecDepth 20000 in
theorem gX9_fault_X9_readsAll : GoodIn wsX9_fault (wsV RX9 230 RX9 yX9_readsAll wsX9_readsAll) := goodIn_app (goodIn_of _ (by decide +kernel)) ggX9_fault_X9_readsAll
set_option maxRecDepth 20000 in
theorem ggX9_fault_X9_takes : GoodIn wsX9_fault wsX9_takes := goodIn_r _ [55, 8, 9, 10, 11, 12, 2, 56, 57, 58, 59, 60, 61, 62, 63, 64, 65, 66, 67, 68, 69, 70, 71, 72, 73, 74, 75] (by decide +kernel) (by decide +kernel)
set_option maxRecDepth 20000 in
theorem gX9_fault_X9_takes : GoodIn wsX9_fault (wsV RX9 145 RX9 yX9_takes wsX9_takes) := goodIn_app (goodIn_of _ (by decide +kernel)) ggX9_fault_X9_takes
theorem dX9_fault_0 : decode cX9_fault 0 = .ok (.aload_n 0, 1) := by decide +kernel
theorem dX9_fault_1 : decode cX9_fault 1 = .ok (.aload_n 0, 1) := by decide +kernel
theorem dX9_fault_2 : decode cX9_fault 2 = .ok (.getfield 46, 3) := by decide +kernel
theorem dX9_fault_5 : decode cX9_fault 5 = .ok (.iconst 0, 1) := by decide +kernel
theorem dX9_fault_6 : decode cX9_fault 6 = .ok (.invokevirtual 135, 3) := by decide +kernel
theorem dX9_fault_9 : decode cX9_fault 9 = .ok (.aload_n 0, 1) := by decide +kernel
theorem dX9_fault_10 : decode cX9_fault 10 = .ok (.getfield 121, 3) := by decide +kernel
theorem dX9_fault_13 : decode cX9_fault 13 = .ok (.istore_n 1, 1) := by decide +kernel
theorem dX9_fault_14 : decode cX9_fault 14 = .ok (.aload_n 0, 1) := by decide +kernel
theorem dX9_fault_15 : decode cX9_fault 15 = .ok (.invokevirtual 230, 3) := by decide +kernel
theorem dX9_fault_18 : decode cX9_fault 18 = .ok (.istore_n 2, 1) := by decide +kernel
theorem dX9_fault_19 : decode cX9_fault 19 = .ok (.aload_n 0, 1) := by decide +kernel
theorem dX9_fault_20 : decode cX9_fault 20 = .ok (.aload_n 0, 1) := by decide +kernel
theorem dX9_fault_21 : decode cX9_fault 21 = .ok (.getfield 46, 3) := by decide +kernel
theorem dX9_fault_24 : decode cX9_fault 24 = .ok (.iconst 0, 1) := by decide +kernel
theorem dX9_fault_25 : decode cX9_fault 25 = .ok (.invokevirtual 145, 3) := by decide +kernel
theorem dX9_fault_28 : decode cX9_fault 28 = .ok (.aload_n 0, 1) := by decide +kernel
theorem dX9_fault_29 : decode cX9_fault 29 = .ok (.iload_n 1, 1) := by decide +kernel
theorem dX9_fault_30 : decode cX9_fault 30 = .ok (.putfield 121, 3) := by decide +kernel
theorem dX9_fault_33 : decode cX9_fault 33 = .ok (.iload_n 2, 1) := by decide +kernel
theorem dX9_fault_34 : decode cX9_fault 34 = .ok (.ireturn, 1) := by decide +kernel
set_option maxRecDepth 20000 in
theorem ggX9_lay_X9_lays : GoodIn wsX9_lay wsX9_lays := goodIn_r _ [11, 3, 12, 13, 14, 15, 58, 59, 60, 61, 62, 63, 64, 65, 66, 67, 68, 69, 70, 71, 72, 73, 74, 75, 76, 77] (by decide +kernel) (by decide +kernel)
set_option maxRecDepth 20000 in
theorem gX9_lay_X9_lays : GoodIn wsX9_lay (wsV RX9 135 RX9 yX9_lays wsX9_lays) := goodIn_app (goodIn_of _ (by decide +kernel)) ggX9_lay_X9_lays
set_option maxRecDepth 20000 in
theorem ggX9_lay_X9_readsAll : GoodIn wsX9_lay wsX9_readsAll := goodIn_r _ [19, 20, 4, 3, 21, 22, 23, 24, 10, 25, 26, 27, 28, 29, 30, 31, 32, 33, 34, 12, 35, 36, 37, 38, 39, 40, 41, 42, 43, 44, 45, 13, 46, 47, 48, 49, 15, 14, 50, 51, 52, 53, 58, 59, 60, 61, 62, 63, 64, 65, 66, 67, 68, 69, 70, 71, 72, 73, 74, 75, 76, 77] (by decide +kernel) (by decide +kernel)
set_option maxRecDepth 20000 in
theorem gX9_lay_X9_readsAll : GoodIn wsX9_lay (wsV RX9 230 RX9 yX9_readsAll wsX9_readsAll) := goodIn_app (goodIn_of _ (by decide +kernel)) ggX9_lay_X9_readsAll
set_option maxRecDepth 20000 in
theorem ggX9_lay_X9_takes : GoodIn wsX9_lay wsX9_takes := goodIn_r _ [57, 3, 12, 13, 14, 15, 2, 58, 59, 60, 61, 62, 63, 64, 65, 66, 67, 68, 69, 70, 71, 72, 73, 74, 75, 76, 77] (by decide +kernel) (by decide +kernel)
set_option maxRecDepth 20000 in
theorem gX9_lay_X9_takes : GoodIn wsX9_lay (wsV RX9 145 RX9 yX9_takes wsX9_takes) := goodIn_app (goodIn_of _ (by decide +kernel)) ggX9_lay_X9_takes
theorem dX9_lay_0 : decode cX9_lay 0 = .ok (.aload_n 0, 1) := by decide +kernel
theorem dX9_lay_1 : decode cX9_lay 1 = .ok (.aload_n 0, 1) := by decide +kernel
theorem dX9_lay_2 : decode cX9_lay 2 = .ok (.getfield 46, 3) := by decide +kernel
theorem dX9_lay_5 : decode cX9_lay 5 = .ok (.iconst 0, 1) := by decide +kernel
theorem dX9_lay_6 : decode cX9_lay 6 = .ok (.invokevirtual 135, 3) := by decide +kernel
theorem dX9_lay_9 : decode cX9_lay 9 = .ok (.aload_n 0, 1) := by decide +kernel
theorem dX9_lay_10 : decode cX9_lay 10 = .ok (.getfield 121, 3) := by decide +kernel
theorem dX9_lay_13 : decode cX9_lay 13 = .ok (.istore_n 1, 1) := by decide +kernel
theorem dX9_lay_14 : decode cX9_lay 14 = .ok (.aload_n 0, 1) := by decide +kernel
theorem dX9_lay_15 : decode cX9_lay 15 = .ok (.invokevirtual 230, 3) := by decide +kernel
theorem dX9_lay_18 : decode cX9_lay 18 = .ok (.bipush (-4), 2) := by decide +kernel
theorem dX9_lay_20 : decode cX9_lay 20 = .ok (.if_icmp .ne 21, 3) := by decide +kernel
theorem dX9_lay_23 : decode cX9_lay 23 = .ok (.aload_n 0, 1) := by decide +kernel
theorem dX9_lay_24 : decode cX9_lay 24 = .ok (.getfield 49, 3) := by decide +kernel
theorem dX9_lay_27 : decode cX9_lay 27 = .ok (.ifCond .eq 14, 3) := by decide +kernel
theorem dX9_lay_30 : decode cX9_lay 30 = .ok (.aload_n 0, 1) := by decide +kernel
theorem dX9_lay_31 : decode cX9_lay 31 = .ok (.getfield 213, 3) := by decide +kernel
theorem dX9_lay_34 : decode cX9_lay 34 = .ok (.aload_n 0, 1) := by decide +kernel
theorem dX9_lay_35 : decode cX9_lay 35 = .ok (.getfield 49, 3) := by decide +kernel
theorem dX9_lay_38 : decode cX9_lay 38 = .ok (.if_icmp .ge 20, 3) := by decide +kernel
theorem dX9_lay_41 : decode cX9_lay 41 = .ok (.aload_n 0, 1) := by decide +kernel
theorem dX9_lay_42 : decode cX9_lay 42 = .ok (.aload_n 0, 1) := by decide +kernel
theorem dX9_lay_43 : decode cX9_lay 43 = .ok (.getfield 46, 3) := by decide +kernel
theorem dX9_lay_46 : decode cX9_lay 46 = .ok (.iconst 0, 1) := by decide +kernel
theorem dX9_lay_47 : decode cX9_lay 47 = .ok (.invokevirtual 145, 3) := by decide +kernel
theorem dX9_lay_50 : decode cX9_lay 50 = .ok (.aload_n 0, 1) := by decide +kernel
theorem dX9_lay_51 : decode cX9_lay 51 = .ok (.iload_n 1, 1) := by decide +kernel
theorem dX9_lay_52 : decode cX9_lay 52 = .ok (.putfield 121, 3) := by decide +kernel
theorem dX9_lay_55 : decode cX9_lay 55 = .ok (.bipush (-2), 2) := by decide +kernel
theorem dX9_lay_57 : decode cX9_lay 57 = .ok (.ireturn, 1) := by decide +kernel
theorem dX9_lay_58 : decode cX9_lay 58 = .ok (.aload_n 0, 1) := by decide +kernel
theorem dX9_lay_59 : decode cX9_lay 59 = .ok (.iconst 0, 1) := by decide +kernel
theorem dX9_lay_60 : decode cX9_lay 60 = .ok (.putfield 121, 3) := by decide +kernel
theorem dX9_lay_63 : decode cX9_lay 63 = .ok (.aload_n 0, 1) := by decide +kernel
theorem dX9_lay_64 : decode cX9_lay 64 = .ok (.iconst 0, 1) := by decide +kernel
theorem dX9_lay_65 : decode cX9_lay 65 = .ok (.putfield 132, 3) := by decide +kernel
theorem dX9_lay_68 : decode cX9_lay 68 = .ok (.aload_n 0, 1) := by decide +kernel
theorem dX9_lay_69 : decode cX9_lay 69 = .ok (.iconst 0, 1) := by decide +kernel
theorem dX9_lay_70 : decode cX9_lay 70 = .ok (.putfield 148, 3) := by decide +kernel
theorem dX9_lay_73 : decode cX9_lay 73 = .ok (.aload_n 0, 1) := by decide +kernel
