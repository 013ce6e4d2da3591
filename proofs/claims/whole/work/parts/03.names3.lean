theorem dX7_letterComesTo_117 : decode cX7_letterComesTo 117 = .ok (.iload_n 3, 1) := by decide +kernel
theorem dX7_letterComesTo_118 : decode cX7_letterComesTo 118 = .ok (.invokevirtual 135, 3) := by decide +kernel
theorem dX7_letterComesTo_121 : decode cX7_letterComesTo 121 = .ok (.ireturn, 1) := by decide +kernel
theorem dX7_letterComesTo_122 : decode cX7_letterComesTo 122 = .ok (.iload_n 2, 1) := by decide +kernel
theorem dX7_letterComesTo_123 : decode cX7_letterComesTo 123 = .ok (.aload_n 0, 1) := by decide +kernel
theorem dX7_letterComesTo_124 : decode cX7_letterComesTo 124 = .ok (.getfield 25, 3) := by decide +kernel
theorem dX7_letterComesTo_127 : decode cX7_letterComesTo 127 = .ok (.if_icmp .ne 10, 3) := by decide +kernel
theorem dX7_letterComesTo_130 : decode cX7_letterComesTo 130 = .ok (.aload_n 0, 1) := by decide +kernel
theorem dX7_letterComesTo_131 : decode cX7_letterComesTo 131 = .ok (.getfield 25, 3) := by decide +kernel
theorem dX7_letterComesTo_134 : decode cX7_letterComesTo 134 = .ok (.goto 4, 3) := by decide +kernel
theorem dX7_letterComesTo_137 : decode cX7_letterComesTo 137 = .ok (.iload_n 3, 1) := by decide +kernel
theorem dX7_letterComesTo_138 : decode cX7_letterComesTo 138 = .ok (.ireturn, 1) := by decide +kernel
theorem dX7_letterComesTo_139 : decode cX7_letterComesTo 139 = .ok (.iload_n 2, 1) := by decide +kernel
theorem dX7_letterComesTo_140 : decode cX7_letterComesTo 140 = .ok (.aload_n 0, 1) := by decide +kernel
theorem dX7_letterComesTo_141 : decode cX7_letterComesTo 141 = .ok (.getfield 25, 3) := by decide +kernel
theorem dX7_letterComesTo_144 : decode cX7_letterComesTo 144 = .ok (.if_icmp .ne 10, 3) := by decide +kernel
theorem dX7_letterComesTo_147 : decode cX7_letterComesTo 147 = .ok (.aload_n 0, 1) := by decide +kernel
theorem dX7_letterComesTo_148 : decode cX7_letterComesTo 148 = .ok (.getfield 25, 3) := by decide +kernel
theorem dX7_letterComesTo_151 : decode cX7_letterComesTo 151 = .ok (.goto 11, 3) := by decide +kernel
theorem dX7_letterComesTo_154 : decode cX7_letterComesTo 154 = .ok (.aload_n 0, 1) := by decide +kernel
theorem dX7_letterComesTo_155 : decode cX7_letterComesTo 155 = .ok (.iload_n 2, 1) := by decide +kernel
theorem dX7_letterComesTo_156 : decode cX7_letterComesTo 156 = .ok (.iload_n 3, 1) := by decide +kernel
theorem dX7_letterComesTo_157 : decode cX7_letterComesTo 157 = .ok (.iload 4, 2) := by decide +kernel
theorem dX7_letterComesTo_159 : decode cX7_letterComesTo 159 = .ok (.invokevirtual 138, 3) := by decide +kernel
theorem dX7_letterComesTo_162 : decode cX7_letterComesTo 162 = .ok (.ireturn, 1) := by decide +kernel
theorem dX7_letterComesTo_163 : decode cX7_letterComesTo 163 = .ok (.iload_n 1, 1) := by decide +kernel
theorem dX7_letterComesTo_164 : decode cX7_letterComesTo 164 = .ok (.bipush 10, 2) := by decide +kernel
theorem dX7_letterComesTo_166 : decode cX7_letterComesTo 166 = .ok (.if_icmp .lt 32, 3) := by decide +kernel
theorem dX7_letterComesTo_169 : decode cX7_letterComesTo 169 = .ok (.aload_n 0, 1) := by decide +kernel
theorem dX7_letterComesTo_170 : decode cX7_letterComesTo 170 = .ok (.iload_n 1, 1) := by decide +kernel
theorem dX7_letterComesTo_171 : decode cX7_letterComesTo 171 = .ok (.bipush 10, 2) := by decide +kernel
theorem dX7_letterComesTo_173 : decode cX7_letterComesTo 173 = .ok (.isub, 1) := by decide +kernel
theorem dX7_letterComesTo_174 : decode cX7_letterComesTo 174 = .ok (.iload_n 2, 1) := by decide +kernel
theorem dX7_letterComesTo_175 : decode cX7_letterComesTo 175 = .ok (.aload_n 0, 1) := by decide +kernel
theorem dX7_letterComesTo_176 : decode cX7_letterComesTo 176 = .ok (.getfield 9, 3) := by decide +kernel
theorem dX7_letterComesTo_179 : decode cX7_letterComesTo 179 = .ok (.iconst 1, 1) := by decide +kernel
theorem dX7_letterComesTo_180 : decode cX7_letterComesTo 180 = .ok (.iaload, 1) := by decide +kernel
theorem dX7_letterComesTo_181 : decode cX7_letterComesTo 181 = .ok (.iload_n 3, 1) := by decide +kernel
theorem dX7_letterComesTo_182 : decode cX7_letterComesTo 182 = .ok (.imul, 1) := by decide +kernel
theorem dX7_letterComesTo_183 : decode cX7_letterComesTo 183 = .ok (.iadd, 1) := by decide +kernel
theorem dX7_letterComesTo_184 : decode cX7_letterComesTo 184 = .ok (.aload_n 0, 1) := by decide +kernel
theorem dX7_letterComesTo_185 : decode cX7_letterComesTo 185 = .ok (.getfield 9, 3) := by decide +kernel
theorem dX7_letterComesTo_188 : decode cX7_letterComesTo 188 = .ok (.iconst 2, 1) := by decide +kernel
theorem dX7_letterComesTo_189 : decode cX7_letterComesTo 189 = .ok (.iaload, 1) := by decide +kernel
theorem dX7_letterComesTo_190 : decode cX7_letterComesTo 190 = .ok (.iload 4, 2) := by decide +kernel
theorem dX7_letterComesTo_192 : decode cX7_letterComesTo 192 = .ok (.imul, 1) := by decide +kernel
theorem dX7_letterComesTo_193 : decode cX7_letterComesTo 193 = .ok (.iadd, 1) := by decide +kernel
theorem dX7_letterComesTo_194 : decode cX7_letterComesTo 194 = .ok (.invokevirtual 83, 3) := by decide +kernel
theorem dX7_letterComesTo_197 : decode cX7_letterComesTo 197 = .ok (.ireturn, 1) := by decide +kernel
theorem dX7_letterComesTo_198 : decode cX7_letterComesTo 198 = .ok (.iload_n 1, 1) := by decide +kernel
theorem dX7_letterComesTo_199 : decode cX7_letterComesTo 199 = .ok (.iconst 3, 1) := by decide +kernel
theorem dX7_letterComesTo_200 : decode cX7_letterComesTo 200 = .ok (.isub, 1) := by decide +kernel
theorem dX7_letterComesTo_201 : decode cX7_letterComesTo 201 = .ok (.istore 5, 2) := by decide +kernel
theorem dX7_letterComesTo_203 : decode cX7_letterComesTo 203 = .ok (.iload 5, 2) := by decide +kernel
theorem dX7_letterComesTo_205 : decode cX7_letterComesTo 205 = .ok (.ifCond .lt 23, 3) := by decide +kernel
theorem dX7_letterComesTo_208 : decode cX7_letterComesTo 208 = .ok (.iload 5, 2) := by decide +kernel
theorem dX7_letterComesTo_210 : decode cX7_letterComesTo 210 = .ok (.aload_n 0, 1) := by decide +kernel
theorem dX7_letterComesTo_211 : decode cX7_letterComesTo 211 = .ok (.getfield 15, 3) := by decide +kernel
theorem dX7_letterComesTo_214 : decode cX7_letterComesTo 214 = .ok (.arraylength, 1) := by decide +kernel
theorem dX7_letterComesTo_215 : decode cX7_letterComesTo 215 = .ok (.if_icmp .ge 13, 3) := by decide +kernel
theorem dX7_letterComesTo_218 : decode cX7_letterComesTo 218 = .ok (.aload_n 0, 1) := by decide +kernel
theorem dX7_letterComesTo_219 : decode cX7_letterComesTo 219 = .ok (.getfield 15, 3) := by decide +kernel
theorem dX7_letterComesTo_222 : decode cX7_letterComesTo 222 = .ok (.iload 5, 2) := by decide +kernel
theorem dX7_letterComesTo_224 : decode cX7_letterComesTo 224 = .ok (.iaload, 1) := by decide +kernel
theorem dX7_letterComesTo_225 : decode cX7_letterComesTo 225 = .ok (.goto 7, 3) := by decide +kernel
theorem dX7_letterComesTo_228 : decode cX7_letterComesTo 228 = .ok (.aload_n 0, 1) := by decide +kernel
theorem dX7_letterComesTo_229 : decode cX7_letterComesTo 229 = .ok (.getfield 25, 3) := by decide +kernel
theorem dX7_letterComesTo_232 : decode cX7_letterComesTo 232 = .ok (.ireturn, 1) := by decide +kernel
set_option maxRecDepth 20000 in
theorem ggX8_init_X5_init : GoodIn wsX8_init wsX5_init := goodIn_r _ [34, 35, 2, 3, 36, 9, 10, 37, 38, 39, 40, 41, 42, 43, 44, 45, 46, 47, 48, 49, 292, 293, 294, 295, 296, 276, 277, 278, 279, 280] (by decide +kernel) (by decide +kernel)
set_option maxRecDepth 20000 in
theorem gX8_init_X5_init : GoodIn wsX8_init (wsX5_init) := ggX8_init_X5_init
set_option maxRecDepth 20000 in
theorem ggX8_init_X3_init : GoodIn wsX8_init wsX3_init := goodIn_r _ [42, 43, 2, 3, 44, 45, 46, 47, 48, 49, 292, 293, 294, 295, 296] (by decide +kernel) (by decide +kernel)
set_option maxRecDepth 20000 in
theorem gX8_init_X3_init : GoodIn wsX8_init (wsX3_init) := ggX8_init_X3_init
set_option maxRecDepth 20000 in
theorem ggX8_init_X1_init : GoodIn wsX8_init wsX1_init := goodIn_r _ [53, 54, 2, 3, 44, 55, 56, 57, 297, 298, 299, 300] (by decide +kernel) (by decide +kernel)
set_option maxRecDepth 20000 in
theorem gX8_init_X1_init : GoodIn wsX8_init (wsX1_init) := ggX8_init_X1_init
set_option maxRecDepth 20000 in
theorem ggX8_init_X6_init : GoodIn wsX8_init wsX6_init := goodIn_r _ [60, 61, 62, 63, 64, 65, 2, 3, 44, 66, 67, 68, 69, 70, 71, 72, 73, 74, 75, 76, 77, 78, 79, 80, 81, 82, 83, 84, 85, 327, 328, 329, 330, 331, 332, 333, 334, 335, 336, 337, 338, 339, 314, 315, 316, 317, 318, 319, 320, 321, 322, 323, 324, 325, 326, 301, 302, 303, 304, 305, 306, 307, 308, 309, 310, 311, 312, 313] (by decide +kernel) (by decide +kernel)
set_option maxRecDepth 20000 in
theorem gX8_init_X6_init : GoodIn wsX8_init (wsX6_init) := ggX8_init_X6_init
set_option maxRecDepth 20000 in
theorem ggX8_init_X4_init : GoodIn wsX8_init wsX4_init := goodIn_r _ [88, 89, 62, 63, 64, 65, 2, 3, 44, 66, 67, 68, 69, 70, 71, 72, 73, 74, 75, 76, 77, 78, 79, 80, 81, 82, 83, 84, 85, 327, 328, 329, 330, 331, 332, 333, 334, 335, 336, 337, 338, 339, 314, 315, 316, 317, 318, 319, 320, 321, 322, 323, 324, 325, 326, 301, 302, 303, 304, 305, 306, 307, 308, 309, 310, 311, 312, 313] (by decide +kernel) (by decide +kernel)
set_option maxRecDepth 20000 in
theorem gX8_init_X4_init : GoodIn wsX8_init (wsX4_init) := ggX8_init_X4_init
set_option maxRecDepth 20000 in
theorem ggX8_init_X0_init : GoodIn wsX8_init wsX0_init := goodIn_r _ [92, 93, 62, 63, 64, 65, 2, 3, 44, 66, 67, 68, 69, 70, 71, 72, 73, 74, 75, 76, 77, 78, 79, 80, 81, 82, 83, 84, 85, 327, 328, 329, 330, 331, 332, 333, 334, 335, 336, 337, 338, 339, 314, 315, 316, 317, 318, 319, 320, 321, 322, 323, 324, 325, 326, 301, 302, 303, 304, 305, 306, 307, 308, 309, 310, 311, 312, 313] (by decide +kernel) (by decide +kernel)
set_option maxRecDepth 20000 in
theorem gX8_init_X0_init : GoodIn wsX8_init (wsX0_init) := ggX8_init_X0_init
set_option maxRecDepth 20000 in
theorem ggX8_init_X8_layStart : GoodIn wsX8_init wsX8_layStart := goodIn_r _ [98, 7, 11, 99, 100, 101, 102, 103, 104, 105, 106, 107, 108, 109, 110, 111, 112, 113, 114, 115, 116, 117, 118, 119, 120, 121, 122, 123, 124, 125, 126, 127, 128, 129, 130, 131, 132, 133, 134, 135, 136, 137, 138, 139, 140, 141, 142, 143, 144, 145, 146, 147, 148, 149, 150, 151, 6, 152, 153, 39, 154, 155, 156, 157, 158, 159, 37, 160, 161, 162, 163, 164, 165, 166, 167, 168, 169, 170, 171, 172, 173, 174, 175, 176, 177, 178, 179, 180, 181, 10, 182, 183, 184, 185, 186, 187, 188, 189, 190, 191, 192, 193, 194, 195, 196, 197, 198, 199, 200, 201, 202, 203, 204, 205, 206, 207, 208, 209, 210, 211, 212, 213, 214, 215, 216, 217, 218, 219, 220, 221, 222, 223, 224, 225, 226, 227, 228, 229, 230, 231, 232, 233, 234, 235, 236, 237, 238, 239, 240, 241, 242, 243, 244, 245, 246, 247, 248, 249, 250, 251, 252, 253, 254, 255, 256, 257, 258, 45, 259, 260, 261, 262, 263, 264, 265, 266, 267, 46, 47, 49, 268, 269, 270, 271, 272, 273, 274, 275, 281, 282, 283, 284, 285, 286, 287, 288, 289, 290, 291, 276, 277, 278, 279, 280, 292, 293, 294, 295, 296] (by decide +kernel) (by decide +kernel)
set_option maxRecDepth 20000 in
theorem gX8_init_X8_layStart : GoodIn wsX8_init (wsV RX8 62 RX8 yX8_layStart wsX8_layStart) := goodIn_app (goodIn_of _ (by decide +kernel)) ggX8_init_X8_layStart
theorem dX8_init_0 : decode cX8_init 0 = .ok (.aload_n 0, 1) := by decide +kernel
theorem dX8_init_1 : decode cX8_init 1 = .ok (.invokespecial 1, 3) := by decide +kernel
theorem dX8_init_4 : decode cX8_init 4 = .ok (.aload_n 0, 1) := by decide +kernel
theorem dX8_init_5 : decode cX8_init 5 = .ok (.new 7, 3) := by decide +kernel
theorem dX8_init_8 : decode cX8_init 8 = .ok (.dup, 1) := by decide +kernel
theorem dX8_init_9 : decode cX8_init 9 = .ok (.invokespecial 9, 3) := by decide +kernel
theorem dX8_init_12 : decode cX8_init 12 = .ok (.putfield 10, 3) := by decide +kernel
theorem dX8_init_15 : decode cX8_init 15 = .ok (.aload_n 0, 1) := by decide +kernel
theorem dX8_init_16 : decode cX8_init 16 = .ok (.new 16, 3) := by decide +kernel
theorem dX8_init_19 : decode cX8_init 19 = .ok (.dup, 1) := by decide +kernel
theorem dX8_init_20 : decode cX8_init 20 = .ok (.invokespecial 18, 3) := by decide +kernel
theorem dX8_init_23 : decode cX8_init 23 = .ok (.putfield 19, 3) := by decide +kernel
theorem dX8_init_26 : decode cX8_init 26 = .ok (.aload_n 0, 1) := by decide +kernel
theorem dX8_init_27 : decode cX8_init 27 = .ok (.new 16, 3) := by decide +kernel
theorem dX8_init_30 : decode cX8_init 30 = .ok (.dup, 1) := by decide +kernel
theorem dX8_init_31 : decode cX8_init 31 = .ok (.invokespecial 18, 3) := by decide +kernel
theorem dX8_init_34 : decode cX8_init 34 = .ok (.putfield 23, 3) := by decide +kernel
theorem dX8_init_37 : decode cX8_init 37 = .ok (.aload_n 0, 1) := by decide +kernel
theorem dX8_init_38 : decode cX8_init 38 = .ok (.iconst 2, 1) := by decide +kernel
theorem dX8_init_39 : decode cX8_init 39 = .ok (.anewarray 16, 3) := by decide +kernel
theorem dX8_init_42 : decode cX8_init 42 = .ok (.putfield 26, 3) := by decide +kernel
theorem dX8_init_45 : decode cX8_init 45 = .ok (.iconst 0, 1) := by decide +kernel
theorem dX8_init_46 : decode cX8_init 46 = .ok (.istore_n 1, 1) := by decide +kernel
theorem dX8_init_47 : decode cX8_init 47 = .ok (.iload_n 1, 1) := by decide +kernel
theorem dX8_init_48 : decode cX8_init 48 = .ok (.iconst 2, 1) := by decide +kernel
theorem dX8_init_49 : decode cX8_init 49 = .ok (.if_icmp .ge 22, 3) := by decide +kernel
theorem dX8_init_52 : decode cX8_init 52 = .ok (.aload_n 0, 1) := by decide +kernel
theorem dX8_init_53 : decode cX8_init 53 = .ok (.getfield 26, 3) := by decide +kernel
theorem dX8_init_56 : decode cX8_init 56 = .ok (.iload_n 1, 1) := by decide +kernel
theorem dX8_init_57 : decode cX8_init 57 = .ok (.new 16, 3) := by decide +kernel
theorem dX8_init_60 : decode cX8_init 60 = .ok (.dup, 1) := by decide +kernel
theorem dX8_init_61 : decode cX8_init 61 = .ok (.invokespecial 18, 3) := by decide +kernel
theorem dX8_init_64 : decode cX8_init 64 = .ok (.aastore, 1) := by decide +kernel
theorem dX8_init_65 : decode cX8_init 65 = .ok (.iinc 1 1, 3) := by decide +kernel
theorem dX8_init_68 : decode cX8_init 68 = .ok (.goto (-21), 3) := by decide +kernel
theorem dX8_init_71 : decode cX8_init 71 = .ok (.aload_n 0, 1) := by decide +kernel
theorem dX8_init_72 : decode cX8_init 72 = .ok (.new 30, 3) := by decide +kernel
theorem dX8_init_75 : decode cX8_init 75 = .ok (.dup, 1) := by decide +kernel
theorem dX8_init_76 : decode cX8_init 76 = .ok (.invokespecial 32, 3) := by decide +kernel
theorem dX8_init_79 : decode cX8_init 79 = .ok (.putfield 33, 3) := by decide +kernel
theorem dX8_init_82 : decode cX8_init 82 = .ok (.aload_n 0, 1) := by decide +kernel
theorem dX8_init_83 : decode cX8_init 83 = .ok (.new 37, 3) := by decide +kernel
theorem dX8_init_86 : decode cX8_init 86 = .ok (.dup, 1) := by decide +kernel
theorem dX8_init_87 : decode cX8_init 87 = .ok (.invokespecial 39, 3) := by decide +kernel
theorem dX8_init_90 : decode cX8_init 90 = .ok (.putfield 40, 3) := by decide +kernel
theorem dX8_init_93 : decode cX8_init 93 = .ok (.aload_n 0, 1) := by decide +kernel
theorem dX8_init_94 : decode cX8_init 94 = .ok (.new 44, 3) := by decide +kernel
theorem dX8_init_97 : decode cX8_init 97 = .ok (.dup, 1) := by decide +kernel
theorem dX8_init_98 : decode cX8_init 98 = .ok (.invokespecial 46, 3) := by decide +kernel
theorem dX8_init_101 : decode cX8_init 101 = .ok (.putfield 47, 3) := by decide +kernel
theorem dX8_init_104 : decode cX8_init 104 = .ok (.aload_n 0, 1) := by decide +kernel
theorem dX8_init_105 : decode cX8_init 105 = .ok (.new 50, 3) := by decide +kernel
theorem dX8_init_108 : decode cX8_init 108 = .ok (.dup, 1) := by decide +kernel
theorem dX8_init_109 : decode cX8_init 109 = .ok (.invokespecial 52, 3) := by decide +kernel
theorem dX8_init_112 : decode cX8_init 112 = .ok (.putfield 53, 3) := by decide +kernel
theorem dX8_init_115 : decode cX8_init 115 = .ok (.aload_n 0, 1) := by decide +kernel
theorem dX8_init_116 : decode cX8_init 116 = .ok (.new 37, 3) := by decide +kernel
theorem dX8_init_119 : decode cX8_init 119 = .ok (.dup, 1) := by decide +kernel
theorem dX8_init_120 : decode cX8_init 120 = .ok (.invokespecial 39, 3) := by decide +kernel
theorem dX8_init_123 : decode cX8_init 123 = .ok (.putfield 56, 3) := by decide +kernel
theorem dX8_init_126 : decode cX8_init 126 = .ok (.aload_n 0, 1) := by decide +kernel
theorem dX8_init_127 : decode cX8_init 127 = .ok (.new 50, 3) := by decide +kernel
theorem dX8_init_130 : decode cX8_init 130 = .ok (.dup, 1) := by decide +kernel
theorem dX8_init_131 : decode cX8_init 131 = .ok (.invokespecial 52, 3) := by decide +kernel
theorem dX8_init_134 : decode cX8_init 134 = .ok (.putfield 59, 3) := by decide +kernel
theorem dX8_init_137 : decode cX8_init 137 = .ok (.aload_n 0, 1) := by decide +kernel
theorem dX8_init_138 : decode cX8_init 138 = .ok (.invokevirtual 62, 3) := by decide +kernel
theorem dX8_init_141 : decode cX8_init 141 = .ok (.return_, 1) := by decide +kernel
set_option maxRecDepth 20000 in
theorem ggX8_layStart_J0_length_8abf5 : GoodIn wsX8_layStart wsJ0_length_8abf5 := goodIn_r _ [8, 9, 10, 11, 12, 7, 13, 14, 15] (by decide +kernel) (by decide +kernel)
set_option maxRecDepth 20000 in
theorem gX8_layStart_J0_length_8abf5 : GoodIn wsX8_layStart (wsV RX8 67 RJ0 yJ0_length_8abf5 wsJ0_length_8abf5) := goodIn_app (goodIn_of _ (by decide +kernel)) ggX8_layStart_J0_length_8abf5
set_option maxRecDepth 20000 in
theorem ggX8_layStart_J0_charAt_5068e : GoodIn wsX8_layStart wsJ0_charAt_5068e := goodIn_r _ [19, 9, 20, 21, 22, 7, 23, 14, 15, 24, 25, 26, 27, 28, 29, 30, 31, 32, 33, 34, 35, 36, 37, 38, 39, 40, 41, 42, 43, 44, 45, 46, 47, 48, 49, 50, 51, 52] (by decide +kernel) (by decide +kernel)
set_option maxRecDepth 20000 in
theorem gX8_layStart_J0_charAt_5068e : GoodIn wsX8_layStart (wsV RX8 73 RJ0 yJ0_charAt_5068e wsJ0_charAt_5068e) := goodIn_app (goodIn_of _ (by decide +kernel)) ggX8_layStart_J0_charAt_5068e
set_option maxRecDepth 20000 in
theorem ggX8_layStart_X5_add : GoodIn wsX8_layStart wsX5_add := goodIn_r _ [57, 58, 59, 199, 200, 201, 202, 203] (by decide +kernel) (by decide +kernel)
set_option maxRecDepth 20000 in
theorem gX8_layStart_X5_add : GoodIn wsX8_layStart (wsV RX8 77 RX5 yX5_add wsX5_add) := goodIn_app (goodIn_of _ (by decide +kernel)) ggX8_layStart_X5_add
set_option maxRecDepth 20000 in
theorem ggX8_layStart_X5_read : GoodIn wsX8_layStart wsX5_read := goodIn_r _ [63, 64, 65, 66, 67, 58, 68, 69, 70, 56, 71, 72, 73, 74, 75, 59, 76, 77, 78, 79, 80, 81, 82, 83, 84, 85, 86, 87, 88, 89, 90, 91, 92, 93, 94, 95, 96, 97, 98, 99, 100, 101, 102, 103, 104, 7, 105, 106, 107, 108, 109, 9, 20, 21, 22, 23, 14, 15, 110, 5, 6, 8, 10, 11, 12, 13, 111, 112, 26, 113, 114, 115, 116, 117, 118, 119, 120, 121, 122, 123, 124, 125, 126, 127, 128, 38, 129, 130, 131, 132, 133, 134, 135, 136, 137, 138, 43, 44, 45, 139, 140, 141, 31, 142, 143, 34, 144, 145, 146, 147, 47, 48, 49, 50, 51, 52, 148, 149, 150, 151, 152, 153, 154, 155, 156, 157, 158, 159, 160, 161, 162, 163, 164, 165, 166, 167, 168, 169, 170, 171, 172, 199, 200, 201, 202, 203, 204, 205, 206, 207, 208] (by decide +kernel) (by decide +kernel)
set_option maxRecDepth 20000 in
theorem gX8_layStart_X5_read : GoodIn wsX8_layStart (wsV RX8 81 RX5 yX5_read wsX5_read) := goodIn_app (goodIn_of _ (by decide +kernel)) ggX8_layStart_X5_read
set_option maxRecDepth 20000 in
theorem ggX8_layStart_X3_takeFrom : GoodIn wsX8_layStart wsX3_takeFrom := goodIn_r _ [176, 91, 167, 177, 178, 179, 180, 181, 182, 183, 204, 205, 206, 207, 208] (by decide +kernel) (by decide +kernel)
set_option maxRecDepth 20000 in
theorem gX8_layStart_X3_takeFrom : GoodIn wsX8_layStart (wsV RX8 87 RX3 yX3_takeFrom wsX3_takeFrom) := goodIn_app (goodIn_of _ (by decide +kernel)) ggX8_layStart_X3_takeFrom
set_option maxRecDepth 20000 in
theorem ggX8_layStart_X5_clear : GoodIn wsX8_layStart wsX5_clear := goodIn_r _ [187, 58, 199, 200, 201, 202, 203] (by decide +kernel) (by decide +kernel)
set_option maxRecDepth 20000 in
theorem gX8_layStart_X5_clear : GoodIn wsX8_layStart (wsV RX8 91 RX5 yX5_clear wsX5_clear) := goodIn_app (goodIn_of _ (by decide +kernel)) ggX8_layStart_X5_clear
theorem dX8_layStart_0 : decode cX8_layStart 0 = .ok (.iconst 0, 1) := by decide +kernel
theorem dX8_layStart_1 : decode cX8_layStart 1 = .ok (.istore_n 1, 1) := by decide +kernel
theorem dX8_layStart_2 : decode cX8_layStart 2 = .ok (.iload_n 1, 1) := by decide +kernel
theorem dX8_layStart_3 : decode cX8_layStart 3 = .ok (.ldc 65, 2) := by decide +kernel
theorem dX8_layStart_5 : decode cX8_layStart 5 = .ok (.invokevirtual 67, 3) := by decide +kernel
theorem dX8_layStart_8 : decode cX8_layStart 8 = .ok (.if_icmp .ge 22, 3) := by decide +kernel
theorem dX8_layStart_11 : decode cX8_layStart 11 = .ok (.aload_n 0, 1) := by decide +kernel
theorem dX8_layStart_12 : decode cX8_layStart 12 = .ok (.getfield 10, 3) := by decide +kernel
theorem dX8_layStart_15 : decode cX8_layStart 15 = .ok (.ldc 65, 2) := by decide +kernel
theorem dX8_layStart_17 : decode cX8_layStart 17 = .ok (.iload_n 1, 1) := by decide +kernel
theorem dX8_layStart_18 : decode cX8_layStart 18 = .ok (.invokevirtual 73, 3) := by decide +kernel
theorem dX8_layStart_21 : decode cX8_layStart 21 = .ok (.invokevirtual 77, 3) := by decide +kernel
theorem dX8_layStart_24 : decode cX8_layStart 24 = .ok (.iinc 1 1, 3) := by decide +kernel
theorem dX8_layStart_27 : decode cX8_layStart 27 = .ok (.goto (-25), 3) := by decide +kernel
theorem dX8_layStart_30 : decode cX8_layStart 30 = .ok (.aload_n 0, 1) := by decide +kernel
theorem dX8_layStart_31 : decode cX8_layStart 31 = .ok (.getfield 10, 3) := by decide +kernel
theorem dX8_layStart_34 : decode cX8_layStart 34 = .ok (.invokevirtual 81, 3) := by decide +kernel
theorem dX8_layStart_37 : decode cX8_layStart 37 = .ok (.pop, 1) := by decide +kernel
theorem dX8_layStart_38 : decode cX8_layStart 38 = .ok (.aload_n 0, 1) := by decide +kernel
theorem dX8_layStart_39 : decode cX8_layStart 39 = .ok (.getfield 19, 3) := by decide +kernel
theorem dX8_layStart_42 : decode cX8_layStart 42 = .ok (.aload_n 0, 1) := by decide +kernel
theorem dX8_layStart_43 : decode cX8_layStart 43 = .ok (.getfield 10, 3) := by decide +kernel
theorem dX8_layStart_46 : decode cX8_layStart 46 = .ok (.getfield 84, 3) := by decide +kernel
theorem dX8_layStart_49 : decode cX8_layStart 49 = .ok (.invokevirtual 87, 3) := by decide +kernel
theorem dX8_layStart_52 : decode cX8_layStart 52 = .ok (.aload_n 0, 1) := by decide +kernel
theorem dX8_layStart_53 : decode cX8_layStart 53 = .ok (.getfield 10, 3) := by decide +kernel
theorem dX8_layStart_56 : decode cX8_layStart 56 = .ok (.invokevirtual 91, 3) := by decide +kernel
theorem dX8_layStart_59 : decode cX8_layStart 59 = .ok (.return_, 1) := by decide +kernel
set_option maxRecDepth 20000 in
theorem ggX8_write_X5_add : GoodIn wsX8_write wsX5_add := goodIn_r _ [7, 8, 9, 21, 22, 23, 24, 25] (by decide +kernel) (by decide +kernel)
set_option maxRecDepth 20000 in
theorem gX8_write_X5_add : GoodIn wsX8_write (wsV RX8 77 RX5 yX5_add wsX5_add) := goodIn_app (goodIn_of _ (by decide +kernel)) ggX8_write_X5_add
theorem dX8_write_0 : decode cX8_write 0 = .ok (.iload_n 1, 1) := by decide +kernel
theorem dX8_write_1 : decode cX8_write 1 = .ok (.bipush 32, 2) := by decide +kernel
theorem dX8_write_3 : decode cX8_write 3 = .ok (.if_icmp .lt 9, 3) := by decide +kernel
theorem dX8_write_6 : decode cX8_write 6 = .ok (.iload_n 1, 1) := by decide +kernel
theorem dX8_write_7 : decode cX8_write 7 = .ok (.bipush 126, 2) := by decide +kernel
theorem dX8_write_9 : decode cX8_write 9 = .ok (.if_icmp .le 5, 3) := by decide +kernel
theorem dX8_write_12 : decode cX8_write 12 = .ok (.iconst (-1), 1) := by decide +kernel
theorem dX8_write_13 : decode cX8_write 13 = .ok (.ireturn, 1) := by decide +kernel
theorem dX8_write_14 : decode cX8_write 14 = .ok (.aload_n 0, 1) := by decide +kernel
theorem dX8_write_15 : decode cX8_write 15 = .ok (.getfield 10, 3) := by decide +kernel
theorem dX8_write_18 : decode cX8_write 18 = .ok (.getfield 94, 3) := by decide +kernel
theorem dX8_write_21 : decode cX8_write 21 = .ok (.sipush 200, 3) := by decide +kernel
theorem dX8_write_24 : decode cX8_write 24 = .ok (.if_icmp .lt 6, 3) := by decide +kernel
theorem dX8_write_27 : decode cX8_write 27 = .ok (.bipush (-3), 2) := by decide +kernel
theorem dX8_write_29 : decode cX8_write 29 = .ok (.ireturn, 1) := by decide +kernel
theorem dX8_write_30 : decode cX8_write 30 = .ok (.aload_n 0, 1) := by decide +kernel
theorem dX8_write_31 : decode cX8_write 31 = .ok (.getfield 10, 3) := by decide +kernel
theorem dX8_write_34 : decode cX8_write 34 = .ok (.iload_n 1, 1) := by decide +kernel
theorem dX8_write_35 : decode cX8_write 35 = .ok (.i2c, 1) := by decide +kernel
theorem dX8_write_36 : decode cX8_write 36 = .ok (.invokevirtual 77, 3) := by decide +kernel
theorem dX8_write_39 : decode cX8_write 39 = .ok (.aload_n 0, 1) := by decide +kernel
theorem dX8_write_40 : decode cX8_write 40 = .ok (.getfield 10, 3) := by decide +kernel
theorem dX8_write_43 : decode cX8_write 43 = .ok (.getfield 94, 3) := by decide +kernel
theorem dX8_write_46 : decode cX8_write 46 = .ok (.ireturn, 1) := by decide +kernel
set_option maxRecDepth 20000 in
theorem ggX8_wipe_X5_clear : GoodIn wsX8_wipe wsX5_clear := goodIn_r _ [7, 8, 20, 21, 22, 23, 24] (by decide +kernel) (by decide +kernel)
set_option maxRecDepth 20000 in
theorem gX8_wipe_X5_clear : GoodIn wsX8_wipe (wsV RX8 91 RX5 yX5_clear wsX5_clear) := goodIn_app (goodIn_of _ (by decide +kernel)) ggX8_wipe_X5_clear
theorem dX8_wipe_0 : decode cX8_wipe 0 = .ok (.aload_n 0, 1) := by decide +kernel
theorem dX8_wipe_1 : decode cX8_wipe 1 = .ok (.getfield 10, 3) := by decide +kernel
theorem dX8_wipe_4 : decode cX8_wipe 4 = .ok (.getfield 94, 3) := by decide +kernel
theorem dX8_wipe_7 : decode cX8_wipe 7 = .ok (.istore_n 1, 1) := by decide +kernel
theorem dX8_wipe_8 : decode cX8_wipe 8 = .ok (.aload_n 0, 1) := by decide +kernel
theorem dX8_wipe_9 : decode cX8_wipe 9 = .ok (.getfield 10, 3) := by decide +kernel
theorem dX8_wipe_12 : decode cX8_wipe 12 = .ok (.invokevirtual 91, 3) := by decide +kernel
theorem dX8_wipe_15 : decode cX8_wipe 15 = .ok (.iload_n 1, 1) := by decide +kernel
theorem dX8_wipe_16 : decode cX8_wipe 16 = .ok (.ireturn, 1) := by decide +kernel
set_option maxRecDepth 20000 in
theorem ggX8_fault_X5_read : GoodIn wsX8_fault wsX5_read := goodIn_r _ [6, 7, 8, 9, 10, 11, 12, 13, 14, 5, 15, 16, 17, 18, 19, 20, 21, 22, 23, 24, 25, 26, 27, 28, 29, 30, 31, 32, 33, 34, 35, 36, 37, 38, 39, 40, 41, 42, 43, 44, 45, 46, 47, 48, 49, 50, 51, 52, 53, 54, 55, 56, 57, 58, 59, 60, 61, 62, 63, 64, 65, 66, 67, 68, 69, 70, 71, 72, 73, 74, 75, 76, 77, 78, 79, 80, 81, 82, 83, 84, 85, 86, 87, 88, 89, 90, 91, 92, 93, 94, 95, 96, 97, 98, 99, 100, 101, 102, 103, 104, 105, 106, 107, 108, 109, 110, 111, 112, 113, 114, 115, 116, 117, 118, 119, 120, 121, 122, 123, 124, 125, 126, 127, 128, 129, 130, 131, 132, 133, 134, 135, 136, 137, 138, 139, 140, 141, 142, 143, 144, 145, 157, 158, 159, 160, 161, 162, 163, 164, 165, 166] (by decide +kernel) (by decide +kernel)
set_option maxRecDepth 20000 in
theorem gX8_fault_X5_read : GoodIn wsX8_fault (wsV RX8 81 RX5 yX5_read wsX5_read) := goodIn_app (goodIn_of _ (by decide +kernel)) ggX8_fault_X5_read
theorem dX8_fault_0 : decode cX8_fault 0 = .ok (.aload_n 0, 1) := by decide +kernel
theorem dX8_fault_1 : decode cX8_fault 1 = .ok (.getfield 10, 3) := by decide +kernel
theorem dX8_fault_4 : decode cX8_fault 4 = .ok (.invokevirtual 81, 3) := by decide +kernel
theorem dX8_fault_7 : decode cX8_fault 7 = .ok (.ireturn, 1) := by decide +kernel
set_option maxRecDepth 20000 in
theorem ggX8_lay_X5_read : GoodIn wsX8_lay wsX5_read := goodIn_r _ [11, 12, 13, 14, 15, 16, 17, 18, 19, 10, 20, 21, 22, 23, 24, 25, 26, 27, 28, 29, 30, 31, 32, 33, 34, 35, 36, 37, 38, 39, 40, 41, 42, 43, 44, 45, 46, 47, 48, 49, 50, 51, 52, 53, 54, 55, 56, 57, 58, 59, 60, 61, 62, 63, 64, 65, 66, 67, 68, 69, 70, 71, 72, 73, 74, 75, 76, 77, 78, 79, 80, 81, 82, 83, 84, 85, 86, 87, 88, 89, 90, 91, 92, 93, 94, 95, 96, 97, 98, 99, 100, 101, 102, 103, 104, 105, 106, 107, 108, 109, 110, 111, 112, 113, 114, 115, 116, 117, 118, 119, 120, 121, 122, 123, 124, 125, 126, 127, 128, 129, 130, 131, 132, 133, 134, 135, 136, 137, 138, 139, 140, 141, 142, 143, 144, 145, 146, 147, 148, 149, 150, 192, 193, 194, 195, 196, 197, 198, 199, 200, 201] (by decide +kernel) (by decide +kernel)
set_option maxRecDepth 20000 in
theorem gX8_lay_X5_read : GoodIn wsX8_lay (wsV RX8 81 RX5 yX5_read wsX5_read) := goodIn_app (goodIn_of _ (by decide +kernel)) ggX8_lay_X5_read
set_option maxRecDepth 20000 in
theorem ggX8_lay_X5_toldAll : GoodIn wsX8_lay wsX5_toldAll := goodIn_r _ [154, 14, 15, 13, 192, 193, 194, 195, 196, 197, 198, 199, 200, 201] (by decide +kernel) (by decide +kernel)
set_option maxRecDepth 20000 in
theorem gX8_lay_X5_toldAll : GoodIn wsX8_lay (wsV RX8 97 RX5 yX5_toldAll wsX5_toldAll) := goodIn_app (goodIn_of _ (by decide +kernel)) ggX8_lay_X5_toldAll
set_option maxRecDepth 20000 in
theorem ggX8_lay_X3_takeFrom : GoodIn wsX8_lay wsX3_takeFrom := goodIn_r _ [158, 41, 145, 159, 160, 161, 162, 163, 164, 165, 197, 198, 199, 200, 201] (by decide +kernel) (by decide +kernel)
set_option maxRecDepth 20000 in
theorem gX8_lay_X3_takeFrom : GoodIn wsX8_lay (wsV RX8 87 RX3 yX3_takeFrom wsX3_takeFrom) := goodIn_app (goodIn_of _ (by decide +kernel)) ggX8_lay_X3_takeFrom
set_option maxRecDepth 20000 in
theorem ggX8_lay_X1_clear : GoodIn wsX8_lay wsX1_clear := goodIn_r _ [170, 171, 202, 203, 204, 205] (by decide +kernel) (by decide +kernel)
set_option maxRecDepth 20000 in
theorem gX8_lay_X1_clear : GoodIn wsX8_lay (wsV RX8 101 RX1 yX1_clear wsX1_clear) := goodIn_app (goodIn_of _ (by decide +kernel)) ggX8_lay_X1_clear
set_option maxRecDepth 20000 in
theorem ggX8_lay_X8_forgetViews : GoodIn wsX8_lay wsX8_forgetViews := goodIn_r _ [176, 177, 178, 179, 180, 181, 182, 183, 184, 185, 186, 187, 188, 189, 190, 191, 206, 207, 208, 209, 210, 211, 212, 213, 214, 215, 216, 217, 218, 219, 220, 221, 222, 223, 224, 225, 226, 227, 228, 229, 230, 231, 232, 233, 234, 235, 236, 237, 238, 239, 240, 241, 242, 243, 244] (by decide +kernel) (by decide +kernel)
set_option maxRecDepth 20000 in
theorem gX8_lay_X8_forgetViews : GoodIn wsX8_lay (wsV RX8 105 RX8 yX8_forgetViews wsX8_forgetViews) := goodIn_app (goodIn_of _ (by decide +kernel)) ggX8_lay_X8_forgetViews
theorem dX8_lay_0 : decode cX8_lay 0 = .ok (.aload_n 0, 1) := by decide +kernel
theorem dX8_lay_1 : decode cX8_lay 1 = .ok (.getfield 10, 3) := by decide +kernel
theorem dX8_lay_4 : decode cX8_lay 4 = .ok (.invokevirtual 81, 3) := by decide +kernel
theorem dX8_lay_7 : decode cX8_lay 7 = .ok (.bipush (-4), 2) := by decide +kernel
theorem dX8_lay_9 : decode cX8_lay 9 = .ok (.if_icmp .ne 13, 3) := by decide +kernel
theorem dX8_lay_12 : decode cX8_lay 12 = .ok (.aload_n 0, 1) := by decide +kernel
theorem dX8_lay_13 : decode cX8_lay 13 = .ok (.getfield 10, 3) := by decide +kernel
theorem dX8_lay_16 : decode cX8_lay 16 = .ok (.invokevirtual 97, 3) := by decide +kernel
theorem dX8_lay_19 : decode cX8_lay 19 = .ok (.ifCond .ne 6, 3) := by decide +kernel
theorem dX8_lay_22 : decode cX8_lay 22 = .ok (.bipush (-2), 2) := by decide +kernel
theorem dX8_lay_24 : decode cX8_lay 24 = .ok (.ireturn, 1) := by decide +kernel
theorem dX8_lay_25 : decode cX8_lay 25 = .ok (.aload_n 0, 1) := by decide +kernel
theorem dX8_lay_26 : decode cX8_lay 26 = .ok (.getfield 19, 3) := by decide +kernel
theorem dX8_lay_29 : decode cX8_lay 29 = .ok (.aload_n 0, 1) := by decide +kernel
theorem dX8_lay_30 : decode cX8_lay 30 = .ok (.getfield 10, 3) := by decide +kernel
theorem dX8_lay_33 : decode cX8_lay 33 = .ok (.getfield 84, 3) := by decide +kernel
theorem dX8_lay_36 : decode cX8_lay 36 = .ok (.invokevirtual 87, 3) := by decide +kernel
theorem dX8_lay_39 : decode cX8_lay 39 = .ok (.aload_n 0, 1) := by decide +kernel
theorem dX8_lay_40 : decode cX8_lay 40 = .ok (.getfield 33, 3) := by decide +kernel
theorem dX8_lay_43 : decode cX8_lay 43 = .ok (.invokevirtual 101, 3) := by decide +kernel
theorem dX8_lay_46 : decode cX8_lay 46 = .ok (.aload_n 0, 1) := by decide +kernel
theorem dX8_lay_47 : decode cX8_lay 47 = .ok (.iconst 0, 1) := by decide +kernel
theorem dX8_lay_48 : decode cX8_lay 48 = .ok (.putfield 102, 3) := by decide +kernel
theorem dX8_lay_51 : decode cX8_lay 51 = .ok (.aload_n 0, 1) := by decide +kernel
theorem dX8_lay_52 : decode cX8_lay 52 = .ok (.invokevirtual 105, 3) := by decide +kernel
theorem dX8_lay_55 : decode cX8_lay 55 = .ok (.aload_n 0, 1) := by decide +kernel
theorem dX8_lay_56 : decode cX8_lay 56 = .ok (.getfield 19, 3) := by decide +kernel
theorem dX8_lay_59 : decode cX8_lay 59 = .ok (.getfield 108, 3) := by decide +kernel
theorem dX8_lay_62 : decode cX8_lay 62 = .ok (.ireturn, 1) := by decide +kernel
set_option maxRecDepth 20000 in
theorem ggX8_function_X3_has : GoodIn wsX8_function wsX3_has := goodIn_r _ [9, 10, 22, 23, 24, 25, 26] (by decide +kernel) (by decide +kernel)
set_option maxRecDepth 20000 in
theorem gX8_function_X3_has : GoodIn wsX8_function (wsV RX8 111 RX3 yX3_has wsX3_has) := goodIn_app (goodIn_of _ (by decide +kernel)) ggX8_function_X3_has
theorem dX8_function_0 : decode cX8_function 0 = .ok (.aload_n 0, 1) := by decide +kernel
theorem dX8_function_1 : decode cX8_function 1 = .ok (.getfield 19, 3) := by decide +kernel
theorem dX8_function_4 : decode cX8_function 4 = .ok (.iload_n 1, 1) := by decide +kernel
theorem dX8_function_5 : decode cX8_function 5 = .ok (.invokevirtual 111, 3) := by decide +kernel
theorem dX8_function_8 : decode cX8_function 8 = .ok (.ifCond .ne 5, 3) := by decide +kernel
theorem dX8_function_11 : decode cX8_function 11 = .ok (.iconst (-1), 1) := by decide +kernel
theorem dX8_function_12 : decode cX8_function 12 = .ok (.ireturn, 1) := by decide +kernel
theorem dX8_function_13 : decode cX8_function 13 = .ok (.iload_n 2, 1) := by decide +kernel
theorem dX8_function_14 : decode cX8_function 14 = .ok (.tableswitch 56 0 2 #[26, 36, 46], 26) := by decide +kernel
theorem dX8_function_40 : decode cX8_function 40 = .ok (.aload_n 0, 1) := by decide +kernel
theorem dX8_function_41 : decode cX8_function 41 = .ok (.getfield 19, 3) := by decide +kernel
theorem dX8_function_44 : decode cX8_function 44 = .ok (.getfield 115, 3) := by decide +kernel
theorem dX8_function_47 : decode cX8_function 47 = .ok (.iload_n 1, 1) := by decide +kernel
theorem dX8_function_48 : decode cX8_function 48 = .ok (.iaload, 1) := by decide +kernel
theorem dX8_function_49 : decode cX8_function 49 = .ok (.ireturn, 1) := by decide +kernel
theorem dX8_function_50 : decode cX8_function 50 = .ok (.aload_n 0, 1) := by decide +kernel
theorem dX8_function_51 : decode cX8_function 51 = .ok (.getfield 19, 3) := by decide +kernel
theorem dX8_function_54 : decode cX8_function 54 = .ok (.getfield 119, 3) := by decide +kernel
theorem dX8_function_57 : decode cX8_function 57 = .ok (.iload_n 1, 1) := by decide +kernel
theorem dX8_function_58 : decode cX8_function 58 = .ok (.iaload, 1) := by decide +kernel
theorem dX8_function_59 : decode cX8_function 59 = .ok (.ireturn, 1) := by decide +kernel
theorem dX8_function_60 : decode cX8_function 60 = .ok (.aload_n 0, 1) := by decide +kernel
theorem dX8_function_61 : decode cX8_function 61 = .ok (.getfield 19, 3) := by decide +kernel
theorem dX8_function_64 : decode cX8_function 64 = .ok (.getfield 122, 3) := by decide +kernel
theorem dX8_function_67 : decode cX8_function 67 = .ok (.iload_n 1, 1) := by decide +kernel
theorem dX8_function_68 : decode cX8_function 68 = .ok (.iaload, 1) := by decide +kernel
theorem dX8_function_69 : decode cX8_function 69 = .ok (.ireturn, 1) := by decide +kernel
theorem dX8_function_70 : decode cX8_function 70 = .ok (.iconst (-1), 1) := by decide +kernel
theorem dX8_function_71 : decode cX8_function 71 = .ok (.ireturn, 1) := by decide +kernel
set_option maxRecDepth 20000 in
theorem ggX8_letter_X3_hasPlace : GoodIn wsX8_letter wsX3_hasPlace := goodIn_r _ [7, 8, 9, 10, 11, 6, 12, 13, 70, 71, 72, 73, 74] (by decide +kernel) (by decide +kernel)
set_option maxRecDepth 20000 in
theorem gX8_letter_X3_hasPlace : GoodIn wsX8_letter (wsV RX8 125 RX3 yX3_hasPlace wsX3_hasPlace) := goodIn_app (goodIn_of _ (by decide +kernel)) ggX8_letter_X3_hasPlace
set_option maxRecDepth 20000 in
theorem ggX8_letter_X2_signOf : GoodIn wsX8_letter wsX2_signOf := goodIn_r _ [17, 18, 19, 20, 21, 22, 23, 24, 25, 26, 27, 28, 29, 30, 31, 32, 33, 34, 35, 36, 37, 38, 39, 40, 41, 42, 43, 44, 45, 46, 47, 48, 49, 50, 51, 52, 53, 54, 55, 56, 57, 58] (by decide +kernel) (by decide +kernel)
set_option maxRecDepth 20000 in
theorem gX8_letter_X2_signOf : GoodIn wsX8_letter (va_wsS RX8 133 yX2_signOf wsX2_signOf) := goodIn_app (goodIn_of _ (by decide +kernel)) ggX8_letter_X2_signOf
theorem dX8_letter_0 : decode cX8_letter 0 = .ok (.aload_n 0, 1) := by decide +kernel
theorem dX8_letter_1 : decode cX8_letter 1 = .ok (.getfield 19, 3) := by decide +kernel
theorem dX8_letter_4 : decode cX8_letter 4 = .ok (.iload_n 1, 1) := by decide +kernel
theorem dX8_letter_5 : decode cX8_letter 5 = .ok (.iload_n 2, 1) := by decide +kernel
theorem dX8_letter_6 : decode cX8_letter 6 = .ok (.invokevirtual 125, 3) := by decide +kernel
theorem dX8_letter_9 : decode cX8_letter 9 = .ok (.ifCond .eq 20, 3) := by decide +kernel
theorem dX8_letter_12 : decode cX8_letter 12 = .ok (.aload_n 0, 1) := by decide +kernel
theorem dX8_letter_13 : decode cX8_letter 13 = .ok (.getfield 19, 3) := by decide +kernel
theorem dX8_letter_16 : decode cX8_letter 16 = .ok (.getfield 129, 3) := by decide +kernel
theorem dX8_letter_19 : decode cX8_letter 19 = .ok (.iload_n 1, 1) := by decide +kernel
theorem dX8_letter_20 : decode cX8_letter 20 = .ok (.aaload, 1) := by decide +kernel
theorem dX8_letter_21 : decode cX8_letter 21 = .ok (.iload_n 2, 1) := by decide +kernel
theorem dX8_letter_22 : decode cX8_letter 22 = .ok (.iaload, 1) := by decide +kernel
theorem dX8_letter_23 : decode cX8_letter 23 = .ok (.invokestatic 133, 3) := by decide +kernel
theorem dX8_letter_26 : decode cX8_letter 26 = .ok (.goto 4, 3) := by decide +kernel
theorem dX8_letter_29 : decode cX8_letter 29 = .ok (.iconst (-1), 1) := by decide +kernel
theorem dX8_letter_30 : decode cX8_letter 30 = .ok (.ireturn, 1) := by decide +kernel
set_option maxRecDepth 20000 in
theorem ggX8_put_X2_numberOf : GoodIn wsX8_put wsX2_numberOf := goodIn_r _ [7, 8, 9, 10, 11, 12, 13, 14, 15, 16, 17, 18, 19, 20, 21, 22, 23, 24, 25, 26, 27, 28, 29, 30, 31, 32, 33, 34, 35, 36, 37, 38, 39, 40, 41, 42, 43, 44, 45, 46, 47, 48, 49, 50, 51, 52, 53, 54, 55, 56, 57, 58, 59, 60, 61, 62, 63, 64, 65, 66, 67, 68, 69, 70, 71, 72, 73, 74, 75, 76, 77, 78, 79, 80, 81, 82, 83, 84, 85, 86, 87, 88, 89, 90, 91, 92, 93, 94, 95, 96] (by decide +kernel) (by decide +kernel)
set_option maxRecDepth 20000 in
theorem gX8_put_X2_numberOf : GoodIn wsX8_put (va_wsS RX8 139 yX2_numberOf wsX2_numberOf) := goodIn_app (goodIn_of _ (by decide +kernel)) ggX8_put_X2_numberOf
set_option maxRecDepth 20000 in
theorem ggX8_put_X3_hasPlace : GoodIn wsX8_put wsX3_hasPlace := goodIn_r _ [101, 102, 103, 104, 105, 100, 106, 107, 179, 180, 181, 182, 183] (by decide +kernel) (by decide +kernel)
set_option maxRecDepth 20000 in
theorem gX8_put_X3_hasPlace : GoodIn wsX8_put (wsV RX8 125 RX3 yX3_hasPlace wsX3_hasPlace) := goodIn_app (goodIn_of _ (by decide +kernel)) ggX8_put_X3_hasPlace
set_option maxRecDepth 20000 in
theorem ggX8_put_X3_fits : GoodIn wsX8_put wsX3_fits := goodIn_r _ [111, 112, 113, 98, 99, 100, 101, 102, 103, 104, 105, 106, 107, 114, 115, 116, 117, 118, 119, 120, 121, 122, 179, 180, 181, 182, 183] (by decide +kernel) (by decide +kernel)
set_option maxRecDepth 20000 in
theorem gX8_put_X3_fits : GoodIn wsX8_put (wsV RX8 142 RX3 yX3_fits wsX3_fits) := goodIn_app (goodIn_of _ (by decide +kernel)) ggX8_put_X3_fits
set_option maxRecDepth 20000 in
theorem ggX8_put_X1_add : GoodIn wsX8_put wsX1_add := goodIn_r _ [127, 128, 129, 130, 131, 132, 133, 134, 135, 184, 185, 186, 187] (by decide +kernel) (by decide +kernel)
set_option maxRecDepth 20000 in
theorem gX8_put_X1_add : GoodIn wsX8_put (wsV RX8 146 RX1 yX1_add wsX1_add) := goodIn_app (goodIn_of _ (by decide +kernel)) ggX8_put_X1_add
set_option maxRecDepth 20000 in
theorem ggX8_put_X8_forgetViews : GoodIn wsX8_put wsX8_forgetViews := goodIn_r _ [140, 141, 142, 143, 144, 168, 169, 170, 171, 172, 173, 174, 175, 176, 177, 178, 188, 189, 190, 191, 192, 193, 194, 195, 196, 197, 198, 199, 200, 201, 202, 203, 204, 205, 206, 207, 208, 209, 210, 211, 212, 213, 214, 215, 216, 217, 218, 219, 220, 221, 222, 223, 224, 225, 226] (by decide +kernel) (by decide +kernel)
set_option maxRecDepth 20000 in
theorem gX8_put_X8_forgetViews : GoodIn wsX8_put (wsV RX8 105 RX8 yX8_forgetViews wsX8_forgetViews) := goodIn_app (goodIn_of _ (by decide +kernel)) ggX8_put_X8_forgetViews
set_option maxRecDepth 20000 in
theorem ggX8_put_X2_signOf : GoodIn wsX8_put wsX2_signOf := goodIn_r _ [147, 148, 149, 150, 11, 151, 17, 18, 19, 20, 21, 22, 23, 152, 153, 34, 154, 155, 156, 157, 68, 158, 159, 71, 160, 161, 162, 51, 163, 164, 165, 166, 62, 63, 64, 167, 76, 77, 78, 79, 80, 81] (by decide +kernel) (by decide +kernel)
set_option maxRecDepth 20000 in
theorem gX8_put_X2_signOf : GoodIn wsX8_put (va_wsS RX8 133 yX2_signOf wsX2_signOf) := goodIn_app (goodIn_of _ (by decide +kernel)) ggX8_put_X2_signOf
theorem dX8_put_0 : decode cX8_put 0 = .ok (.iload_n 3, 1) := by decide +kernel
theorem dX8_put_1 : decode cX8_put 1 = .ok (.invokestatic 139, 3) := by decide +kernel
theorem dX8_put_4 : decode cX8_put 4 = .ok (.istore 4, 2) := by decide +kernel
theorem dX8_put_6 : decode cX8_put 6 = .ok (.aload_n 0, 1) := by decide +kernel
theorem dX8_put_7 : decode cX8_put 7 = .ok (.getfield 19, 3) := by decide +kernel
theorem dX8_put_10 : decode cX8_put 10 = .ok (.iload_n 1, 1) := by decide +kernel
theorem dX8_put_11 : decode cX8_put 11 = .ok (.iload_n 2, 1) := by decide +kernel
theorem dX8_put_12 : decode cX8_put 12 = .ok (.invokevirtual 125, 3) := by decide +kernel
theorem dX8_put_15 : decode cX8_put 15 = .ok (.ifCond .eq 17, 3) := by decide +kernel
theorem dX8_put_18 : decode cX8_put 18 = .ok (.aload_n 0, 1) := by decide +kernel
theorem dX8_put_19 : decode cX8_put 19 = .ok (.getfield 19, 3) := by decide +kernel
theorem dX8_put_22 : decode cX8_put 22 = .ok (.iload_n 1, 1) := by decide +kernel
theorem dX8_put_23 : decode cX8_put 23 = .ok (.iload_n 2, 1) := by decide +kernel
theorem dX8_put_24 : decode cX8_put 24 = .ok (.iload 4, 2) := by decide +kernel
theorem dX8_put_26 : decode cX8_put 26 = .ok (.invokevirtual 142, 3) := by decide +kernel
theorem dX8_put_29 : decode cX8_put 29 = .ok (.ifCond .ne 5, 3) := by decide +kernel
theorem dX8_put_32 : decode cX8_put 32 = .ok (.iconst (-1), 1) := by decide +kernel
theorem dX8_put_33 : decode cX8_put 33 = .ok (.ireturn, 1) := by decide +kernel
theorem dX8_put_34 : decode cX8_put 34 = .ok (.aload_n 0, 1) := by decide +kernel
theorem dX8_put_35 : decode cX8_put 35 = .ok (.getfield 19, 3) := by decide +kernel
theorem dX8_put_38 : decode cX8_put 38 = .ok (.getfield 129, 3) := by decide +kernel
theorem dX8_put_41 : decode cX8_put 41 = .ok (.iload_n 1, 1) := by decide +kernel
theorem dX8_put_42 : decode cX8_put 42 = .ok (.aaload, 1) := by decide +kernel
theorem dX8_put_43 : decode cX8_put 43 = .ok (.iload_n 2, 1) := by decide +kernel
theorem dX8_put_44 : decode cX8_put 44 = .ok (.iaload, 1) := by decide +kernel
theorem dX8_put_45 : decode cX8_put 45 = .ok (.istore 5, 2) := by decide +kernel
theorem dX8_put_47 : decode cX8_put 47 = .ok (.iload 5, 2) := by decide +kernel
theorem dX8_put_49 : decode cX8_put 49 = .ok (.iload 4, 2) := by decide +kernel
theorem dX8_put_51 : decode cX8_put 51 = .ok (.if_icmp .ne 6, 3) := by decide +kernel
theorem dX8_put_54 : decode cX8_put 54 = .ok (.bipush (-2), 2) := by decide +kernel
theorem dX8_put_56 : decode cX8_put 56 = .ok (.ireturn, 1) := by decide +kernel
theorem dX8_put_57 : decode cX8_put 57 = .ok (.aload_n 0, 1) := by decide +kernel
theorem dX8_put_58 : decode cX8_put 58 = .ok (.getfield 33, 3) := by decide +kernel
theorem dX8_put_61 : decode cX8_put 61 = .ok (.iload_n 1, 1) := by decide +kernel
theorem dX8_put_62 : decode cX8_put 62 = .ok (.iload_n 2, 1) := by decide +kernel
theorem dX8_put_63 : decode cX8_put 63 = .ok (.iload 5, 2) := by decide +kernel
theorem dX8_put_65 : decode cX8_put 65 = .ok (.invokevirtual 146, 3) := by decide +kernel
theorem dX8_put_68 : decode cX8_put 68 = .ok (.aload_n 0, 1) := by decide +kernel
theorem dX8_put_69 : decode cX8_put 69 = .ok (.getfield 19, 3) := by decide +kernel
theorem dX8_put_72 : decode cX8_put 72 = .ok (.getfield 129, 3) := by decide +kernel
theorem dX8_put_75 : decode cX8_put 75 = .ok (.iload_n 1, 1) := by decide +kernel
theorem dX8_put_76 : decode cX8_put 76 = .ok (.aaload, 1) := by decide +kernel
theorem dX8_put_77 : decode cX8_put 77 = .ok (.iload_n 2, 1) := by decide +kernel
theorem dX8_put_78 : decode cX8_put 78 = .ok (.iload 4, 2) := by decide +kernel
theorem dX8_put_80 : decode cX8_put 80 = .ok (.iastore, 1) := by decide +kernel
theorem dX8_put_81 : decode cX8_put 81 = .ok (.aload_n 0, 1) := by decide +kernel
theorem dX8_put_82 : decode cX8_put 82 = .ok (.invokevirtual 105, 3) := by decide +kernel
theorem dX8_put_85 : decode cX8_put 85 = .ok (.iload 5, 2) := by decide +kernel
theorem dX8_put_87 : decode cX8_put 87 = .ok (.invokestatic 133, 3) := by decide +kernel
theorem dX8_put_90 : decode cX8_put 90 = .ok (.ireturn, 1) := by decide +kernel
set_option maxRecDepth 20000 in
theorem ggX8_rename_X3_has : GoodIn wsX8_rename wsX3_has := goodIn_r _ [8, 9, 43, 44, 45, 46, 47] (by decide +kernel) (by decide +kernel)
set_option maxRecDepth 20000 in
theorem gX8_rename_X3_has : GoodIn wsX8_rename (wsV RX8 111 RX3 yX3_has wsX3_has) := goodIn_app (goodIn_of _ (by decide +kernel)) ggX8_rename_X3_has
set_option maxRecDepth 20000 in
theorem ggX8_rename_X1_add : GoodIn wsX8_rename wsX1_add := goodIn_r _ [14, 15, 16, 17, 18, 19, 20, 21, 22, 48, 49, 50, 51] (by decide +kernel) (by decide +kernel)
set_option maxRecDepth 20000 in
theorem gX8_rename_X1_add : GoodIn wsX8_rename (wsV RX8 146 RX1 yX1_add wsX1_add) := goodIn_app (goodIn_of _ (by decide +kernel)) ggX8_rename_X1_add
set_option maxRecDepth 20000 in
theorem ggX8_rename_X8_forgetViews : GoodIn wsX8_rename wsX8_forgetViews := goodIn_r _ [27, 28, 29, 30, 31, 32, 33, 34, 35, 36, 37, 38, 39, 40, 41, 42, 52, 53, 54, 55, 56, 57, 58, 59, 60, 61, 62, 63, 64, 65, 66, 67, 68, 69, 70, 71, 72, 73, 74, 75, 76, 77, 78, 79, 80, 81, 82, 83, 84, 85, 86, 87, 88, 89, 90] (by decide +kernel) (by decide +kernel)
set_option maxRecDepth 20000 in
theorem gX8_rename_X8_forgetViews : GoodIn wsX8_rename (wsV RX8 105 RX8 yX8_forgetViews wsX8_forgetViews) := goodIn_app (goodIn_of _ (by decide +kernel)) ggX8_rename_X8_forgetViews
theorem dX8_rename_0 : decode cX8_rename 0 = .ok (.aload_n 0, 1) := by decide +kernel
theorem dX8_rename_1 : decode cX8_rename 1 = .ok (.getfield 19, 3) := by decide +kernel
theorem dX8_rename_4 : decode cX8_rename 4 = .ok (.iload_n 1, 1) := by decide +kernel
theorem dX8_rename_5 : decode cX8_rename 5 = .ok (.invokevirtual 111, 3) := by decide +kernel
theorem dX8_rename_8 : decode cX8_rename 8 = .ok (.ifCond .eq 12, 3) := by decide +kernel
theorem dX8_rename_11 : decode cX8_rename 11 = .ok (.iload_n 2, 1) := by decide +kernel
theorem dX8_rename_12 : decode cX8_rename 12 = .ok (.ifCond .lt 8, 3) := by decide +kernel
theorem dX8_rename_15 : decode cX8_rename 15 = .ok (.iload_n 2, 1) := by decide +kernel
theorem dX8_rename_16 : decode cX8_rename 16 = .ok (.iconst 3, 1) := by decide +kernel
theorem dX8_rename_17 : decode cX8_rename 17 = .ok (.if_icmp .le 5, 3) := by decide +kernel
theorem dX8_rename_20 : decode cX8_rename 20 = .ok (.iconst (-1), 1) := by decide +kernel
theorem dX8_rename_21 : decode cX8_rename 21 = .ok (.ireturn, 1) := by decide +kernel
theorem dX8_rename_22 : decode cX8_rename 22 = .ok (.aload_n 0, 1) := by decide +kernel
theorem dX8_rename_23 : decode cX8_rename 23 = .ok (.getfield 19, 3) := by decide +kernel
theorem dX8_rename_26 : decode cX8_rename 26 = .ok (.getfield 115, 3) := by decide +kernel
theorem dX8_rename_29 : decode cX8_rename 29 = .ok (.iload_n 1, 1) := by decide +kernel
theorem dX8_rename_30 : decode cX8_rename 30 = .ok (.iaload, 1) := by decide +kernel
theorem dX8_rename_31 : decode cX8_rename 31 = .ok (.istore_n 3, 1) := by decide +kernel
theorem dX8_rename_32 : decode cX8_rename 32 = .ok (.iload_n 3, 1) := by decide +kernel
theorem dX8_rename_33 : decode cX8_rename 33 = .ok (.iload_n 2, 1) := by decide +kernel
theorem dX8_rename_34 : decode cX8_rename 34 = .ok (.if_icmp .ne 6, 3) := by decide +kernel
theorem dX8_rename_37 : decode cX8_rename 37 = .ok (.bipush (-2), 2) := by decide +kernel
theorem dX8_rename_39 : decode cX8_rename 39 = .ok (.ireturn, 1) := by decide +kernel
theorem dX8_rename_40 : decode cX8_rename 40 = .ok (.aload_n 0, 1) := by decide +kernel
theorem dX8_rename_41 : decode cX8_rename 41 = .ok (.getfield 33, 3) := by decide +kernel
theorem dX8_rename_44 : decode cX8_rename 44 = .ok (.iload_n 1, 1) := by decide +kernel
theorem dX8_rename_45 : decode cX8_rename 45 = .ok (.iconst (-1), 1) := by decide +kernel
theorem dX8_rename_46 : decode cX8_rename 46 = .ok (.iload_n 3, 1) := by decide +kernel
theorem dX8_rename_47 : decode cX8_rename 47 = .ok (.invokevirtual 146, 3) := by decide +kernel
theorem dX8_rename_50 : decode cX8_rename 50 = .ok (.aload_n 0, 1) := by decide +kernel
theorem dX8_rename_51 : decode cX8_rename 51 = .ok (.getfield 19, 3) := by decide +kernel
theorem dX8_rename_54 : decode cX8_rename 54 = .ok (.getfield 115, 3) := by decide +kernel
theorem dX8_rename_57 : decode cX8_rename 57 = .ok (.iload_n 1, 1) := by decide +kernel
theorem dX8_rename_58 : decode cX8_rename 58 = .ok (.iload_n 2, 1) := by decide +kernel
theorem dX8_rename_59 : decode cX8_rename 59 = .ok (.iastore, 1) := by decide +kernel
theorem dX8_rename_60 : decode cX8_rename 60 = .ok (.aload_n 0, 1) := by decide +kernel
theorem dX8_rename_61 : decode cX8_rename 61 = .ok (.invokevirtual 105, 3) := by decide +kernel
theorem dX8_rename_64 : decode cX8_rename 64 = .ok (.iload_n 3, 1) := by decide +kernel
theorem dX8_rename_65 : decode cX8_rename 65 = .ok (.ireturn, 1) := by decide +kernel
set_option maxRecDepth 20000 in
theorem ggX8_undo_X1_takeBack : GoodIn wsX8_undo wsX1_takeBack := goodIn_r _ [8, 9, 10, 11, 12, 13, 14, 15, 16, 17, 18, 19, 20, 21, 22, 23, 24, 25, 26, 47, 48, 49, 50, 51, 52, 53, 54, 55] (by decide +kernel) (by decide +kernel)
set_option maxRecDepth 20000 in
theorem gX8_undo_X1_takeBack : GoodIn wsX8_undo (wsV RX8 152 RX1 yX1_takeBack wsX1_takeBack) := goodIn_app (goodIn_of _ (by decide +kernel)) ggX8_undo_X1_takeBack
set_option maxRecDepth 20000 in
theorem ggX8_undo_X8_forgetViews : GoodIn wsX8_undo wsX8_forgetViews := goodIn_r _ [31, 32, 33, 34, 35, 36, 37, 38, 39, 40, 41, 42, 43, 44, 45, 46, 56, 57, 58, 59, 60, 61, 62, 63, 64, 65, 66, 67, 68, 69, 70, 71, 72, 73, 74, 75, 76, 77, 78, 79, 80, 81, 82, 83, 84, 85, 86, 87, 88, 89, 90, 91, 92, 93, 94] (by decide +kernel) (by decide +kernel)
set_option maxRecDepth 20000 in
theorem gX8_undo_X8_forgetViews : GoodIn wsX8_undo (wsV RX8 105 RX8 yX8_forgetViews wsX8_forgetViews) := goodIn_app (goodIn_of _ (by decide +kernel)) ggX8_undo_X8_forgetViews
theorem dX8_undo_0 : decode cX8_undo 0 = .ok (.aload_n 0, 1) := by decide +kernel
theorem dX8_undo_1 : decode cX8_undo 1 = .ok (.getfield 33, 3) := by decide +kernel
theorem dX8_undo_4 : decode cX8_undo 4 = .ok (.getfield 149, 3) := by decide +kernel
theorem dX8_undo_7 : decode cX8_undo 7 = .ok (.ifCond .ne 6, 3) := by decide +kernel
theorem dX8_undo_10 : decode cX8_undo 10 = .ok (.bipush (-2), 2) := by decide +kernel
theorem dX8_undo_12 : decode cX8_undo 12 = .ok (.ireturn, 1) := by decide +kernel
theorem dX8_undo_13 : decode cX8_undo 13 = .ok (.aload_n 0, 1) := by decide +kernel
theorem dX8_undo_14 : decode cX8_undo 14 = .ok (.getfield 33, 3) := by decide +kernel
theorem dX8_undo_17 : decode cX8_undo 17 = .ok (.aload_n 0, 1) := by decide +kernel
theorem dX8_undo_18 : decode cX8_undo 18 = .ok (.getfield 19, 3) := by decide +kernel
theorem dX8_undo_21 : decode cX8_undo 21 = .ok (.invokevirtual 152, 3) := by decide +kernel
theorem dX8_undo_24 : decode cX8_undo 24 = .ok (.aload_n 0, 1) := by decide +kernel
theorem dX8_undo_25 : decode cX8_undo 25 = .ok (.invokevirtual 105, 3) := by decide +kernel
theorem dX8_undo_28 : decode cX8_undo 28 = .ok (.aload_n 0, 1) := by decide +kernel
theorem dX8_undo_29 : decode cX8_undo 29 = .ok (.getfield 33, 3) := by decide +kernel
theorem dX8_undo_32 : decode cX8_undo 32 = .ok (.getfield 149, 3) := by decide +kernel
theorem dX8_undo_35 : decode cX8_undo 35 = .ok (.ireturn, 1) := by decide +kernel
set_option maxRecDepth 20000 in
theorem ggX8_value_X7_rowOf : GoodIn wsX8_value wsX7_rowOf := goodIn_r _ [8, 9, 10, 11, 12, 13, 14, 15, 16, 17, 18, 19, 7, 20, 21, 22, 23, 24, 25, 26, 27, 28, 29, 30, 31, 191, 192, 193, 194, 195, 196, 197, 198, 199, 200, 201, 202, 203, 204, 205, 206, 207, 208, 209, 210, 211, 212, 213, 214, 215, 216, 217, 218, 219, 220, 221, 222, 223, 224, 225, 226, 227, 228, 229, 230, 231, 232, 233, 234] (by decide +kernel) (by decide +kernel)
set_option maxRecDepth 20000 in
theorem gX8_value_X7_rowOf_u155X0 : GoodIn wsX8_value (va_wsU RX8 155 RX0 "EarlyValues$View" ⟨"EarlyValues$View", "rowOf", "(LEarlyValues$Program;IIII)I"⟩ yX7_rowOf wsX7_rowOf) := goodIn_app (goodIn_of _ (by decide +kernel)) ggX8_value_X7_rowOf
set_option maxRecDepth 20000 in
theorem gX8_value_X7_rowOf_u155X4 : GoodIn wsX8_value (va_wsU RX8 155 RX4 "EarlyValues$View" ⟨"EarlyValues$View", "rowOf", "(LEarlyValues$Program;IIII)I"⟩ yX7_rowOf wsX7_rowOf) := goodIn_app (goodIn_of _ (by decide +kernel)) ggX8_value_X7_rowOf
set_option maxRecDepth 20000 in
theorem gX8_value_X7_rowOf_u155X6 : GoodIn wsX8_value (va_wsU RX8 155 RX6 "EarlyValues$View" ⟨"EarlyValues$View", "rowOf", "(LEarlyValues$Program;IIII)I"⟩ yX7_rowOf wsX7_rowOf) := goodIn_app (goodIn_of _ (by decide +kernel)) ggX8_value_X7_rowOf
set_option maxRecDepth 20000 in
theorem ggX8_value_X8_solved : GoodIn wsX8_value wsX8_solved := goodIn_r _ [38, 39, 2, 40, 41, 42, 43, 7, 44, 45, 46, 47, 48, 49, 50, 51, 52, 53, 54, 55, 56, 57, 58, 59, 60, 61, 62, 63, 64, 65, 66, 24, 25, 26, 27, 28, 9, 29, 10, 11, 12, 13, 14, 15, 30, 31, 67, 68, 69, 70, 71, 72, 73, 74, 75, 76, 77, 78, 79, 80, 81, 82, 83, 84, 85, 86, 87, 88, 89, 90, 91, 92, 93, 94, 95, 96, 97, 98, 99, 100, 101, 102, 103, 104, 105, 106, 107, 108, 109, 110, 111, 112, 113, 114, 115, 116, 117, 118, 119, 120, 121, 122, 123, 124, 125, 126, 127, 128, 129, 130, 131, 132, 133, 134, 135, 136, 137, 138, 139, 140, 141, 142, 143, 144, 145, 146, 147, 148, 149, 150, 151, 152, 153, 154, 155, 156, 157, 158, 159, 160, 161, 162, 163, 164, 165, 166, 167, 168, 169, 170, 171, 172, 173, 174, 175, 176, 177, 178, 191, 192, 193, 194, 195, 196, 197, 198, 199, 200, 201, 202, 203, 204, 205, 206, 207, 208, 209, 210, 211, 212, 213, 214, 215, 216, 217, 218, 219, 220, 221, 222, 223, 224, 225, 226, 227, 228, 229, 180, 181, 182, 183, 184, 185, 186, 187, 188, 189, 190, 230, 231, 232, 233, 234] (by decide +kernel) (by decide +kernel)
set_option maxRecDepth 20000 in
theorem gX8_value_X8_solved : GoodIn wsX8_value (wsV RX8 161 RX8 yX8_solved wsX8_solved) := goodIn_app (goodIn_of _ (by decide +kernel)) ggX8_value_X8_solved
set_option maxRecDepth 20000 in
theorem ggX8_value_X7_at : GoodIn wsX8_value wsX7_at := goodIn_r _ [71, 52, 53, 191, 192, 193, 194, 195, 196, 197, 198, 199, 200, 201, 202, 203, 204, 205, 206, 207, 208, 209, 210, 211, 212, 213, 214, 215, 216, 217, 218, 219, 220, 221, 222, 223, 224, 225, 226, 227, 228, 229] (by decide +kernel) (by decide +kernel)
set_option maxRecDepth 20000 in
theorem gX8_value_X7_at_u165X0 : GoodIn wsX8_value (va_wsU RX8 165 RX0 "EarlyValues$View" ⟨"EarlyValues$View", "at", "(II)I"⟩ yX7_at wsX7_at) := goodIn_app (goodIn_of _ (by decide +kernel)) ggX8_value_X7_at
set_option maxRecDepth 20000 in
theorem gX8_value_X7_at_u165X4 : GoodIn wsX8_value (va_wsU RX8 165 RX4 "EarlyValues$View" ⟨"EarlyValues$View", "at", "(II)I"⟩ yX7_at wsX7_at) := goodIn_app (goodIn_of _ (by decide +kernel)) ggX8_value_X7_at
set_option maxRecDepth 20000 in
theorem gX8_value_X7_at_u165X6 : GoodIn wsX8_value (va_wsU RX8 165 RX6 "EarlyValues$View" ⟨"EarlyValues$View", "at", "(II)I"⟩ yX7_at wsX7_at) := goodIn_app (goodIn_of _ (by decide +kernel)) ggX8_value_X7_at
theorem dX8_value_0 : decode cX8_value 0 = .ok (.aload_n 0, 1) := by decide +kernel
theorem dX8_value_1 : decode cX8_value 1 = .ok (.getfield 40, 3) := by decide +kernel
theorem dX8_value_4 : decode cX8_value 4 = .ok (.aload_n 0, 1) := by decide +kernel
theorem dX8_value_5 : decode cX8_value 5 = .ok (.getfield 19, 3) := by decide +kernel
theorem dX8_value_8 : decode cX8_value 8 = .ok (.iload_n 1, 1) := by decide +kernel
theorem dX8_value_9 : decode cX8_value 9 = .ok (.iload_n 2, 1) := by decide +kernel
theorem dX8_value_10 : decode cX8_value 10 = .ok (.iload_n 3, 1) := by decide +kernel
theorem dX8_value_11 : decode cX8_value 11 = .ok (.iload 4, 2) := by decide +kernel
theorem dX8_value_13 : decode cX8_value 13 = .ok (.invokevirtual 155, 3) := by decide +kernel
theorem dX8_value_16 : decode cX8_value 16 = .ok (.istore 5, 2) := by decide +kernel
theorem dX8_value_18 : decode cX8_value 18 = .ok (.iload 5, 2) := by decide +kernel
theorem dX8_value_20 : decode cX8_value 20 = .ok (.ifCond .ge 7, 3) := by decide +kernel
theorem dX8_value_23 : decode cX8_value 23 = .ok (.iconst (-1), 1) := by decide +kernel
theorem dX8_value_24 : decode cX8_value 24 = .ok (.goto 17, 3) := by decide +kernel
theorem dX8_value_27 : decode cX8_value 27 = .ok (.aload_n 0, 1) := by decide +kernel
theorem dX8_value_28 : decode cX8_value 28 = .ok (.aload_n 0, 1) := by decide +kernel
theorem dX8_value_29 : decode cX8_value 29 = .ok (.getfield 40, 3) := by decide +kernel
theorem dX8_value_32 : decode cX8_value 32 = .ok (.invokevirtual 161, 3) := by decide +kernel
theorem dX8_value_35 : decode cX8_value 35 = .ok (.iload_n 1, 1) := by decide +kernel
theorem dX8_value_36 : decode cX8_value 36 = .ok (.iload 5, 2) := by decide +kernel
theorem dX8_value_38 : decode cX8_value 38 = .ok (.invokevirtual 165, 3) := by decide +kernel
theorem dX8_value_41 : decode cX8_value 41 = .ok (.ireturn, 1) := by decide +kernel
set_option maxRecDepth 20000 in
theorem ggX8_rough_X3_has : GoodIn wsX8_rough wsX3_has := goodIn_r _ [7, 8, 178, 179, 180, 181, 182] (by decide +kernel) (by decide +kernel)
set_option maxRecDepth 20000 in
theorem gX8_rough_X3_has : GoodIn wsX8_rough (wsV RX8 111 RX3 yX3_has wsX3_has) := goodIn_app (goodIn_of _ (by decide +kernel)) ggX8_rough_X3_has
set_option maxRecDepth 20000 in
theorem ggX8_rough_X7_rowsOf : GoodIn wsX8_rough wsX7_rowsOf := goodIn_r _ [14, 15, 16, 17, 4, 5, 6, 7, 8, 183, 184, 185, 186, 187, 188, 189, 190, 191, 192, 193, 194, 195, 196, 197, 198, 199, 200, 201, 202, 203, 204, 205, 206, 207, 208, 209, 210, 211, 212, 213, 214, 215, 216, 217, 218, 219, 220, 221, 178, 179, 180, 181, 182] (by decide +kernel) (by decide +kernel)
set_option maxRecDepth 20000 in
theorem gX8_rough_X7_rowsOf_u169X0 : GoodIn wsX8_rough (va_wsU RX8 169 RX0 "EarlyValues$View" ⟨"EarlyValues$View", "rowsOf", "(LEarlyValues$Program;I)I"⟩ yX7_rowsOf wsX7_rowsOf) := goodIn_app (goodIn_of _ (by decide +kernel)) ggX8_rough_X7_rowsOf
set_option maxRecDepth 20000 in
theorem gX8_rough_X7_rowsOf_u169X4 : GoodIn wsX8_rough (va_wsU RX8 169 RX4 "EarlyValues$View" ⟨"EarlyValues$View", "rowsOf", "(LEarlyValues$Program;I)I"⟩ yX7_rowsOf wsX7_rowsOf) := goodIn_app (goodIn_of _ (by decide +kernel)) ggX8_rough_X7_rowsOf
set_option maxRecDepth 20000 in
theorem gX8_rough_X7_rowsOf_u169X6 : GoodIn wsX8_rough (va_wsU RX8 169 RX6 "EarlyValues$View" ⟨"EarlyValues$View", "rowsOf", "(LEarlyValues$Program;I)I"⟩ yX7_rowsOf wsX7_rowsOf) := goodIn_app (goodIn_of _ (by decide +kernel)) ggX8_rough_X7_rowsOf
set_option maxRecDepth 20000 in
theorem ggX8_rough_X8_solved : GoodIn wsX8_rough wsX8_solved := goodIn_r _ [24, 25, 1, 26, 27, 28, 29, 13, 30, 31, 32, 33, 34, 35, 36, 37, 38, 39, 40, 41, 42, 43, 44, 45, 46, 47, 48, 49, 50, 51, 52, 53, 10, 11, 12, 14, 15, 16, 17, 4, 5, 6, 7, 8, 18, 19, 54, 55, 56, 57, 58, 59, 60, 61, 62, 63, 64, 65, 66, 67, 68, 69, 70, 71, 72, 73, 74, 75, 76, 77, 78, 79, 80, 81, 82, 83, 84, 85, 86, 87, 88, 89, 90, 91, 92, 93, 94, 95, 96, 97, 98, 99, 100, 101, 102, 103, 104, 105, 106, 107, 108, 109, 110, 111, 112, 113, 114, 115, 116, 117, 118, 119, 120, 121, 122, 123, 124, 125, 126, 127, 128, 129, 130, 131, 132, 133, 134, 135, 136, 137, 138, 139, 140, 141, 142, 143, 144, 145, 146, 147, 148, 149, 150, 151, 152, 153, 154, 155, 156, 157, 158, 159, 160, 161, 162, 163, 164, 165, 183, 184, 185, 186, 187, 188, 189, 190, 191, 192, 193, 194, 195, 196, 197, 198, 199, 200, 201, 202, 203, 204, 205, 206, 207, 208, 209, 210, 211, 212, 213, 214, 215, 216, 217, 218, 219, 220, 221, 167, 168, 169, 170, 171, 172, 173, 174, 175, 176, 177, 178, 179, 180, 181, 182] (by decide +kernel) (by decide +kernel)
set_option maxRecDepth 20000 in
theorem gX8_rough_X8_solved : GoodIn wsX8_rough (wsV RX8 161 RX8 yX8_solved wsX8_solved) := goodIn_app (goodIn_of _ (by decide +kernel)) ggX8_rough_X8_solved
set_option maxRecDepth 20000 in
theorem ggX8_rough_X7_at : GoodIn wsX8_rough wsX7_at := goodIn_r _ [58, 38, 39, 183, 184, 185, 186, 187, 188, 189, 190, 191, 192, 193, 194, 195, 196, 197, 198, 199, 200, 201, 202, 203, 204, 205, 206, 207, 208, 209, 210, 211, 212, 213, 214, 215, 216, 217, 218, 219, 220, 221] (by decide +kernel) (by decide +kernel)
set_option maxRecDepth 20000 in
theorem gX8_rough_X7_at_u165X0 : GoodIn wsX8_rough (va_wsU RX8 165 RX0 "EarlyValues$View" ⟨"EarlyValues$View", "at", "(II)I"⟩ yX7_at wsX7_at) := goodIn_app (goodIn_of _ (by decide +kernel)) ggX8_rough_X7_at
set_option maxRecDepth 20000 in
theorem gX8_rough_X7_at_u165X4 : GoodIn wsX8_rough (va_wsU RX8 165 RX4 "EarlyValues$View" ⟨"EarlyValues$View", "at", "(II)I"⟩ yX7_at wsX7_at) := goodIn_app (goodIn_of _ (by decide +kernel)) ggX8_rough_X7_at
set_option maxRecDepth 20000 in
theorem gX8_rough_X7_at_u165X6 : GoodIn wsX8_rough (va_wsU RX8 165 RX6 "EarlyValues$View" ⟨"EarlyValues$View", "at", "(II)I"⟩ yX7_at wsX7_at) := goodIn_app (goodIn_of _ (by decide +kernel)) ggX8_rough_X7_at
theorem dX8_rough_0 : decode cX8_rough 0 = .ok (.aload_n 0, 1) := by decide +kernel
theorem dX8_rough_1 : decode cX8_rough 1 = .ok (.getfield 19, 3) := by decide +kernel
theorem dX8_rough_4 : decode cX8_rough 4 = .ok (.iload_n 1, 1) := by decide +kernel
theorem dX8_rough_5 : decode cX8_rough 5 = .ok (.invokevirtual 111, 3) := by decide +kernel
theorem dX8_rough_8 : decode cX8_rough 8 = .ok (.ifCond .eq 23, 3) := by decide +kernel
theorem dX8_rough_11 : decode cX8_rough 11 = .ok (.iload_n 2, 1) := by decide +kernel
theorem dX8_rough_12 : decode cX8_rough 12 = .ok (.ifCond .lt 19, 3) := by decide +kernel
theorem dX8_rough_15 : decode cX8_rough 15 = .ok (.iload_n 2, 1) := by decide +kernel
theorem dX8_rough_16 : decode cX8_rough 16 = .ok (.aload_n 0, 1) := by decide +kernel
theorem dX8_rough_17 : decode cX8_rough 17 = .ok (.getfield 47, 3) := by decide +kernel
theorem dX8_rough_20 : decode cX8_rough 20 = .ok (.aload_n 0, 1) := by decide +kernel
theorem dX8_rough_21 : decode cX8_rough 21 = .ok (.getfield 19, 3) := by decide +kernel
theorem dX8_rough_24 : decode cX8_rough 24 = .ok (.iload_n 1, 1) := by decide +kernel
theorem dX8_rough_25 : decode cX8_rough 25 = .ok (.invokevirtual 169, 3) := by decide +kernel
theorem dX8_rough_28 : decode cX8_rough 28 = .ok (.if_icmp .lt 5, 3) := by decide +kernel
theorem dX8_rough_31 : decode cX8_rough 31 = .ok (.iconst (-1), 1) := by decide +kernel
theorem dX8_rough_32 : decode cX8_rough 32 = .ok (.ireturn, 1) := by decide +kernel
theorem dX8_rough_33 : decode cX8_rough 33 = .ok (.aload_n 0, 1) := by decide +kernel
theorem dX8_rough_34 : decode cX8_rough 34 = .ok (.aload_n 0, 1) := by decide +kernel
theorem dX8_rough_35 : decode cX8_rough 35 = .ok (.getfield 47, 3) := by decide +kernel
theorem dX8_rough_38 : decode cX8_rough 38 = .ok (.invokevirtual 161, 3) := by decide +kernel
theorem dX8_rough_41 : decode cX8_rough 41 = .ok (.iload_n 1, 1) := by decide +kernel
theorem dX8_rough_42 : decode cX8_rough 42 = .ok (.iload_n 2, 1) := by decide +kernel
theorem dX8_rough_43 : decode cX8_rough 43 = .ok (.invokevirtual 165, 3) := by decide +kernel
theorem dX8_rough_46 : decode cX8_rough 46 = .ok (.ireturn, 1) := by decide +kernel
set_option maxRecDepth 20000 in
theorem ggX8_fine_X7_rowOf : GoodIn wsX8_fine wsX7_rowOf := goodIn_r _ [8, 9, 10, 11, 12, 13, 14, 15, 16, 17, 18, 19, 7, 20, 21, 22, 23, 24, 25, 26, 27, 28, 29, 30, 31, 191, 192, 193, 194, 195, 196, 197, 198, 199, 200, 201, 202, 203, 204, 205, 206, 207, 208, 209, 210, 211, 212, 213, 214, 215, 216, 217, 218, 219, 220, 221, 222, 223, 224, 225, 226, 227, 228, 229, 230, 231, 232, 233, 234] (by decide +kernel) (by decide +kernel)
set_option maxRecDepth 20000 in
theorem gX8_fine_X7_rowOf_u155X0 : GoodIn wsX8_fine (va_wsU RX8 155 RX0 "EarlyValues$View" ⟨"EarlyValues$View", "rowOf", "(LEarlyValues$Program;IIII)I"⟩ yX7_rowOf wsX7_rowOf) := goodIn_app (goodIn_of _ (by decide +kernel)) ggX8_fine_X7_rowOf
set_option maxRecDepth 20000 in
theorem gX8_fine_X7_rowOf_u155X4 : GoodIn wsX8_fine (va_wsU RX8 155 RX4 "EarlyValues$View" ⟨"EarlyValues$View", "rowOf", "(LEarlyValues$Program;IIII)I"⟩ yX7_rowOf wsX7_rowOf) := goodIn_app (goodIn_of _ (by decide +kernel)) ggX8_fine_X7_rowOf
set_option maxRecDepth 20000 in
theorem gX8_fine_X7_rowOf_u155X6 : GoodIn wsX8_fine (va_wsU RX8 155 RX6 "EarlyValues$View" ⟨"EarlyValues$View", "rowOf", "(LEarlyValues$Program;IIII)I"⟩ yX7_rowOf wsX7_rowOf) := goodIn_app (goodIn_of _ (by decide +kernel)) ggX8_fine_X7_rowOf
set_option maxRecDepth 20000 in
theorem ggX8_fine_X8_solved : GoodIn wsX8_fine wsX8_solved := goodIn_r _ [38, 39, 2, 40, 41, 42, 43, 7, 44, 45, 46, 47, 48, 49, 50, 51, 52, 53, 54, 55, 56, 57, 58, 59, 60, 61, 62, 63, 64, 65, 66, 24, 25, 26, 27, 28, 9, 29, 10, 11, 12, 13, 14, 15, 30, 31, 67, 68, 69, 70, 71, 72, 73, 74, 75, 76, 77, 78, 79, 80, 81, 82, 83, 84, 85, 86, 87, 88, 89, 90, 91, 92, 93, 94, 95, 96, 97, 98, 99, 100, 101, 102, 103, 104, 105, 106, 107, 108, 109, 110, 111, 112, 113, 114, 115, 116, 117, 118, 119, 120, 121, 122, 123, 124, 125, 126, 127, 128, 129, 130, 131, 132, 133, 134, 135, 136, 137, 138, 139, 140, 141, 142, 143, 144, 145, 146, 147, 148, 149, 150, 151, 152, 153, 154, 155, 156, 157, 158, 159, 160, 161, 162, 163, 164, 165, 166, 167, 168, 169, 170, 171, 172, 173, 174, 175, 176, 177, 178, 191, 192, 193, 194, 195, 196, 197, 198, 199, 200, 201, 202, 203, 204, 205, 206, 207, 208, 209, 210, 211, 212, 213, 214, 215, 216, 217, 218, 219, 220, 221, 222, 223, 224, 225, 226, 227, 228, 229, 180, 181, 182, 183, 184, 185, 186, 187, 188, 189, 190, 230, 231, 232, 233, 234] (by decide +kernel) (by decide +kernel)
set_option maxRecDepth 20000 in
theorem gX8_fine_X8_solved : GoodIn wsX8_fine (wsV RX8 161 RX8 yX8_solved wsX8_solved) := goodIn_app (goodIn_of _ (by decide +kernel)) ggX8_fine_X8_solved
set_option maxRecDepth 20000 in
theorem ggX8_fine_X7_at : GoodIn wsX8_fine wsX7_at := goodIn_r _ [71, 52, 53, 191, 192, 193, 194, 195, 196, 197, 198, 199, 200, 201, 202, 203, 204, 205, 206, 207, 208, 209, 210, 211, 212, 213, 214, 215, 216, 217, 218, 219, 220, 221, 222, 223, 224, 225, 226, 227, 228, 229] (by decide +kernel) (by decide +kernel)
set_option maxRecDepth 20000 in
theorem gX8_fine_X7_at_u165X0 : GoodIn wsX8_fine (va_wsU RX8 165 RX0 "EarlyValues$View" ⟨"EarlyValues$View", "at", "(II)I"⟩ yX7_at wsX7_at) := goodIn_app (goodIn_of _ (by decide +kernel)) ggX8_fine_X7_at
set_option maxRecDepth 20000 in
theorem gX8_fine_X7_at_u165X4 : GoodIn wsX8_fine (va_wsU RX8 165 RX4 "EarlyValues$View" ⟨"EarlyValues$View", "at", "(II)I"⟩ yX7_at wsX7_at) := goodIn_app (goodIn_of _ (by decide +kernel)) ggX8_fine_X7_at
set_option maxRecDepth 20000 in
theorem gX8_fine_X7_at_u165X6 : GoodIn wsX8_fine (va_wsU RX8 165 RX6 "EarlyValues$View" ⟨"EarlyValues$View", "at", "(II)I"⟩ yX7_at wsX7_at) := goodIn_app (goodIn_of _ (by decide +kernel)) ggX8_fine_X7_at
theorem dX8_fine_0 : decode cX8_fine 0 = .ok (.aload_n 0, 1) := by decide +kernel
theorem dX8_fine_1 : decode cX8_fine 1 = .ok (.getfield 53, 3) := by decide +kernel
theorem dX8_fine_4 : decode cX8_fine 4 = .ok (.aload_n 0, 1) := by decide +kernel
theorem dX8_fine_5 : decode cX8_fine 5 = .ok (.getfield 19, 3) := by decide +kernel
theorem dX8_fine_8 : decode cX8_fine 8 = .ok (.iload_n 1, 1) := by decide +kernel
theorem dX8_fine_9 : decode cX8_fine 9 = .ok (.iload_n 2, 1) := by decide +kernel
theorem dX8_fine_10 : decode cX8_fine 10 = .ok (.iload_n 3, 1) := by decide +kernel
theorem dX8_fine_11 : decode cX8_fine 11 = .ok (.iload 4, 2) := by decide +kernel
theorem dX8_fine_13 : decode cX8_fine 13 = .ok (.invokevirtual 155, 3) := by decide +kernel
theorem dX8_fine_16 : decode cX8_fine 16 = .ok (.istore 5, 2) := by decide +kernel
theorem dX8_fine_18 : decode cX8_fine 18 = .ok (.iload 5, 2) := by decide +kernel
theorem dX8_fine_20 : decode cX8_fine 20 = .ok (.ifCond .ge 7, 3) := by decide +kernel
theorem dX8_fine_23 : decode cX8_fine 23 = .ok (.iconst (-1), 1) := by decide +kernel
theorem dX8_fine_24 : decode cX8_fine 24 = .ok (.goto 17, 3) := by decide +kernel
theorem dX8_fine_27 : decode cX8_fine 27 = .ok (.aload_n 0, 1) := by decide +kernel
theorem dX8_fine_28 : decode cX8_fine 28 = .ok (.aload_n 0, 1) := by decide +kernel
theorem dX8_fine_29 : decode cX8_fine 29 = .ok (.getfield 53, 3) := by decide +kernel
theorem dX8_fine_32 : decode cX8_fine 32 = .ok (.invokevirtual 161, 3) := by decide +kernel
theorem dX8_fine_35 : decode cX8_fine 35 = .ok (.iload_n 1, 1) := by decide +kernel
theorem dX8_fine_36 : decode cX8_fine 36 = .ok (.iload 5, 2) := by decide +kernel
theorem dX8_fine_38 : decode cX8_fine 38 = .ok (.invokevirtual 165, 3) := by decide +kernel
theorem dX8_fine_41 : decode cX8_fine 41 = .ok (.ireturn, 1) := by decide +kernel
set_option maxRecDepth 20000 in
theorem ggX8_rounds_X8_solved : GoodIn wsX8_rounds wsX8_solved := goodIn_r _ [9, 10, 11, 12, 13, 14, 15, 16, 17, 18, 19, 20, 21, 22, 23, 24, 25, 26, 27, 28, 29, 30, 31, 32, 33, 34, 35, 36, 37, 38, 39, 40, 41, 42, 43, 44, 45, 46, 47, 48, 49, 50, 51, 52, 53, 54, 55, 56, 57, 58, 59, 60, 61, 62, 63, 64, 65, 66, 67, 68, 69, 70, 71, 72, 73, 74, 75, 76, 77, 78, 79, 80, 81, 82, 83, 84, 85, 86, 87, 88, 89, 90, 91, 92, 93, 94, 95, 96, 97, 98, 99, 100, 101, 102, 103, 104, 105, 106, 107, 108, 109, 110, 111, 112, 113, 114, 115, 116, 117, 118, 119, 120, 121, 122, 123, 124, 125, 126, 127, 128, 129, 130, 131, 132, 133, 134, 135, 136, 137, 138, 139, 140, 141, 142, 143, 144, 145, 146, 147, 148, 149, 150, 151, 152, 153, 154, 155, 156, 157, 158, 159, 160, 161, 162, 163, 164, 165, 166, 178, 179, 180, 181, 182, 183, 184, 185, 186, 187, 188, 189, 190, 191, 192, 193, 194, 195, 196, 197, 198, 199, 200, 201, 202, 203, 204, 205, 206, 207, 208, 209, 210, 211, 212, 213, 214, 215, 216, 167, 168, 169, 170, 171, 172, 173, 174, 175, 176, 177, 217, 218, 219, 220, 221] (by decide +kernel) (by decide +kernel)
set_option maxRecDepth 20000 in
theorem gX8_rounds_X8_solved : GoodIn wsX8_rounds (wsV RX8 161 RX8 yX8_solved wsX8_solved) := goodIn_app (goodIn_of _ (by decide +kernel)) ggX8_rounds_X8_solved
theorem dX8_rounds_0 : decode cX8_rounds 0 = .ok (.iload_n 1, 1) := by decide +kernel
theorem dX8_rounds_1 : decode cX8_rounds 1 = .ok (.tableswitch 63 0 2 #[27, 39, 51], 27) := by decide +kernel
theorem dX8_rounds_28 : decode cX8_rounds 28 = .ok (.aload_n 0, 1) := by decide +kernel
theorem dX8_rounds_29 : decode cX8_rounds 29 = .ok (.aload_n 0, 1) := by decide +kernel
theorem dX8_rounds_30 : decode cX8_rounds 30 = .ok (.getfield 40, 3) := by decide +kernel
theorem dX8_rounds_33 : decode cX8_rounds 33 = .ok (.invokevirtual 161, 3) := by decide +kernel
theorem dX8_rounds_36 : decode cX8_rounds 36 = .ok (.getfield 173, 3) := by decide +kernel
theorem dX8_rounds_39 : decode cX8_rounds 39 = .ok (.ireturn, 1) := by decide +kernel
theorem dX8_rounds_40 : decode cX8_rounds 40 = .ok (.aload_n 0, 1) := by decide +kernel
theorem dX8_rounds_41 : decode cX8_rounds 41 = .ok (.aload_n 0, 1) := by decide +kernel
theorem dX8_rounds_42 : decode cX8_rounds 42 = .ok (.getfield 47, 3) := by decide +kernel
theorem dX8_rounds_45 : decode cX8_rounds 45 = .ok (.invokevirtual 161, 3) := by decide +kernel
theorem dX8_rounds_48 : decode cX8_rounds 48 = .ok (.getfield 173, 3) := by decide +kernel
theorem dX8_rounds_51 : decode cX8_rounds 51 = .ok (.ireturn, 1) := by decide +kernel
theorem dX8_rounds_52 : decode cX8_rounds 52 = .ok (.aload_n 0, 1) := by decide +kernel
theorem dX8_rounds_53 : decode cX8_rounds 53 = .ok (.aload_n 0, 1) := by decide +kernel
theorem dX8_rounds_54 : decode cX8_rounds 54 = .ok (.getfield 53, 3) := by decide +kernel
theorem dX8_rounds_57 : decode cX8_rounds 57 = .ok (.invokevirtual 161, 3) := by decide +kernel
theorem dX8_rounds_60 : decode cX8_rounds 60 = .ok (.getfield 173, 3) := by decide +kernel
theorem dX8_rounds_63 : decode cX8_rounds 63 = .ok (.ireturn, 1) := by decide +kernel
theorem dX8_rounds_64 : decode cX8_rounds 64 = .ok (.iconst (-1), 1) := by decide +kernel
theorem dX8_rounds_65 : decode cX8_rounds 65 = .ok (.ireturn, 1) := by decide +kernel
set_option maxRecDepth 20000 in
theorem ggX8_frontier_X3_has : GoodIn wsX8_frontier wsX3_has := goodIn_r _ [7, 8, 182, 183, 184, 185, 186] (by decide +kernel) (by decide +kernel)
set_option maxRecDepth 20000 in
theorem gX8_frontier_X3_has : GoodIn wsX8_frontier (wsV RX8 111 RX3 yX3_has wsX3_has) := goodIn_app (goodIn_of _ (by decide +kernel)) ggX8_frontier_X3_has
set_option maxRecDepth 20000 in
theorem ggX8_frontier_X8_solved : GoodIn wsX8_frontier wsX8_solved := goodIn_r _ [13, 14, 1, 15, 16, 17, 18, 19, 20, 21, 22, 23, 24, 25, 26, 27, 28, 29, 30, 31, 32, 33, 34, 35, 36, 37, 38, 39, 40, 41, 42, 43, 44, 45, 46, 47, 48, 49, 50, 4, 5, 6, 7, 8, 51, 52, 53, 54, 55, 56, 57, 58, 59, 60, 61, 62, 63, 64, 65, 66, 67, 68, 69, 70, 71, 72, 73, 74, 75, 76, 77, 78, 79, 80, 81, 82, 83, 84, 85, 86, 87, 88, 89, 90, 91, 92, 93, 94, 95, 96, 97, 98, 99, 100, 101, 102, 103, 104, 105, 106, 107, 108, 109, 110, 111, 112, 113, 114, 115, 116, 117, 118, 119, 120, 121, 122, 123, 124, 125, 126, 127, 128, 129, 130, 131, 132, 133, 134, 135, 136, 137, 138, 139, 140, 141, 142, 143, 144, 145, 146, 147, 148, 149, 150, 151, 152, 153, 154, 155, 156, 157, 158, 159, 160, 161, 162, 163, 164, 187, 188, 189, 190, 191, 192, 193, 194, 195, 196, 197, 198, 199, 200, 201, 202, 203, 204, 205, 206, 207, 208, 209, 210, 211, 212, 213, 214, 215, 216, 217, 218, 219, 220, 221, 222, 223, 224, 225, 171, 172, 173, 174, 175, 176, 177, 178, 179, 180, 181, 182, 183, 184, 185, 186] (by decide +kernel) (by decide +kernel)
set_option maxRecDepth 20000 in
theorem gX8_frontier_X8_solved : GoodIn wsX8_frontier (wsV RX8 161 RX8 yX8_solved wsX8_solved) := goodIn_app (goodIn_of _ (by decide +kernel)) ggX8_frontier_X8_solved
set_option maxRecDepth 20000 in
theorem ggX8_frontier_X7_rowsOf : GoodIn wsX8_frontier wsX7_rowsOf := goodIn_r _ [47, 48, 49, 50, 4, 5, 6, 7, 8, 187, 188, 189, 190, 191, 192, 193, 194, 195, 196, 197, 198, 199, 200, 201, 202, 203, 204, 205, 206, 207, 208, 209, 210, 211, 212, 213, 214, 215, 216, 217, 218, 219, 220, 221, 222, 223, 224, 225, 182, 183, 184, 185, 186] (by decide +kernel) (by decide +kernel)
set_option maxRecDepth 20000 in
theorem gX8_frontier_X7_rowsOf_u169X0 : GoodIn wsX8_frontier (va_wsU RX8 169 RX0 "EarlyValues$View" ⟨"EarlyValues$View", "rowsOf", "(LEarlyValues$Program;I)I"⟩ yX7_rowsOf wsX7_rowsOf) := goodIn_app (goodIn_of _ (by decide +kernel)) ggX8_frontier_X7_rowsOf
set_option maxRecDepth 20000 in
theorem gX8_frontier_X7_rowsOf_u169X4 : GoodIn wsX8_frontier (va_wsU RX8 169 RX4 "EarlyValues$View" ⟨"EarlyValues$View", "rowsOf", "(LEarlyValues$Program;I)I"⟩ yX7_rowsOf wsX7_rowsOf) := goodIn_app (goodIn_of _ (by decide +kernel)) ggX8_frontier_X7_rowsOf
set_option maxRecDepth 20000 in
theorem gX8_frontier_X7_rowsOf_u169X6 : GoodIn wsX8_frontier (va_wsU RX8 169 RX6 "EarlyValues$View" ⟨"EarlyValues$View", "rowsOf", "(LEarlyValues$Program;I)I"⟩ yX7_rowsOf wsX7_rowsOf) := goodIn_app (goodIn_of _ (by decide +kernel)) ggX8_frontier_X7_rowsOf
set_option maxRecDepth 20000 in
theorem ggX8_frontier_X8_isLeast : GoodIn wsX8_frontier wsX8_isLeast := goodIn_r _ [169, 170, 54, 55, 56, 19, 57, 28, 29, 58, 59, 187, 188, 189, 190, 191, 192, 193, 194, 195, 196, 197, 198, 199, 200, 201, 202, 203, 204, 205, 206, 207, 208, 209, 210, 211, 212, 213, 214, 215, 216, 217, 218, 219, 220, 221, 222, 223, 224, 225] (by decide +kernel) (by decide +kernel)
set_option maxRecDepth 20000 in
theorem gX8_frontier_X8_isLeast : GoodIn wsX8_frontier (wsV RX8 176 RX8 yX8_isLeast wsX8_isLeast) := goodIn_app (goodIn_of _ (by decide +kernel)) ggX8_frontier_X8_isLeast
theorem dX8_frontier_0 : decode cX8_frontier 0 = .ok (.aload_n 0, 1) := by decide +kernel
theorem dX8_frontier_1 : decode cX8_frontier 1 = .ok (.getfield 19, 3) := by decide +kernel
theorem dX8_frontier_4 : decode cX8_frontier 4 = .ok (.iload_n 1, 1) := by decide +kernel
theorem dX8_frontier_5 : decode cX8_frontier 5 = .ok (.invokevirtual 111, 3) := by decide +kernel
theorem dX8_frontier_8 : decode cX8_frontier 8 = .ok (.ifCond .eq 8, 3) := by decide +kernel
theorem dX8_frontier_11 : decode cX8_frontier 11 = .ok (.iload_n 2, 1) := by decide +kernel
theorem dX8_frontier_12 : decode cX8_frontier 12 = .ok (.iconst (-1), 1) := by decide +kernel
theorem dX8_frontier_13 : decode cX8_frontier 13 = .ok (.if_icmp .ge 5, 3) := by decide +kernel
theorem dX8_frontier_16 : decode cX8_frontier 16 = .ok (.iconst (-1), 1) := by decide +kernel
theorem dX8_frontier_17 : decode cX8_frontier 17 = .ok (.ireturn, 1) := by decide +kernel
theorem dX8_frontier_18 : decode cX8_frontier 18 = .ok (.aload_n 0, 1) := by decide +kernel
theorem dX8_frontier_19 : decode cX8_frontier 19 = .ok (.aload_n 0, 1) := by decide +kernel
theorem dX8_frontier_20 : decode cX8_frontier 20 = .ok (.getfield 47, 3) := by decide +kernel
theorem dX8_frontier_23 : decode cX8_frontier 23 = .ok (.invokevirtual 161, 3) := by decide +kernel
theorem dX8_frontier_26 : decode cX8_frontier 26 = .ok (.astore_n 3, 1) := by decide +kernel
theorem dX8_frontier_27 : decode cX8_frontier 27 = .ok (.iconst 0, 1) := by decide +kernel
theorem dX8_frontier_28 : decode cX8_frontier 28 = .ok (.istore 4, 2) := by decide +kernel
theorem dX8_frontier_30 : decode cX8_frontier 30 = .ok (.iconst 0, 1) := by decide +kernel
theorem dX8_frontier_31 : decode cX8_frontier 31 = .ok (.istore 5, 2) := by decide +kernel
theorem dX8_frontier_33 : decode cX8_frontier 33 = .ok (.iload 5, 2) := by decide +kernel
theorem dX8_frontier_35 : decode cX8_frontier 35 = .ok (.aload_n 3, 1) := by decide +kernel
theorem dX8_frontier_36 : decode cX8_frontier 36 = .ok (.aload_n 0, 1) := by decide +kernel
theorem dX8_frontier_37 : decode cX8_frontier 37 = .ok (.getfield 19, 3) := by decide +kernel
theorem dX8_frontier_40 : decode cX8_frontier 40 = .ok (.iload_n 1, 1) := by decide +kernel
theorem dX8_frontier_41 : decode cX8_frontier 41 = .ok (.invokevirtual 169, 3) := by decide +kernel
theorem dX8_frontier_44 : decode cX8_frontier 44 = .ok (.if_icmp .ge 32, 3) := by decide +kernel
theorem dX8_frontier_47 : decode cX8_frontier 47 = .ok (.aload_n 0, 1) := by decide +kernel
theorem dX8_frontier_48 : decode cX8_frontier 48 = .ok (.aload_n 3, 1) := by decide +kernel
theorem dX8_frontier_49 : decode cX8_frontier 49 = .ok (.iload_n 1, 1) := by decide +kernel
theorem dX8_frontier_50 : decode cX8_frontier 50 = .ok (.iload 5, 2) := by decide +kernel
theorem dX8_frontier_52 : decode cX8_frontier 52 = .ok (.invokevirtual 176, 3) := by decide +kernel
theorem dX8_frontier_55 : decode cX8_frontier 55 = .ok (.ifCond .eq 15, 3) := by decide +kernel
theorem dX8_frontier_58 : decode cX8_frontier 58 = .ok (.iload 4, 2) := by decide +kernel
theorem dX8_frontier_60 : decode cX8_frontier 60 = .ok (.iload_n 2, 1) := by decide +kernel
theorem dX8_frontier_61 : decode cX8_frontier 61 = .ok (.if_icmp .ne 6, 3) := by decide +kernel
theorem dX8_frontier_64 : decode cX8_frontier 64 = .ok (.iload 5, 2) := by decide +kernel
theorem dX8_frontier_66 : decode cX8_frontier 66 = .ok (.ireturn, 1) := by decide +kernel
theorem dX8_frontier_67 : decode cX8_frontier 67 = .ok (.iinc 4 1, 3) := by decide +kernel
theorem dX8_frontier_70 : decode cX8_frontier 70 = .ok (.iinc 5 1, 3) := by decide +kernel
theorem dX8_frontier_73 : decode cX8_frontier 73 = .ok (.goto (-40), 3) := by decide +kernel
theorem dX8_frontier_76 : decode cX8_frontier 76 = .ok (.iload_n 2, 1) := by decide +kernel
theorem dX8_frontier_77 : decode cX8_frontier 77 = .ok (.iconst (-1), 1) := by decide +kernel
theorem dX8_frontier_78 : decode cX8_frontier 78 = .ok (.if_icmp .ne 8, 3) := by decide +kernel
theorem dX8_frontier_81 : decode cX8_frontier 81 = .ok (.iload 4, 2) := by decide +kernel
theorem dX8_frontier_83 : decode cX8_frontier 83 = .ok (.goto 5, 3) := by decide +kernel
theorem dX8_frontier_86 : decode cX8_frontier 86 = .ok (.bipush (-4), 2) := by decide +kernel
theorem dX8_frontier_88 : decode cX8_frontier 88 = .ok (.ireturn, 1) := by decide +kernel
set_option maxRecDepth 20000 in
theorem ggX8_strict_X8_strictView : GoodIn wsX8_strict wsX8_strictView := goodIn_r _ [6, 7, 8, 9, 185, 186, 187, 188, 189, 190, 191, 192, 193, 194, 195] (by decide +kernel) (by decide +kernel)
set_option maxRecDepth 20000 in
theorem gX8_strict_X8_strictView : GoodIn wsX8_strict (wsV RX8 180 RX8 yX8_strictView wsX8_strictView) := goodIn_app (goodIn_of _ (by decide +kernel)) ggX8_strict_X8_strictView
set_option maxRecDepth 20000 in
theorem ggX8_strict_X3_has : GoodIn wsX8_strict wsX3_has := goodIn_r _ [14, 15, 196, 197, 198, 199, 200] (by decide +kernel) (by decide +kernel)
set_option maxRecDepth 20000 in
theorem gX8_strict_X3_has : GoodIn wsX8_strict (wsV RX8 111 RX3 yX3_has wsX3_has) := goodIn_app (goodIn_of _ (by decide +kernel)) ggX8_strict_X3_has
set_option maxRecDepth 20000 in
theorem ggX8_strict_X8_solved : GoodIn wsX8_strict wsX8_solved := goodIn_r _ [19, 20, 1, 21, 22, 23, 24, 25, 26, 27, 28, 29, 30, 31, 32, 33, 34, 35, 36, 37, 38, 39, 40, 41, 42, 43, 44, 45, 46, 47, 48, 49, 50, 51, 52, 53, 54, 55, 56, 11, 12, 13, 14, 15, 57, 58, 59, 60, 61, 62, 63, 64, 65, 66, 67, 68, 69, 70, 71, 72, 73, 74, 75, 76, 77, 78, 79, 80, 81, 82, 83, 84, 85, 86, 87, 88, 89, 90, 91, 92, 93, 94, 95, 96, 97, 98, 99, 100, 101, 102, 103, 104, 105, 106, 107, 108, 109, 110, 111, 112, 113, 114, 115, 116, 117, 118, 119, 120, 121, 122, 123, 124, 125, 126, 127, 128, 129, 130, 131, 132, 133, 134, 135, 136, 137, 138, 139, 140, 141, 142, 143, 144, 145, 146, 147, 148, 149, 150, 151, 152, 153, 154, 155, 156, 157, 158, 159, 160, 161, 162, 163, 164, 165, 166, 167, 168, 169, 170, 201, 202, 203, 204, 205, 206, 207, 208, 209, 210, 211, 212, 213, 214, 215, 216, 217, 218, 219, 220, 221, 222, 223, 224, 225, 226, 227, 228, 229, 230, 231, 232, 233, 234, 235, 236, 237, 238, 239, 185, 186, 187, 188, 189, 190, 191, 192, 193, 194, 195, 196, 197, 198, 199, 200] (by decide +kernel) (by decide +kernel)
set_option maxRecDepth 20000 in
theorem gX8_strict_X8_solved : GoodIn wsX8_strict (wsV RX8 161 RX8 yX8_solved wsX8_solved) := goodIn_app (goodIn_of _ (by decide +kernel)) ggX8_strict_X8_solved
set_option maxRecDepth 20000 in
theorem ggX8_strict_X7_strictBits : GoodIn wsX8_strict wsX7_strictBits := goodIn_r _ [175, 55, 56, 11, 12, 13, 14, 15, 176, 177, 178, 179, 25, 180, 86, 35, 49, 50, 51, 52, 53, 54, 57, 58, 59, 60, 61, 62, 63, 34, 64, 65, 181, 182, 196, 197, 198, 199, 200, 201, 202, 203, 204, 205, 206, 207, 208, 209, 210, 211, 212, 213, 214, 215, 216, 217, 218, 219, 220, 221, 222, 223, 224, 225, 226, 227, 228, 229, 230, 231, 232, 233, 234, 235, 236, 237, 238, 239] (by decide +kernel) (by decide +kernel)
set_option maxRecDepth 20000 in
theorem gX8_strict_X7_strictBits_u184X0 : GoodIn wsX8_strict (va_wsU RX8 184 RX0 "EarlyValues$View" ⟨"EarlyValues$View", "strictBits", "(LEarlyValues$Program;I)I"⟩ yX7_strictBits wsX7_strictBits) := goodIn_app (goodIn_of _ (by decide +kernel)) ggX8_strict_X7_strictBits
set_option maxRecDepth 20000 in
theorem gX8_strict_X7_strictBits_u184X4 : GoodIn wsX8_strict (va_wsU RX8 184 RX4 "EarlyValues$View" ⟨"EarlyValues$View", "strictBits", "(LEarlyValues$Program;I)I"⟩ yX7_strictBits wsX7_strictBits) := goodIn_app (goodIn_of _ (by decide +kernel)) ggX8_strict_X7_strictBits
set_option maxRecDepth 20000 in
theorem gX8_strict_X7_strictBits_u184X6 : GoodIn wsX8_strict (va_wsU RX8 184 RX6 "EarlyValues$View" ⟨"EarlyValues$View", "strictBits", "(LEarlyValues$Program;I)I"⟩ yX7_strictBits wsX7_strictBits) := goodIn_app (goodIn_of _ (by decide +kernel)) ggX8_strict_X7_strictBits
theorem dX8_strict_0 : decode cX8_strict 0 = .ok (.aload_n 0, 1) := by decide +kernel
theorem dX8_strict_1 : decode cX8_strict 1 = .ok (.iload_n 2, 1) := by decide +kernel
theorem dX8_strict_2 : decode cX8_strict 2 = .ok (.invokevirtual 180, 3) := by decide +kernel
theorem dX8_strict_5 : decode cX8_strict 5 = .ok (.astore_n 3, 1) := by decide +kernel
theorem dX8_strict_6 : decode cX8_strict 6 = .ok (.aload_n 3, 1) := by decide +kernel
theorem dX8_strict_7 : decode cX8_strict 7 = .ok (.ifnull 14, 3) := by decide +kernel
theorem dX8_strict_10 : decode cX8_strict 10 = .ok (.aload_n 0, 1) := by decide +kernel
theorem dX8_strict_11 : decode cX8_strict 11 = .ok (.getfield 19, 3) := by decide +kernel
theorem dX8_strict_14 : decode cX8_strict 14 = .ok (.iload_n 1, 1) := by decide +kernel
theorem dX8_strict_15 : decode cX8_strict 15 = .ok (.invokevirtual 111, 3) := by decide +kernel
theorem dX8_strict_18 : decode cX8_strict 18 = .ok (.ifCond .ne 7, 3) := by decide +kernel
theorem dX8_strict_21 : decode cX8_strict 21 = .ok (.iconst (-1), 1) := by decide +kernel
theorem dX8_strict_22 : decode cX8_strict 22 = .ok (.goto 16, 3) := by decide +kernel
theorem dX8_strict_25 : decode cX8_strict 25 = .ok (.aload_n 0, 1) := by decide +kernel
theorem dX8_strict_26 : decode cX8_strict 26 = .ok (.aload_n 3, 1) := by decide +kernel
theorem dX8_strict_27 : decode cX8_strict 27 = .ok (.invokevirtual 161, 3) := by decide +kernel
theorem dX8_strict_30 : decode cX8_strict 30 = .ok (.aload_n 0, 1) := by decide +kernel
theorem dX8_strict_31 : decode cX8_strict 31 = .ok (.getfield 19, 3) := by decide +kernel
theorem dX8_strict_34 : decode cX8_strict 34 = .ok (.iload_n 1, 1) := by decide +kernel
theorem dX8_strict_35 : decode cX8_strict 35 = .ok (.invokevirtual 184, 3) := by decide +kernel
theorem dX8_strict_38 : decode cX8_strict 38 = .ok (.ireturn, 1) := by decide +kernel
set_option maxRecDepth 20000 in
theorem ggX8_early_X8_strictView : GoodIn wsX8_early wsX8_strictView := goodIn_r _ [9, 10, 11, 12, 195, 196, 197, 198, 199, 200, 201, 202, 203, 204, 205] (by decide +kernel) (by decide +kernel)
set_option maxRecDepth 20000 in
theorem gX8_early_X8_strictView : GoodIn wsX8_early (wsV RX8 180 RX8 yX8_strictView wsX8_strictView) := goodIn_app (goodIn_of _ (by decide +kernel)) ggX8_early_X8_strictView
set_option maxRecDepth 20000 in
theorem ggX8_early_X3_has : GoodIn wsX8_early wsX3_has := goodIn_r _ [17, 18, 206, 207, 208, 209, 210] (by decide +kernel) (by decide +kernel)
set_option maxRecDepth 20000 in
theorem gX8_early_X3_has : GoodIn wsX8_early (wsV RX8 111 RX3 yX3_has wsX3_has) := goodIn_app (goodIn_of _ (by decide +kernel)) ggX8_early_X3_has
set_option maxRecDepth 20000 in
theorem ggX8_early_X8_solved : GoodIn wsX8_early wsX8_solved := goodIn_r _ [22, 23, 1, 24, 25, 26, 27, 28, 29, 30, 31, 32, 33, 34, 35, 36, 37, 38, 39, 40, 41, 42, 43, 44, 45, 46, 47, 48, 49, 50, 51, 52, 53, 54, 55, 56, 57, 58, 59, 14, 15, 16, 17, 18, 60, 61, 62, 63, 64, 65, 66, 67, 68, 69, 70, 71, 72, 73, 74, 75, 76, 77, 78, 79, 80, 81, 82, 83, 84, 85, 86, 87, 88, 89, 90, 91, 92, 93, 94, 95, 96, 97, 98, 99, 100, 101, 102, 103, 104, 105, 106, 107, 108, 109, 110, 111, 112, 113, 114, 115, 116, 117, 118, 119, 120, 121, 122, 123, 124, 125, 126, 127, 128, 129, 130, 131, 132, 133, 134, 135, 136, 137, 138, 139, 140, 141, 142, 143, 144, 145, 146, 147, 148, 149, 150, 151, 152, 153, 154, 155, 156, 157, 158, 159, 160, 161, 162, 163, 164, 165, 166, 167, 168, 169, 170, 171, 172, 173, 211, 212, 213, 214, 215, 216, 217, 218, 219, 220, 221, 222, 223, 224, 225, 226, 227, 228, 229, 230, 231, 232, 233, 234, 235, 236, 237, 238, 239, 240, 241, 242, 243, 244, 245, 246, 247, 248, 249, 195, 196, 197, 198, 199, 200, 201, 202, 203, 204, 205, 206, 207, 208, 209, 210] (by decide +kernel) (by decide +kernel)
set_option maxRecDepth 20000 in
theorem gX8_early_X8_solved : GoodIn wsX8_early (wsV RX8 161 RX8 yX8_solved wsX8_solved) := goodIn_app (goodIn_of _ (by decide +kernel)) ggX8_early_X8_solved
set_option maxRecDepth 20000 in
theorem ggX8_early_X7_strictBits : GoodIn wsX8_early wsX7_strictBits := goodIn_r _ [178, 58, 59, 14, 15, 16, 17, 18, 179, 180, 181, 182, 28, 183, 89, 38, 52, 53, 54, 55, 56, 57, 60, 61, 62, 63, 64, 65, 66, 37, 67, 68, 184, 185, 206, 207, 208, 209, 210, 211, 212, 213, 214, 215, 216, 217, 218, 219, 220, 221, 222, 223, 224, 225, 226, 227, 228, 229, 230, 231, 232, 233, 234, 235, 236, 237, 238, 239, 240, 241, 242, 243, 244, 245, 246, 247, 248, 249] (by decide +kernel) (by decide +kernel)
set_option maxRecDepth 20000 in
theorem gX8_early_X7_strictBits_u184X0 : GoodIn wsX8_early (va_wsU RX8 184 RX0 "EarlyValues$View" ⟨"EarlyValues$View", "strictBits", "(LEarlyValues$Program;I)I"⟩ yX7_strictBits wsX7_strictBits) := goodIn_app (goodIn_of _ (by decide +kernel)) ggX8_early_X7_strictBits
set_option maxRecDepth 20000 in
theorem gX8_early_X7_strictBits_u184X4 : GoodIn wsX8_early (va_wsU RX8 184 RX4 "EarlyValues$View" ⟨"EarlyValues$View", "strictBits", "(LEarlyValues$Program;I)I"⟩ yX7_strictBits wsX7_strictBits) := goodIn_app (goodIn_of _ (by decide +kernel)) ggX8_early_X7_strictBits
set_option maxRecDepth 20000 in
theorem gX8_early_X7_strictBits_u184X6 : GoodIn wsX8_early (va_wsU RX8 184 RX6 "EarlyValues$View" ⟨"EarlyValues$View", "strictBits", "(LEarlyValues$Program;I)I"⟩ yX7_strictBits wsX7_strictBits) := goodIn_app (goodIn_of _ (by decide +kernel)) ggX8_early_X7_strictBits
set_option maxRecDepth 20000 in
theorem ggX8_early_J6_bitCount_0f7a4 : GoodIn wsX8_early wsJ6_bitCount_0f7a4 := goodIn_r _ [191, 192, 193, 194] (by decide +kernel) (by decide +kernel)
set_option maxRecDepth 20000 in
theorem gX8_early_J6_bitCount_0f7a4 : GoodIn wsX8_early (va_wsS RX8 187 yJ6_bitCount_0f7a4 wsJ6_bitCount_0f7a4) := goodIn_app (goodIn_of _ (by decide +kernel)) ggX8_early_J6_bitCount_0f7a4
theorem dX8_early_0 : decode cX8_early 0 = .ok (.aload_n 0, 1) := by decide +kernel
theorem dX8_early_1 : decode cX8_early 1 = .ok (.iload_n 2, 1) := by decide +kernel
theorem dX8_early_2 : decode cX8_early 2 = .ok (.invokevirtual 180, 3) := by decide +kernel
theorem dX8_early_5 : decode cX8_early 5 = .ok (.astore_n 3, 1) := by decide +kernel
theorem dX8_early_6 : decode cX8_early 6 = .ok (.iload_n 2, 1) := by decide +kernel
theorem dX8_early_7 : decode cX8_early 7 = .ok (.iconst 3, 1) := by decide +kernel
theorem dX8_early_8 : decode cX8_early 8 = .ok (.if_icmp .ne 7, 3) := by decide +kernel
theorem dX8_early_11 : decode cX8_early 11 = .ok (.iconst 1, 1) := by decide +kernel
theorem dX8_early_12 : decode cX8_early 12 = .ok (.goto 4, 3) := by decide +kernel
theorem dX8_early_15 : decode cX8_early 15 = .ok (.iconst 0, 1) := by decide +kernel
theorem dX8_early_16 : decode cX8_early 16 = .ok (.istore 4, 2) := by decide +kernel
theorem dX8_early_18 : decode cX8_early 18 = .ok (.aload_n 0, 1) := by decide +kernel
theorem dX8_early_19 : decode cX8_early 19 = .ok (.getfield 19, 3) := by decide +kernel
theorem dX8_early_22 : decode cX8_early 22 = .ok (.iload_n 1, 1) := by decide +kernel
theorem dX8_early_23 : decode cX8_early 23 = .ok (.invokevirtual 111, 3) := by decide +kernel
theorem dX8_early_26 : decode cX8_early 26 = .ok (.ifCond .eq 12, 3) := by decide +kernel
theorem dX8_early_29 : decode cX8_early 29 = .ok (.aload_n 3, 1) := by decide +kernel
theorem dX8_early_30 : decode cX8_early 30 = .ok (.ifnonnull 10, 3) := by decide +kernel
theorem dX8_early_33 : decode cX8_early 33 = .ok (.iload 4, 2) := by decide +kernel
theorem dX8_early_35 : decode cX8_early 35 = .ok (.ifCond .ne 5, 3) := by decide +kernel
theorem dX8_early_38 : decode cX8_early 38 = .ok (.iconst (-1), 1) := by decide +kernel
theorem dX8_early_39 : decode cX8_early 39 = .ok (.ireturn, 1) := by decide +kernel
theorem dX8_early_40 : decode cX8_early 40 = .ok (.iconst 0, 1) := by decide +kernel
theorem dX8_early_41 : decode cX8_early 41 = .ok (.istore 5, 2) := by decide +kernel
theorem dX8_early_43 : decode cX8_early 43 = .ok (.iconst 0, 1) := by decide +kernel
theorem dX8_early_44 : decode cX8_early 44 = .ok (.istore 6, 2) := by decide +kernel
theorem dX8_early_46 : decode cX8_early 46 = .ok (.iload 6, 2) := by decide +kernel
theorem dX8_early_48 : decode cX8_early 48 = .ok (.aload_n 0, 1) := by decide +kernel
theorem dX8_early_49 : decode cX8_early 49 = .ok (.getfield 19, 3) := by decide +kernel
theorem dX8_early_52 : decode cX8_early 52 = .ok (.getfield 122, 3) := by decide +kernel
theorem dX8_early_55 : decode cX8_early 55 = .ok (.iload_n 1, 1) := by decide +kernel
theorem dX8_early_56 : decode cX8_early 56 = .ok (.iaload, 1) := by decide +kernel
theorem dX8_early_57 : decode cX8_early 57 = .ok (.if_icmp .ge 77, 3) := by decide +kernel
theorem dX8_early_60 : decode cX8_early 60 = .ok (.aload_n 0, 1) := by decide +kernel
theorem dX8_early_61 : decode cX8_early 61 = .ok (.getfield 19, 3) := by decide +kernel
theorem dX8_early_64 : decode cX8_early 64 = .ok (.getfield 129, 3) := by decide +kernel
theorem dX8_early_67 : decode cX8_early 67 = .ok (.iload_n 1, 1) := by decide +kernel
theorem dX8_early_68 : decode cX8_early 68 = .ok (.aaload, 1) := by decide +kernel
theorem dX8_early_69 : decode cX8_early 69 = .ok (.iload 6, 2) := by decide +kernel
theorem dX8_early_71 : decode cX8_early 71 = .ok (.iaload, 1) := by decide +kernel
theorem dX8_early_72 : decode cX8_early 72 = .ok (.bipush 10, 2) := by decide +kernel
theorem dX8_early_74 : decode cX8_early 74 = .ok (.isub, 1) := by decide +kernel
theorem dX8_early_75 : decode cX8_early 75 = .ok (.istore 7, 2) := by decide +kernel
theorem dX8_early_77 : decode cX8_early 77 = .ok (.aload_n 0, 1) := by decide +kernel
theorem dX8_early_78 : decode cX8_early 78 = .ok (.getfield 19, 3) := by decide +kernel
theorem dX8_early_81 : decode cX8_early 81 = .ok (.iload 7, 2) := by decide +kernel
theorem dX8_early_83 : decode cX8_early 83 = .ok (.invokevirtual 111, 3) := by decide +kernel
theorem dX8_early_86 : decode cX8_early 86 = .ok (.ifCond .eq 42, 3) := by decide +kernel
theorem dX8_early_89 : decode cX8_early 89 = .ok (.iload 5, 2) := by decide +kernel
theorem dX8_early_91 : decode cX8_early 91 = .ok (.aload_n 3, 1) := by decide +kernel
theorem dX8_early_92 : decode cX8_early 92 = .ok (.ifnonnull 16, 3) := by decide +kernel
theorem dX8_early_95 : decode cX8_early 95 = .ok (.aload_n 0, 1) := by decide +kernel
theorem dX8_early_96 : decode cX8_early 96 = .ok (.getfield 19, 3) := by decide +kernel
theorem dX8_early_99 : decode cX8_early 99 = .ok (.getfield 119, 3) := by decide +kernel
theorem dX8_early_102 : decode cX8_early 102 = .ok (.iload 7, 2) := by decide +kernel
theorem dX8_early_104 : decode cX8_early 104 = .ok (.iaload, 1) := by decide +kernel
theorem dX8_early_105 : decode cX8_early 105 = .ok (.goto 20, 3) := by decide +kernel
theorem dX8_early_108 : decode cX8_early 108 = .ok (.aload_n 0, 1) := by decide +kernel
theorem dX8_early_109 : decode cX8_early 109 = .ok (.aload_n 3, 1) := by decide +kernel
theorem dX8_early_110 : decode cX8_early 110 = .ok (.invokevirtual 161, 3) := by decide +kernel
theorem dX8_early_113 : decode cX8_early 113 = .ok (.aload_n 0, 1) := by decide +kernel
theorem dX8_early_114 : decode cX8_early 114 = .ok (.getfield 19, 3) := by decide +kernel
theorem dX8_early_117 : decode cX8_early 117 = .ok (.iload 7, 2) := by decide +kernel
theorem dX8_early_119 : decode cX8_early 119 = .ok (.invokevirtual 184, 3) := by decide +kernel
theorem dX8_early_122 : decode cX8_early 122 = .ok (.invokestatic 187, 3) := by decide +kernel
theorem dX8_early_125 : decode cX8_early 125 = .ok (.iadd, 1) := by decide +kernel
theorem dX8_early_126 : decode cX8_early 126 = .ok (.istore 5, 2) := by decide +kernel
theorem dX8_early_128 : decode cX8_early 128 = .ok (.iinc 6 1, 3) := by decide +kernel
theorem dX8_early_131 : decode cX8_early 131 = .ok (.goto (-85), 3) := by decide +kernel
theorem dX8_early_134 : decode cX8_early 134 = .ok (.iload 5, 2) := by decide +kernel
theorem dX8_early_136 : decode cX8_early 136 = .ok (.ireturn, 1) := by decide +kernel
set_option maxRecDepth 20000 in
theorem ggX8_same_X3_has : GoodIn wsX8_same wsX3_has := goodIn_r _ [8, 9, 179, 180, 181, 182, 183] (by decide +kernel) (by decide +kernel)
set_option maxRecDepth 20000 in
theorem gX8_same_X3_has : GoodIn wsX8_same (wsV RX8 111 RX3 yX3_has wsX3_has) := goodIn_app (goodIn_of _ (by decide +kernel)) ggX8_same_X3_has
set_option maxRecDepth 20000 in
theorem ggX8_same_X8_solved : GoodIn wsX8_same wsX8_solved := goodIn_r _ [14, 15, 1, 16, 17, 18, 19, 20, 21, 22, 23, 24, 25, 26, 27, 28, 29, 30, 31, 32, 33, 34, 35, 36, 37, 38, 39, 40, 41, 42, 43, 44, 45, 46, 47, 48, 49, 50, 51, 5, 6, 7, 8, 9, 52, 53, 54, 55, 56, 57, 58, 59, 60, 61, 62, 63, 64, 65, 66, 67, 68, 69, 70, 71, 72, 73, 74, 75, 76, 77, 78, 79, 80, 81, 82, 83, 84, 85, 86, 87, 88, 89, 90, 91, 92, 93, 94, 95, 96, 97, 98, 99, 100, 101, 102, 103, 104, 105, 106, 107, 108, 109, 110, 111, 112, 113, 114, 115, 116, 117, 118, 119, 120, 121, 122, 123, 124, 125, 126, 127, 128, 129, 130, 131, 132, 133, 134, 135, 136, 137, 138, 139, 140, 141, 142, 143, 144, 145, 146, 147, 148, 149, 150, 151, 152, 153, 154, 155, 156, 157, 158, 159, 160, 161, 162, 163, 164, 165, 184, 185, 186, 187, 188, 189, 190, 191, 192, 193, 194, 195, 196, 197, 198, 199, 200, 201, 202, 203, 204, 205, 206, 207, 208, 209, 210, 211, 212, 213, 214, 215, 216, 217, 218, 219, 220, 221, 222, 168, 169, 170, 171, 172, 173, 174, 175, 176, 177, 178, 179, 180, 181, 182, 183] (by decide +kernel) (by decide +kernel)
set_option maxRecDepth 20000 in
theorem gX8_same_X8_solved : GoodIn wsX8_same (wsV RX8 161 RX8 yX8_solved wsX8_solved) := goodIn_app (goodIn_of _ (by decide +kernel)) ggX8_same_X8_solved
set_option maxRecDepth 20000 in
theorem ggX8_same_X7_rowsOf : GoodIn wsX8_same wsX7_rowsOf := goodIn_r _ [48, 49, 50, 51, 5, 6, 7, 8, 9, 184, 185, 186, 187, 188, 189, 190, 191, 192, 193, 194, 195, 196, 197, 198, 199, 200, 201, 202, 203, 204, 205, 206, 207, 208, 209, 210, 211, 212, 213, 214, 215, 216, 217, 218, 219, 220, 221, 222, 179, 180, 181, 182, 183] (by decide +kernel) (by decide +kernel)
set_option maxRecDepth 20000 in
theorem gX8_same_X7_rowsOf_u169X0 : GoodIn wsX8_same (va_wsU RX8 169 RX0 "EarlyValues$View" ⟨"EarlyValues$View", "rowsOf", "(LEarlyValues$Program;I)I"⟩ yX7_rowsOf wsX7_rowsOf) := goodIn_app (goodIn_of _ (by decide +kernel)) ggX8_same_X7_rowsOf
set_option maxRecDepth 20000 in
theorem gX8_same_X7_rowsOf_u169X4 : GoodIn wsX8_same (va_wsU RX8 169 RX4 "EarlyValues$View" ⟨"EarlyValues$View", "rowsOf", "(LEarlyValues$Program;I)I"⟩ yX7_rowsOf wsX7_rowsOf) := goodIn_app (goodIn_of _ (by decide +kernel)) ggX8_same_X7_rowsOf
set_option maxRecDepth 20000 in
theorem gX8_same_X7_rowsOf_u169X6 : GoodIn wsX8_same (va_wsU RX8 169 RX6 "EarlyValues$View" ⟨"EarlyValues$View", "rowsOf", "(LEarlyValues$Program;I)I"⟩ yX7_rowsOf wsX7_rowsOf) := goodIn_app (goodIn_of _ (by decide +kernel)) ggX8_same_X7_rowsOf
set_option maxRecDepth 20000 in
theorem ggX8_same_X7_at : GoodIn wsX8_same wsX7_at := goodIn_r _ [58, 29, 30, 184, 185, 186, 187, 188, 189, 190, 191, 192, 193, 194, 195, 196, 197, 198, 199, 200, 201, 202, 203, 204, 205, 206, 207, 208, 209, 210, 211, 212, 213, 214, 215, 216, 217, 218, 219, 220, 221, 222] (by decide +kernel) (by decide +kernel)
set_option maxRecDepth 20000 in
theorem gX8_same_X7_at_u165X0 : GoodIn wsX8_same (va_wsU RX8 165 RX0 "EarlyValues$View" ⟨"EarlyValues$View", "at", "(II)I"⟩ yX7_at wsX7_at) := goodIn_app (goodIn_of _ (by decide +kernel)) ggX8_same_X7_at
set_option maxRecDepth 20000 in
theorem gX8_same_X7_at_u165X4 : GoodIn wsX8_same (va_wsU RX8 165 RX4 "EarlyValues$View" ⟨"EarlyValues$View", "at", "(II)I"⟩ yX7_at wsX7_at) := goodIn_app (goodIn_of _ (by decide +kernel)) ggX8_same_X7_at
set_option maxRecDepth 20000 in
theorem gX8_same_X7_at_u165X6 : GoodIn wsX8_same (va_wsU RX8 165 RX6 "EarlyValues$View" ⟨"EarlyValues$View", "at", "(II)I"⟩ yX7_at wsX7_at) := goodIn_app (goodIn_of _ (by decide +kernel)) ggX8_same_X7_at
theorem dX8_same_0 : decode cX8_same 0 = .ok (.aload_n 0, 1) := by decide +kernel
theorem dX8_same_1 : decode cX8_same 1 = .ok (.getfield 19, 3) := by decide +kernel
theorem dX8_same_4 : decode cX8_same 4 = .ok (.iload_n 1, 1) := by decide +kernel
theorem dX8_same_5 : decode cX8_same 5 = .ok (.invokevirtual 111, 3) := by decide +kernel
theorem dX8_same_8 : decode cX8_same 8 = .ok (.ifCond .eq 14, 3) := by decide +kernel
theorem dX8_same_11 : decode cX8_same 11 = .ok (.aload_n 0, 1) := by decide +kernel
theorem dX8_same_12 : decode cX8_same 12 = .ok (.getfield 19, 3) := by decide +kernel
theorem dX8_same_15 : decode cX8_same 15 = .ok (.iload_n 2, 1) := by decide +kernel
theorem dX8_same_16 : decode cX8_same 16 = .ok (.invokevirtual 111, 3) := by decide +kernel
theorem dX8_same_19 : decode cX8_same 19 = .ok (.ifCond .ne 5, 3) := by decide +kernel
theorem dX8_same_22 : decode cX8_same 22 = .ok (.iconst (-1), 1) := by decide +kernel
theorem dX8_same_23 : decode cX8_same 23 = .ok (.ireturn, 1) := by decide +kernel
theorem dX8_same_24 : decode cX8_same 24 = .ok (.aload_n 0, 1) := by decide +kernel
theorem dX8_same_25 : decode cX8_same 25 = .ok (.getfield 19, 3) := by decide +kernel
theorem dX8_same_28 : decode cX8_same 28 = .ok (.getfield 119, 3) := by decide +kernel
theorem dX8_same_31 : decode cX8_same 31 = .ok (.iload_n 1, 1) := by decide +kernel
theorem dX8_same_32 : decode cX8_same 32 = .ok (.iaload, 1) := by decide +kernel
theorem dX8_same_33 : decode cX8_same 33 = .ok (.aload_n 0, 1) := by decide +kernel
theorem dX8_same_34 : decode cX8_same 34 = .ok (.getfield 19, 3) := by decide +kernel
theorem dX8_same_37 : decode cX8_same 37 = .ok (.getfield 119, 3) := by decide +kernel
theorem dX8_same_40 : decode cX8_same 40 = .ok (.iload_n 2, 1) := by decide +kernel
theorem dX8_same_41 : decode cX8_same 41 = .ok (.iaload, 1) := by decide +kernel
theorem dX8_same_42 : decode cX8_same 42 = .ok (.if_icmp .eq 5, 3) := by decide +kernel
theorem dX8_same_45 : decode cX8_same 45 = .ok (.iconst 0, 1) := by decide +kernel
theorem dX8_same_46 : decode cX8_same 46 = .ok (.ireturn, 1) := by decide +kernel
theorem dX8_same_47 : decode cX8_same 47 = .ok (.aload_n 0, 1) := by decide +kernel
theorem dX8_same_48 : decode cX8_same 48 = .ok (.aload_n 0, 1) := by decide +kernel
theorem dX8_same_49 : decode cX8_same 49 = .ok (.getfield 40, 3) := by decide +kernel
theorem dX8_same_52 : decode cX8_same 52 = .ok (.invokevirtual 161, 3) := by decide +kernel
theorem dX8_same_55 : decode cX8_same 55 = .ok (.astore_n 3, 1) := by decide +kernel
theorem dX8_same_56 : decode cX8_same 56 = .ok (.iconst 0, 1) := by decide +kernel
theorem dX8_same_57 : decode cX8_same 57 = .ok (.istore 4, 2) := by decide +kernel
theorem dX8_same_59 : decode cX8_same 59 = .ok (.iload 4, 2) := by decide +kernel
theorem dX8_same_61 : decode cX8_same 61 = .ok (.aload_n 3, 1) := by decide +kernel
theorem dX8_same_62 : decode cX8_same 62 = .ok (.aload_n 0, 1) := by decide +kernel
theorem dX8_same_63 : decode cX8_same 63 = .ok (.getfield 19, 3) := by decide +kernel
theorem dX8_same_66 : decode cX8_same 66 = .ok (.iload_n 1, 1) := by decide +kernel
theorem dX8_same_67 : decode cX8_same 67 = .ok (.invokevirtual 169, 3) := by decide +kernel
theorem dX8_same_70 : decode cX8_same 70 = .ok (.if_icmp .ge 28, 3) := by decide +kernel
theorem dX8_same_73 : decode cX8_same 73 = .ok (.aload_n 3, 1) := by decide +kernel
theorem dX8_same_74 : decode cX8_same 74 = .ok (.iload_n 1, 1) := by decide +kernel
theorem dX8_same_75 : decode cX8_same 75 = .ok (.iload 4, 2) := by decide +kernel
theorem dX8_same_77 : decode cX8_same 77 = .ok (.invokevirtual 165, 3) := by decide +kernel
theorem dX8_same_80 : decode cX8_same 80 = .ok (.aload_n 3, 1) := by decide +kernel
theorem dX8_same_81 : decode cX8_same 81 = .ok (.iload_n 2, 1) := by decide +kernel
theorem dX8_same_82 : decode cX8_same 82 = .ok (.iload 4, 2) := by decide +kernel
theorem dX8_same_84 : decode cX8_same 84 = .ok (.invokevirtual 165, 3) := by decide +kernel
theorem dX8_same_87 : decode cX8_same 87 = .ok (.if_icmp .eq 5, 3) := by decide +kernel
theorem dX8_same_90 : decode cX8_same 90 = .ok (.iconst 0, 1) := by decide +kernel
theorem dX8_same_91 : decode cX8_same 91 = .ok (.ireturn, 1) := by decide +kernel
theorem dX8_same_92 : decode cX8_same 92 = .ok (.iinc 4 1, 3) := by decide +kernel
theorem dX8_same_95 : decode cX8_same 95 = .ok (.goto (-36), 3) := by decide +kernel
theorem dX8_same_98 : decode cX8_same 98 = .ok (.iconst 1, 1) := by decide +kernel
theorem dX8_same_99 : decode cX8_same 99 = .ok (.ireturn, 1) := by decide +kernel
set_option maxRecDepth 20000 in
theorem ggX8_first_X3_has : GoodIn wsX8_first wsX3_has := goodIn_r _ [8, 9, 218, 219, 220, 221, 222] (by decide +kernel) (by decide +kernel)
set_option maxRecDepth 20000 in
theorem gX8_first_X3_has : GoodIn wsX8_first (wsV RX8 111 RX3 yX3_has wsX3_has) := goodIn_app (goodIn_of _ (by decide +kernel)) ggX8_first_X3_has
set_option maxRecDepth 20000 in
theorem ggX8_first_X8_solved : GoodIn wsX8_first wsX8_solved := goodIn_r _ [14, 15, 1, 16, 17, 18, 19, 20, 21, 22, 23, 24, 25, 26, 27, 28, 29, 30, 31, 32, 33, 34, 35, 36, 37, 38, 39, 40, 41, 42, 43, 44, 45, 46, 47, 48, 49, 50, 51, 5, 6, 7, 8, 9, 52, 53, 54, 55, 56, 57, 58, 59, 60, 61, 62, 63, 64, 65, 66, 67, 68, 69, 70, 71, 72, 73, 74, 75, 76, 77, 78, 79, 80, 81, 82, 83, 84, 85, 86, 87, 88, 89, 90, 91, 92, 93, 94, 95, 96, 97, 98, 99, 100, 101, 102, 103, 104, 105, 106, 107, 108, 109, 110, 111, 112, 113, 114, 115, 116, 117, 118, 119, 120, 121, 122, 123, 124, 125, 126, 127, 128, 129, 130, 131, 132, 133, 134, 135, 136, 137, 138, 139, 140, 141, 142, 143, 144, 145, 146, 147, 148, 149, 150, 151, 152, 153, 154, 155, 156, 157, 158, 159, 160, 161, 162, 163, 164, 165, 179, 180, 181, 182, 183, 184, 185, 186, 187, 188, 189, 190, 191, 192, 193, 194, 195, 196, 197, 198, 199, 200, 201, 202, 203, 204, 205, 206, 207, 208, 209, 210, 211, 212, 213, 214, 215, 216, 217, 168, 169, 170, 171, 172, 173, 174, 175, 176, 177, 178, 218, 219, 220, 221, 222] (by decide +kernel) (by decide +kernel)
set_option maxRecDepth 20000 in
theorem gX8_first_X8_solved : GoodIn wsX8_first (wsV RX8 161 RX8 yX8_solved wsX8_solved) := goodIn_app (goodIn_of _ (by decide +kernel)) ggX8_first_X8_solved
set_option maxRecDepth 20000 in
theorem ggX8_first_X7_rowsOf : GoodIn wsX8_first wsX7_rowsOf := goodIn_r _ [48, 49, 50, 51, 5, 6, 7, 8, 9, 179, 180, 181, 182, 183, 184, 185, 186, 187, 188, 189, 190, 191, 192, 193, 194, 195, 196, 197, 198, 199, 200, 201, 202, 203, 204, 205, 206, 207, 208, 209, 210, 211, 212, 213, 214, 215, 216, 217, 218, 219, 220, 221, 222] (by decide +kernel) (by decide +kernel)
set_option maxRecDepth 20000 in
theorem gX8_first_X7_rowsOf_u169X0 : GoodIn wsX8_first (va_wsU RX8 169 RX0 "EarlyValues$View" ⟨"EarlyValues$View", "rowsOf", "(LEarlyValues$Program;I)I"⟩ yX7_rowsOf wsX7_rowsOf) := goodIn_app (goodIn_of _ (by decide +kernel)) ggX8_first_X7_rowsOf
set_option maxRecDepth 20000 in
theorem gX8_first_X7_rowsOf_u169X4 : GoodIn wsX8_first (va_wsU RX8 169 RX4 "EarlyValues$View" ⟨"EarlyValues$View", "rowsOf", "(LEarlyValues$Program;I)I"⟩ yX7_rowsOf wsX7_rowsOf) := goodIn_app (goodIn_of _ (by decide +kernel)) ggX8_first_X7_rowsOf
set_option maxRecDepth 20000 in
theorem gX8_first_X7_rowsOf_u169X6 : GoodIn wsX8_first (va_wsU RX8 169 RX6 "EarlyValues$View" ⟨"EarlyValues$View", "rowsOf", "(LEarlyValues$Program;I)I"⟩ yX7_rowsOf wsX7_rowsOf) := goodIn_app (goodIn_of _ (by decide +kernel)) ggX8_first_X7_rowsOf
set_option maxRecDepth 20000 in
theorem ggX8_first_X7_at : GoodIn wsX8_first wsX7_at := goodIn_r _ [58, 29, 30, 179, 180, 181, 182, 183, 184, 185, 186, 187, 188, 189, 190, 191, 192, 193, 194, 195, 196, 197, 198, 199, 200, 201, 202, 203, 204, 205, 206, 207, 208, 209, 210, 211, 212, 213, 214, 215, 216, 217] (by decide +kernel) (by decide +kernel)
set_option maxRecDepth 20000 in
theorem gX8_first_X7_at_u165X0 : GoodIn wsX8_first (va_wsU RX8 165 RX0 "EarlyValues$View" ⟨"EarlyValues$View", "at", "(II)I"⟩ yX7_at wsX7_at) := goodIn_app (goodIn_of _ (by decide +kernel)) ggX8_first_X7_at
set_option maxRecDepth 20000 in
theorem gX8_first_X7_at_u165X4 : GoodIn wsX8_first (va_wsU RX8 165 RX4 "EarlyValues$View" ⟨"EarlyValues$View", "at", "(II)I"⟩ yX7_at wsX7_at) := goodIn_app (goodIn_of _ (by decide +kernel)) ggX8_first_X7_at
set_option maxRecDepth 20000 in
theorem gX8_first_X7_at_u165X6 : GoodIn wsX8_first (va_wsU RX8 165 RX6 "EarlyValues$View" ⟨"EarlyValues$View", "at", "(II)I"⟩ yX7_at wsX7_at) := goodIn_app (goodIn_of _ (by decide +kernel)) ggX8_first_X7_at
theorem dX8_first_0 : decode cX8_first 0 = .ok (.aload_n 0, 1) := by decide +kernel
theorem dX8_first_1 : decode cX8_first 1 = .ok (.getfield 19, 3) := by decide +kernel
theorem dX8_first_4 : decode cX8_first 4 = .ok (.iload_n 1, 1) := by decide +kernel
theorem dX8_first_5 : decode cX8_first 5 = .ok (.invokevirtual 111, 3) := by decide +kernel
theorem dX8_first_8 : decode cX8_first 8 = .ok (.ifCond .eq 12, 3) := by decide +kernel
theorem dX8_first_11 : decode cX8_first 11 = .ok (.iload_n 2, 1) := by decide +kernel
theorem dX8_first_12 : decode cX8_first 12 = .ok (.ifCond .lt 8, 3) := by decide +kernel
theorem dX8_first_15 : decode cX8_first 15 = .ok (.iload_n 2, 1) := by decide +kernel
theorem dX8_first_16 : decode cX8_first 16 = .ok (.iconst 4, 1) := by decide +kernel
theorem dX8_first_17 : decode cX8_first 17 = .ok (.if_icmp .le 5, 3) := by decide +kernel
theorem dX8_first_20 : decode cX8_first 20 = .ok (.iconst (-1), 1) := by decide +kernel
theorem dX8_first_21 : decode cX8_first 21 = .ok (.ireturn, 1) := by decide +kernel
theorem dX8_first_22 : decode cX8_first 22 = .ok (.aload_n 0, 1) := by decide +kernel
theorem dX8_first_23 : decode cX8_first 23 = .ok (.aload_n 0, 1) := by decide +kernel
theorem dX8_first_24 : decode cX8_first 24 = .ok (.getfield 40, 3) := by decide +kernel
theorem dX8_first_27 : decode cX8_first 27 = .ok (.invokevirtual 161, 3) := by decide +kernel
theorem dX8_first_30 : decode cX8_first 30 = .ok (.astore_n 3, 1) := by decide +kernel
theorem dX8_first_31 : decode cX8_first 31 = .ok (.bipush (-4), 2) := by decide +kernel
theorem dX8_first_33 : decode cX8_first 33 = .ok (.istore 4, 2) := by decide +kernel
theorem dX8_first_35 : decode cX8_first 35 = .ok (.iconst 0, 1) := by decide +kernel
theorem dX8_first_36 : decode cX8_first 36 = .ok (.istore 5, 2) := by decide +kernel
theorem dX8_first_38 : decode cX8_first 38 = .ok (.iload 5, 2) := by decide +kernel
theorem dX8_first_40 : decode cX8_first 40 = .ok (.aload_n 3, 1) := by decide +kernel
theorem dX8_first_41 : decode cX8_first 41 = .ok (.aload_n 0, 1) := by decide +kernel
theorem dX8_first_42 : decode cX8_first 42 = .ok (.getfield 19, 3) := by decide +kernel
theorem dX8_first_45 : decode cX8_first 45 = .ok (.iload_n 1, 1) := by decide +kernel
theorem dX8_first_46 : decode cX8_first 46 = .ok (.invokevirtual 169, 3) := by decide +kernel
theorem dX8_first_49 : decode cX8_first 49 = .ok (.if_icmp .ge 75, 3) := by decide +kernel
theorem dX8_first_52 : decode cX8_first 52 = .ok (.bipush 100, 2) := by decide +kernel
theorem dX8_first_54 : decode cX8_first 54 = .ok (.aload_n 3, 1) := by decide +kernel
theorem dX8_first_55 : decode cX8_first 55 = .ok (.getfield 192, 3) := by decide +kernel
theorem dX8_first_58 : decode cX8_first 58 = .ok (.iconst 0, 1) := by decide +kernel
theorem dX8_first_59 : decode cX8_first 59 = .ok (.aaload, 1) := by decide +kernel
theorem dX8_first_60 : decode cX8_first 60 = .ok (.iload 5, 2) := by decide +kernel
theorem dX8_first_62 : decode cX8_first 62 = .ok (.iaload, 1) := by decide +kernel
theorem dX8_first_63 : decode cX8_first 63 = .ok (.imul, 1) := by decide +kernel
theorem dX8_first_64 : decode cX8_first 64 = .ok (.bipush 10, 2) := by decide +kernel
theorem dX8_first_66 : decode cX8_first 66 = .ok (.aload_n 3, 1) := by decide +kernel
theorem dX8_first_67 : decode cX8_first 67 = .ok (.getfield 192, 3) := by decide +kernel
theorem dX8_first_70 : decode cX8_first 70 = .ok (.iconst 1, 1) := by decide +kernel
theorem dX8_first_71 : decode cX8_first 71 = .ok (.aaload, 1) := by decide +kernel
theorem dX8_first_72 : decode cX8_first 72 = .ok (.iload 5, 2) := by decide +kernel
theorem dX8_first_74 : decode cX8_first 74 = .ok (.iaload, 1) := by decide +kernel
theorem dX8_first_75 : decode cX8_first 75 = .ok (.imul, 1) := by decide +kernel
theorem dX8_first_76 : decode cX8_first 76 = .ok (.iadd, 1) := by decide +kernel
theorem dX8_first_77 : decode cX8_first 77 = .ok (.aload_n 3, 1) := by decide +kernel
theorem dX8_first_78 : decode cX8_first 78 = .ok (.getfield 192, 3) := by decide +kernel
theorem dX8_first_81 : decode cX8_first 81 = .ok (.iconst 2, 1) := by decide +kernel
theorem dX8_first_82 : decode cX8_first 82 = .ok (.aaload, 1) := by decide +kernel
theorem dX8_first_83 : decode cX8_first 83 = .ok (.iload 5, 2) := by decide +kernel
theorem dX8_first_85 : decode cX8_first 85 = .ok (.iaload, 1) := by decide +kernel
theorem dX8_first_86 : decode cX8_first 86 = .ok (.iadd, 1) := by decide +kernel
theorem dX8_first_87 : decode cX8_first 87 = .ok (.istore 6, 2) := by decide +kernel
theorem dX8_first_89 : decode cX8_first 89 = .ok (.aload_n 3, 1) := by decide +kernel
theorem dX8_first_90 : decode cX8_first 90 = .ok (.iload_n 1, 1) := by decide +kernel
theorem dX8_first_91 : decode cX8_first 91 = .ok (.iload 5, 2) := by decide +kernel
theorem dX8_first_93 : decode cX8_first 93 = .ok (.invokevirtual 165, 3) := by decide +kernel
theorem dX8_first_96 : decode cX8_first 96 = .ok (.iload_n 2, 1) := by decide +kernel
theorem dX8_first_97 : decode cX8_first 97 = .ok (.if_icmp .ne 21, 3) := by decide +kernel
theorem dX8_first_100 : decode cX8_first 100 = .ok (.iload 4, 2) := by decide +kernel
theorem dX8_first_102 : decode cX8_first 102 = .ok (.bipush (-4), 2) := by decide +kernel
theorem dX8_first_104 : decode cX8_first 104 = .ok (.if_icmp .eq 10, 3) := by decide +kernel
theorem dX8_first_107 : decode cX8_first 107 = .ok (.iload 6, 2) := by decide +kernel
theorem dX8_first_109 : decode cX8_first 109 = .ok (.iload 4, 2) := by decide +kernel
theorem dX8_first_111 : decode cX8_first 111 = .ok (.if_icmp .ge 7, 3) := by decide +kernel
theorem dX8_first_114 : decode cX8_first 114 = .ok (.iload 6, 2) := by decide +kernel
theorem dX8_first_116 : decode cX8_first 116 = .ok (.istore 4, 2) := by decide +kernel
theorem dX8_first_118 : decode cX8_first 118 = .ok (.iinc 5 1, 3) := by decide +kernel
theorem dX8_first_121 : decode cX8_first 121 = .ok (.goto (-83), 3) := by decide +kernel
theorem dX8_first_124 : decode cX8_first 124 = .ok (.iload 4, 2) := by decide +kernel
theorem dX8_first_126 : decode cX8_first 126 = .ok (.ireturn, 1) := by decide +kernel
set_option maxRecDepth 20000 in
theorem ggX8_makes_X3_has : GoodIn wsX8_makes wsX3_has := goodIn_r _ [12, 13, 265, 266, 267, 268, 269] (by decide +kernel) (by decide +kernel)
set_option maxRecDepth 20000 in
theorem gX8_makes_X3_has : GoodIn wsX8_makes (wsV RX8 111 RX3 yX3_has wsX3_has) := goodIn_app (goodIn_of _ (by decide +kernel)) ggX8_makes_X3_has
set_option maxRecDepth 20000 in
theorem ggX8_makes_X8_solved : GoodIn wsX8_makes wsX8_solved := goodIn_r _ [18, 19, 1, 20, 21, 22, 23, 24, 25, 26, 27, 28, 29, 30, 31, 32, 33, 34, 35, 36, 37, 38, 39, 40, 41, 42, 43, 44, 45, 46, 47, 48, 49, 50, 51, 52, 53, 54, 55, 9, 10, 11, 12, 13, 56, 57, 58, 59, 60, 61, 62, 63, 64, 65, 66, 67, 68, 69, 70, 71, 72, 73, 74, 75, 76, 77, 78, 79, 80, 81, 82, 83, 84, 85, 86, 87, 88, 89, 90, 91, 92, 93, 94, 95, 96, 97, 98, 99, 100, 101, 102, 103, 104, 105, 106, 107, 108, 109, 110, 111, 112, 113, 114, 115, 116, 117, 118, 119, 120, 121, 122, 123, 124, 125, 126, 127, 128, 129, 130, 131, 132, 133, 134, 135, 136, 137, 138, 139, 140, 141, 142, 143, 144, 145, 146, 147, 148, 149, 150, 151, 152, 153, 154, 155, 156, 157, 158, 159, 160, 161, 162, 163, 164, 165, 166, 167, 168, 169, 270, 271, 272, 273, 274, 275, 276, 277, 278, 279, 280, 281, 282, 283, 284, 285, 286, 287, 288, 289, 290, 291, 292, 293, 294, 295, 296, 297, 298, 299, 300, 301, 302, 303, 304, 305, 306, 307, 308, 254, 255, 256, 257, 258, 259, 260, 261, 262, 263, 264, 265, 266, 267, 268, 269] (by decide +kernel) (by decide +kernel)
set_option maxRecDepth 20000 in
theorem gX8_makes_X8_solved : GoodIn wsX8_makes (wsV RX8 161 RX8 yX8_solved wsX8_solved) := goodIn_app (goodIn_of _ (by decide +kernel)) ggX8_makes_X8_solved
set_option maxRecDepth 20000 in
theorem ggX8_makes_X7_isStrict : GoodIn wsX8_makes wsX7_isStrict := goodIn_r _ [174, 85, 34, 48, 49, 50, 51, 24, 52, 53, 54, 55, 9, 10, 11, 12, 13, 56, 57, 58, 59, 60, 61, 62, 33, 63, 64, 270, 271, 272, 273, 274, 275, 276, 277, 278, 279, 280, 281, 282, 283, 284, 285, 286, 287, 288, 289, 290, 291, 292, 293, 294, 295, 296, 297, 298, 299, 300, 301, 302, 303, 304, 305, 306, 307, 308, 265, 266, 267, 268, 269] (by decide +kernel) (by decide +kernel)
set_option maxRecDepth 20000 in
theorem gX8_makes_X7_isStrict_u195X0 : GoodIn wsX8_makes (va_wsU RX8 195 RX0 "EarlyValues$View" ⟨"EarlyValues$View", "isStrict", "(LEarlyValues$Program;II)Z"⟩ yX7_isStrict wsX7_isStrict) := goodIn_app (goodIn_of _ (by decide +kernel)) ggX8_makes_X7_isStrict
set_option maxRecDepth 20000 in
theorem gX8_makes_X7_isStrict_u195X4 : GoodIn wsX8_makes (va_wsU RX8 195 RX4 "EarlyValues$View" ⟨"EarlyValues$View", "isStrict", "(LEarlyValues$Program;II)Z"⟩ yX7_isStrict wsX7_isStrict) := goodIn_app (goodIn_of _ (by decide +kernel)) ggX8_makes_X7_isStrict
set_option maxRecDepth 20000 in
theorem gX8_makes_X7_isStrict_u195X6 : GoodIn wsX8_makes (va_wsU RX8 195 RX6 "EarlyValues$View" ⟨"EarlyValues$View", "isStrict", "(LEarlyValues$Program;II)Z"⟩ yX7_isStrict wsX7_isStrict) := goodIn_app (goodIn_of _ (by decide +kernel)) ggX8_makes_X7_isStrict
set_option maxRecDepth 20000 in
theorem ggX8_makes_X3_takeFrom : GoodIn wsX8_makes wsX3_takeFrom := goodIn_r _ [180, 13, 101, 181, 182, 183, 184, 185, 186, 187, 265, 266, 267, 268, 269] (by decide +kernel) (by decide +kernel)
set_option maxRecDepth 20000 in
theorem gX8_makes_X3_takeFrom : GoodIn wsX8_makes (wsV RX8 87 RX3 yX3_takeFrom wsX3_takeFrom) := goodIn_app (goodIn_of _ (by decide +kernel)) ggX8_makes_X3_takeFrom
set_option maxRecDepth 20000 in
theorem ggX8_makes_X3_fits : GoodIn wsX8_makes wsX3_fits := goodIn_r _ [191, 183, 192, 193, 194, 11, 195, 182, 102, 9, 10, 12, 13, 196, 197, 198, 199, 101, 200, 98, 99, 100, 265, 266, 267, 268, 269] (by decide +kernel) (by decide +kernel)
set_option maxRecDepth 20000 in
theorem gX8_makes_X3_fits : GoodIn wsX8_makes (wsV RX8 142 RX3 yX3_fits wsX3_fits) := goodIn_app (goodIn_of _ (by decide +kernel)) ggX8_makes_X3_fits
set_option maxRecDepth 20000 in
theorem ggX8_makes_X7_staysStrict : GoodIn wsX8_makes wsX7_staysStrict := goodIn_r _ [205, 28, 29, 30, 31, 24, 32, 33, 34, 35, 36, 37, 38, 39, 40, 41, 42, 43, 44, 45, 46, 47, 48, 49, 50, 51, 52, 53, 54, 55, 9, 10, 11, 12, 13, 56, 57, 58, 59, 60, 61, 62, 63, 64, 65, 66, 67, 68, 69, 70, 71, 72, 73, 74, 75, 76, 77, 78, 79, 80, 81, 82, 83, 84, 85, 86, 87, 88, 89, 90, 91, 92, 93, 94, 95, 96, 97, 98, 99, 100, 101, 102, 103, 104, 105, 106, 107, 108, 109, 110, 111, 112, 113, 114, 115, 116, 117, 118, 119, 120, 121, 122, 123, 124, 125, 126, 127, 128, 129, 130, 131, 132, 133, 134, 135, 136, 137, 138, 139, 140, 141, 142, 143, 144, 145, 146, 147, 148, 149, 150, 151, 152, 153, 154, 155, 156, 157, 158, 159, 160, 161, 162, 163, 164, 165, 166, 167, 206, 171, 172, 173, 174, 175, 176, 270, 271, 272, 273, 274, 275, 276, 277, 278, 279, 280, 281, 282, 283, 284, 285, 286, 287, 288, 289, 290, 291, 292, 293, 294, 295, 296, 297, 298, 299, 300, 301, 302, 303, 304, 305, 306, 307, 308, 265, 266, 267, 268, 269] (by decide +kernel) (by decide +kernel)
set_option maxRecDepth 20000 in
theorem gX8_makes_X7_staysStrict_u199X0 : GoodIn wsX8_makes (va_wsU RX8 199 RX0 "EarlyValues$View" ⟨"EarlyValues$View", "staysStrict", "(LEarlyValues$Program;II)Z"⟩ yX7_staysStrict wsX7_staysStrict) := goodIn_app (goodIn_of _ (by decide +kernel)) ggX8_makes_X7_staysStrict
set_option maxRecDepth 20000 in
theorem gX8_makes_X7_staysStrict_u199X4 : GoodIn wsX8_makes (va_wsU RX8 199 RX4 "EarlyValues$View" ⟨"EarlyValues$View", "staysStrict", "(LEarlyValues$Program;II)Z"⟩ yX7_staysStrict wsX7_staysStrict) := goodIn_app (goodIn_of _ (by decide +kernel)) ggX8_makes_X7_staysStrict
set_option maxRecDepth 20000 in
theorem gX8_makes_X7_staysStrict_u199X6 : GoodIn wsX8_makes (va_wsU RX8 199 RX6 "EarlyValues$View" ⟨"EarlyValues$View", "staysStrict", "(LEarlyValues$Program;II)Z"⟩ yX7_staysStrict wsX7_staysStrict) := goodIn_app (goodIn_of _ (by decide +kernel)) ggX8_makes_X7_staysStrict
set_option maxRecDepth 20000 in
theorem ggX8_makes_X2_signOf : GoodIn wsX8_makes wsX2_signOf := goodIn_r _ [212, 213, 214, 215, 216, 217, 218, 219, 220, 221, 222, 223, 224, 225, 226, 227, 228, 229, 230, 231, 232, 233, 234, 235, 236, 237, 238, 239, 240, 241, 242, 243, 244, 245, 246, 247, 248, 249, 250, 251, 252, 253] (by decide +kernel) (by decide +kernel)
set_option maxRecDepth 20000 in
theorem gX8_makes_X2_signOf : GoodIn wsX8_makes (va_wsS RX8 133 yX2_signOf wsX2_signOf) := goodIn_app (goodIn_of _ (by decide +kernel)) ggX8_makes_X2_signOf
theorem dX8_makes_0 : decode cX8_makes 0 = .ok (.aload_n 0, 1) := by decide +kernel
theorem dX8_makes_1 : decode cX8_makes 1 = .ok (.getfield 19, 3) := by decide +kernel
theorem dX8_makes_4 : decode cX8_makes 4 = .ok (.iload_n 1, 1) := by decide +kernel
theorem dX8_makes_5 : decode cX8_makes 5 = .ok (.invokevirtual 111, 3) := by decide +kernel
theorem dX8_makes_8 : decode cX8_makes 8 = .ok (.ifCond .eq 20, 3) := by decide +kernel
theorem dX8_makes_11 : decode cX8_makes 11 = .ok (.iload_n 2, 1) := by decide +kernel
theorem dX8_makes_12 : decode cX8_makes 12 = .ok (.ifCond .lt 16, 3) := by decide +kernel
theorem dX8_makes_15 : decode cX8_makes 15 = .ok (.iload_n 2, 1) := by decide +kernel
theorem dX8_makes_16 : decode cX8_makes 16 = .ok (.aload_n 0, 1) := by decide +kernel
theorem dX8_makes_17 : decode cX8_makes 17 = .ok (.getfield 19, 3) := by decide +kernel
theorem dX8_makes_20 : decode cX8_makes 20 = .ok (.getfield 119, 3) := by decide +kernel
theorem dX8_makes_23 : decode cX8_makes 23 = .ok (.iload_n 1, 1) := by decide +kernel
theorem dX8_makes_24 : decode cX8_makes 24 = .ok (.iaload, 1) := by decide +kernel
theorem dX8_makes_25 : decode cX8_makes 25 = .ok (.if_icmp .lt 5, 3) := by decide +kernel
theorem dX8_makes_28 : decode cX8_makes 28 = .ok (.iconst (-1), 1) := by decide +kernel
theorem dX8_makes_29 : decode cX8_makes 29 = .ok (.ireturn, 1) := by decide +kernel
theorem dX8_makes_30 : decode cX8_makes 30 = .ok (.aload_n 0, 1) := by decide +kernel
theorem dX8_makes_31 : decode cX8_makes 31 = .ok (.aload_n 0, 1) := by decide +kernel
theorem dX8_makes_32 : decode cX8_makes 32 = .ok (.getfield 53, 3) := by decide +kernel
theorem dX8_makes_35 : decode cX8_makes 35 = .ok (.invokevirtual 161, 3) := by decide +kernel
theorem dX8_makes_38 : decode cX8_makes 38 = .ok (.aload_n 0, 1) := by decide +kernel
theorem dX8_makes_39 : decode cX8_makes 39 = .ok (.getfield 19, 3) := by decide +kernel
theorem dX8_makes_42 : decode cX8_makes 42 = .ok (.iload_n 1, 1) := by decide +kernel
theorem dX8_makes_43 : decode cX8_makes 43 = .ok (.iload_n 2, 1) := by decide +kernel
theorem dX8_makes_44 : decode cX8_makes 44 = .ok (.invokevirtual 195, 3) := by decide +kernel
theorem dX8_makes_47 : decode cX8_makes 47 = .ok (.ifCond .eq 6, 3) := by decide +kernel
theorem dX8_makes_50 : decode cX8_makes 50 = .ok (.bipush (-2), 2) := by decide +kernel
theorem dX8_makes_52 : decode cX8_makes 52 = .ok (.ireturn, 1) := by decide +kernel
theorem dX8_makes_53 : decode cX8_makes 53 = .ok (.aload_n 0, 1) := by decide +kernel
theorem dX8_makes_54 : decode cX8_makes 54 = .ok (.getfield 23, 3) := by decide +kernel
theorem dX8_makes_57 : decode cX8_makes 57 = .ok (.aload_n 0, 1) := by decide +kernel
theorem dX8_makes_58 : decode cX8_makes 58 = .ok (.getfield 19, 3) := by decide +kernel
theorem dX8_makes_61 : decode cX8_makes 61 = .ok (.invokevirtual 87, 3) := by decide +kernel
theorem dX8_makes_64 : decode cX8_makes 64 = .ok (.iconst 0, 1) := by decide +kernel
theorem dX8_makes_65 : decode cX8_makes 65 = .ok (.istore_n 3, 1) := by decide +kernel
theorem dX8_makes_66 : decode cX8_makes 66 = .ok (.iload_n 3, 1) := by decide +kernel
theorem dX8_makes_67 : decode cX8_makes 67 = .ok (.aload_n 0, 1) := by decide +kernel
theorem dX8_makes_68 : decode cX8_makes 68 = .ok (.getfield 19, 3) := by decide +kernel
theorem dX8_makes_71 : decode cX8_makes 71 = .ok (.getfield 122, 3) := by decide +kernel
theorem dX8_makes_74 : decode cX8_makes 74 = .ok (.iload_n 1, 1) := by decide +kernel
theorem dX8_makes_75 : decode cX8_makes 75 = .ok (.iaload, 1) := by decide +kernel
theorem dX8_makes_76 : decode cX8_makes 76 = .ok (.if_icmp .ge 118, 3) := by decide +kernel
theorem dX8_makes_79 : decode cX8_makes 79 = .ok (.iconst 0, 1) := by decide +kernel
theorem dX8_makes_80 : decode cX8_makes 80 = .ok (.istore 4, 2) := by decide +kernel
theorem dX8_makes_82 : decode cX8_makes 82 = .ok (.iload 4, 2) := by decide +kernel
theorem dX8_makes_84 : decode cX8_makes 84 = .ok (.bipush 14, 2) := by decide +kernel
theorem dX8_makes_86 : decode cX8_makes 86 = .ok (.if_icmp .ge 80, 3) := by decide +kernel
theorem dX8_makes_89 : decode cX8_makes 89 = .ok (.aload_n 0, 1) := by decide +kernel
theorem dX8_makes_90 : decode cX8_makes 90 = .ok (.getfield 19, 3) := by decide +kernel
theorem dX8_makes_93 : decode cX8_makes 93 = .ok (.getfield 129, 3) := by decide +kernel
theorem dX8_makes_96 : decode cX8_makes 96 = .ok (.iload_n 1, 1) := by decide +kernel
theorem dX8_makes_97 : decode cX8_makes 97 = .ok (.aaload, 1) := by decide +kernel
theorem dX8_makes_98 : decode cX8_makes 98 = .ok (.iload_n 3, 1) := by decide +kernel
theorem dX8_makes_99 : decode cX8_makes 99 = .ok (.iaload, 1) := by decide +kernel
theorem dX8_makes_100 : decode cX8_makes 100 = .ok (.iload 4, 2) := by decide +kernel
theorem dX8_makes_102 : decode cX8_makes 102 = .ok (.if_icmp .eq 58, 3) := by decide +kernel
theorem dX8_makes_105 : decode cX8_makes 105 = .ok (.aload_n 0, 1) := by decide +kernel
theorem dX8_makes_106 : decode cX8_makes 106 = .ok (.getfield 19, 3) := by decide +kernel
theorem dX8_makes_109 : decode cX8_makes 109 = .ok (.iload_n 1, 1) := by decide +kernel
theorem dX8_makes_110 : decode cX8_makes 110 = .ok (.iload_n 3, 1) := by decide +kernel
theorem dX8_makes_111 : decode cX8_makes 111 = .ok (.iload 4, 2) := by decide +kernel
theorem dX8_makes_113 : decode cX8_makes 113 = .ok (.invokevirtual 142, 3) := by decide +kernel
theorem dX8_makes_116 : decode cX8_makes 116 = .ok (.ifCond .eq 44, 3) := by decide +kernel
theorem dX8_makes_119 : decode cX8_makes 119 = .ok (.aload_n 0, 1) := by decide +kernel
theorem dX8_makes_120 : decode cX8_makes 120 = .ok (.getfield 23, 3) := by decide +kernel
theorem dX8_makes_123 : decode cX8_makes 123 = .ok (.getfield 129, 3) := by decide +kernel
theorem dX8_makes_126 : decode cX8_makes 126 = .ok (.iload_n 1, 1) := by decide +kernel
theorem dX8_makes_127 : decode cX8_makes 127 = .ok (.aaload, 1) := by decide +kernel
theorem dX8_makes_128 : decode cX8_makes 128 = .ok (.iload_n 3, 1) := by decide +kernel
theorem dX8_makes_129 : decode cX8_makes 129 = .ok (.iload 4, 2) := by decide +kernel
theorem dX8_makes_131 : decode cX8_makes 131 = .ok (.iastore, 1) := by decide +kernel
theorem dX8_makes_132 : decode cX8_makes 132 = .ok (.aload_n 0, 1) := by decide +kernel
theorem dX8_makes_133 : decode cX8_makes 133 = .ok (.getfield 59, 3) := by decide +kernel
theorem dX8_makes_136 : decode cX8_makes 136 = .ok (.aload_n 0, 1) := by decide +kernel
theorem dX8_makes_137 : decode cX8_makes 137 = .ok (.getfield 23, 3) := by decide +kernel
theorem dX8_makes_140 : decode cX8_makes 140 = .ok (.iload_n 1, 1) := by decide +kernel
theorem dX8_makes_141 : decode cX8_makes 141 = .ok (.iload_n 2, 1) := by decide +kernel
theorem dX8_makes_142 : decode cX8_makes 142 = .ok (.invokevirtual 199, 3) := by decide +kernel
theorem dX8_makes_145 : decode cX8_makes 145 = .ok (.ifCond .eq 15, 3) := by decide +kernel
theorem dX8_makes_148 : decode cX8_makes 148 = .ok (.sipush 200, 3) := by decide +kernel
theorem dX8_makes_151 : decode cX8_makes 151 = .ok (.iload_n 3, 1) := by decide +kernel
theorem dX8_makes_152 : decode cX8_makes 152 = .ok (.imul, 1) := by decide +kernel
theorem dX8_makes_153 : decode cX8_makes 153 = .ok (.iload 4, 2) := by decide +kernel
theorem dX8_makes_155 : decode cX8_makes 155 = .ok (.invokestatic 133, 3) := by decide +kernel
theorem dX8_makes_158 : decode cX8_makes 158 = .ok (.iadd, 1) := by decide +kernel
theorem dX8_makes_159 : decode cX8_makes 159 = .ok (.ireturn, 1) := by decide +kernel
theorem dX8_makes_160 : decode cX8_makes 160 = .ok (.iinc 4 1, 3) := by decide +kernel
theorem dX8_makes_163 : decode cX8_makes 163 = .ok (.goto (-81), 3) := by decide +kernel
theorem dX8_makes_166 : decode cX8_makes 166 = .ok (.aload_n 0, 1) := by decide +kernel
theorem dX8_makes_167 : decode cX8_makes 167 = .ok (.getfield 23, 3) := by decide +kernel
theorem dX8_makes_170 : decode cX8_makes 170 = .ok (.getfield 129, 3) := by decide +kernel
theorem dX8_makes_173 : decode cX8_makes 173 = .ok (.iload_n 1, 1) := by decide +kernel
theorem dX8_makes_174 : decode cX8_makes 174 = .ok (.aaload, 1) := by decide +kernel
theorem dX8_makes_175 : decode cX8_makes 175 = .ok (.iload_n 3, 1) := by decide +kernel
theorem dX8_makes_176 : decode cX8_makes 176 = .ok (.aload_n 0, 1) := by decide +kernel
theorem dX8_makes_177 : decode cX8_makes 177 = .ok (.getfield 19, 3) := by decide +kernel
theorem dX8_makes_180 : decode cX8_makes 180 = .ok (.getfield 129, 3) := by decide +kernel
theorem dX8_makes_183 : decode cX8_makes 183 = .ok (.iload_n 1, 1) := by decide +kernel
theorem dX8_makes_184 : decode cX8_makes 184 = .ok (.aaload, 1) := by decide +kernel
theorem dX8_makes_185 : decode cX8_makes 185 = .ok (.iload_n 3, 1) := by decide +kernel
theorem dX8_makes_186 : decode cX8_makes 186 = .ok (.iaload, 1) := by decide +kernel
theorem dX8_makes_187 : decode cX8_makes 187 = .ok (.iastore, 1) := by decide +kernel
theorem dX8_makes_188 : decode cX8_makes 188 = .ok (.iinc 3 1, 3) := by decide +kernel
theorem dX8_makes_191 : decode cX8_makes 191 = .ok (.goto (-125), 3) := by decide +kernel
theorem dX8_makes_194 : decode cX8_makes 194 = .ok (.bipush (-4), 2) := by decide +kernel
theorem dX8_makes_196 : decode cX8_makes 196 = .ok (.ireturn, 1) := by decide +kernel
set_option maxRecDepth 20000 in
theorem ggX8_day_X3_takeFrom : GoodIn wsX8_day wsX3_takeFrom := goodIn_r _ [13, 14, 15, 16, 17, 18, 19, 20, 21, 22, 231, 232, 233, 234, 235] (by decide +kernel) (by decide +kernel)
set_option maxRecDepth 20000 in
theorem gX8_day_X3_takeFrom : GoodIn wsX8_day (wsV RX8 87 RX3 yX3_takeFrom wsX3_takeFrom) := goodIn_app (goodIn_of _ (by decide +kernel)) ggX8_day_X3_takeFrom
set_option maxRecDepth 20000 in
theorem ggX8_day_X3_turnLetter : GoodIn wsX8_day wsX3_turnLetter := goodIn_r _ [26, 14, 17, 18, 27, 28, 29, 12, 30, 31, 32, 33, 34, 35, 36, 37, 38, 39, 40, 41, 42, 15, 43, 44, 45, 46, 231, 232, 233, 234, 235] (by decide +kernel) (by decide +kernel)
set_option maxRecDepth 20000 in
theorem gX8_day_X3_turnLetter : GoodIn wsX8_day (wsV RX8 208 RX3 yX3_turnLetter wsX3_turnLetter) := goodIn_app (goodIn_of _ (by decide +kernel)) ggX8_day_X3_turnLetter
set_option maxRecDepth 20000 in
theorem ggX8_day_X7_solve : GoodIn wsX8_day wsX7_solve := goodIn_r _ [52, 53, 54, 55, 56, 57, 58, 51, 59, 60, 61, 62, 63, 64, 65, 66, 67, 68, 69, 70, 71, 72, 73, 74, 75, 76, 77, 78, 79, 80, 81, 82, 28, 29, 12, 30, 14, 83, 84, 85, 86, 87, 88, 89, 90, 91, 92, 93, 94, 95, 96, 97, 98, 99, 100, 101, 102, 103, 104, 105, 106, 107, 108, 109, 110, 111, 112, 113, 114, 115, 116, 117, 118, 119, 120, 121, 122, 123, 124, 44, 45, 46, 15, 27, 125, 126, 127, 128, 129, 130, 131, 132, 133, 134, 135, 136, 137, 138, 139, 140, 141, 142, 143, 144, 145, 146, 147, 148, 149, 150, 151, 152, 153, 154, 155, 156, 157, 158, 159, 160, 161, 162, 163, 164, 165, 166, 167, 168, 169, 170, 171, 172, 173, 174, 175, 176, 177, 178, 179, 180, 181, 182, 183, 184, 185, 186, 187, 188, 189, 236, 237, 238, 239, 240, 241, 242, 243, 244, 245, 246, 247, 248, 249, 250, 251, 252, 253, 254, 255, 256, 257, 258, 259, 260, 261, 262, 263, 264, 265, 266, 267, 268, 269, 270, 271, 272, 273, 274, 231, 232, 233, 234, 235] (by decide +kernel) (by decide +kernel)
set_option maxRecDepth 20000 in
theorem gX8_day_X7_solve_u212X0 : GoodIn wsX8_day (va_wsU RX8 212 RX0 "EarlyValues$View" ⟨"EarlyValues$View", "solve", "(LEarlyValues$Program;)V"⟩ yX7_solve wsX7_solve) := goodIn_app (goodIn_of _ (by decide +kernel)) ggX8_day_X7_solve
set_option maxRecDepth 20000 in
theorem gX8_day_X7_solve_u212X4 : GoodIn wsX8_day (va_wsU RX8 212 RX4 "EarlyValues$View" ⟨"EarlyValues$View", "solve", "(LEarlyValues$Program;)V"⟩ yX7_solve wsX7_solve) := goodIn_app (goodIn_of _ (by decide +kernel)) ggX8_day_X7_solve
set_option maxRecDepth 20000 in
theorem gX8_day_X7_solve_u212X6 : GoodIn wsX8_day (va_wsU RX8 212 RX6 "EarlyValues$View" ⟨"EarlyValues$View", "solve", "(LEarlyValues$Program;)V"⟩ yX7_solve wsX7_solve) := goodIn_app (goodIn_of _ (by decide +kernel)) ggX8_day_X7_solve
set_option maxRecDepth 20000 in
theorem ggX8_day_X7_rowsThatCome : GoodIn wsX8_day wsX7_rowsThatCome := goodIn_r _ [196, 61, 75, 76, 77, 78, 51, 79, 80, 81, 82, 28, 29, 12, 30, 14, 83, 84, 85, 86, 87, 88, 89, 60, 90, 91, 236, 237, 238, 239, 240, 241, 242, 243, 244, 245, 246, 247, 248, 249, 250, 251, 252, 253, 254, 255, 256, 257, 258, 259, 260, 261, 262, 263, 264, 265, 266, 267, 268, 269, 270, 271, 272, 273, 274, 231, 232, 233, 234, 235] (by decide +kernel) (by decide +kernel)
set_option maxRecDepth 20000 in
theorem gX8_day_X7_rowsThatCome_u215X0 : GoodIn wsX8_day (va_wsU RX8 215 RX0 "EarlyValues$View" ⟨"EarlyValues$View", "rowsThatCome", "(LEarlyValues$Program;I)I"⟩ yX7_rowsThatCome wsX7_rowsThatCome) := goodIn_app (goodIn_of _ (by decide +kernel)) ggX8_day_X7_rowsThatCome
set_option maxRecDepth 20000 in
theorem gX8_day_X7_rowsThatCome_u215X4 : GoodIn wsX8_day (va_wsU RX8 215 RX4 "EarlyValues$View" ⟨"EarlyValues$View", "rowsThatCome", "(LEarlyValues$Program;I)I"⟩ yX7_rowsThatCome wsX7_rowsThatCome) := goodIn_app (goodIn_of _ (by decide +kernel)) ggX8_day_X7_rowsThatCome
set_option maxRecDepth 20000 in
theorem gX8_day_X7_rowsThatCome_u215X6 : GoodIn wsX8_day (va_wsU RX8 215 RX6 "EarlyValues$View" ⟨"EarlyValues$View", "rowsThatCome", "(LEarlyValues$Program;I)I"⟩ yX7_rowsThatCome wsX7_rowsThatCome) := goodIn_app (goodIn_of _ (by decide +kernel)) ggX8_day_X7_rowsThatCome
set_option maxRecDepth 20000 in
theorem ggX8_day_X7_strictBits : GoodIn wsX8_day wsX7_strictBits := goodIn_r _ [203, 81, 82, 28, 29, 12, 30, 14, 204, 205, 206, 207, 51, 208, 112, 61, 75, 76, 77, 78, 79, 80, 83, 84, 85, 86, 87, 88, 89, 60, 90, 91, 209, 210, 231, 232, 233, 234, 235, 236, 237, 238, 239, 240, 241, 242, 243, 244, 245, 246, 247, 248, 249, 250, 251, 252, 253, 254, 255, 256, 257, 258, 259, 260, 261, 262, 263, 264, 265, 266, 267, 268, 269, 270, 271, 272, 273, 274] (by decide +kernel) (by decide +kernel)
set_option maxRecDepth 20000 in
theorem gX8_day_X7_strictBits_u184X0 : GoodIn wsX8_day (va_wsU RX8 184 RX0 "EarlyValues$View" ⟨"EarlyValues$View", "strictBits", "(LEarlyValues$Program;I)I"⟩ yX7_strictBits wsX7_strictBits) := goodIn_app (goodIn_of _ (by decide +kernel)) ggX8_day_X7_strictBits
set_option maxRecDepth 20000 in
theorem gX8_day_X7_strictBits_u184X4 : GoodIn wsX8_day (va_wsU RX8 184 RX4 "EarlyValues$View" ⟨"EarlyValues$View", "strictBits", "(LEarlyValues$Program;I)I"⟩ yX7_strictBits wsX7_strictBits) := goodIn_app (goodIn_of _ (by decide +kernel)) ggX8_day_X7_strictBits
set_option maxRecDepth 20000 in
theorem gX8_day_X7_strictBits_u184X6 : GoodIn wsX8_day (va_wsU RX8 184 RX6 "EarlyValues$View" ⟨"EarlyValues$View", "strictBits", "(LEarlyValues$Program;I)I"⟩ yX7_strictBits wsX7_strictBits) := goodIn_app (goodIn_of _ (by decide +kernel)) ggX8_day_X7_strictBits
set_option maxRecDepth 20000 in
theorem ggX8_day_J6_bitCount_0f7a4 : GoodIn wsX8_day wsJ6_bitCount_0f7a4 := goodIn_r _ [216, 217, 218, 219] (by decide +kernel) (by decide +kernel)
set_option maxRecDepth 20000 in
theorem gX8_day_J6_bitCount_0f7a4 : GoodIn wsX8_day (va_wsS RX8 187 yJ6_bitCount_0f7a4 wsJ6_bitCount_0f7a4) := goodIn_app (goodIn_of _ (by decide +kernel)) ggX8_day_J6_bitCount_0f7a4
theorem dX8_day_0 : decode cX8_day 0 = .ok (.iload_n 1, 1) := by decide +kernel
theorem dX8_day_1 : decode cX8_day 1 = .ok (.ifCond .lt 30, 3) := by decide +kernel
theorem dX8_day_4 : decode cX8_day 4 = .ok (.iload_n 1, 1) := by decide +kernel
theorem dX8_day_5 : decode cX8_day 5 = .ok (.sipush 9999, 3) := by decide +kernel
theorem dX8_day_8 : decode cX8_day 8 = .ok (.if_icmp .gt 23, 3) := by decide +kernel
theorem dX8_day_11 : decode cX8_day 11 = .ok (.iload_n 2, 1) := by decide +kernel
theorem dX8_day_12 : decode cX8_day 12 = .ok (.iconst 1, 1) := by decide +kernel
theorem dX8_day_13 : decode cX8_day 13 = .ok (.if_icmp .lt 18, 3) := by decide +kernel
theorem dX8_day_16 : decode cX8_day 16 = .ok (.iload_n 2, 1) := by decide +kernel
theorem dX8_day_17 : decode cX8_day 17 = .ok (.bipush 20, 2) := by decide +kernel
theorem dX8_day_19 : decode cX8_day 19 = .ok (.if_icmp .gt 12, 3) := by decide +kernel
theorem dX8_day_22 : decode cX8_day 22 = .ok (.iload_n 3, 1) := by decide +kernel
theorem dX8_day_23 : decode cX8_day 23 = .ok (.ifCond .lt 8, 3) := by decide +kernel
theorem dX8_day_26 : decode cX8_day 26 = .ok (.iload_n 3, 1) := by decide +kernel
theorem dX8_day_27 : decode cX8_day 27 = .ok (.iconst 2, 1) := by decide +kernel
theorem dX8_day_28 : decode cX8_day 28 = .ok (.if_icmp .le 5, 3) := by decide +kernel
theorem dX8_day_31 : decode cX8_day 31 = .ok (.iconst (-1), 1) := by decide +kernel
theorem dX8_day_32 : decode cX8_day 32 = .ok (.ireturn, 1) := by decide +kernel
theorem dX8_day_33 : decode cX8_day 33 = .ok (.aload_n 0, 1) := by decide +kernel
theorem dX8_day_34 : decode cX8_day 34 = .ok (.getfield 23, 3) := by decide +kernel
theorem dX8_day_37 : decode cX8_day 37 = .ok (.aload_n 0, 1) := by decide +kernel
theorem dX8_day_38 : decode cX8_day 38 = .ok (.getfield 19, 3) := by decide +kernel
theorem dX8_day_41 : decode cX8_day 41 = .ok (.invokevirtual 87, 3) := by decide +kernel
theorem dX8_day_44 : decode cX8_day 44 = .ok (.iconst 0, 1) := by decide +kernel
theorem dX8_day_45 : decode cX8_day 45 = .ok (.istore 4, 2) := by decide +kernel
theorem dX8_day_47 : decode cX8_day 47 = .ok (.iload 4, 2) := by decide +kernel
theorem dX8_day_49 : decode cX8_day 49 = .ok (.iload_n 2, 1) := by decide +kernel
theorem dX8_day_50 : decode cX8_day 50 = .ok (.if_icmp .ge 44, 3) := by decide +kernel
theorem dX8_day_53 : decode cX8_day 53 = .ok (.ldc2_w 202, 3) := by decide +kernel
theorem dX8_day_56 : decode cX8_day 56 = .ok (.iload_n 1, 1) := by decide +kernel
theorem dX8_day_57 : decode cX8_day 57 = .ok (.i2l, 1) := by decide +kernel
theorem dX8_day_58 : decode cX8_day 58 = .ok (.lmul, 1) := by decide +kernel
theorem dX8_day_59 : decode cX8_day 59 = .ok (.ldc2_w 204, 3) := by decide +kernel
theorem dX8_day_62 : decode cX8_day 62 = .ok (.iload 4, 2) := by decide +kernel
theorem dX8_day_64 : decode cX8_day 64 = .ok (.i2l, 1) := by decide +kernel
theorem dX8_day_65 : decode cX8_day 65 = .ok (.lmul, 1) := by decide +kernel
theorem dX8_day_66 : decode cX8_day 66 = .ok (.ladd, 1) := by decide +kernel
theorem dX8_day_67 : decode cX8_day 67 = .ok (.lconst 1, 1) := by decide +kernel
theorem dX8_day_68 : decode cX8_day 68 = .ok (.ladd, 1) := by decide +kernel
theorem dX8_day_69 : decode cX8_day 69 = .ok (.lstore 5, 2) := by decide +kernel
theorem dX8_day_71 : decode cX8_day 71 = .ok (.aload_n 0, 1) := by decide +kernel
theorem dX8_day_72 : decode cX8_day 72 = .ok (.getfield 23, 3) := by decide +kernel
theorem dX8_day_75 : decode cX8_day 75 = .ok (.lload 5, 2) := by decide +kernel
theorem dX8_day_77 : decode cX8_day 77 = .ok (.lload 5, 2) := by decide +kernel
theorem dX8_day_79 : decode cX8_day 79 = .ok (.lmul, 1) := by decide +kernel
theorem dX8_day_80 : decode cX8_day 80 = .ok (.ldc2_w 206, 3) := by decide +kernel
theorem dX8_day_83 : decode cX8_day 83 = .ok (.lrem, 1) := by decide +kernel
theorem dX8_day_84 : decode cX8_day 84 = .ok (.l2i, 1) := by decide +kernel
theorem dX8_day_85 : decode cX8_day 85 = .ok (.invokevirtual 208, 3) := by decide +kernel
theorem dX8_day_88 : decode cX8_day 88 = .ok (.iinc 4 1, 3) := by decide +kernel
theorem dX8_day_91 : decode cX8_day 91 = .ok (.goto (-44), 3) := by decide +kernel
theorem dX8_day_94 : decode cX8_day 94 = .ok (.iload_n 3, 1) := by decide +kernel
theorem dX8_day_95 : decode cX8_day 95 = .ok (.ifCond .ne 10, 3) := by decide +kernel
theorem dX8_day_98 : decode cX8_day 98 = .ok (.aload_n 0, 1) := by decide +kernel
theorem dX8_day_99 : decode cX8_day 99 = .ok (.getfield 59, 3) := by decide +kernel
theorem dX8_day_102 : decode cX8_day 102 = .ok (.goto 7, 3) := by decide +kernel
theorem dX8_day_105 : decode cX8_day 105 = .ok (.aload_n 0, 1) := by decide +kernel
theorem dX8_day_106 : decode cX8_day 106 = .ok (.getfield 56, 3) := by decide +kernel
theorem dX8_day_109 : decode cX8_day 109 = .ok (.astore 4, 2) := by decide +kernel
theorem dX8_day_111 : decode cX8_day 111 = .ok (.aload 4, 2) := by decide +kernel
theorem dX8_day_113 : decode cX8_day 113 = .ok (.aload_n 0, 1) := by decide +kernel
theorem dX8_day_114 : decode cX8_day 114 = .ok (.getfield 23, 3) := by decide +kernel
theorem dX8_day_117 : decode cX8_day 117 = .ok (.invokevirtual 212, 3) := by decide +kernel
theorem dX8_day_120 : decode cX8_day 120 = .ok (.iconst 0, 1) := by decide +kernel
theorem dX8_day_121 : decode cX8_day 121 = .ok (.istore 5, 2) := by decide +kernel
theorem dX8_day_123 : decode cX8_day 123 = .ok (.iconst 0, 1) := by decide +kernel
theorem dX8_day_124 : decode cX8_day 124 = .ok (.istore 6, 2) := by decide +kernel
theorem dX8_day_126 : decode cX8_day 126 = .ok (.iload 6, 2) := by decide +kernel
theorem dX8_day_128 : decode cX8_day 128 = .ok (.aload_n 0, 1) := by decide +kernel
theorem dX8_day_129 : decode cX8_day 129 = .ok (.getfield 23, 3) := by decide +kernel
theorem dX8_day_132 : decode cX8_day 132 = .ok (.getfield 108, 3) := by decide +kernel
theorem dX8_day_135 : decode cX8_day 135 = .ok (.if_icmp .ge 47, 3) := by decide +kernel
theorem dX8_day_138 : decode cX8_day 138 = .ok (.iload 5, 2) := by decide +kernel
theorem dX8_day_140 : decode cX8_day 140 = .ok (.iload_n 3, 1) := by decide +kernel
theorem dX8_day_141 : decode cX8_day 141 = .ok (.iconst 2, 1) := by decide +kernel
theorem dX8_day_142 : decode cX8_day 142 = .ok (.if_icmp .ne 17, 3) := by decide +kernel
theorem dX8_day_145 : decode cX8_day 145 = .ok (.aload 4, 2) := by decide +kernel
theorem dX8_day_147 : decode cX8_day 147 = .ok (.aload_n 0, 1) := by decide +kernel
theorem dX8_day_148 : decode cX8_day 148 = .ok (.getfield 23, 3) := by decide +kernel
theorem dX8_day_151 : decode cX8_day 151 = .ok (.iload 6, 2) := by decide +kernel
theorem dX8_day_153 : decode cX8_day 153 = .ok (.invokevirtual 215, 3) := by decide +kernel
theorem dX8_day_156 : decode cX8_day 156 = .ok (.goto 17, 3) := by decide +kernel
theorem dX8_day_159 : decode cX8_day 159 = .ok (.aload 4, 2) := by decide +kernel
theorem dX8_day_161 : decode cX8_day 161 = .ok (.aload_n 0, 1) := by decide +kernel
theorem dX8_day_162 : decode cX8_day 162 = .ok (.getfield 23, 3) := by decide +kernel
theorem dX8_day_165 : decode cX8_day 165 = .ok (.iload 6, 2) := by decide +kernel
theorem dX8_day_167 : decode cX8_day 167 = .ok (.invokevirtual 184, 3) := by decide +kernel
theorem dX8_day_170 : decode cX8_day 170 = .ok (.invokestatic 187, 3) := by decide +kernel
theorem dX8_day_173 : decode cX8_day 173 = .ok (.iadd, 1) := by decide +kernel
theorem dX8_day_174 : decode cX8_day 174 = .ok (.istore 5, 2) := by decide +kernel
theorem dX8_day_176 : decode cX8_day 176 = .ok (.iinc 6 1, 3) := by decide +kernel
theorem dX8_day_179 : decode cX8_day 179 = .ok (.goto (-53), 3) := by decide +kernel
theorem dX8_day_182 : decode cX8_day 182 = .ok (.iload 5, 2) := by decide +kernel
theorem dX8_day_184 : decode cX8_day 184 = .ok (.ireturn, 1) := by decide +kernel
set_option maxRecDepth 20000 in
theorem ggX8_keep_X3_takeFrom : GoodIn wsX8_keep wsX3_takeFrom := goodIn_r _ [8, 9, 10, 11, 12, 13, 14, 15, 16, 17, 29, 30, 31, 32, 33] (by decide +kernel) (by decide +kernel)
set_option maxRecDepth 20000 in
theorem gX8_keep_X3_takeFrom : GoodIn wsX8_keep (wsV RX8 87 RX3 yX3_takeFrom wsX3_takeFrom) := goodIn_app (goodIn_of _ (by decide +kernel)) ggX8_keep_X3_takeFrom
theorem dX8_keep_0 : decode cX8_keep 0 = .ok (.aload_n 0, 1) := by decide +kernel
theorem dX8_keep_1 : decode cX8_keep 1 = .ok (.getfield 102, 3) := by decide +kernel
theorem dX8_keep_4 : decode cX8_keep 4 = .ok (.iconst 2, 1) := by decide +kernel
theorem dX8_keep_5 : decode cX8_keep 5 = .ok (.if_icmp .lt 6, 3) := by decide +kernel
theorem dX8_keep_8 : decode cX8_keep 8 = .ok (.bipush (-3), 2) := by decide +kernel
theorem dX8_keep_10 : decode cX8_keep 10 = .ok (.ireturn, 1) := by decide +kernel
theorem dX8_keep_11 : decode cX8_keep 11 = .ok (.aload_n 0, 1) := by decide +kernel
theorem dX8_keep_12 : decode cX8_keep 12 = .ok (.getfield 26, 3) := by decide +kernel
theorem dX8_keep_15 : decode cX8_keep 15 = .ok (.aload_n 0, 1) := by decide +kernel
theorem dX8_keep_16 : decode cX8_keep 16 = .ok (.getfield 102, 3) := by decide +kernel
theorem dX8_keep_19 : decode cX8_keep 19 = .ok (.aaload, 1) := by decide +kernel
theorem dX8_keep_20 : decode cX8_keep 20 = .ok (.aload_n 0, 1) := by decide +kernel
theorem dX8_keep_21 : decode cX8_keep 21 = .ok (.getfield 19, 3) := by decide +kernel
theorem dX8_keep_24 : decode cX8_keep 24 = .ok (.invokevirtual 87, 3) := by decide +kernel
theorem dX8_keep_27 : decode cX8_keep 27 = .ok (.aload_n 0, 1) := by decide +kernel
theorem dX8_keep_28 : decode cX8_keep 28 = .ok (.dup, 1) := by decide +kernel
theorem dX8_keep_29 : decode cX8_keep 29 = .ok (.getfield 102, 3) := by decide +kernel
theorem dX8_keep_32 : decode cX8_keep 32 = .ok (.iconst 1, 1) := by decide +kernel
theorem dX8_keep_33 : decode cX8_keep 33 = .ok (.iadd, 1) := by decide +kernel
theorem dX8_keep_34 : decode cX8_keep 34 = .ok (.putfield 102, 3) := by decide +kernel
theorem dX8_keep_37 : decode cX8_keep 37 = .ok (.aload_n 0, 1) := by decide +kernel
theorem dX8_keep_38 : decode cX8_keep 38 = .ok (.getfield 102, 3) := by decide +kernel
theorem dX8_keep_41 : decode cX8_keep 41 = .ok (.ireturn, 1) := by decide +kernel
set_option maxRecDepth 20000 in
theorem ggX8_back_X3_takeFrom : GoodIn wsX8_back wsX3_takeFrom := goodIn_r _ [9, 10, 11, 12, 13, 14, 15, 16, 17, 18, 45, 46, 47, 48, 49] (by decide +kernel) (by decide +kernel)
set_option maxRecDepth 20000 in
theorem gX8_back_X3_takeFrom : GoodIn wsX8_back (wsV RX8 87 RX3 yX3_takeFrom wsX3_takeFrom) := goodIn_app (goodIn_of _ (by decide +kernel)) ggX8_back_X3_takeFrom
set_option maxRecDepth 20000 in
theorem ggX8_back_X1_clear : GoodIn wsX8_back wsX1_clear := goodIn_r _ [23, 24, 50, 51, 52, 53] (by decide +kernel) (by decide +kernel)
set_option maxRecDepth 20000 in
theorem gX8_back_X1_clear : GoodIn wsX8_back (wsV RX8 101 RX1 yX1_clear wsX1_clear) := goodIn_app (goodIn_of _ (by decide +kernel)) ggX8_back_X1_clear
set_option maxRecDepth 20000 in
theorem ggX8_back_X8_forgetViews : GoodIn wsX8_back wsX8_forgetViews := goodIn_r _ [29, 30, 31, 32, 33, 34, 35, 36, 37, 38, 39, 40, 41, 42, 43, 44, 54, 55, 56, 57, 58, 59, 60, 61, 62, 63, 64, 65, 66, 67, 68, 69, 70, 71, 72, 73, 74, 75, 76, 77, 78, 79, 80, 81, 82, 83, 84, 85, 86, 87, 88, 89, 90, 91, 92] (by decide +kernel) (by decide +kernel)
set_option maxRecDepth 20000 in
theorem gX8_back_X8_forgetViews : GoodIn wsX8_back (wsV RX8 105 RX8 yX8_forgetViews wsX8_forgetViews) := goodIn_app (goodIn_of _ (by decide +kernel)) ggX8_back_X8_forgetViews
theorem dX8_back_0 : decode cX8_back 0 = .ok (.aload_n 0, 1) := by decide +kernel
theorem dX8_back_1 : decode cX8_back 1 = .ok (.getfield 102, 3) := by decide +kernel
theorem dX8_back_4 : decode cX8_back 4 = .ok (.ifCond .le 11, 3) := by decide +kernel
theorem dX8_back_7 : decode cX8_back 7 = .ok (.aload_n 0, 1) := by decide +kernel
theorem dX8_back_8 : decode cX8_back 8 = .ok (.getfield 102, 3) := by decide +kernel
theorem dX8_back_11 : decode cX8_back 11 = .ok (.iconst 2, 1) := by decide +kernel
theorem dX8_back_12 : decode cX8_back 12 = .ok (.if_icmp .le 6, 3) := by decide +kernel
theorem dX8_back_15 : decode cX8_back 15 = .ok (.bipush (-2), 2) := by decide +kernel
theorem dX8_back_17 : decode cX8_back 17 = .ok (.ireturn, 1) := by decide +kernel
theorem dX8_back_18 : decode cX8_back 18 = .ok (.aload_n 0, 1) := by decide +kernel
theorem dX8_back_19 : decode cX8_back 19 = .ok (.dup, 1) := by decide +kernel
theorem dX8_back_20 : decode cX8_back 20 = .ok (.getfield 102, 3) := by decide +kernel
theorem dX8_back_23 : decode cX8_back 23 = .ok (.iconst 1, 1) := by decide +kernel
theorem dX8_back_24 : decode cX8_back 24 = .ok (.isub, 1) := by decide +kernel
theorem dX8_back_25 : decode cX8_back 25 = .ok (.putfield 102, 3) := by decide +kernel
theorem dX8_back_28 : decode cX8_back 28 = .ok (.aload_n 0, 1) := by decide +kernel
theorem dX8_back_29 : decode cX8_back 29 = .ok (.getfield 19, 3) := by decide +kernel
theorem dX8_back_32 : decode cX8_back 32 = .ok (.aload_n 0, 1) := by decide +kernel
theorem dX8_back_33 : decode cX8_back 33 = .ok (.getfield 26, 3) := by decide +kernel
theorem dX8_back_36 : decode cX8_back 36 = .ok (.aload_n 0, 1) := by decide +kernel
theorem dX8_back_37 : decode cX8_back 37 = .ok (.getfield 102, 3) := by decide +kernel
theorem dX8_back_40 : decode cX8_back 40 = .ok (.aaload, 1) := by decide +kernel
theorem dX8_back_41 : decode cX8_back 41 = .ok (.invokevirtual 87, 3) := by decide +kernel
theorem dX8_back_44 : decode cX8_back 44 = .ok (.aload_n 0, 1) := by decide +kernel
theorem dX8_back_45 : decode cX8_back 45 = .ok (.getfield 33, 3) := by decide +kernel
theorem dX8_back_48 : decode cX8_back 48 = .ok (.invokevirtual 101, 3) := by decide +kernel
theorem dX8_back_51 : decode cX8_back 51 = .ok (.aload_n 0, 1) := by decide +kernel
theorem dX8_back_52 : decode cX8_back 52 = .ok (.invokevirtual 105, 3) := by decide +kernel
theorem dX8_back_55 : decode cX8_back 55 = .ok (.aload_n 0, 1) := by decide +kernel
theorem dX8_back_56 : decode cX8_back 56 = .ok (.getfield 102, 3) := by decide +kernel
theorem dX8_back_59 : decode cX8_back 59 = .ok (.ireturn, 1) := by decide +kernel
set_option maxRecDepth 20000 in
theorem ggX8_count_X3_allOf : GoodIn wsX8_count wsX3_allOf := goodIn_r _ [14, 15, 27, 28, 29, 30, 31] (by decide +kernel) (by decide +kernel)
set_option maxRecDepth 20000 in
theorem gX8_count_X3_allOf : GoodIn wsX8_count (wsV RX8 218 RX3 yX3_allOf wsX3_allOf) := goodIn_app (goodIn_of _ (by decide +kernel)) ggX8_count_X3_allOf
theorem dX8_count_0 : decode cX8_count 0 = .ok (.iload_n 1, 1) := by decide +kernel
theorem dX8_count_1 : decode cX8_count 1 = .ok (.tableswitch 98 0 5 #[39, 47, 62, 77, 85, 90], 39) := by decide +kernel
theorem dX8_count_40 : decode cX8_count 40 = .ok (.aload_n 0, 1) := by decide +kernel
theorem dX8_count_41 : decode cX8_count 41 = .ok (.getfield 19, 3) := by decide +kernel
theorem dX8_count_44 : decode cX8_count 44 = .ok (.getfield 108, 3) := by decide +kernel
theorem dX8_count_47 : decode cX8_count 47 = .ok (.ireturn, 1) := by decide +kernel
theorem dX8_count_48 : decode cX8_count 48 = .ok (.aload_n 0, 1) := by decide +kernel
theorem dX8_count_49 : decode cX8_count 49 = .ok (.getfield 19, 3) := by decide +kernel
theorem dX8_count_52 : decode cX8_count 52 = .ok (.aload_n 0, 1) := by decide +kernel
theorem dX8_count_53 : decode cX8_count 53 = .ok (.getfield 19, 3) := by decide +kernel
theorem dX8_count_56 : decode cX8_count 56 = .ok (.getfield 122, 3) := by decide +kernel
theorem dX8_count_59 : decode cX8_count 59 = .ok (.invokevirtual 218, 3) := by decide +kernel
theorem dX8_count_62 : decode cX8_count 62 = .ok (.ireturn, 1) := by decide +kernel
theorem dX8_count_63 : decode cX8_count 63 = .ok (.aload_n 0, 1) := by decide +kernel
theorem dX8_count_64 : decode cX8_count 64 = .ok (.getfield 19, 3) := by decide +kernel
theorem dX8_count_67 : decode cX8_count 67 = .ok (.aload_n 0, 1) := by decide +kernel
theorem dX8_count_68 : decode cX8_count 68 = .ok (.getfield 19, 3) := by decide +kernel
theorem dX8_count_71 : decode cX8_count 71 = .ok (.getfield 119, 3) := by decide +kernel
theorem dX8_count_74 : decode cX8_count 74 = .ok (.invokevirtual 218, 3) := by decide +kernel
theorem dX8_count_77 : decode cX8_count 77 = .ok (.ireturn, 1) := by decide +kernel
theorem dX8_count_78 : decode cX8_count 78 = .ok (.aload_n 0, 1) := by decide +kernel
theorem dX8_count_79 : decode cX8_count 79 = .ok (.getfield 33, 3) := by decide +kernel
theorem dX8_count_82 : decode cX8_count 82 = .ok (.getfield 149, 3) := by decide +kernel
theorem dX8_count_85 : decode cX8_count 85 = .ok (.ireturn, 1) := by decide +kernel
theorem dX8_count_86 : decode cX8_count 86 = .ok (.aload_n 0, 1) := by decide +kernel
theorem dX8_count_87 : decode cX8_count 87 = .ok (.getfield 102, 3) := by decide +kernel
theorem dX8_count_90 : decode cX8_count 90 = .ok (.ireturn, 1) := by decide +kernel
theorem dX8_count_91 : decode cX8_count 91 = .ok (.aload_n 0, 1) := by decide +kernel
theorem dX8_count_92 : decode cX8_count 92 = .ok (.getfield 10, 3) := by decide +kernel
theorem dX8_count_95 : decode cX8_count 95 = .ok (.getfield 94, 3) := by decide +kernel
theorem dX8_count_98 : decode cX8_count 98 = .ok (.ireturn, 1) := by decide +kernel
theorem dX8_count_99 : decode cX8_count 99 = .ok (.iconst (-1), 1) := by decide +kernel
theorem dX8_count_100 : decode cX8_count 100 = .ok (.ireturn, 1) := by decide +kernel
theorem dX8_strictView_0 : decode cX8_strictView 0 = .ok (.iload_n 1, 1) := by decide +kernel
theorem dX8_strictView_1 : decode cX8_strictView 1 = .ok (.tableswitch 42 0 2 #[27, 32, 37], 27) := by decide +kernel
theorem dX8_strictView_28 : decode cX8_strictView 28 = .ok (.aload_n 0, 1) := by decide +kernel
theorem dX8_strictView_29 : decode cX8_strictView 29 = .ok (.getfield 47, 3) := by decide +kernel
theorem dX8_strictView_32 : decode cX8_strictView 32 = .ok (.areturn, 1) := by decide +kernel
theorem dX8_strictView_33 : decode cX8_strictView 33 = .ok (.aload_n 0, 1) := by decide +kernel
theorem dX8_strictView_34 : decode cX8_strictView 34 = .ok (.getfield 53, 3) := by decide +kernel
theorem dX8_strictView_37 : decode cX8_strictView 37 = .ok (.areturn, 1) := by decide +kernel
theorem dX8_strictView_38 : decode cX8_strictView 38 = .ok (.aload_n 0, 1) := by decide +kernel
theorem dX8_strictView_39 : decode cX8_strictView 39 = .ok (.getfield 40, 3) := by decide +kernel
theorem dX8_strictView_42 : decode cX8_strictView 42 = .ok (.areturn, 1) := by decide +kernel
theorem dX8_strictView_43 : decode cX8_strictView 43 = .ok (.aconst_null, 1) := by decide +kernel
theorem dX8_strictView_44 : decode cX8_strictView 44 = .ok (.areturn, 1) := by decide +kernel
set_option maxRecDepth 20000 in
theorem ggX8_solved_X7_solve : GoodIn wsX8_solved wsX7_solve := goodIn_r _ [8, 9, 10, 11, 12, 13, 14, 7, 15, 16, 17, 18, 19, 20, 21, 22, 23, 24, 25, 26, 27, 28, 29, 30, 31, 32, 33, 34, 35, 36, 37, 38, 39, 40, 41, 42, 43, 44, 45, 46, 47, 48, 49, 50, 51, 52, 53, 54, 55, 56, 57, 58, 59, 60, 61, 62, 63, 64, 65, 66, 67, 68, 69, 70, 71, 72, 73, 74, 75, 76, 77, 78, 79, 80, 81, 82, 83, 84, 85, 86, 87, 88, 89, 90, 91, 92, 93, 94, 95, 96, 97, 98, 99, 100, 101, 102, 103, 104, 105, 106, 107, 108, 109, 110, 111, 112, 113, 114, 115, 116, 117, 118, 119, 120, 121, 122, 123, 124, 125, 126, 127, 128, 129, 130, 131, 132, 133, 134, 135, 136, 137, 138, 139, 140, 141, 142, 143, 144, 145, 146, 147, 148, 149, 150, 151, 152, 153, 154, 155, 158, 159, 160, 161, 162, 163, 164, 165, 166, 167, 168, 169, 170, 171, 172, 173, 174, 175, 176, 177, 178, 179, 180, 181, 182, 183, 184, 185, 186, 187, 188, 189, 190, 191, 192, 193, 194, 195, 196, 208, 209, 210, 211, 212] (by decide +kernel) (by decide +kernel)
set_option maxRecDepth 20000 in
theorem gX8_solved_X7_solve_u212X0 : GoodIn wsX8_solved (va_wsU RX8 212 RX0 "EarlyValues$View" ⟨"EarlyValues$View", "solve", "(LEarlyValues$Program;)V"⟩ yX7_solve wsX7_solve) := goodIn_app (goodIn_of _ (by decide +kernel)) ggX8_solved_X7_solve
set_option maxRecDepth 20000 in
theorem gX8_solved_X7_solve_u212X4 : GoodIn wsX8_solved (va_wsU RX8 212 RX4 "EarlyValues$View" ⟨"EarlyValues$View", "solve", "(LEarlyValues$Program;)V"⟩ yX7_solve wsX7_solve) := goodIn_app (goodIn_of _ (by decide +kernel)) ggX8_solved_X7_solve
set_option maxRecDepth 20000 in
theorem gX8_solved_X7_solve_u212X6 : GoodIn wsX8_solved (va_wsU RX8 212 RX6 "EarlyValues$View" ⟨"EarlyValues$View", "solve", "(LEarlyValues$Program;)V"⟩ yX7_solve wsX7_solve) := goodIn_app (goodIn_of _ (by decide +kernel)) ggX8_solved_X7_solve
theorem dX8_solved_0 : decode cX8_solved 0 = .ok (.aload_n 1, 1) := by decide +kernel
theorem dX8_solved_1 : decode cX8_solved 1 = .ok (.getfield 222, 3) := by decide +kernel
theorem dX8_solved_4 : decode cX8_solved 4 = .ok (.ifCond .ne 11, 3) := by decide +kernel
theorem dX8_solved_7 : decode cX8_solved 7 = .ok (.aload_n 1, 1) := by decide +kernel
theorem dX8_solved_8 : decode cX8_solved 8 = .ok (.aload_n 0, 1) := by decide +kernel
theorem dX8_solved_9 : decode cX8_solved 9 = .ok (.getfield 19, 3) := by decide +kernel
theorem dX8_solved_12 : decode cX8_solved 12 = .ok (.invokevirtual 212, 3) := by decide +kernel
theorem dX8_solved_15 : decode cX8_solved 15 = .ok (.aload_n 1, 1) := by decide +kernel
theorem dX8_solved_16 : decode cX8_solved 16 = .ok (.areturn, 1) := by decide +kernel
theorem dX8_forgetViews_0 : decode cX8_forgetViews 0 = .ok (.aload_n 0, 1) := by decide +kernel
theorem dX8_forgetViews_1 : decode cX8_forgetViews 1 = .ok (.getfield 40, 3) := by decide +kernel
theorem dX8_forgetViews_4 : decode cX8_forgetViews 4 = .ok (.iconst 0, 1) := by decide +kernel
theorem dX8_forgetViews_5 : decode cX8_forgetViews 5 = .ok (.putfield 222, 3) := by decide +kernel
theorem dX8_forgetViews_8 : decode cX8_forgetViews 8 = .ok (.aload_n 0, 1) := by decide +kernel
theorem dX8_forgetViews_9 : decode cX8_forgetViews 9 = .ok (.getfield 47, 3) := by decide +kernel
theorem dX8_forgetViews_12 : decode cX8_forgetViews 12 = .ok (.iconst 0, 1) := by decide +kernel
theorem dX8_forgetViews_13 : decode cX8_forgetViews 13 = .ok (.putfield 222, 3) := by decide +kernel
theorem dX8_forgetViews_16 : decode cX8_forgetViews 16 = .ok (.aload_n 0, 1) := by decide +kernel
theorem dX8_forgetViews_17 : decode cX8_forgetViews 17 = .ok (.getfield 53, 3) := by decide +kernel
theorem dX8_forgetViews_20 : decode cX8_forgetViews 20 = .ok (.iconst 0, 1) := by decide +kernel
theorem dX8_forgetViews_21 : decode cX8_forgetViews 21 = .ok (.putfield 222, 3) := by decide +kernel
theorem dX8_forgetViews_24 : decode cX8_forgetViews 24 = .ok (.return_, 1) := by decide +kernel
set_option maxRecDepth 20000 in
theorem ggX8_isLeast_X7_at : GoodIn wsX8_isLeast wsX7_at := goodIn_r _ [6, 7, 8, 11, 12, 13, 14, 15, 16, 17, 18, 19, 20, 21, 22, 23, 24, 25, 26, 27, 28, 29, 30, 31, 32, 33, 34, 35, 36, 37, 38, 39, 40, 41, 42, 43, 44, 45, 46, 47, 48, 49] (by decide +kernel) (by decide +kernel)
set_option maxRecDepth 20000 in
theorem gX8_isLeast_X7_at_u165X0 : GoodIn wsX8_isLeast (va_wsU RX8 165 RX0 "EarlyValues$View" ⟨"EarlyValues$View", "at", "(II)I"⟩ yX7_at wsX7_at) := goodIn_app (goodIn_of _ (by decide +kernel)) ggX8_isLeast_X7_at
set_option maxRecDepth 20000 in
theorem gX8_isLeast_X7_at_u165X4 : GoodIn wsX8_isLeast (va_wsU RX8 165 RX4 "EarlyValues$View" ⟨"EarlyValues$View", "at", "(II)I"⟩ yX7_at wsX7_at) := goodIn_app (goodIn_of _ (by decide +kernel)) ggX8_isLeast_X7_at
set_option maxRecDepth 20000 in
theorem gX8_isLeast_X7_at_u165X6 : GoodIn wsX8_isLeast (va_wsU RX8 165 RX6 "EarlyValues$View" ⟨"EarlyValues$View", "at", "(II)I"⟩ yX7_at wsX7_at) := goodIn_app (goodIn_of _ (by decide +kernel)) ggX8_isLeast_X7_at
theorem dX8_isLeast_0 : decode cX8_isLeast 0 = .ok (.aload_n 1, 1) := by decide +kernel
theorem dX8_isLeast_1 : decode cX8_isLeast 1 = .ok (.iload_n 2, 1) := by decide +kernel
theorem dX8_isLeast_2 : decode cX8_isLeast 2 = .ok (.iload_n 3, 1) := by decide +kernel
theorem dX8_isLeast_3 : decode cX8_isLeast 3 = .ok (.invokevirtual 165, 3) := by decide +kernel
theorem dX8_isLeast_6 : decode cX8_isLeast 6 = .ok (.ifCond .ne 5, 3) := by decide +kernel
theorem dX8_isLeast_9 : decode cX8_isLeast 9 = .ok (.iconst 0, 1) := by decide +kernel
theorem dX8_isLeast_10 : decode cX8_isLeast 10 = .ok (.ireturn, 1) := by decide +kernel
theorem dX8_isLeast_11 : decode cX8_isLeast 11 = .ok (.iconst 0, 1) := by decide +kernel
theorem dX8_isLeast_12 : decode cX8_isLeast 12 = .ok (.istore 4, 2) := by decide +kernel
theorem dX8_isLeast_14 : decode cX8_isLeast 14 = .ok (.iload 4, 2) := by decide +kernel
theorem dX8_isLeast_16 : decode cX8_isLeast 16 = .ok (.iload_n 3, 1) := by decide +kernel
theorem dX8_isLeast_17 : decode cX8_isLeast 17 = .ok (.if_icmp .ge 30, 3) := by decide +kernel
theorem dX8_isLeast_20 : decode cX8_isLeast 20 = .ok (.iload 4, 2) := by decide +kernel
theorem dX8_isLeast_22 : decode cX8_isLeast 22 = .ok (.iload_n 3, 1) := by decide +kernel
theorem dX8_isLeast_23 : decode cX8_isLeast 23 = .ok (.iand, 1) := by decide +kernel
theorem dX8_isLeast_24 : decode cX8_isLeast 24 = .ok (.iload 4, 2) := by decide +kernel
theorem dX8_isLeast_26 : decode cX8_isLeast 26 = .ok (.if_icmp .ne 15, 3) := by decide +kernel
theorem dX8_isLeast_29 : decode cX8_isLeast 29 = .ok (.aload_n 1, 1) := by decide +kernel
theorem dX8_isLeast_30 : decode cX8_isLeast 30 = .ok (.iload_n 2, 1) := by decide +kernel
theorem dX8_isLeast_31 : decode cX8_isLeast 31 = .ok (.iload 4, 2) := by decide +kernel
theorem dX8_isLeast_33 : decode cX8_isLeast 33 = .ok (.invokevirtual 165, 3) := by decide +kernel
theorem dX8_isLeast_36 : decode cX8_isLeast 36 = .ok (.ifCond .eq 5, 3) := by decide +kernel
theorem dX8_isLeast_39 : decode cX8_isLeast 39 = .ok (.iconst 0, 1) := by decide +kernel
theorem dX8_isLeast_40 : decode cX8_isLeast 40 = .ok (.ireturn, 1) := by decide +kernel
theorem dX8_isLeast_41 : decode cX8_isLeast 41 = .ok (.iinc 4 1, 3) := by decide +kernel
theorem dX8_isLeast_44 : decode cX8_isLeast 44 = .ok (.goto (-30), 3) := by decide +kernel
theorem dX8_isLeast_47 : decode cX8_isLeast 47 = .ok (.iconst 1, 1) := by decide +kernel
theorem dX8_isLeast_48 : decode cX8_isLeast 48 = .ok (.ireturn, 1) := by decide +kernel
theorem dX9_in_0 : decode cX9_in 0 = .ok (.iload_n 0, 1) := by decide +kernel
theorem dX9_in_1 : decode cX9_in 1 = .ok (.iload_n 1, 1) := by decide +kernel
theorem dX9_in_2 : decode cX9_in 2 = .ok (.if_icmp .lt 12, 3) := by decide +kernel
theorem dX9_in_5 : decode cX9_in 5 = .ok (.iload_n 0, 1) := by decide +kernel
theorem dX9_in_6 : decode cX9_in 6 = .ok (.iload_n 2, 1) := by decide +kernel
theorem dX9_in_7 : decode cX9_in 7 = .ok (.if_icmp .gt 7, 3) := by decide +kernel
theorem dX9_in_10 : decode cX9_in 10 = .ok (.iconst 1, 1) := by decide +kernel
theorem dX9_in_11 : decode cX9_in 11 = .ok (.goto 4, 3) := by decide +kernel
theorem dX9_in_14 : decode cX9_in 14 = .ok (.iconst 0, 1) := by decide +kernel
theorem dX9_in_15 : decode cX9_in 15 = .ok (.ireturn, 1) := by decide +kernel
set_option maxRecDepth 20000 in
theorem ggX9_init_X9_begins : GoodIn wsX9_init wsX9_begins := goodIn_r _ [23, 24, 25, 26, 22, 27, 8, 7, 28, 29, 30, 31, 32, 33, 34, 35, 36, 37, 38, 39, 40, 41, 42, 43, 44, 45, 46, 47] (by decide +kernel) (by decide +kernel)
set_option maxRecDepth 20000 in
theorem gX9_init_X9_begins : GoodIn wsX9_init (wsV RX9 53 RX9 yX9_begins wsX9_begins) := goodIn_app (goodIn_of _ (by decide +kernel)) ggX9_init_X9_begins
theorem dX9_init_0 : decode cX9_init 0 = .ok (.aload_n 0, 1) := by decide +kernel
theorem dX9_init_1 : decode cX9_init 1 = .ok (.invokespecial 1, 3) := by decide +kernel
theorem dX9_init_4 : decode cX9_init 4 = .ok (.aload_n 0, 1) := by decide +kernel
theorem dX9_init_5 : decode cX9_init 5 = .ok (.iconst 4, 1) := by decide +kernel
theorem dX9_init_6 : decode cX9_init 6 = .ok (.newarray .int, 2) := by decide +kernel
theorem dX9_init_8 : decode cX9_init 8 = .ok (.putfield 7, 3) := by decide +kernel
theorem dX9_init_11 : decode cX9_init 11 = .ok (.aload_n 0, 1) := by decide +kernel
theorem dX9_init_12 : decode cX9_init 12 = .ok (.iconst 4, 1) := by decide +kernel
theorem dX9_init_13 : decode cX9_init 13 = .ok (.newarray .int, 2) := by decide +kernel
theorem dX9_init_15 : decode cX9_init 15 = .ok (.putfield 13, 3) := by decide +kernel
theorem dX9_init_18 : decode cX9_init 18 = .ok (.aload_n 0, 1) := by decide +kernel
theorem dX9_init_19 : decode cX9_init 19 = .ok (.iconst 4, 1) := by decide +kernel
theorem dX9_init_20 : decode cX9_init 20 = .ok (.newarray .int, 2) := by decide +kernel
theorem dX9_init_22 : decode cX9_init 22 = .ok (.putfield 16, 3) := by decide +kernel
theorem dX9_init_25 : decode cX9_init 25 = .ok (.aload_n 0, 1) := by decide +kernel
theorem dX9_init_26 : decode cX9_init 26 = .ok (.bipush 96, 2) := by decide +kernel
theorem dX9_init_28 : decode cX9_init 28 = .ok (.newarray .int, 2) := by decide +kernel
theorem dX9_init_30 : decode cX9_init 30 = .ok (.putfield 19, 3) := by decide +kernel
theorem dX9_init_33 : decode cX9_init 33 = .ok (.aload_n 0, 1) := by decide +kernel
theorem dX9_init_34 : decode cX9_init 34 = .ok (.sipush 1500, 3) := by decide +kernel
theorem dX9_init_37 : decode cX9_init 37 = .ok (.newarray .int, 2) := by decide +kernel
theorem dX9_init_39 : decode cX9_init 39 = .ok (.putfield 22, 3) := by decide +kernel
theorem dX9_init_42 : decode cX9_init 42 = .ok (.aload_n 0, 1) := by decide +kernel
theorem dX9_init_43 : decode cX9_init 43 = .ok (.sipush 500, 3) := by decide +kernel
theorem dX9_init_46 : decode cX9_init 46 = .ok (.newarray .int, 2) := by decide +kernel
theorem dX9_init_48 : decode cX9_init 48 = .ok (.putfield 25, 3) := by decide +kernel
theorem dX9_init_51 : decode cX9_init 51 = .ok (.aload_n 0, 1) := by decide +kernel
theorem dX9_init_52 : decode cX9_init 52 = .ok (.iconst 3, 1) := by decide +kernel
theorem dX9_init_53 : decode cX9_init 53 = .ok (.newarray .int, 2) := by decide +kernel
theorem dX9_init_55 : decode cX9_init 55 = .ok (.putfield 28, 3) := by decide +kernel
theorem dX9_init_58 : decode cX9_init 58 = .ok (.aload_n 0, 1) := by decide +kernel
theorem dX9_init_59 : decode cX9_init 59 = .ok (.bipush 32, 2) := by decide +kernel
theorem dX9_init_61 : decode cX9_init 61 = .ok (.newarray .int, 2) := by decide +kernel
theorem dX9_init_63 : decode cX9_init 63 = .ok (.putfield 31, 3) := by decide +kernel
theorem dX9_init_66 : decode cX9_init 66 = .ok (.aload_n 0, 1) := by decide +kernel
theorem dX9_init_67 : decode cX9_init 67 = .ok (.sipush 872, 3) := by decide +kernel
theorem dX9_init_70 : decode cX9_init 70 = .ok (.newarray .int, 2) := by decide +kernel
theorem dX9_init_72 : decode cX9_init 72 = .ok (.putfield 34, 3) := by decide +kernel
theorem dX9_init_75 : decode cX9_init 75 = .ok (.aload_n 0, 1) := by decide +kernel
theorem dX9_init_76 : decode cX9_init 76 = .ok (.sipush 218, 3) := by decide +kernel
theorem dX9_init_79 : decode cX9_init 79 = .ok (.newarray .int, 2) := by decide +kernel
theorem dX9_init_81 : decode cX9_init 81 = .ok (.putfield 37, 3) := by decide +kernel
theorem dX9_init_84 : decode cX9_init 84 = .ok (.aload_n 0, 1) := by decide +kernel
theorem dX9_init_85 : decode cX9_init 85 = .ok (.bipush 109, 2) := by decide +kernel
theorem dX9_init_87 : decode cX9_init 87 = .ok (.newarray .int, 2) := by decide +kernel
theorem dX9_init_89 : decode cX9_init 89 = .ok (.putfield 40, 3) := by decide +kernel
theorem dX9_init_92 : decode cX9_init 92 = .ok (.aload_n 0, 1) := by decide +kernel
theorem dX9_init_93 : decode cX9_init 93 = .ok (.sipush 200, 3) := by decide +kernel
theorem dX9_init_96 : decode cX9_init 96 = .ok (.newarray .int, 2) := by decide +kernel
theorem dX9_init_98 : decode cX9_init 98 = .ok (.putfield 43, 3) := by decide +kernel
theorem dX9_init_101 : decode cX9_init 101 = .ok (.aload_n 0, 1) := by decide +kernel
theorem dX9_init_102 : decode cX9_init 102 = .ok (.bipush 109, 2) := by decide +kernel
theorem dX9_init_104 : decode cX9_init 104 = .ok (.newarray .int, 2) := by decide +kernel
theorem dX9_init_106 : decode cX9_init 106 = .ok (.putfield 46, 3) := by decide +kernel
theorem dX9_init_109 : decode cX9_init 109 = .ok (.aload_n 0, 1) := by decide +kernel
theorem dX9_init_110 : decode cX9_init 110 = .ok (.iconst 3, 1) := by decide +kernel
theorem dX9_init_111 : decode cX9_init 111 = .ok (.putfield 49, 3) := by decide +kernel
theorem dX9_init_114 : decode cX9_init 114 = .ok (.aload_n 0, 1) := by decide +kernel
theorem dX9_init_115 : decode cX9_init 115 = .ok (.getfield 13, 3) := by decide +kernel
theorem dX9_init_118 : decode cX9_init 118 = .ok (.iconst 2, 1) := by decide +kernel
theorem dX9_init_119 : decode cX9_init 119 = .ok (.iconst 1, 1) := by decide +kernel
theorem dX9_init_120 : decode cX9_init 120 = .ok (.iastore, 1) := by decide +kernel
theorem dX9_init_121 : decode cX9_init 121 = .ok (.aload_n 0, 1) := by decide +kernel
theorem dX9_init_122 : decode cX9_init 122 = .ok (.getfield 7, 3) := by decide +kernel
theorem dX9_init_125 : decode cX9_init 125 = .ok (.iconst 0, 1) := by decide +kernel
theorem dX9_init_126 : decode cX9_init 126 = .ok (.iconst 2, 1) := by decide +kernel
theorem dX9_init_127 : decode cX9_init 127 = .ok (.iastore, 1) := by decide +kernel
theorem dX9_init_128 : decode cX9_init 128 = .ok (.aload_n 0, 1) := by decide +kernel
theorem dX9_init_129 : decode cX9_init 129 = .ok (.getfield 7, 3) := by decide +kernel
theorem dX9_init_132 : decode cX9_init 132 = .ok (.iconst 1, 1) := by decide +kernel
theorem dX9_init_133 : decode cX9_init 133 = .ok (.iconst 1, 1) := by decide +kernel
theorem dX9_init_134 : decode cX9_init 134 = .ok (.iastore, 1) := by decide +kernel
theorem dX9_init_135 : decode cX9_init 135 = .ok (.aload_n 0, 1) := by decide +kernel
theorem dX9_init_136 : decode cX9_init 136 = .ok (.getfield 7, 3) := by decide +kernel
theorem dX9_init_139 : decode cX9_init 139 = .ok (.iconst 2, 1) := by decide +kernel
theorem dX9_init_140 : decode cX9_init 140 = .ok (.iconst 2, 1) := by decide +kernel
theorem dX9_init_141 : decode cX9_init 141 = .ok (.iastore, 1) := by decide +kernel
theorem dX9_init_142 : decode cX9_init 142 = .ok (.aload_n 0, 1) := by decide +kernel
theorem dX9_init_143 : decode cX9_init 143 = .ok (.iconst 0, 1) := by decide +kernel
theorem dX9_init_144 : decode cX9_init 144 = .ok (.bipush 63, 2) := by decide +kernel
theorem dX9_init_146 : decode cX9_init 146 = .ok (.bipush 97, 2) := by decide +kernel
theorem dX9_init_148 : decode cX9_init 148 = .ok (.bipush 48, 2) := by decide +kernel
theorem dX9_init_150 : decode cX9_init 150 = .ok (.bipush 109, 2) := by decide +kernel
theorem dX9_init_152 : decode cX9_init 152 = .ok (.invokevirtual 53, 3) := by decide +kernel
theorem dX9_init_155 : decode cX9_init 155 = .ok (.aload_n 0, 1) := by decide +kernel
theorem dX9_init_156 : decode cX9_init 156 = .ok (.iconst 0, 1) := by decide +kernel
theorem dX9_init_157 : decode cX9_init 157 = .ok (.bipush 97, 2) := by decide +kernel
theorem dX9_init_159 : decode cX9_init 159 = .ok (.bipush 98, 2) := by decide +kernel
theorem dX9_init_161 : decode cX9_init 161 = .ok (.bipush 111, 2) := by decide +kernel
theorem dX9_init_163 : decode cX9_init 163 = .ok (.iconst 0, 1) := by decide +kernel
theorem dX9_init_164 : decode cX9_init 164 = .ok (.invokevirtual 53, 3) := by decide +kernel
theorem dX9_init_167 : decode cX9_init 167 = .ok (.aload_n 0, 1) := by decide +kernel
theorem dX9_init_168 : decode cX9_init 168 = .ok (.iconst 1, 1) := by decide +kernel
theorem dX9_init_169 : decode cX9_init 169 = .ok (.bipush 43, 2) := by decide +kernel
theorem dX9_init_171 : decode cX9_init 171 = .ok (.bipush 97, 2) := by decide +kernel
theorem dX9_init_173 : decode cX9_init 173 = .ok (.bipush 63, 2) := by decide +kernel
theorem dX9_init_175 : decode cX9_init 175 = .ok (.bipush 97, 2) := by decide +kernel
theorem dX9_init_177 : decode cX9_init 177 = .ok (.invokevirtual 53, 3) := by decide +kernel
theorem dX9_init_180 : decode cX9_init 180 = .ok (.aload_n 0, 1) := by decide +kernel
theorem dX9_init_181 : decode cX9_init 181 = .ok (.iconst 1, 1) := by decide +kernel
theorem dX9_init_182 : decode cX9_init 182 = .ok (.bipush 49, 2) := by decide +kernel
theorem dX9_init_184 : decode cX9_init 184 = .ok (.bipush 109, 2) := by decide +kernel
theorem dX9_init_186 : decode cX9_init 186 = .ok (.bipush 97, 2) := by decide +kernel
theorem dX9_init_188 : decode cX9_init 188 = .ok (.bipush 111, 2) := by decide +kernel
theorem dX9_init_190 : decode cX9_init 190 = .ok (.invokevirtual 53, 3) := by decide +kernel
theorem dX9_init_193 : decode cX9_init 193 = .ok (.aload_n 0, 1) := by decide +kernel
theorem dX9_init_194 : decode cX9_init 194 = .ok (.iconst 2, 1) := by decide +kernel
theorem dX9_init_195 : decode cX9_init 195 = .ok (.bipush 63, 2) := by decide +kernel
theorem dX9_init_197 : decode cX9_init 197 = .ok (.bipush 97, 2) := by decide +kernel
theorem dX9_init_199 : decode cX9_init 199 = .ok (.bipush 98, 2) := by decide +kernel
theorem dX9_init_201 : decode cX9_init 201 = .ok (.bipush 50, 2) := by decide +kernel
theorem dX9_init_203 : decode cX9_init 203 = .ok (.invokevirtual 53, 3) := by decide +kernel
theorem dX9_init_206 : decode cX9_init 206 = .ok (.aload_n 0, 1) := by decide +kernel
theorem dX9_init_207 : decode cX9_init 207 = .ok (.iconst 2, 1) := by decide +kernel
theorem dX9_init_208 : decode cX9_init 208 = .ok (.bipush 109, 2) := by decide +kernel
theorem dX9_init_210 : decode cX9_init 210 = .ok (.bipush 98, 2) := by decide +kernel
theorem dX9_init_212 : decode cX9_init 212 = .ok (.bipush 43, 2) := by decide +kernel
theorem dX9_init_214 : decode cX9_init 214 = .ok (.bipush 97, 2) := by decide +kernel
theorem dX9_init_216 : decode cX9_init 216 = .ok (.invokevirtual 53, 3) := by decide +kernel
theorem dX9_init_219 : decode cX9_init 219 = .ok (.aload_n 0, 1) := by decide +kernel
theorem dX9_init_220 : decode cX9_init 220 = .ok (.iconst 2, 1) := by decide +kernel
theorem dX9_init_221 : decode cX9_init 221 = .ok (.bipush 98, 2) := by decide +kernel
theorem dX9_init_223 : decode cX9_init 223 = .ok (.iconst 0, 1) := by decide +kernel
theorem dX9_init_224 : decode cX9_init 224 = .ok (.iconst 0, 1) := by decide +kernel
theorem dX9_init_225 : decode cX9_init 225 = .ok (.iconst 0, 1) := by decide +kernel
theorem dX9_init_226 : decode cX9_init 226 = .ok (.invokevirtual 53, 3) := by decide +kernel
theorem dX9_init_229 : decode cX9_init 229 = .ok (.return_, 1) := by decide +kernel
set_option maxRecDepth 20000 in
theorem ggX9_begins_X9_begin : GoodIn wsX9_begins wsX9_begin := goodIn_r _ [5, 6, 7, 8, 9, 10, 11, 12, 13, 14, 15, 16, 17, 18, 19, 20, 21, 22, 23, 24, 25, 26, 27] (by decide +kernel) (by decide +kernel)
set_option maxRecDepth 20000 in
theorem gX9_begins_X9_begin : GoodIn wsX9_begins (wsV RX9 57 RX9 yX9_begin wsX9_begin) := goodIn_app (goodIn_of _ (by decide +kernel)) ggX9_begins_X9_begin
theorem dX9_begins_0 : decode cX9_begins 0 = .ok (.aload_n 0, 1) := by decide +kernel
theorem dX9_begins_1 : decode cX9_begins 1 = .ok (.iload_n 1, 1) := by decide +kernel
theorem dX9_begins_2 : decode cX9_begins 2 = .ok (.iload_n 2, 1) := by decide +kernel
theorem dX9_begins_3 : decode cX9_begins 3 = .ok (.invokevirtual 57, 3) := by decide +kernel
theorem dX9_begins_6 : decode cX9_begins 6 = .ok (.aload_n 0, 1) := by decide +kernel
theorem dX9_begins_7 : decode cX9_begins 7 = .ok (.iload_n 1, 1) := by decide +kernel
theorem dX9_begins_8 : decode cX9_begins 8 = .ok (.iload_n 3, 1) := by decide +kernel
theorem dX9_begins_9 : decode cX9_begins 9 = .ok (.invokevirtual 57, 3) := by decide +kernel
theorem dX9_begins_12 : decode cX9_begins 12 = .ok (.aload_n 0, 1) := by decide +kernel
theorem dX9_begins_13 : decode cX9_begins 13 = .ok (.iload_n 1, 1) := by decide +kernel
theorem dX9_begins_14 : decode cX9_begins 14 = .ok (.iload 4, 2) := by decide +kernel
theorem dX9_begins_16 : decode cX9_begins 16 = .ok (.invokevirtual 57, 3) := by decide +kernel
theorem dX9_begins_19 : decode cX9_begins 19 = .ok (.aload_n 0, 1) := by decide +kernel
theorem dX9_begins_20 : decode cX9_begins 20 = .ok (.iload_n 1, 1) := by decide +kernel
theorem dX9_begins_21 : decode cX9_begins 21 = .ok (.iload 5, 2) := by decide +kernel
theorem dX9_begins_23 : decode cX9_begins 23 = .ok (.invokevirtual 57, 3) := by decide +kernel
theorem dX9_begins_26 : decode cX9_begins 26 = .ok (.return_, 1) := by decide +kernel
theorem dX9_begin_0 : decode cX9_begin 0 = .ok (.iload_n 2, 1) := by decide +kernel
theorem dX9_begin_1 : decode cX9_begin 1 = .ok (.ifCond .le 30, 3) := by decide +kernel
theorem dX9_begin_4 : decode cX9_begin 4 = .ok (.aload_n 0, 1) := by decide +kernel
theorem dX9_begin_5 : decode cX9_begin 5 = .ok (.getfield 19, 3) := by decide +kernel
theorem dX9_begin_8 : decode cX9_begin 8 = .ok (.bipush 24, 2) := by decide +kernel
theorem dX9_begin_10 : decode cX9_begin 10 = .ok (.iload_n 1, 1) := by decide +kernel
theorem dX9_begin_11 : decode cX9_begin 11 = .ok (.imul, 1) := by decide +kernel
theorem dX9_begin_12 : decode cX9_begin 12 = .ok (.aload_n 0, 1) := by decide +kernel
theorem dX9_begin_13 : decode cX9_begin 13 = .ok (.getfield 16, 3) := by decide +kernel
theorem dX9_begin_16 : decode cX9_begin 16 = .ok (.iload_n 1, 1) := by decide +kernel
theorem dX9_begin_17 : decode cX9_begin 17 = .ok (.iaload, 1) := by decide +kernel
theorem dX9_begin_18 : decode cX9_begin 18 = .ok (.iadd, 1) := by decide +kernel
theorem dX9_begin_19 : decode cX9_begin 19 = .ok (.iload_n 2, 1) := by decide +kernel
theorem dX9_begin_20 : decode cX9_begin 20 = .ok (.iastore, 1) := by decide +kernel
theorem dX9_begin_21 : decode cX9_begin 21 = .ok (.aload_n 0, 1) := by decide +kernel
theorem dX9_begin_22 : decode cX9_begin 22 = .ok (.getfield 16, 3) := by decide +kernel
theorem dX9_begin_25 : decode cX9_begin 25 = .ok (.iload_n 1, 1) := by decide +kernel
theorem dX9_begin_26 : decode cX9_begin 26 = .ok (.dup2, 1) := by decide +kernel
theorem dX9_begin_27 : decode cX9_begin 27 = .ok (.iaload, 1) := by decide +kernel
theorem dX9_begin_28 : decode cX9_begin 28 = .ok (.iconst 1, 1) := by decide +kernel
theorem dX9_begin_29 : decode cX9_begin 29 = .ok (.iadd, 1) := by decide +kernel
theorem dX9_begin_30 : decode cX9_begin 30 = .ok (.iastore, 1) := by decide +kernel
theorem dX9_begin_31 : decode cX9_begin 31 = .ok (.return_, 1) := by decide +kernel
set_option maxRecDepth 20000 in
theorem ggX9_isFunction_X9_in : GoodIn wsX9_isFunction wsX9_in := goodIn_r _ [5] (by decide +kernel) (by decide +kernel)
set_option maxRecDepth 20000 in
theorem gX9_isFunction_X9_in : GoodIn wsX9_isFunction (va_wsS RX9 61 yX9_in wsX9_in) := goodIn_app (goodIn_of _ (by decide +kernel)) ggX9_isFunction_X9_in
theorem dX9_isFunction_0 : decode cX9_isFunction 0 = .ok (.iload_n 1, 1) := by decide +kernel
theorem dX9_isFunction_1 : decode cX9_isFunction 1 = .ok (.iconst 0, 1) := by decide +kernel
theorem dX9_isFunction_2 : decode cX9_isFunction 2 = .ok (.aload_n 0, 1) := by decide +kernel
theorem dX9_isFunction_3 : decode cX9_isFunction 3 = .ok (.getfield 49, 3) := by decide +kernel
theorem dX9_isFunction_6 : decode cX9_isFunction 6 = .ok (.iconst 1, 1) := by decide +kernel
theorem dX9_isFunction_7 : decode cX9_isFunction 7 = .ok (.isub, 1) := by decide +kernel
theorem dX9_isFunction_8 : decode cX9_isFunction 8 = .ok (.invokestatic 61, 3) := by decide +kernel
theorem dX9_isFunction_11 : decode cX9_isFunction 11 = .ok (.ireturn, 1) := by decide +kernel
theorem dX9_letterBy_0 : decode cX9_letterBy 0 = .ok (.iload_n 0, 1) := by decide +kernel
theorem dX9_letterBy_1 : decode cX9_letterBy 1 = .ok (.tableswitch 85 0 9 #[55, 58, 61, 64, 67, 70, 73, 76, 79, 82], 55) := by decide +kernel
theorem dX9_letterBy_56 : decode cX9_letterBy 56 = .ok (.bipush 111, 2) := by decide +kernel
theorem dX9_letterBy_58 : decode cX9_letterBy 58 = .ok (.ireturn, 1) := by decide +kernel
theorem dX9_letterBy_59 : decode cX9_letterBy 59 = .ok (.bipush 105, 2) := by decide +kernel
theorem dX9_letterBy_61 : decode cX9_letterBy 61 = .ok (.ireturn, 1) := by decide +kernel
theorem dX9_letterBy_62 : decode cX9_letterBy 62 = .ok (.bipush 119, 2) := by decide +kernel
theorem dX9_letterBy_64 : decode cX9_letterBy 64 = .ok (.ireturn, 1) := by decide +kernel
theorem dX9_letterBy_65 : decode cX9_letterBy 65 = .ok (.bipush 97, 2) := by decide +kernel
theorem dX9_letterBy_67 : decode cX9_letterBy 67 = .ok (.ireturn, 1) := by decide +kernel
theorem dX9_letterBy_68 : decode cX9_letterBy 68 = .ok (.bipush 98, 2) := by decide +kernel
theorem dX9_letterBy_70 : decode cX9_letterBy 70 = .ok (.ireturn, 1) := by decide +kernel
theorem dX9_letterBy_71 : decode cX9_letterBy 71 = .ok (.bipush 99, 2) := by decide +kernel
theorem dX9_letterBy_73 : decode cX9_letterBy 73 = .ok (.ireturn, 1) := by decide +kernel
theorem dX9_letterBy_74 : decode cX9_letterBy 74 = .ok (.bipush 109, 2) := by decide +kernel
theorem dX9_letterBy_76 : decode cX9_letterBy 76 = .ok (.ireturn, 1) := by decide +kernel
theorem dX9_letterBy_77 : decode cX9_letterBy 77 = .ok (.bipush 43, 2) := by decide +kernel
theorem dX9_letterBy_79 : decode cX9_letterBy 79 = .ok (.ireturn, 1) := by decide +kernel
theorem dX9_letterBy_80 : decode cX9_letterBy 80 = .ok (.bipush 38, 2) := by decide +kernel
theorem dX9_letterBy_82 : decode cX9_letterBy 82 = .ok (.ireturn, 1) := by decide +kernel
theorem dX9_letterBy_83 : decode cX9_letterBy 83 = .ok (.bipush 63, 2) := by decide +kernel
theorem dX9_letterBy_85 : decode cX9_letterBy 85 = .ok (.ireturn, 1) := by decide +kernel
theorem dX9_letterBy_86 : decode cX9_letterBy 86 = .ok (.bipush 48, 2) := by decide +kernel
theorem dX9_letterBy_88 : decode cX9_letterBy 88 = .ok (.iload_n 0, 1) := by decide +kernel
theorem dX9_letterBy_89 : decode cX9_letterBy 89 = .ok (.iadd, 1) := by decide +kernel
theorem dX9_letterBy_90 : decode cX9_letterBy 90 = .ok (.bipush 10, 2) := by decide +kernel
theorem dX9_letterBy_92 : decode cX9_letterBy 92 = .ok (.isub, 1) := by decide +kernel
theorem dX9_letterBy_93 : decode cX9_letterBy 93 = .ok (.ireturn, 1) := by decide +kernel
set_option maxRecDepth 20000 in
theorem ggX9_placeOf_X9_letterBy : GoodIn wsX9_placeOf wsX9_letterBy := goodIn_r _ [4] (by decide +kernel) (by decide +kernel)
set_option maxRecDepth 20000 in
theorem gX9_placeOf_X9_letterBy : GoodIn wsX9_placeOf (va_wsS RX9 65 yX9_letterBy wsX9_letterBy) := goodIn_app (goodIn_of _ (by decide +kernel)) ggX9_placeOf_X9_letterBy
theorem dX9_placeOf_0 : decode cX9_placeOf 0 = .ok (.iconst 0, 1) := by decide +kernel
theorem dX9_placeOf_1 : decode cX9_placeOf 1 = .ok (.istore_n 1, 1) := by decide +kernel
theorem dX9_placeOf_2 : decode cX9_placeOf 2 = .ok (.iload_n 1, 1) := by decide +kernel
theorem dX9_placeOf_3 : decode cX9_placeOf 3 = .ok (.bipush 14, 2) := by decide +kernel
theorem dX9_placeOf_5 : decode cX9_placeOf 5 = .ok (.if_icmp .ge 17, 3) := by decide +kernel
theorem dX9_placeOf_8 : decode cX9_placeOf 8 = .ok (.iload_n 1, 1) := by decide +kernel
theorem dX9_placeOf_9 : decode cX9_placeOf 9 = .ok (.invokestatic 65, 3) := by decide +kernel
theorem dX9_placeOf_12 : decode cX9_placeOf 12 = .ok (.iload_n 0, 1) := by decide +kernel
theorem dX9_placeOf_13 : decode cX9_placeOf 13 = .ok (.if_icmp .eq 9, 3) := by decide +kernel
theorem dX9_placeOf_16 : decode cX9_placeOf 16 = .ok (.iinc 1 1, 3) := by decide +kernel
theorem dX9_placeOf_19 : decode cX9_placeOf 19 = .ok (.goto (-17), 3) := by decide +kernel
theorem dX9_placeOf_22 : decode cX9_placeOf 22 = .ok (.iload_n 1, 1) := by decide +kernel
theorem dX9_placeOf_23 : decode cX9_placeOf 23 = .ok (.ireturn, 1) := by decide +kernel
set_option maxRecDepth 20000 in
theorem ggX9_partsOf_X9_in : GoodIn wsX9_partsOf wsX9_in := goodIn_r _ [6] (by decide +kernel) (by decide +kernel)
set_option maxRecDepth 20000 in
theorem gX9_partsOf_X9_in : GoodIn wsX9_partsOf (va_wsS RX9 61 yX9_in wsX9_in) := goodIn_app (goodIn_of _ (by decide +kernel)) ggX9_partsOf_X9_in
theorem dX9_partsOf_0 : decode cX9_partsOf 0 = .ok (.iload_n 1, 1) := by decide +kernel
theorem dX9_partsOf_1 : decode cX9_partsOf 1 = .ok (.bipush 111, 2) := by decide +kernel
theorem dX9_partsOf_3 : decode cX9_partsOf 3 = .ok (.if_icmp .eq 15, 3) := by decide +kernel
theorem dX9_partsOf_6 : decode cX9_partsOf 6 = .ok (.iload_n 1, 1) := by decide +kernel
theorem dX9_partsOf_7 : decode cX9_partsOf 7 = .ok (.bipush 105, 2) := by decide +kernel
theorem dX9_partsOf_9 : decode cX9_partsOf 9 = .ok (.if_icmp .eq 9, 3) := by decide +kernel
theorem dX9_partsOf_12 : decode cX9_partsOf 12 = .ok (.iload_n 1, 1) := by decide +kernel
theorem dX9_partsOf_13 : decode cX9_partsOf 13 = .ok (.bipush 119, 2) := by decide +kernel
theorem dX9_partsOf_15 : decode cX9_partsOf 15 = .ok (.if_icmp .ne 5, 3) := by decide +kernel
theorem dX9_partsOf_18 : decode cX9_partsOf 18 = .ok (.iconst 0, 1) := by decide +kernel
theorem dX9_partsOf_19 : decode cX9_partsOf 19 = .ok (.ireturn, 1) := by decide +kernel
theorem dX9_partsOf_20 : decode cX9_partsOf 20 = .ok (.iload_n 1, 1) := by decide +kernel
theorem dX9_partsOf_21 : decode cX9_partsOf 21 = .ok (.bipush 97, 2) := by decide +kernel
theorem dX9_partsOf_23 : decode cX9_partsOf 23 = .ok (.bipush 99, 2) := by decide +kernel
theorem dX9_partsOf_25 : decode cX9_partsOf 25 = .ok (.invokestatic 61, 3) := by decide +kernel
theorem dX9_partsOf_28 : decode cX9_partsOf 28 = .ok (.ifCond .eq 18, 3) := by decide +kernel
theorem dX9_partsOf_31 : decode cX9_partsOf 31 = .ok (.iload_n 1, 1) := by decide +kernel
theorem dX9_partsOf_32 : decode cX9_partsOf 32 = .ok (.bipush 97, 2) := by decide +kernel
theorem dX9_partsOf_34 : decode cX9_partsOf 34 = .ok (.isub, 1) := by decide +kernel
theorem dX9_partsOf_35 : decode cX9_partsOf 35 = .ok (.iload_n 2, 1) := by decide +kernel
theorem dX9_partsOf_36 : decode cX9_partsOf 36 = .ok (.if_icmp .ge 7, 3) := by decide +kernel
theorem dX9_partsOf_39 : decode cX9_partsOf 39 = .ok (.iconst 0, 1) := by decide +kernel
theorem dX9_partsOf_40 : decode cX9_partsOf 40 = .ok (.goto 5, 3) := by decide +kernel
theorem dX9_partsOf_43 : decode cX9_partsOf 43 = .ok (.bipush (-4), 2) := by decide +kernel
theorem dX9_partsOf_45 : decode cX9_partsOf 45 = .ok (.ireturn, 1) := by decide +kernel
theorem dX9_partsOf_46 : decode cX9_partsOf 46 = .ok (.iload_n 1, 1) := by decide +kernel
theorem dX9_partsOf_47 : decode cX9_partsOf 47 = .ok (.bipush 48, 2) := by decide +kernel
theorem dX9_partsOf_49 : decode cX9_partsOf 49 = .ok (.bipush 51, 2) := by decide +kernel
theorem dX9_partsOf_51 : decode cX9_partsOf 51 = .ok (.invokestatic 61, 3) := by decide +kernel
theorem dX9_partsOf_54 : decode cX9_partsOf 54 = .ok (.ifCond .eq 29, 3) := by decide +kernel
theorem dX9_partsOf_57 : decode cX9_partsOf 57 = .ok (.iload_n 1, 1) := by decide +kernel
theorem dX9_partsOf_58 : decode cX9_partsOf 58 = .ok (.bipush 48, 2) := by decide +kernel
theorem dX9_partsOf_60 : decode cX9_partsOf 60 = .ok (.isub, 1) := by decide +kernel
theorem dX9_partsOf_61 : decode cX9_partsOf 61 = .ok (.aload_n 0, 1) := by decide +kernel
theorem dX9_partsOf_62 : decode cX9_partsOf 62 = .ok (.getfield 49, 3) := by decide +kernel
theorem dX9_partsOf_65 : decode cX9_partsOf 65 = .ok (.if_icmp .ge 15, 3) := by decide +kernel
theorem dX9_partsOf_68 : decode cX9_partsOf 68 = .ok (.aload_n 0, 1) := by decide +kernel
theorem dX9_partsOf_69 : decode cX9_partsOf 69 = .ok (.getfield 7, 3) := by decide +kernel
theorem dX9_partsOf_72 : decode cX9_partsOf 72 = .ok (.iload_n 1, 1) := by decide +kernel
theorem dX9_partsOf_73 : decode cX9_partsOf 73 = .ok (.bipush 48, 2) := by decide +kernel
theorem dX9_partsOf_75 : decode cX9_partsOf 75 = .ok (.isub, 1) := by decide +kernel
theorem dX9_partsOf_76 : decode cX9_partsOf 76 = .ok (.iaload, 1) := by decide +kernel
theorem dX9_partsOf_77 : decode cX9_partsOf 77 = .ok (.goto 5, 3) := by decide +kernel
theorem dX9_partsOf_80 : decode cX9_partsOf 80 = .ok (.bipush (-4), 2) := by decide +kernel
theorem dX9_partsOf_82 : decode cX9_partsOf 82 = .ok (.ireturn, 1) := by decide +kernel
theorem dX9_partsOf_83 : decode cX9_partsOf 83 = .ok (.iload_n 1, 1) := by decide +kernel
theorem dX9_partsOf_84 : decode cX9_partsOf 84 = .ok (.bipush 109, 2) := by decide +kernel
theorem dX9_partsOf_86 : decode cX9_partsOf 86 = .ok (.if_icmp .ne 7, 3) := by decide +kernel
theorem dX9_partsOf_89 : decode cX9_partsOf 89 = .ok (.iconst 1, 1) := by decide +kernel
theorem dX9_partsOf_90 : decode cX9_partsOf 90 = .ok (.goto 31, 3) := by decide +kernel
theorem dX9_partsOf_93 : decode cX9_partsOf 93 = .ok (.iload_n 1, 1) := by decide +kernel
theorem dX9_partsOf_94 : decode cX9_partsOf 94 = .ok (.bipush 43, 2) := by decide +kernel
theorem dX9_partsOf_96 : decode cX9_partsOf 96 = .ok (.if_icmp .eq 9, 3) := by decide +kernel
theorem dX9_partsOf_99 : decode cX9_partsOf 99 = .ok (.iload_n 1, 1) := by decide +kernel
theorem dX9_partsOf_100 : decode cX9_partsOf 100 = .ok (.bipush 38, 2) := by decide +kernel
theorem dX9_partsOf_102 : decode cX9_partsOf 102 = .ok (.if_icmp .ne 7, 3) := by decide +kernel
theorem dX9_partsOf_105 : decode cX9_partsOf 105 = .ok (.iconst 2, 1) := by decide +kernel
theorem dX9_partsOf_106 : decode cX9_partsOf 106 = .ok (.goto 15, 3) := by decide +kernel
theorem dX9_partsOf_109 : decode cX9_partsOf 109 = .ok (.iload_n 1, 1) := by decide +kernel
theorem dX9_partsOf_110 : decode cX9_partsOf 110 = .ok (.bipush 63, 2) := by decide +kernel
theorem dX9_partsOf_112 : decode cX9_partsOf 112 = .ok (.if_icmp .ne 7, 3) := by decide +kernel
theorem dX9_partsOf_115 : decode cX9_partsOf 115 = .ok (.iconst 3, 1) := by decide +kernel
theorem dX9_partsOf_116 : decode cX9_partsOf 116 = .ok (.goto 5, 3) := by decide +kernel
theorem dX9_partsOf_119 : decode cX9_partsOf 119 = .ok (.bipush (-4), 2) := by decide +kernel
theorem dX9_partsOf_121 : decode cX9_partsOf 121 = .ok (.ireturn, 1) := by decide +kernel
theorem dX9_sizeOf_0 : decode cX9_sizeOf 0 = .ok (.iload_n 0, 1) := by decide +kernel
theorem dX9_sizeOf_1 : decode cX9_sizeOf 1 = .ok (.ifCond .ne 7, 3) := by decide +kernel
theorem dX9_sizeOf_4 : decode cX9_sizeOf 4 = .ok (.iconst 5, 1) := by decide +kernel
theorem dX9_sizeOf_5 : decode cX9_sizeOf 5 = .ok (.goto 13, 3) := by decide +kernel
theorem dX9_sizeOf_8 : decode cX9_sizeOf 8 = .ok (.iload_n 0, 1) := by decide +kernel
theorem dX9_sizeOf_9 : decode cX9_sizeOf 9 = .ok (.iconst 1, 1) := by decide +kernel
theorem dX9_sizeOf_10 : decode cX9_sizeOf 10 = .ok (.if_icmp .ne 7, 3) := by decide +kernel
theorem dX9_sizeOf_13 : decode cX9_sizeOf 13 = .ok (.iconst 2, 1) := by decide +kernel
theorem dX9_sizeOf_14 : decode cX9_sizeOf 14 = .ok (.goto 4, 3) := by decide +kernel
theorem dX9_sizeOf_17 : decode cX9_sizeOf 17 = .ok (.iconst 4, 1) := by decide +kernel
theorem dX9_sizeOf_18 : decode cX9_sizeOf 18 = .ok (.ireturn, 1) := by decide +kernel
theorem dX9_neverOf_0 : decode cX9_neverOf 0 = .ok (.iload_n 0, 1) := by decide +kernel
theorem dX9_neverOf_1 : decode cX9_neverOf 1 = .ok (.ifCond .ne 7, 3) := by decide +kernel
theorem dX9_neverOf_4 : decode cX9_neverOf 4 = .ok (.iconst 4, 1) := by decide +kernel
theorem dX9_neverOf_5 : decode cX9_neverOf 5 = .ok (.goto 4, 3) := by decide +kernel
theorem dX9_neverOf_8 : decode cX9_neverOf 8 = .ok (.iconst 0, 1) := by decide +kernel
theorem dX9_neverOf_9 : decode cX9_neverOf 9 = .ok (.ireturn, 1) := by decide +kernel
theorem dX9_rowOf_0 : decode cX9_rowOf 0 = .ok (.bipush 25, 2) := by decide +kernel
theorem dX9_rowOf_2 : decode cX9_rowOf 2 = .ok (.iload_n 0, 1) := by decide +kernel
theorem dX9_rowOf_3 : decode cX9_rowOf 3 = .ok (.imul, 1) := by decide +kernel
theorem dX9_rowOf_4 : decode cX9_rowOf 4 = .ok (.iconst 5, 1) := by decide +kernel
theorem dX9_rowOf_5 : decode cX9_rowOf 5 = .ok (.iload_n 1, 1) := by decide +kernel
theorem dX9_rowOf_6 : decode cX9_rowOf 6 = .ok (.imul, 1) := by decide +kernel
theorem dX9_rowOf_7 : decode cX9_rowOf 7 = .ok (.iadd, 1) := by decide +kernel
theorem dX9_rowOf_8 : decode cX9_rowOf 8 = .ok (.iload_n 2, 1) := by decide +kernel
theorem dX9_rowOf_9 : decode cX9_rowOf 9 = .ok (.iadd, 1) := by decide +kernel
theorem dX9_rowOf_10 : decode cX9_rowOf 10 = .ok (.ireturn, 1) := by decide +kernel
theorem dX9_tableAt_0 : decode cX9_tableAt 0 = .ok (.aload_n 0, 1) := by decide +kernel
theorem dX9_tableAt_1 : decode cX9_tableAt 1 = .ok (.getfield 22, 3) := by decide +kernel
theorem dX9_tableAt_4 : decode cX9_tableAt 4 = .ok (.sipush 500, 3) := by decide +kernel
theorem dX9_tableAt_7 : decode cX9_tableAt 7 = .ok (.iload_n 1, 1) := by decide +kernel
theorem dX9_tableAt_8 : decode cX9_tableAt 8 = .ok (.imul, 1) := by decide +kernel
theorem dX9_tableAt_9 : decode cX9_tableAt 9 = .ok (.bipush 125, 2) := by decide +kernel
theorem dX9_tableAt_11 : decode cX9_tableAt 11 = .ok (.iload_n 2, 1) := by decide +kernel
theorem dX9_tableAt_12 : decode cX9_tableAt 12 = .ok (.imul, 1) := by decide +kernel
theorem dX9_tableAt_13 : decode cX9_tableAt 13 = .ok (.iadd, 1) := by decide +kernel
theorem dX9_tableAt_14 : decode cX9_tableAt 14 = .ok (.iload_n 3, 1) := by decide +kernel
theorem dX9_tableAt_15 : decode cX9_tableAt 15 = .ok (.iadd, 1) := by decide +kernel
theorem dX9_tableAt_16 : decode cX9_tableAt 16 = .ok (.iaload, 1) := by decide +kernel
theorem dX9_tableAt_17 : decode cX9_tableAt 17 = .ok (.ireturn, 1) := by decide +kernel
theorem dX9_valueBy_0 : decode cX9_valueBy 0 = .ok (.iload_n 0, 1) := by decide +kernel
theorem dX9_valueBy_1 : decode cX9_valueBy 1 = .ok (.bipush 43, 2) := by decide +kernel
theorem dX9_valueBy_3 : decode cX9_valueBy 3 = .ok (.if_icmp .ne 23, 3) := by decide +kernel
theorem dX9_valueBy_6 : decode cX9_valueBy 6 = .ok (.iload_n 1, 1) := by decide +kernel
theorem dX9_valueBy_7 : decode cX9_valueBy 7 = .ok (.iconst 4, 1) := by decide +kernel
theorem dX9_valueBy_8 : decode cX9_valueBy 8 = .ok (.if_icmp .eq 8, 3) := by decide +kernel
theorem dX9_valueBy_11 : decode cX9_valueBy 11 = .ok (.iload_n 2, 1) := by decide +kernel
theorem dX9_valueBy_12 : decode cX9_valueBy 12 = .ok (.iconst 4, 1) := by decide +kernel
theorem dX9_valueBy_13 : decode cX9_valueBy 13 = .ok (.if_icmp .ne 7, 3) := by decide +kernel
theorem dX9_valueBy_16 : decode cX9_valueBy 16 = .ok (.iconst 4, 1) := by decide +kernel
theorem dX9_valueBy_17 : decode cX9_valueBy 17 = .ok (.goto 8, 3) := by decide +kernel
theorem dX9_valueBy_20 : decode cX9_valueBy 20 = .ok (.iload_n 1, 1) := by decide +kernel
theorem dX9_valueBy_21 : decode cX9_valueBy 21 = .ok (.iload_n 2, 1) := by decide +kernel
theorem dX9_valueBy_22 : decode cX9_valueBy 22 = .ok (.iadd, 1) := by decide +kernel
theorem dX9_valueBy_23 : decode cX9_valueBy 23 = .ok (.iconst 4, 1) := by decide +kernel
theorem dX9_valueBy_24 : decode cX9_valueBy 24 = .ok (.irem, 1) := by decide +kernel
theorem dX9_valueBy_25 : decode cX9_valueBy 25 = .ok (.ireturn, 1) := by decide +kernel
theorem dX9_valueBy_26 : decode cX9_valueBy 26 = .ok (.iload_n 1, 1) := by decide +kernel
theorem dX9_valueBy_27 : decode cX9_valueBy 27 = .ok (.iconst 4, 1) := by decide +kernel
theorem dX9_valueBy_28 : decode cX9_valueBy 28 = .ok (.if_icmp .ne 5, 3) := by decide +kernel
theorem dX9_valueBy_31 : decode cX9_valueBy 31 = .ok (.iconst 4, 1) := by decide +kernel
theorem dX9_valueBy_32 : decode cX9_valueBy 32 = .ok (.ireturn, 1) := by decide +kernel
theorem dX9_valueBy_33 : decode cX9_valueBy 33 = .ok (.iload_n 0, 1) := by decide +kernel
theorem dX9_valueBy_34 : decode cX9_valueBy 34 = .ok (.bipush 109, 2) := by decide +kernel
theorem dX9_valueBy_36 : decode cX9_valueBy 36 = .ok (.if_icmp .ne 17, 3) := by decide +kernel
theorem dX9_valueBy_39 : decode cX9_valueBy 39 = .ok (.iload_n 1, 1) := by decide +kernel
theorem dX9_valueBy_40 : decode cX9_valueBy 40 = .ok (.ifCond .le 9, 3) := by decide +kernel
theorem dX9_valueBy_43 : decode cX9_valueBy 43 = .ok (.iload_n 1, 1) := by decide +kernel
theorem dX9_valueBy_44 : decode cX9_valueBy 44 = .ok (.iconst 1, 1) := by decide +kernel
theorem dX9_valueBy_45 : decode cX9_valueBy 45 = .ok (.isub, 1) := by decide +kernel
theorem dX9_valueBy_46 : decode cX9_valueBy 46 = .ok (.goto 26, 3) := by decide +kernel
theorem dX9_valueBy_49 : decode cX9_valueBy 49 = .ok (.iconst 0, 1) := by decide +kernel
theorem dX9_valueBy_50 : decode cX9_valueBy 50 = .ok (.goto 22, 3) := by decide +kernel
theorem dX9_valueBy_53 : decode cX9_valueBy 53 = .ok (.iload_n 0, 1) := by decide +kernel
theorem dX9_valueBy_54 : decode cX9_valueBy 54 = .ok (.bipush 38, 2) := by decide +kernel
theorem dX9_valueBy_56 : decode cX9_valueBy 56 = .ok (.if_icmp .ne 7, 3) := by decide +kernel
theorem dX9_valueBy_59 : decode cX9_valueBy 59 = .ok (.iload_n 2, 1) := by decide +kernel
theorem dX9_valueBy_60 : decode cX9_valueBy 60 = .ok (.goto 12, 3) := by decide +kernel
theorem dX9_valueBy_63 : decode cX9_valueBy 63 = .ok (.iload_n 1, 1) := by decide +kernel
theorem dX9_valueBy_64 : decode cX9_valueBy 64 = .ok (.ifCond .ne 7, 3) := by decide +kernel
theorem dX9_valueBy_67 : decode cX9_valueBy 67 = .ok (.iload_n 3, 1) := by decide +kernel
theorem dX9_valueBy_68 : decode cX9_valueBy 68 = .ok (.goto 4, 3) := by decide +kernel
theorem dX9_valueBy_71 : decode cX9_valueBy 71 = .ok (.iload_n 2, 1) := by decide +kernel
theorem dX9_valueBy_72 : decode cX9_valueBy 72 = .ok (.ireturn, 1) := by decide +kernel
theorem dX9_roughBy_0 : decode cX9_roughBy 0 = .ok (.iload_n 0, 1) := by decide +kernel
theorem dX9_roughBy_1 : decode cX9_roughBy 1 = .ok (.bipush 109, 2) := by decide +kernel
theorem dX9_roughBy_3 : decode cX9_roughBy 3 = .ok (.if_icmp .ne 7, 3) := by decide +kernel
theorem dX9_roughBy_6 : decode cX9_roughBy 6 = .ok (.iload_n 1, 1) := by decide +kernel
theorem dX9_roughBy_7 : decode cX9_roughBy 7 = .ok (.goto 20, 3) := by decide +kernel
theorem dX9_roughBy_10 : decode cX9_roughBy 10 = .ok (.iload_n 0, 1) := by decide +kernel
theorem dX9_roughBy_11 : decode cX9_roughBy 11 = .ok (.bipush 63, 2) := by decide +kernel
theorem dX9_roughBy_13 : decode cX9_roughBy 13 = .ok (.if_icmp .ne 11, 3) := by decide +kernel
theorem dX9_roughBy_16 : decode cX9_roughBy 16 = .ok (.iload_n 1, 1) := by decide +kernel
theorem dX9_roughBy_17 : decode cX9_roughBy 17 = .ok (.iload_n 2, 1) := by decide +kernel
theorem dX9_roughBy_18 : decode cX9_roughBy 18 = .ok (.iload_n 3, 1) := by decide +kernel
theorem dX9_roughBy_19 : decode cX9_roughBy 19 = .ok (.ior, 1) := by decide +kernel
theorem dX9_roughBy_20 : decode cX9_roughBy 20 = .ok (.iand, 1) := by decide +kernel
theorem dX9_roughBy_21 : decode cX9_roughBy 21 = .ok (.goto 6, 3) := by decide +kernel
theorem dX9_roughBy_24 : decode cX9_roughBy 24 = .ok (.iload_n 1, 1) := by decide +kernel
theorem dX9_roughBy_25 : decode cX9_roughBy 25 = .ok (.iload_n 2, 1) := by decide +kernel
theorem dX9_roughBy_26 : decode cX9_roughBy 26 = .ok (.iand, 1) := by decide +kernel
theorem dX9_roughBy_27 : decode cX9_roughBy 27 = .ok (.ireturn, 1) := by decide +kernel
theorem dX9_fineBy_0 : decode cX9_fineBy 0 = .ok (.iload_n 0, 1) := by decide +kernel
theorem dX9_fineBy_1 : decode cX9_fineBy 1 = .ok (.bipush 109, 2) := by decide +kernel
theorem dX9_fineBy_3 : decode cX9_fineBy 3 = .ok (.if_icmp .ne 19, 3) := by decide +kernel
theorem dX9_fineBy_6 : decode cX9_fineBy 6 = .ok (.iload_n 1, 1) := by decide +kernel
theorem dX9_fineBy_7 : decode cX9_fineBy 7 = .ok (.iconst 1, 1) := by decide +kernel
theorem dX9_fineBy_8 : decode cX9_fineBy 8 = .ok (.iand, 1) := by decide +kernel
theorem dX9_fineBy_9 : decode cX9_fineBy 9 = .ok (.iload_n 1, 1) := by decide +kernel
theorem dX9_fineBy_10 : decode cX9_fineBy 10 = .ok (.iconst 2, 1) := by decide +kernel
theorem dX9_fineBy_11 : decode cX9_fineBy 11 = .ok (.iand, 1) := by decide +kernel
theorem dX9_fineBy_12 : decode cX9_fineBy 12 = .ok (.ifCond .ne 7, 3) := by decide +kernel
theorem dX9_fineBy_15 : decode cX9_fineBy 15 = .ok (.iconst 0, 1) := by decide +kernel
theorem dX9_fineBy_16 : decode cX9_fineBy 16 = .ok (.goto 4, 3) := by decide +kernel
theorem dX9_fineBy_19 : decode cX9_fineBy 19 = .ok (.iconst 3, 1) := by decide +kernel
theorem dX9_fineBy_20 : decode cX9_fineBy 20 = .ok (.ior, 1) := by decide +kernel
theorem dX9_fineBy_21 : decode cX9_fineBy 21 = .ok (.ireturn, 1) := by decide +kernel
theorem dX9_fineBy_22 : decode cX9_fineBy 22 = .ok (.iload_n 0, 1) := by decide +kernel
theorem dX9_fineBy_23 : decode cX9_fineBy 23 = .ok (.bipush 38, 2) := by decide +kernel
theorem dX9_fineBy_25 : decode cX9_fineBy 25 = .ok (.if_icmp .ne 13, 3) := by decide +kernel
theorem dX9_fineBy_28 : decode cX9_fineBy 28 = .ok (.iload_n 1, 1) := by decide +kernel
theorem dX9_fineBy_29 : decode cX9_fineBy 29 = .ok (.ifCond .ne 7, 3) := by decide +kernel
theorem dX9_fineBy_32 : decode cX9_fineBy 32 = .ok (.iconst 0, 1) := by decide +kernel
theorem dX9_fineBy_33 : decode cX9_fineBy 33 = .ok (.goto 4, 3) := by decide +kernel
theorem dX9_fineBy_36 : decode cX9_fineBy 36 = .ok (.iload_n 2, 1) := by decide +kernel
theorem dX9_fineBy_37 : decode cX9_fineBy 37 = .ok (.ireturn, 1) := by decide +kernel
theorem dX9_fineBy_38 : decode cX9_fineBy 38 = .ok (.iload_n 0, 1) := by decide +kernel
theorem dX9_fineBy_39 : decode cX9_fineBy 39 = .ok (.bipush 63, 2) := by decide +kernel
theorem dX9_fineBy_41 : decode cX9_fineBy 41 = .ok (.if_icmp .ne 27, 3) := by decide +kernel
theorem dX9_fineBy_44 : decode cX9_fineBy 44 = .ok (.iload_n 1, 1) := by decide +kernel
theorem dX9_fineBy_45 : decode cX9_fineBy 45 = .ok (.iconst 1, 1) := by decide +kernel
theorem dX9_fineBy_46 : decode cX9_fineBy 46 = .ok (.iand, 1) := by decide +kernel
theorem dX9_fineBy_47 : decode cX9_fineBy 47 = .ok (.ifCond .ne 7, 3) := by decide +kernel
theorem dX9_fineBy_50 : decode cX9_fineBy 50 = .ok (.iconst 0, 1) := by decide +kernel
theorem dX9_fineBy_51 : decode cX9_fineBy 51 = .ok (.goto 4, 3) := by decide +kernel
theorem dX9_fineBy_54 : decode cX9_fineBy 54 = .ok (.iload_n 3, 1) := by decide +kernel
theorem dX9_fineBy_55 : decode cX9_fineBy 55 = .ok (.iload_n 1, 1) := by decide +kernel
theorem dX9_fineBy_56 : decode cX9_fineBy 56 = .ok (.iconst 2, 1) := by decide +kernel
theorem dX9_fineBy_57 : decode cX9_fineBy 57 = .ok (.iand, 1) := by decide +kernel
theorem dX9_fineBy_58 : decode cX9_fineBy 58 = .ok (.ifCond .ne 7, 3) := by decide +kernel
theorem dX9_fineBy_61 : decode cX9_fineBy 61 = .ok (.iconst 0, 1) := by decide +kernel
theorem dX9_fineBy_62 : decode cX9_fineBy 62 = .ok (.goto 4, 3) := by decide +kernel
theorem dX9_fineBy_65 : decode cX9_fineBy 65 = .ok (.iload_n 2, 1) := by decide +kernel
theorem dX9_fineBy_66 : decode cX9_fineBy 66 = .ok (.ior, 1) := by decide +kernel
theorem dX9_fineBy_67 : decode cX9_fineBy 67 = .ok (.ireturn, 1) := by decide +kernel
theorem dX9_fineBy_68 : decode cX9_fineBy 68 = .ok (.iload_n 1, 1) := by decide +kernel
theorem dX9_fineBy_69 : decode cX9_fineBy 69 = .ok (.ifCond .eq 7, 3) := by decide +kernel
theorem dX9_fineBy_72 : decode cX9_fineBy 72 = .ok (.iload_n 2, 1) := by decide +kernel
theorem dX9_fineBy_73 : decode cX9_fineBy 73 = .ok (.ifCond .ne 5, 3) := by decide +kernel
theorem dX9_fineBy_76 : decode cX9_fineBy 76 = .ok (.iconst 0, 1) := by decide +kernel
theorem dX9_fineBy_77 : decode cX9_fineBy 77 = .ok (.ireturn, 1) := by decide +kernel
theorem dX9_fineBy_78 : decode cX9_fineBy 78 = .ok (.iload_n 1, 1) := by decide +kernel
theorem dX9_fineBy_79 : decode cX9_fineBy 79 = .ok (.iconst 1, 1) := by decide +kernel
theorem dX9_fineBy_80 : decode cX9_fineBy 80 = .ok (.iand, 1) := by decide +kernel
theorem dX9_fineBy_81 : decode cX9_fineBy 81 = .ok (.ifCond .eq 13, 3) := by decide +kernel
theorem dX9_fineBy_84 : decode cX9_fineBy 84 = .ok (.iload_n 2, 1) := by decide +kernel
theorem dX9_fineBy_85 : decode cX9_fineBy 85 = .ok (.iconst 1, 1) := by decide +kernel
theorem dX9_fineBy_86 : decode cX9_fineBy 86 = .ok (.iand, 1) := by decide +kernel
theorem dX9_fineBy_87 : decode cX9_fineBy 87 = .ok (.ifCond .eq 7, 3) := by decide +kernel
theorem dX9_fineBy_90 : decode cX9_fineBy 90 = .ok (.iconst 1, 1) := by decide +kernel
theorem dX9_fineBy_91 : decode cX9_fineBy 91 = .ok (.goto 4, 3) := by decide +kernel
theorem dX9_fineBy_94 : decode cX9_fineBy 94 = .ok (.iconst 0, 1) := by decide +kernel
theorem dX9_fineBy_95 : decode cX9_fineBy 95 = .ok (.istore 4, 2) := by decide +kernel
theorem dX9_fineBy_97 : decode cX9_fineBy 97 = .ok (.iload 4, 2) := by decide +kernel
theorem dX9_fineBy_99 : decode cX9_fineBy 99 = .ok (.iload_n 1, 1) := by decide +kernel
theorem dX9_fineBy_100 : decode cX9_fineBy 100 = .ok (.iconst 1, 1) := by decide +kernel
theorem dX9_fineBy_101 : decode cX9_fineBy 101 = .ok (.iand, 1) := by decide +kernel
theorem dX9_fineBy_102 : decode cX9_fineBy 102 = .ok (.ifCond .eq 9, 3) := by decide +kernel
theorem dX9_fineBy_105 : decode cX9_fineBy 105 = .ok (.iload_n 2, 1) := by decide +kernel
theorem dX9_fineBy_106 : decode cX9_fineBy 106 = .ok (.iconst 2, 1) := by decide +kernel
theorem dX9_fineBy_107 : decode cX9_fineBy 107 = .ok (.iand, 1) := by decide +kernel
theorem dX9_fineBy_108 : decode cX9_fineBy 108 = .ok (.ifCond .ne 15, 3) := by decide +kernel
theorem dX9_fineBy_111 : decode cX9_fineBy 111 = .ok (.iload_n 1, 1) := by decide +kernel
theorem dX9_fineBy_112 : decode cX9_fineBy 112 = .ok (.iconst 2, 1) := by decide +kernel
