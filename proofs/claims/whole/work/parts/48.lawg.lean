theorem ggL_law_X8_init : GoodIn wsL_law wsX8_init := goodIn_r _ [8, 9, 10, 11, 12, 13, 14, 15, 16, 17, 18, 19, 20, 21, 22, 23, 24, 25, 26, 27, 28, 29, 30, 31, 32, 33, 34, 35, 36, 37, 38, 39, 40, 41, 42, 43, 44, 45, 46, 47, 48, 49, 50, 51, 52, 53, 54, 55, 56, 57, 58, 59, 60, 61, 62, 63, 64, 65, 66, 67, 68, 69, 70, 71, 72, 73, 74, 75, 76, 77, 78, 79, 80, 81, 82, 83, 84, 85, 86, 87, 88, 89, 90, 91, 92, 93, 94, 95, 96, 97, 98, 99, 100, 101, 102, 103, 104, 2, 105, 106, 107, 108, 109, 110, 111, 112, 113, 114, 115, 116, 117, 118, 119, 120, 121, 122, 123, 124, 125, 126, 127, 128, 129, 130, 131, 132, 133, 134, 135, 136, 137, 138, 139, 140, 141, 142, 143, 144, 145, 146, 147, 148, 149, 150, 151, 152, 153, 154, 155, 156, 157, 158, 159, 160, 161, 162, 163, 164, 165, 166, 167, 168, 169, 170, 171, 172, 173, 174, 175, 176, 177, 178, 179, 180, 181, 182, 183, 184, 185, 186, 187, 188, 189, 190, 191, 192, 193, 194, 195, 196, 197, 198, 199, 200, 201, 202, 203, 204, 205, 206, 207, 208, 209, 210, 211, 212, 213, 214, 215, 216, 217, 218, 219, 220, 221, 222, 223, 224, 225, 226, 227, 228, 229, 230, 231, 232, 233, 234, 235, 236, 237, 238, 239, 240, 241, 242, 243, 244, 245, 246, 247, 248, 249, 250, 251, 252, 253, 254, 255, 256, 257, 258, 259, 260, 261, 262, 263, 264, 265, 266, 267, 268, 269, 270, 271, 272, 273, 274, 275, 276, 277, 278, 279, 280, 281, 282, 955, 956, 957, 958, 959, 924, 925, 926, 927, 928, 929, 930, 931, 932, 933, 934, 960, 961, 962, 963, 964, 965, 966, 967, 968, 969, 970, 971, 972, 973, 974, 975, 976, 977, 978, 979, 980, 981, 982, 983, 984, 985, 986, 987, 988, 989, 990, 991, 992, 993, 994, 995, 996, 997, 998, 999, 1000, 1001, 1002, 1003, 1004, 1005, 1006, 1007] rfl (by decide +kernel)
set_option maxRecDepth 20000 in
theorem gL_law_X8_init : GoodIn wsL_law (wsX8_init) := ggL_law_X8_init
set_option maxRecDepth 20000 in
theorem ggL_law_X9_init : GoodIn wsL_law wsX9_init := goodIn_r _ [285, 286, 10, 11, 52, 287, 288, 289, 290, 291, 292, 293, 294, 295, 296, 297, 298, 299, 300, 301, 302, 303, 5, 304, 305, 306, 307, 308, 935, 936, 937, 938, 939, 940, 941, 942, 943, 944, 945, 946, 947, 948, 949, 950, 951, 952, 953, 954] rfl (by decide +kernel)
set_option maxRecDepth 20000 in
theorem gL_law_X9_init : GoodIn wsL_law (wsX9_init) := ggL_law_X9_init
set_option maxRecDepth 20000 in
theorem ggL_law_X8_write : GoodIn wsL_law wsX8_write := goodIn_r _ [312, 15, 313, 156, 157, 158, 14, 159, 160, 47, 924, 925, 926, 927, 928, 929, 930, 931, 932, 933, 934, 955, 956, 957, 958, 959] rfl (by decide +kernel)
set_option maxRecDepth 20000 in
theorem gL_law_X8_write : GoodIn wsL_law (wsV RL 13 RX8 yX8_write wsX8_write) := goodIn_app (goodIn_of _ (by decide +kernel)) ggL_law_X8_write
set_option maxRecDepth 20000 in
theorem ggL_law_X9_write : GoodIn wsL_law wsX9_write := goodIn_r _ [317, 318, 298, 319, 320, 5, 321, 935, 936, 937, 938, 939, 940, 941, 942, 943, 944, 945, 946, 947, 948, 949, 950, 951, 952, 953, 954] rfl (by decide +kernel)
set_option maxRecDepth 20000 in
theorem gL_law_X9_write : GoodIn wsL_law (wsV RL 17 RX9 yX9_write wsX9_write) := goodIn_app (goodIn_of _ (by decide +kernel)) ggL_law_X9_write
set_option maxRecDepth 20000 in
theorem ggL_law_X8_wipe : GoodIn wsL_law wsX8_wipe := goodIn_r _ [325, 15, 313, 279, 280, 281, 14, 282, 160, 924, 925, 926, 927, 928, 929, 930, 931, 932, 933, 934, 955, 956, 957, 958, 959] rfl (by decide +kernel)
set_option maxRecDepth 20000 in
theorem gL_law_X8_wipe : GoodIn wsL_law (wsV RL 18 RX8 yX8_wipe wsX8_wipe) := goodIn_app (goodIn_of _ (by decide +kernel)) ggL_law_X8_wipe
set_option maxRecDepth 20000 in
theorem ggL_law_X9_wipe : GoodIn wsL_law wsX9_wipe := goodIn_r _ [329, 318, 935, 936, 937, 938, 939, 940, 941, 942, 943, 944, 945, 946, 947, 948, 949, 950, 951, 952, 953, 954] rfl (by decide +kernel)
set_option maxRecDepth 20000 in
theorem gL_law_X9_wipe : GoodIn wsL_law (wsV RL 22 RX9 yX9_wipe wsX9_wipe) := goodIn_app (goodIn_of _ (by decide +kernel)) ggL_law_X9_wipe
set_option maxRecDepth 20000 in
theorem ggL_law_X8_fault : GoodIn wsL_law wsX8_fault := goodIn_r _ [333, 15, 161, 162, 163, 14, 164, 165, 166, 45, 167, 160, 168, 169, 170, 171, 172, 173, 174, 175, 47, 176, 177, 178, 179, 180, 181, 182, 183, 184, 185, 186, 187, 188, 18, 189, 190, 191, 192, 193, 194, 195, 196, 197, 198, 199, 200, 201, 202, 203, 110, 204, 205, 206, 207, 208, 112, 123, 124, 125, 126, 117, 118, 209, 108, 109, 111, 113, 114, 115, 116, 210, 211, 129, 212, 213, 214, 215, 216, 217, 218, 219, 220, 221, 222, 223, 224, 225, 226, 227, 141, 228, 229, 230, 231, 232, 233, 234, 235, 236, 237, 146, 147, 148, 238, 239, 240, 134, 241, 242, 137, 243, 244, 245, 246, 150, 151, 152, 153, 154, 155, 247, 248, 249, 250, 251, 252, 253, 254, 255, 256, 257, 258, 259, 260, 261, 262, 263, 264, 265, 53, 266, 267, 268, 269, 270, 924, 925, 926, 927, 928, 929, 930, 931, 932, 933, 934, 955, 956, 957, 958, 959, 960, 961, 962, 963, 964] rfl (by decide +kernel)
set_option maxRecDepth 20000 in
theorem gL_law_X8_fault : GoodIn wsL_law (wsV RL 23 RX8 yX8_fault wsX8_fault) := goodIn_app (goodIn_of _ (by decide +kernel)) ggL_law_X8_fault
set_option maxRecDepth 20000 in
theorem ggL_law_X9_fault : GoodIn wsL_law wsX9_fault := goodIn_r _ [337, 299, 338, 339, 340, 341, 5, 342, 300, 287, 288, 289, 290, 343, 344, 345, 346, 347, 348, 318, 349, 350, 351, 352, 353, 354, 355, 356, 298, 357, 358, 359, 360, 319, 320, 321, 361, 362, 363, 364, 365, 366, 367, 368, 369, 370, 371, 372, 373, 374, 375, 376, 377, 378, 379, 380, 935, 936, 937, 938, 939, 940, 941, 942, 943, 944, 945, 946, 947, 948, 949, 950, 951, 952, 953, 954] rfl (by decide +kernel)
set_option maxRecDepth 20000 in
theorem gL_law_X9_fault : GoodIn wsL_law (wsV RL 26 RX9 yX9_fault wsX9_fault) := goodIn_app (goodIn_of _ (by decide +kernel)) ggL_law_X9_fault
set_option maxRecDepth 20000 in
theorem ggL_law_X8_lay : GoodIn wsL_law wsX8_lay := goodIn_r _ [384, 15, 19, 106, 25, 385, 386, 161, 162, 163, 14, 164, 165, 166, 45, 167, 160, 168, 169, 170, 171, 172, 173, 174, 175, 47, 176, 177, 178, 179, 180, 181, 182, 183, 184, 185, 186, 187, 188, 18, 189, 190, 191, 192, 193, 194, 195, 196, 197, 198, 199, 200, 201, 202, 203, 110, 204, 205, 206, 207, 208, 112, 123, 124, 125, 126, 117, 118, 209, 108, 109, 111, 113, 114, 115, 116, 210, 211, 129, 212, 213, 214, 215, 216, 217, 218, 219, 220, 221, 222, 223, 224, 225, 226, 227, 141, 228, 229, 230, 231, 232, 233, 234, 235, 236, 237, 146, 147, 148, 238, 239, 240, 134, 241, 242, 137, 243, 244, 245, 246, 150, 151, 152, 153, 154, 155, 247, 248, 249, 250, 251, 252, 253, 254, 255, 256, 257, 258, 259, 260, 261, 262, 263, 264, 265, 53, 266, 267, 268, 269, 270, 387, 388, 389, 390, 271, 272, 273, 274, 54, 55, 57, 275, 276, 277, 278, 391, 392, 393, 24, 394, 395, 396, 397, 398, 2, 399, 29, 400, 33, 37, 924, 925, 926, 927, 928, 929, 930, 931, 932, 933, 934, 955, 956, 957, 958, 959, 960, 961, 962, 963, 964, 965, 966, 967, 968, 995, 996, 997, 998, 999, 1000, 1001, 1002, 1003, 1004, 1005, 1006, 1007, 982, 983, 984, 985, 986, 987, 988, 989, 990, 991, 992, 993, 994, 969, 970, 971, 972, 973, 974, 975, 976, 977, 978, 979, 980, 981] rfl (by decide +kernel)
set_option maxRecDepth 20000 in
theorem gL_law_X8_lay : GoodIn wsL_law (wsV RL 27 RX8 yX8_lay wsX8_lay) := goodIn_app (goodIn_of _ (by decide +kernel)) ggL_law_X8_lay
set_option maxRecDepth 20000 in
theorem ggL_law_X9_lay : GoodIn wsL_law wsX9_lay := goodIn_r _ [404, 299, 338, 300, 348, 405, 406, 339, 340, 341, 5, 342, 287, 288, 289, 290, 343, 344, 345, 346, 347, 318, 349, 350, 351, 352, 353, 354, 355, 356, 298, 357, 358, 359, 360, 319, 320, 321, 361, 362, 363, 364, 365, 366, 367, 368, 369, 370, 371, 372, 373, 374, 375, 376, 377, 378, 379, 380, 935, 936, 937, 938, 939, 940, 941, 942, 943, 944, 945, 946, 947, 948, 949, 950, 951, 952, 953, 954] rfl (by decide +kernel)
set_option maxRecDepth 20000 in
theorem gL_law_X9_lay : GoodIn wsL_law (wsV RL 30 RX9 yX9_lay wsX9_lay) := goodIn_app (goodIn_of _ (by decide +kernel)) ggL_law_X9_lay
set_option maxRecDepth 20000 in
theorem ggL_law_X8_function : GoodIn wsL_law wsX8_function := goodIn_r _ [410, 19, 411, 412, 413, 414, 187, 188, 18, 189, 190, 924, 925, 926, 927, 928, 929, 930, 931, 932, 933, 934, 960, 961, 962, 963, 964] rfl (by decide +kernel)
set_option maxRecDepth 20000 in
theorem gL_law_X8_function : GoodIn wsL_law (wsV RL 31 RX8 yX8_function wsX8_function) := goodIn_app (goodIn_of _ (by decide +kernel)) ggL_law_X8_function
set_option maxRecDepth 20000 in
theorem ggL_law_X9_function : GoodIn wsL_law wsX9_function := goodIn_r _ [418, 288, 287, 289, 419, 420, 421, 5, 422, 300, 319, 320, 321, 935, 936, 937, 938, 939, 940, 941, 942, 943, 944, 945, 946, 947, 948, 949, 950, 951, 952, 953, 954] rfl (by decide +kernel)
set_option maxRecDepth 20000 in
theorem gL_law_X9_function : GoodIn wsL_law (wsV RL 35 RX9 yX9_function wsX9_function) := goodIn_app (goodIn_of _ (by decide +kernel)) ggL_law_X9_function
set_option maxRecDepth 20000 in
theorem ggL_law_X8_letter : GoodIn wsL_law wsX8_letter := goodIn_r _ [426, 19, 427, 428, 429, 430, 18, 431, 55, 266, 187, 188, 189, 190, 432, 433, 199, 434, 435, 120, 121, 110, 122, 112, 123, 124, 125, 126, 117, 118, 127, 128, 129, 130, 131, 132, 133, 134, 135, 136, 137, 138, 139, 140, 141, 142, 143, 144, 145, 146, 147, 148, 149, 150, 151, 152, 153, 154, 155, 924, 925, 926, 927, 928, 929, 930, 931, 932, 933, 934, 960, 961, 962, 963, 964] rfl (by decide +kernel)
set_option maxRecDepth 20000 in
theorem gL_law_X8_letter : GoodIn wsL_law (wsV RL 36 RX8 yX8_letter wsX8_letter) := goodIn_app (goodIn_of _ (by decide +kernel)) ggL_law_X8_letter
set_option maxRecDepth 20000 in
theorem ggL_law_X9_letter : GoodIn wsL_law wsX9_letter := goodIn_r _ [439, 289, 290, 419, 420, 421, 5, 422, 300, 319, 320, 321, 935, 936, 937, 938, 939, 940, 941, 942, 943, 944, 945, 946, 947, 948, 949, 950, 951, 952, 953, 954] rfl (by decide +kernel)
set_option maxRecDepth 20000 in
theorem gL_law_X9_letter : GoodIn wsL_law (wsV RL 39 RX9 yX9_letter wsX9_letter) := goodIn_app (goodIn_of _ (by decide +kernel)) ggL_law_X9_letter
set_option maxRecDepth 20000 in
theorem ggL_law_X8_put : GoodIn wsL_law wsX8_put := goodIn_r _ [443, 19, 427, 25, 444, 198, 199, 200, 201, 202, 203, 110, 204, 205, 206, 207, 208, 112, 123, 124, 125, 126, 117, 118, 209, 108, 109, 111, 113, 114, 115, 116, 210, 211, 129, 212, 213, 214, 215, 216, 217, 218, 219, 220, 221, 222, 223, 224, 225, 226, 227, 141, 228, 229, 230, 231, 232, 233, 234, 235, 236, 237, 146, 147, 148, 238, 239, 240, 134, 241, 242, 137, 243, 244, 245, 246, 150, 151, 152, 153, 154, 155, 247, 248, 249, 250, 251, 252, 253, 254, 255, 256, 257, 258, 259, 260, 261, 428, 429, 430, 18, 431, 55, 266, 187, 188, 189, 190, 445, 446, 447, 448, 57, 449, 450, 263, 264, 265, 53, 451, 268, 269, 270, 452, 453, 454, 24, 455, 395, 63, 456, 276, 277, 278, 64, 65, 396, 397, 398, 2, 399, 29, 400, 33, 37, 432, 433, 434, 435, 120, 121, 122, 127, 128, 130, 131, 132, 133, 135, 136, 138, 139, 140, 142, 143, 144, 145, 149, 924, 925, 926, 927, 928, 929, 930, 931, 932, 933, 934, 960, 961, 962, 963, 964, 965, 966, 967, 968, 995, 996, 997, 998, 999, 1000, 1001, 1002, 1003, 1004, 1005, 1006, 1007, 982, 983, 984, 985, 986, 987, 988, 989, 990, 991, 992, 993, 994, 969, 970, 971, 972, 973, 974, 975, 976, 977, 978, 979, 980, 981] rfl (by decide +kernel)
set_option maxRecDepth 20000 in
theorem gL_law_X8_put : GoodIn wsL_law (wsV RL 40 RX8 yX8_put wsX8_put) := goodIn_app (goodIn_of _ (by decide +kernel)) ggL_law_X8_put
set_option maxRecDepth 20000 in
theorem ggL_law_X9_put : GoodIn wsL_law wsX9_put := goodIn_r _ [460, 289, 290, 419, 420, 421, 5, 422, 300, 319, 320, 321, 461, 462, 463, 464, 287, 373, 374, 375, 376, 465, 466, 467, 468, 405, 295, 338, 339, 340, 341, 342, 288, 935, 936, 937, 938, 939, 940, 941, 942, 943, 944, 945, 946, 947, 948, 949, 950, 951, 952, 953, 954] rfl (by decide +kernel)
set_option maxRecDepth 20000 in
theorem gL_law_X9_put : GoodIn wsL_law (wsV RL 44 RX9 yX9_put wsX9_put) := goodIn_app (goodIn_of _ (by decide +kernel)) ggL_law_X9_put
set_option maxRecDepth 20000 in
theorem ggL_law_X8_rename : GoodIn wsL_law wsX8_rename := goodIn_r _ [472, 19, 411, 25, 414, 187, 188, 18, 189, 190, 452, 453, 454, 24, 455, 395, 63, 456, 276, 277, 278, 64, 65, 396, 397, 398, 2, 399, 29, 400, 33, 37, 924, 925, 926, 927, 928, 929, 930, 931, 932, 933, 934, 960, 961, 962, 963, 964, 965, 966, 967, 968, 995, 996, 997, 998, 999, 1000, 1001, 1002, 1003, 1004, 1005, 1006, 1007, 982, 983, 984, 985, 986, 987, 988, 989, 990, 991, 992, 993, 994, 969, 970, 971, 972, 973, 974, 975, 976, 977, 978, 979, 980, 981] rfl (by decide +kernel)
set_option maxRecDepth 20000 in
theorem gL_law_X8_rename : GoodIn wsL_law (wsV RL 45 RX8 yX8_rename wsX8_rename) := goodIn_app (goodIn_of _ (by decide +kernel)) ggL_law_X8_rename
set_option maxRecDepth 20000 in
theorem ggL_law_X9_rename : GoodIn wsL_law wsX9_rename := goodIn_r _ [476, 288, 419, 420, 421, 5, 422, 300, 319, 320, 321, 465, 466, 467, 468, 405, 295, 338, 339, 340, 341, 342, 287, 289, 290, 935, 936, 937, 938, 939, 940, 941, 942, 943, 944, 945, 946, 947, 948, 949, 950, 951, 952, 953, 954] rfl (by decide +kernel)
set_option maxRecDepth 20000 in
theorem gL_law_X9_rename : GoodIn wsL_law (wsV RL 48 RX9 yX9_rename wsX9_rename) := goodIn_app (goodIn_of _ (by decide +kernel)) ggL_law_X9_rename
set_option maxRecDepth 20000 in
theorem ggL_law_X8_undo : GoodIn wsL_law wsX8_undo := goodIn_r _ [480, 25, 481, 19, 482, 483, 484, 24, 485, 395, 63, 64, 486, 65, 487, 488, 187, 188, 18, 189, 190, 489, 429, 430, 431, 55, 266, 396, 397, 398, 2, 399, 29, 400, 33, 37, 924, 925, 926, 927, 928, 929, 930, 931, 932, 933, 934, 965, 966, 967, 968, 960, 961, 962, 963, 964, 995, 996, 997, 998, 999, 1000, 1001, 1002, 1003, 1004, 1005, 1006, 1007, 982, 983, 984, 985, 986, 987, 988, 989, 990, 991, 992, 993, 994, 969, 970, 971, 972, 973, 974, 975, 976, 977, 978, 979, 980, 981] rfl (by decide +kernel)
set_option maxRecDepth 20000 in
theorem gL_law_X8_undo : GoodIn wsL_law (wsV RL 49 RX8 yX8_undo wsX8_undo) := goodIn_app (goodIn_of _ (by decide +kernel)) ggL_law_X8_undo
set_option maxRecDepth 20000 in
theorem ggL_law_X9_undo : GoodIn wsL_law wsX9_undo := goodIn_r _ [493, 405, 295, 377, 378, 379, 5, 380, 300, 287, 288, 289, 290, 338, 935, 936, 937, 938, 939, 940, 941, 942, 943, 944, 945, 946, 947, 948, 949, 950, 951, 952, 953, 954] rfl (by decide +kernel)
set_option maxRecDepth 20000 in
theorem gL_law_X9_undo : GoodIn wsL_law (wsV RL 52 RX9 yX9_undo wsX9_undo) := goodIn_app (goodIn_of _ (by decide +kernel)) ggL_law_X9_undo
set_option maxRecDepth 20000 in
theorem ggL_law_X8_value : GoodIn wsL_law wsX8_value := goodIn_r _ [497, 29, 19, 498, 499, 500, 501, 71, 502, 74, 503, 187, 188, 18, 189, 190, 504, 505, 506, 507, 508, 77, 509, 510, 511, 512, 513, 514, 515, 516, 517, 518, 519, 520, 521, 522, 523, 2, 524, 400, 525, 526, 527, 528, 529, 530, 531, 532, 533, 534, 535, 536, 85, 78, 537, 538, 539, 540, 541, 542, 543, 544, 545, 546, 547, 548, 86, 549, 550, 551, 552, 553, 554, 555, 556, 557, 558, 559, 36, 560, 561, 562, 32, 563, 564, 565, 28, 566, 567, 568, 569, 570, 571, 572, 82, 75, 573, 574, 575, 576, 577, 578, 579, 580, 581, 582, 583, 268, 269, 270, 53, 266, 584, 585, 586, 587, 588, 76, 589, 590, 591, 592, 593, 594, 595, 79, 80, 596, 597, 598, 599, 600, 601, 602, 603, 604, 605, 606, 607, 214, 215, 216, 608, 609, 610, 611, 612, 613, 614, 615, 616, 617, 618, 619, 620, 621, 622, 623, 624, 625, 626, 627, 628, 629, 630, 631, 632, 633, 634, 635, 636, 637, 638, 639, 640, 641, 642, 643, 644, 645, 924, 925, 926, 927, 928, 929, 930, 931, 932, 933, 934, 995, 996, 997, 998, 999, 1000, 1001, 1002, 1003, 1004, 1005, 1006, 1007, 982, 983, 984, 985, 986, 987, 988, 989, 990, 991, 992, 993, 994, 969, 970, 971, 972, 973, 974, 975, 976, 977, 978, 979, 980, 981, 960, 961, 962, 963, 964] rfl (by decide +kernel)
set_option maxRecDepth 20000 in
theorem gL_law_X8_value : GoodIn wsL_law (wsV RL 53 RX8 yX8_value wsX8_value) := goodIn_app (goodIn_of _ (by decide +kernel)) ggL_law_X8_value
set_option maxRecDepth 20000 in
theorem ggL_law_X9_value : GoodIn wsL_law wsX9_value := goodIn_r _ [649, 419, 420, 421, 5, 422, 300, 319, 320, 321, 650, 651, 652, 653, 287, 654, 655, 656, 657, 338, 658, 659, 660, 661, 291, 293, 662, 663, 664, 665, 666, 667, 668, 292, 669, 670, 671, 672, 673, 674, 675, 288, 676, 677, 678, 679, 680, 681, 682, 289, 290, 294, 373, 374, 375, 376, 683, 684, 685, 686, 687, 688, 689, 690, 691, 692, 693, 694, 695, 696, 697, 698, 699, 700, 701, 702, 703, 704, 705, 935, 936, 937, 938, 939, 940, 941, 942, 943, 944, 945, 946, 947, 948, 949, 950, 951, 952, 953, 954] rfl (by decide +kernel)
set_option maxRecDepth 20000 in
theorem gL_law_X9_value : GoodIn wsL_law (wsV RL 57 RX9 yX9_value wsX9_value) := goodIn_app (goodIn_of _ (by decide +kernel)) ggL_law_X9_value
set_option maxRecDepth 20000 in
theorem ggL_law_X8_rough : GoodIn wsL_law wsX8_rough := goodIn_r _ [709, 19, 33, 414, 187, 188, 18, 189, 190, 710, 512, 513, 514, 71, 515, 74, 516, 503, 517, 518, 521, 522, 523, 2, 524, 400, 525, 526, 527, 528, 529, 530, 531, 532, 533, 534, 535, 536, 85, 78, 537, 538, 539, 540, 541, 542, 543, 544, 545, 546, 547, 548, 86, 511, 549, 550, 551, 552, 553, 554, 555, 556, 557, 558, 559, 36, 560, 561, 562, 32, 563, 564, 565, 28, 566, 567, 568, 569, 570, 571, 572, 82, 75, 573, 574, 575, 576, 577, 578, 579, 580, 581, 582, 583, 268, 269, 270, 53, 266, 584, 585, 586, 587, 588, 76, 589, 590, 591, 592, 593, 594, 595, 79, 80, 596, 597, 598, 599, 600, 601, 602, 603, 604, 605, 606, 607, 214, 215, 216, 608, 609, 610, 611, 612, 613, 614, 615, 616, 617, 618, 619, 620, 621, 622, 623, 624, 625, 626, 627, 628, 629, 630, 631, 632, 633, 634, 635, 636, 637, 638, 639, 640, 641, 642, 643, 644, 645, 924, 925, 926, 927, 928, 929, 930, 931, 932, 933, 934, 960, 961, 962, 963, 964, 995, 996, 997, 998, 999, 1000, 1001, 1002, 1003, 1004, 1005, 1006, 1007, 982, 983, 984, 985, 986, 987, 988, 989, 990, 991, 992, 993, 994, 969, 970, 971, 972, 973, 974, 975, 976, 977, 978, 979, 980, 981] rfl (by decide +kernel)
set_option maxRecDepth 20000 in
theorem gL_law_X8_rough : GoodIn wsL_law (wsV RL 58 RX8 yX8_rough wsX8_rough) := goodIn_app (goodIn_of _ (by decide +kernel)) ggL_law_X8_rough
set_option maxRecDepth 20000 in
theorem ggL_law_X9_rough : GoodIn wsL_law wsX9_rough := goodIn_r _ [714, 419, 420, 421, 5, 422, 300, 319, 320, 321, 715, 716, 717, 718, 287, 654, 655, 656, 657, 338, 658, 659, 660, 661, 291, 293, 662, 663, 664, 665, 666, 667, 668, 292, 669, 670, 671, 650, 651, 652, 653, 672, 673, 674, 675, 288, 676, 677, 678, 679, 680, 681, 682, 289, 290, 294, 373, 374, 375, 376, 683, 684, 685, 686, 687, 688, 689, 690, 691, 692, 693, 694, 695, 696, 697, 698, 699, 700, 701, 702, 703, 704, 705, 719, 720, 721, 722, 935, 936, 937, 938, 939, 940, 941, 942, 943, 944, 945, 946, 947, 948, 949, 950, 951, 952, 953, 954] rfl (by decide +kernel)
set_option maxRecDepth 20000 in
theorem gL_law_X9_rough : GoodIn wsL_law (wsV RL 61 RX9 yX9_rough wsX9_rough) := goodIn_app (goodIn_of _ (by decide +kernel)) ggL_law_X9_rough
