-- ===== THE WORDS OF THE LAW: those of the tables, and 'selects' of View's private methods =====
theorem sel_priv {C : String} {y z : MethodName} {args : Array Value} {s : State} (hy : y.cls ≠ "java/lang/invoke/MethodHandle" ∧ y.cls ≠ "java/lang/invoke/VarHandle") (hyz : z.cls = y.cls) (hz : (Cond.selects C z z).before args s = true) (hpriv : (Cond.privateMethod y).before args s = true) (hinst : (Cond.instanceMethod y).before args s = true) : (Cond.selects C y y).before args s = true := by
  obtain ⟨c, r, mz, hc1, hr, hm, -, mk, hmk, hni⟩ := Cond.selects_spec hz
  obtain ⟨my, methM, hnamed, hmethM, -, -⟩ := Cond.instanceMethod_spec hinst
  have hfound : s.methodFound? y.cls y.name y.desc = some my := State.methodFound?_of_named hnamed hy
  have hz1 : s.vm.findClass y.cls = some mz.cls := by rw [← hyz]; exact findClass_of_methodNamed hm
  have hcls : my.cls = mz.cls := Option.some.inj ((findClass_of_methodNamed hnamed).symm.trans hz1)
  have hsel : selectMethod {} s.vm c my = .method my := selectMethod_private hmethM (Cond.privateMethod_at hpriv my methM hnamed hmethM)
  simp only [Cond.before, Cond.holds, Cond.value, hc1, hfound, hnamed, hsel, hcls, hmk]
  simp; exact hni
def exY : List MethodName := [yX7_isDigit, yX7_begin, yX7_advance, yX7_handOver, yX7_bodyComesTo, yX7_pop, yX7_letterComesTo, yX7_countUp, yX7_push]
def exC : List String := [RX0, RX4, RX6]
def exL : List Cond := exC.flatMap (fun C => exY.map (fun y => Cond.selects C y y))
set_option maxRecDepth 20000 in
theorem exY_in : ∀ y ∈ exY, y.cls = RX7 ∧ Cond.privateMethod y ∈ lw_tbl ∧ Cond.instanceMethod y ∈ lw_tbl := by decide +kernel
set_option maxRecDepth 20000 in
theorem exC_in : ∀ C ∈ exC, Cond.selects C yX7_solve yX7_solve ∈ lw_tbl := by decide +kernel
theorem exL_hts {args : Array Value} {s : State} (hts : ∀ w ∈ lw_tbl, w.before args s = true) : ∀ w ∈ exL, w.before args s = true := by
  intro w hw
  obtain ⟨C, hC, hw⟩ := List.mem_flatMap.mp hw
  obtain ⟨y, hy, rfl⟩ := List.mem_map.mp hw
  obtain ⟨h1, h2, h3⟩ := exY_in y hy
  have h4 := exC_in C hC
  exact sel_priv (z := yX7_solve) (by rw [h1]; decide) (by rw [h1]; rfl) (hts _ h4) (hts _ h2) (hts _ h3)
def bigL : List Cond := lw_tbl ++ exL
theorem mem_ps {big ws : List Cond} (ps : List Nat) (hp : ws = ps.filterMap (fun i => big[i]?)) : ∀ w ∈ ws, w ∈ big := by
  intro w hw
  rw [hp] at hw
  obtain ⟨i, -, hi⟩ := List.mem_filterMap.mp hw
  exact List.mem_of_getElem? hi
set_option maxRecDepth 20000 in
theorem m_wsL_law_r1 : ∀ w ∈ wsL_law_r1, w ∈ bigL := mem_ps [63, 64, 44, 770, 771, 60, 65, 66, 67, 68, 69, 70, 71, 72, 45, 429, 138, 78, 46, 430, 431, 432, 141, 142] rfl
set_option maxRecDepth 20000 in
theorem m_wsL_law_r2 : ∀ w ∈ wsL_law_r2, w ∈ bigL := mem_ps [47, 434, 161, 162, 49, 435, 221, 222, 50, 436, 241, 242, 51, 437, 438, 439, 73, 74, 75, 76, 77, 119, 137, 123] rfl
set_option maxRecDepth 20000 in
theorem m_wsL_law_r3 : ∀ w ∈ wsL_law_r3, w ∈ bigL := mem_ps [79, 80, 81, 82, 118, 89, 93, 98, 83, 102, 139, 143, 144, 145, 146, 147, 148, 149, 163, 164, 165, 166, 167, 48] rfl
set_option maxRecDepth 20000 in
theorem m_wsL_law_r4 : ∀ w ∈ wsL_law_r4, w ∈ bigL := mem_ps [168, 169, 181, 190, 191, 177, 178, 179, 180, 170, 182, 175, 220, 184, 185, 171, 1103, 1121, 173, 174, 1130, 1139, 223, 224] rfl
set_option maxRecDepth 20000 in
theorem m_wsL_law_r5 : ∀ w ∈ wsL_law_r5, w ∈ bigL := mem_ps [225, 226, 243, 244, 245, 246, 261, 263, 0, 264, 120, 266, 267, 268, 52, 269, 1112, 270, 271, 272, 273, 274, 1113, 276] rfl
set_option maxRecDepth 20000 in
theorem m_wsL_law_r6 : ∀ w ∈ wsL_law_r6, w ∈ bigL := mem_ps [277, 278, 279, 280, 281, 282, 283, 284, 285, 53, 286, 287, 288, 289, 290, 292, 293, 54, 294, 295, 296, 55, 297, 298] rfl
set_option maxRecDepth 20000 in
theorem m_wsL_law_r7 : ∀ w ∈ wsL_law_r7, w ∈ bigL := mem_ps [299, 300, 301, 302, 303, 304, 305, 306, 307, 308, 310, 312, 314, 315, 316, 317, 121, 318, 319, 320, 321, 124, 125, 86] rfl
set_option maxRecDepth 20000 in
theorem m_wsL_law_r8 : ∀ w ∈ wsL_law_r8, w ∈ bigL := mem_ps [322, 324, 1, 325, 326, 328, 2, 329, 330, 332, 3, 333, 92, 334, 336, 4, 337, 96, 338, 339, 340, 341, 85, 342] rfl
set_option maxRecDepth 20000 in
theorem m_wsL_law_r9 : ∀ w ∈ wsL_law_r9, w ∈ bigL := mem_ps [344, 5, 345, 105, 100, 346, 347, 56, 348, 350, 351, 352, 353, 354, 355, 356, 357, 358, 359, 360, 361, 365, 366, 57] rfl
set_option maxRecDepth 20000 in
theorem m_wsL_law_r10 : ∀ w ∈ wsL_law_r10, w ∈ bigL := mem_ps [367, 368, 369, 370, 362, 363, 364, 371, 372, 373, 374, 375, 376, 377, 378, 379, 380, 381, 382, 383, 384, 385, 386, 387] rfl
set_option maxRecDepth 20000 in
theorem m_wsL_law_r11 : ∀ w ∈ wsL_law_r11, w ∈ bigL := mem_ps [388, 389, 390, 391, 392, 393, 394, 395, 396, 397, 398, 399, 58, 400, 401, 402, 403, 404, 405, 406, 407, 408, 409, 410] rfl
set_option maxRecDepth 20000 in
theorem m_wsL_law_r12 : ∀ w ∈ wsL_law_r12, w ∈ bigL := mem_ps [411, 412, 413, 414, 415, 416, 417, 418, 419, 420, 421, 422, 424, 423, 59, 425, 426, 427, 428, 772, 773, 774, 775, 785] rfl
set_option maxRecDepth 20000 in
theorem m_wsL_law_r13 : ∀ w ∈ wsL_law_r13, w ∈ bigL := mem_ps [786, 787, 788, 789, 790, 791, 793, 794, 796, 798, 799, 803, 784, 776, 778, 10, 779, 780, 782, 11, 783, 463, 464, 465] rfl
set_option maxRecDepth 20000 in
theorem m_wsL_law_r14 : ∀ w ∈ wsL_law_r14, w ∈ bigL := mem_ps [466, 122, 1059, 1060, 1061, 1062, 800, 853, 854, 855, 467, 468, 469, 470, 1063, 1064, 1065, 1066, 471, 472, 473, 474, 1067, 1068] rfl
set_option maxRecDepth 20000 in
theorem m_wsL_law_r15 : ∀ w ∈ wsL_law_r15, w ∈ bigL := mem_ps [1069, 1070, 792, 876, 878, 16, 879, 1071, 1073, 36, 1074, 801, 802, 1075, 1077, 37, 1078, 1079, 1081, 38, 1082, 1083, 1085, 39] rfl
set_option maxRecDepth 20000 in
theorem m_wsL_law_r16 : ∀ w ∈ wsL_law_r16, w ∈ bigL := mem_ps [1086, 1087, 1089, 40, 1090, 1091, 1093, 41, 1094, 1095, 1097, 42, 1098, 868, 870, 14, 871, 888, 890, 17, 891, 475, 476, 477] rfl
set_option maxRecDepth 20000 in
theorem m_wsL_law_r17 : ∀ w ∈ wsL_law_r17, w ∈ bigL := mem_ps [478, 433, 87, 479, 480, 481, 482, 483, 484, 485, 486, 150, 487, 489, 6, 490, 189, 1099, 1100, 1101, 1102, 795, 797, 491] rfl
set_option maxRecDepth 20000 in
theorem m_wsL_law_r18 : ∀ w ∈ wsL_law_r18, w ∈ bigL := mem_ps [492, 493, 494, 95, 91, 99, 495, 845, 846, 847, 848, 849, 851, 12, 852, 496, 497, 498, 499, 104, 500, 501, 502, 503] rfl
set_option maxRecDepth 20000 in
theorem m_wsL_law_r19 : ∀ w ∈ wsL_law_r19, w ∈ bigL := mem_ps [504, 505, 506, 507, 856, 857, 858, 859, 508, 509, 510, 511, 512, 513, 514, 515, 516, 517, 518, 519, 520, 521, 522, 523] rfl
set_option maxRecDepth 20000 in
theorem m_wsL_law_r20 : ∀ w ∈ wsL_law_r20, w ∈ bigL := mem_ps [524, 860, 861, 862, 863, 864, 866, 13, 867, 872, 874, 15, 875, 525, 526, 527, 528, 880, 881, 882, 883, 529, 530, 531] rfl
set_option maxRecDepth 20000 in
theorem m_wsL_law_r21 : ∀ w ∈ wsL_law_r21, w ∈ bigL := mem_ps [532, 151, 533, 534, 535, 536, 94, 103, 537, 538, 884, 885, 886, 887, 539, 540, 541, 542, 543, 545, 546, 544, 549, 550] rfl
set_option maxRecDepth 20000 in
theorem m_wsL_law_r22 : ∀ w ∈ wsL_law_r22, w ∈ bigL := mem_ps [551, 1104, 1114, 553, 554, 1123, 1132, 555, 557, 558, 556, 561, 90, 559, 560, 547, 548, 562, 564, 7, 565, 566, 568, 569] rfl
set_option maxRecDepth 20000 in
theorem m_wsL_law_r23 : ∀ w ∈ wsL_law_r23, w ∈ bigL := mem_ps [567, 572, 186, 188, 573, 1105, 1115, 575, 576, 577, 578, 61, 579, 1124, 1133, 580, 1106, 1116, 582, 583, 88, 584, 586, 587] rfl
set_option maxRecDepth 20000 in
theorem m_wsL_law_r24 : ∀ w ∈ wsL_law_r24, w ∈ bigL := mem_ps [585, 590, 588, 589, 591, 593, 594, 595, 596, 597, 598, 599, 600, 601, 602, 603, 1107, 1117, 605, 606, 97, 1126, 1135, 607] rfl
set_option maxRecDepth 20000 in
theorem m_wsL_law_r25 : ∀ w ∈ wsL_law_r25, w ∈ bigL := mem_ps [1108, 1118, 609, 610, 192, 101, 106, 611, 612, 1109, 1119, 614, 615, 1128, 1137, 616, 1110, 1120, 618, 619, 620, 622, 623, 624] rfl
set_option maxRecDepth 20000 in
theorem m_wsL_law_r26 : ∀ w ∈ wsL_law_r26, w ∈ bigL := mem_ps [625, 626, 627, 628, 629, 630, 631, 632, 633, 635, 636, 637, 638, 639, 640, 641, 642, 643, 644, 645, 647, 648, 649, 650] rfl
set_option maxRecDepth 20000 in
theorem m_wsL_law_r27 : ∀ w ∈ wsL_law_r27, w ∈ bigL := mem_ps [651, 652, 653, 654, 655, 656, 1129, 1138, 657, 1111, 1122, 659, 660, 1131, 1140, 1127, 1136, 1125, 1134, 570, 571, 661, 900, 901] rfl
set_option maxRecDepth 20000 in
theorem m_wsL_law_r28 : ∀ w ∈ wsL_law_r28, w ∈ bigL := mem_ps [902, 903, 904, 906, 18, 907, 908, 910, 19, 911, 912, 914, 20, 915, 916, 917, 918, 919, 921, 21, 922, 923, 924, 925] rfl
set_option maxRecDepth 20000 in
theorem m_wsL_law_r29 : ∀ w ∈ wsL_law_r29, w ∈ bigL := mem_ps [926, 928, 22, 929, 930, 931, 932, 933, 935, 23, 936, 937, 938, 939, 940, 942, 24, 943, 944, 945, 946, 947, 949, 25] rfl
set_option maxRecDepth 20000 in
theorem m_wsL_law_r30 : ∀ w ∈ wsL_law_r30, w ∈ bigL := mem_ps [950, 951, 952, 953, 954, 955, 956, 957, 958, 959, 662, 663, 664, 665, 666, 960, 961, 962, 963, 964, 966, 26, 967, 968] rfl
set_option maxRecDepth 20000 in
theorem m_wsL_law_r31 : ∀ w ∈ wsL_law_r31, w ∈ bigL := mem_ps [970, 27, 971, 667, 668, 669, 670, 972, 973, 974, 975, 671, 672, 673, 674, 187, 976, 977, 978, 979, 675, 676, 677, 678] rfl
set_option maxRecDepth 20000 in
theorem m_wsL_law_r32 : ∀ w ∈ wsL_law_r32, w ∈ bigL := mem_ps [679, 681, 8, 682, 980, 981, 982, 983, 984, 986, 28, 987, 683, 684, 685, 686, 687, 689, 9, 690, 691, 693, 694, 692] rfl
set_option maxRecDepth 20000 in
theorem m_wsL_law_r33 : ∀ w ∈ wsL_law_r33, w ∈ bigL := mem_ps [697, 698, 700, 701, 699, 704, 702, 703, 695, 696, 988, 989, 990, 991, 992, 994, 29, 995, 996, 998, 30, 999, 1000, 1002] rfl
set_option maxRecDepth 20000 in
theorem m_wsL_law_r34 : ∀ w ∈ wsL_law_r34, w ∈ bigL := mem_ps [31, 1003, 1004, 1006, 32, 1007, 1008, 1009, 1010, 705, 706, 707, 708, 709, 710, 62, 711, 712, 713, 714, 1011, 1012, 1013, 1014] rfl
set_option maxRecDepth 20000 in
theorem m_wsL_law_r35 : ∀ w ∈ wsL_law_r35, w ∈ bigL := mem_ps [1015, 1016, 1017, 715, 716, 717, 718, 1018, 1019, 1020, 1021, 719, 720, 721, 722, 183, 1022, 1023, 1024, 1025, 723, 724, 725, 726] rfl
set_option maxRecDepth 20000 in
theorem m_wsL_law_r36 : ∀ w ∈ wsL_law_r36, w ∈ bigL := mem_ps [727, 728, 730, 731, 729, 734, 732, 733, 1026, 1027, 1028, 1029, 1030, 1031, 1032, 735, 736, 737, 738, 739, 740, 741, 742, 743] rfl
set_option maxRecDepth 20000 in
theorem m_wsL_law_r37 : ∀ w ∈ wsL_law_r37, w ∈ bigL := mem_ps [744, 745, 746, 747, 749, 750, 748, 753, 751, 752, 1033, 1034, 1035, 1036, 1037, 1038, 1039, 1040, 1042, 33, 1043, 1044, 1045, 1046] rfl
set_option maxRecDepth 20000 in
theorem m_wsL_law_r38 : ∀ w ∈ wsL_law_r38, w ∈ bigL := mem_ps [1047, 1049, 34, 1050, 754, 755, 756, 757, 892, 893, 894, 895, 758, 759, 760, 761, 896, 897, 898, 899, 762, 763, 764, 765] rfl
set_option maxRecDepth 20000 in
theorem m_wsL_law_r39 : ∀ w ∈ wsL_law_r39, w ∈ bigL := mem_ps [766, 767, 768, 769, 1051, 1052, 1053, 1054, 1055, 1057, 35, 1058] rfl
set_option maxRecDepth 20000 in
theorem m_wsX80 : ∀ w ∈ wsX80, w ∈ bigL := mem_ps [440, 442, 444, 446, 448, 450, 452, 454, 456, 458, 460] rfl
set_option maxRecDepth 20000 in
theorem m_wsX90 : ∀ w ∈ wsX90, w ∈ bigL := mem_ps [804, 806, 808, 810, 812, 814, 816, 818, 820, 822, 824, 826, 828, 830, 832, 834, 836, 838, 840, 842] rfl
set_option maxRecDepth 20000 in
theorem m_wsX50 : ∀ w ∈ wsX50, w ∈ bigL := mem_ps [126, 128, 130, 132, 134] rfl
set_option maxRecDepth 20000 in
theorem m_wsX30 : ∀ w ∈ wsX30, w ∈ bigL := mem_ps [107, 109, 111, 113, 115] rfl
set_option maxRecDepth 20000 in
theorem m_wsX10 : ∀ w ∈ wsX10, w ∈ bigL := mem_ps [152, 154, 156, 158] rfl
set_option maxRecDepth 20000 in
theorem m_wsX60 : ∀ w ∈ wsX60, w ∈ bigL := mem_ps [193, 195, 197, 199, 201, 203, 205, 207, 209, 211, 213, 215, 217] rfl
set_option maxRecDepth 20000 in
theorem m_wsX40 : ∀ w ∈ wsX40, w ∈ bigL := mem_ps [227, 228, 229, 230, 231, 232, 233, 234, 235, 236, 237, 238, 239] rfl
set_option maxRecDepth 20000 in
theorem m_wsX00 : ∀ w ∈ wsX00, w ∈ bigL := mem_ps [247, 248, 249, 250, 251, 252, 253, 254, 255, 256, 257, 258, 259] rfl
theorem wsL_law_in : ∀ w ∈ wsL_law, w ∈ bigL := List.forall_mem_append.mpr ⟨List.forall_mem_append.mpr ⟨List.forall_mem_append.mpr ⟨List.forall_mem_append.mpr ⟨List.forall_mem_append.mpr ⟨List.forall_mem_append.mpr ⟨List.forall_mem_append.mpr ⟨List.forall_mem_append.mpr ⟨List.forall_mem_append.mpr ⟨List.forall_mem_append.mpr ⟨m_wsL_law_r1, List.forall_mem_append.mpr ⟨m_wsL_law_r2, List.forall_mem_append.mpr ⟨m_wsL_law_r3, List.forall_mem_append.mpr ⟨m_wsL_law_r4, List.forall_mem_append.mpr ⟨m_wsL_law_r5, List.forall_mem_append.mpr ⟨m_wsL_law_r6, List.forall_mem_append.mpr ⟨m_wsL_law_r7, List.forall_mem_append.mpr ⟨m_wsL_law_r8, List.forall_mem_append.mpr ⟨m_wsL_law_r9, List.forall_mem_append.mpr ⟨m_wsL_law_r10, List.forall_mem_append.mpr ⟨m_wsL_law_r11, List.forall_mem_append.mpr ⟨m_wsL_law_r12, List.forall_mem_append.mpr ⟨m_wsL_law_r13, List.forall_mem_append.mpr ⟨m_wsL_law_r14, List.forall_mem_append.mpr ⟨m_wsL_law_r15, List.forall_mem_append.mpr ⟨m_wsL_law_r16, List.forall_mem_append.mpr ⟨m_wsL_law_r17, List.forall_mem_append.mpr ⟨m_wsL_law_r18, List.forall_mem_append.mpr ⟨m_wsL_law_r19, List.forall_mem_append.mpr ⟨m_wsL_law_r20, List.forall_mem_append.mpr ⟨m_wsL_law_r21, List.forall_mem_append.mpr ⟨m_wsL_law_r22, List.forall_mem_append.mpr ⟨m_wsL_law_r23, List.forall_mem_append.mpr ⟨m_wsL_law_r24, List.forall_mem_append.mpr ⟨m_wsL_law_r25, List.forall_mem_append.mpr ⟨m_wsL_law_r26, List.forall_mem_append.mpr ⟨m_wsL_law_r27, List.forall_mem_append.mpr ⟨m_wsL_law_r28, List.forall_mem_append.mpr ⟨m_wsL_law_r29, List.forall_mem_append.mpr ⟨m_wsL_law_r30, List.forall_mem_append.mpr ⟨m_wsL_law_r31, List.forall_mem_append.mpr ⟨m_wsL_law_r32, List.forall_mem_append.mpr ⟨m_wsL_law_r33, List.forall_mem_append.mpr ⟨m_wsL_law_r34, List.forall_mem_append.mpr ⟨m_wsL_law_r35, List.forall_mem_append.mpr ⟨m_wsL_law_r36, List.forall_mem_append.mpr ⟨m_wsL_law_r37, List.forall_mem_append.mpr ⟨m_wsL_law_r38, m_wsL_law_r39⟩⟩⟩⟩⟩⟩⟩⟩⟩⟩⟩⟩⟩⟩⟩⟩⟩⟩⟩⟩⟩⟩⟩⟩⟩⟩⟩⟩⟩⟩⟩⟩⟩⟩⟩⟩⟩⟩, m_wsX80⟩, m_wsX90⟩, m_wsX50⟩, m_wsX30⟩, m_wsX10⟩, m_wsX60⟩, m_wsX40⟩, m_wsX00⟩, fun _ h => absurd h List.not_mem_nil⟩
theorem wsL_hts {args : Array Value} {s : State} (hts : ∀ w ∈ lw_tbl, w.before args s = true) : ∀ w ∈ wsL_law, w.before args s = true := by
  intro w hw
  rcases List.mem_append.mp (wsL_law_in w hw) with h | h
  · exact hts w h
  · exact exL_hts hts w h
