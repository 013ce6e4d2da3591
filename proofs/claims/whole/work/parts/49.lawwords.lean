-- ===== THE WORDS OF THE LAW: those of the tables, and 'selects' of View's private methods =====
theorem sel_priv {C : String} {y z : MethodName} {args : Array Value} {s : State} (hy : y.cls ≠ "java/lang/invoke/MethodHandle" ∧ y.cls ≠ "java/lang/invoke/VarHandle") (hyz : z.cls = y.cls) (hz : (Cond.selects C z z).before args s = true) (hpriv : (Cond.privateMethod y).before args s = true) (hinst : (Cond.instanceMethod y).before args s = true) : (Cond.selects C y y).before args s = true := by
  obtain ⟨c, r, mz, hc1, hr, hm, -, mk, hmk, hni⟩ := Cond.selects_spec hz
  obtain ⟨my, methM, hnamed, hmethM, -, -⟩ := Cond.instanceMethod_spec hinst
  have hfound : s.methodFound? y.cls y.name y.desc = some my := State.methodFound?_of_named hnamed hy
  have hz1 : s.vm.findClass y.cls = some mz.cls := by rw [← hyz]; exact findClass_of_methodNamed hm
  have hcls : my.cls = mz.cls := Option.some.inj ((findClass_of_methodNamed hnamed).symm.trans hz1)
  have hsel : selectMethod {} s.vm c my = .method my := selectMethod_private hmethM (Cond.privateMethod_at hpriv my methM hnamed hmethM)
  simp only [Cond.before, Cond.holds, Cond.value, hc1, hfound, hnamed, hsel, hcls, hmk]
  simp; exact hni
def exY : List MethodName := [yX7_isDigit, yX7_begin, yX7_advance, yX7_handOver, yX7_bodyComesTo, yX7_pop, yX7_letterComesTo, yX7_countUp, yX7_push]
def exC : List String := [RX0, RX4, RX6]
def exL : List Cond := exC.flatMap (fun C => exY.map (fun y => Cond.selects C y y))
set_option maxRecDepth 20000 in
theorem exY_in : ∀ y ∈ exY, y.cls = RX7 ∧ Cond.privateMethod y ∈ lw_tbl ∧ Cond.instanceMethod y ∈ lw_tbl := by decide +kernel
set_option maxRecDepth 20000 in
theorem exC_in : ∀ C ∈ exC, Cond.selects C yX7_solve yX7_solve ∈ lw_tbl := by decide +kernel
theorem exL_hts {args : Array Value} {s : State} (hts : ∀ w ∈ lw_tbl, w.before args s = true) : ∀ w ∈ exL, w.before args s = true := by
  intro w hw
  obtain ⟨C, hC, hw⟩ := List.mem_flatMap.mp hw
  obtain ⟨y, hy, rfl⟩ := List.mem_map.mp hw
  obtain ⟨h1, h2, h3⟩ := exY_in y hy
  have h4 := exC_in C hC
  exact sel_priv (z := yX7_solve) (by rw [h1]; decide) (by rw [h1]; rfl) (hts _ h4) (hts _ h2) (hts _ h3)
set_option maxRecDepth 20000 in
theorem wsL_law_good : GoodIn (lw_tbl ++ exL) wsL_law := goodIn_p wsL_law [94, 97, 102, 108, 172, 192, 195, 201, 252, 272, 291, 296, 300, 306, 310, 313, 316, 321, 324, 327, 330, 334, 344, 348, 352, 356, 360, 364, 368, 372, 375, 380, 384, 388, 394, 397, 391, 400, 403, 409, 412, 415, 418, 421, 424, 427, 430, 434, 439, 444, 448, 455, 801, 806, 810, 493, 1089, 882, 497, 1093, 501, 1097, 906, 1101, 1105, 1109, 1113, 1117, 1121, 1125, 898, 918, 505, 509, 513, 517, 1129, 521, 875, 879, 526, 530, 533, 886, 538, 543, 550, 890, 894, 902, 555, 910, 559, 563, 914, 569, 576, 581, 588, 592, 599, 603, 606, 610, 617, 623, 626, 629, 633, 637, 642, 646, 652, 655, 658, 665, 668, 671, 677, 680, 683, 687, 930, 934, 938, 942, 945, 949, 952, 956, 959, 963, 966, 970, 973, 977, 980, 983, 986, 692, 990, 994, 998, 697, 1002, 701, 1006, 705, 709, 1010, 1014, 713, 717, 724, 731, 1018, 1022, 1026, 1030, 1034, 1037, 735, 738, 1041, 1044, 745, 1048, 749, 1052, 753, 761, 1056, 1059, 765, 772, 780, 1063, 1070, 1073, 1077, 784, 922, 788, 926, 792, 796, 1081, 1085] (by decide +kernel) (by decide +kernel)
theorem wsL_hts {args : Array Value} {s : State} (hts : ∀ w ∈ lw_tbl, w.before args s = true) : ∀ w ∈ wsL_law, w.before args s = true := by
  intro w hw
  rcases List.mem_append.mp (wsL_law_good w hw).1 with h | h
  · exact hts w h
  · exact exL_hts hts w h
