-- ===== THE WORDS OF THE LAW: those of the tables, and 'selects' of View's private methods =====
theorem sel_priv {C : String} {y z : MethodName} {args : Array Value} {s : State} (hy : y.cls ≠ "java/lang/invoke/MethodHandle" ∧ y.cls ≠ "java/lang/invoke/VarHandle") (hyz : z.cls = y.cls) (hz : (Cond.selects C z z).before args s = true) (hpriv : (Cond.privateMethod y).before args s = true) (hinst : (Cond.instanceMethod y).before args s = true) : (Cond.selects C y y).before args s = true := by
  obtain ⟨c, r, mz, hc1, hr, hm, -, mk, hmk, hni⟩ := Cond.selects_spec hz
  obtain ⟨my, methM, hnamed, hmethM, -, -⟩ := Cond.instanceMethod_spec hinst
  have hfound : s.methodFound? y.cls y.name y.desc = some my := State.methodFound?_of_named hnamed hy
  have hz1 : s.vm.findClass y.cls = some mz.cls := by rw [← hyz]; exact findClass_of_methodNamed hm
  have hcls : my.cls = mz.cls := Option.some.inj ((findClass_of_methodNamed hnamed).symm.trans hz1)
  have hsel : selectMethod {} s.vm c my = .method my := selectMethod_private hmethM (Cond.privateMethod_at hpriv my methM hnamed hmethM)
  simp only [Cond.before, Cond.holds, Cond.value, hc1, hfound, hnamed, hsel, hcls, hmk]
  simp; exact hni
def exY : List MethodName := [yX7_isDigit, yX7_begin, yX7_advance, yX7_handOver, yX7_bodyComesTo, yX7_pop, yX7_letterComesTo, yX7_countUp, yX7_push]
def exC : List String := [RX0, RX4, RX6]
def exL : List Cond := exC.flatMap (fun C => exY.map (fun y => Cond.selects C y y))
set_option maxRecDepth 20000 in
theorem exY_in : ∀ y ∈ exY, y.cls = RX7 ∧ Cond.privateMethod y ∈ lw_tbl ∧ Cond.instanceMethod y ∈ lw_tbl := by decide +kernel
set_option maxRecDepth 20000 in
theorem exC_in : ∀ C ∈ exC, Cond.selects C yX7_solve yX7_solve ∈ lw_tbl := by decide +kernel
theorem exL_hts {args : Array Value} {s : State} (hts : ∀ w ∈ lw_tbl, w.before args s = true) : ∀ w ∈ exL, w.before args s = true := by
  intro w hw
  obtain ⟨C, hC, hw⟩ := List.mem_flatMap.mp hw
  obtain ⟨y, hy, rfl⟩ := List.mem_map.mp hw
  obtain ⟨h1, h2, h3⟩ := exY_in y hy
  have h4 := exC_in C hC
  exact sel_priv (z := yX7_solve) (by rw [h1]; decide) (by rw [h1]; rfl) (hts _ h4) (hts _ h2) (hts _ h3)
def bigL : List Cond := lw_tbl ++ exL
theorem mem_ps {big ws : List Cond} (ps : List Nat) (hp : ws = ps.filterMap (fun i => big[i]?)) : ∀ w ∈ ws, w ∈ big := by
  intro w hw
  rw [hp] at hw
  obtain ⟨i, -, hi⟩ := List.mem_filterMap.mp hw
  exact List.mem_of_getElem? hi
set_option maxRecDepth 20000 in
theorem m_wsL_law_r1 : ∀ w ∈ wsL_law_r1, w ∈ bigL := mem_ps [29, 30, 11, 84, 31, 32, 33, 34, 35, 36, 37, 38, 12, 395, 104, 44, 13, 396, 397, 398, 107, 108, 14, 400] rfl
set_option maxRecDepth 20000 in
theorem m_wsL_law_r2 : ∀ w ∈ wsL_law_r2, w ∈ bigL := mem_ps [127, 128, 16, 401, 187, 188, 17, 402, 207, 208, 18, 403, 404, 405, 39, 40, 41, 42, 43, 85, 103, 89, 45, 46] rfl
set_option maxRecDepth 20000 in
theorem m_wsL_law_r3 : ∀ w ∈ wsL_law_r3, w ∈ bigL := mem_ps [47, 48, 55, 59, 64, 49, 68, 105, 109, 110, 111, 112, 113, 114, 115, 129, 130, 131, 132, 133, 15, 134, 135, 147] rfl
set_option maxRecDepth 20000 in
theorem m_wsL_law_r4 : ∀ w ∈ wsL_law_r4, w ∈ bigL := mem_ps [156, 157, 143, 144, 145, 146, 136, 148, 141, 186, 150, 151, 137, 748, 766, 139, 140, 775, 784, 189, 190, 191, 192, 209] rfl
set_option maxRecDepth 20000 in
theorem m_wsL_law_r5 : ∀ w ∈ wsL_law_r5, w ∈ bigL := mem_ps [210, 211, 212, 227, 229, 0, 230, 86, 232, 233, 234, 19, 235, 757, 236, 237, 238, 239, 240, 758, 242, 243, 244, 245] rfl
set_option maxRecDepth 20000 in
theorem m_wsL_law_r6 : ∀ w ∈ wsL_law_r6, w ∈ bigL := mem_ps [246, 247, 248, 249, 250, 251, 20, 252, 253, 254, 255, 256, 258, 259, 21, 260, 261, 262, 22, 263, 264, 265, 266, 267] rfl
set_option maxRecDepth 20000 in
theorem m_wsL_law_r7 : ∀ w ∈ wsL_law_r7, w ∈ bigL := mem_ps [268, 269, 270, 271, 272, 273, 274, 276, 278, 280, 281, 282, 283, 87, 284, 285, 286, 287, 90, 91, 52, 288, 290, 1] rfl
set_option maxRecDepth 20000 in
theorem m_wsL_law_r8 : ∀ w ∈ wsL_law_r8, w ∈ bigL := mem_ps [291, 292, 294, 2, 295, 296, 298, 3, 299, 58, 300, 302, 4, 303, 62, 304, 305, 306, 307, 51, 308, 310, 5, 311] rfl
set_option maxRecDepth 20000 in
theorem m_wsL_law_r9 : ∀ w ∈ wsL_law_r9, w ∈ bigL := mem_ps [71, 66, 312, 313, 23, 314, 316, 317, 318, 319, 320, 321, 322, 323, 324, 325, 326, 327, 331, 332, 24, 333, 334, 335] rfl
set_option maxRecDepth 20000 in
theorem m_wsL_law_r10 : ∀ w ∈ wsL_law_r10, w ∈ bigL := mem_ps [336, 328, 329, 330, 337, 338, 339, 340, 341, 342, 343, 344, 345, 346, 347, 348, 349, 350, 351, 352, 353, 354, 355, 356] rfl
set_option maxRecDepth 20000 in
theorem m_wsL_law_r11 : ∀ w ∈ wsL_law_r11, w ∈ bigL := mem_ps [357, 358, 359, 360, 361, 362, 363, 364, 365, 25, 366, 367, 368, 369, 370, 371, 372, 373, 374, 375, 376, 377, 378, 379] rfl
set_option maxRecDepth 20000 in
theorem m_wsL_law_r12 : ∀ w ∈ wsL_law_r12, w ∈ bigL := mem_ps [380, 381, 382, 383, 384, 385, 386, 387, 388, 390, 389, 26, 391, 392, 393, 394, 701, 702, 10, 703, 697, 698, 699, 700] rfl
set_option maxRecDepth 20000 in
theorem m_wsL_law_r13 : ∀ w ∈ wsL_law_r13, w ∈ bigL := mem_ps [693, 694, 695, 696, 704, 705, 706, 707, 88, 708, 709, 710, 711, 712, 713, 714, 715, 716, 717, 718, 719, 720, 721, 722] rfl
set_option maxRecDepth 20000 in
theorem m_wsL_law_r14 : ∀ w ∈ wsL_law_r14, w ∈ bigL := mem_ps [723, 724, 725, 726, 727, 728, 729, 730, 731, 399, 53, 732, 733, 734, 735, 681, 682, 683, 684, 116, 463, 465, 6, 466] rfl
set_option maxRecDepth 20000 in
theorem m_wsL_law_r15 : ∀ w ∈ wsL_law_r15, w ∈ bigL := mem_ps [155, 685, 686, 687, 688, 65, 57, 117, 689, 690, 691, 692, 673, 674, 675, 676, 736, 737, 738, 429, 430, 431, 432, 61] rfl
set_option maxRecDepth 20000 in
theorem m_wsL_law_r16 : ∀ w ∈ wsL_law_r16, w ∈ bigL := mem_ps [433, 434, 435, 436, 437, 70, 438, 439, 440, 441, 442, 443, 444, 445, 481, 482, 483, 484, 485, 487, 488, 486, 491, 492] rfl
set_option maxRecDepth 20000 in
theorem m_wsL_law_r17 : ∀ w ∈ wsL_law_r17, w ∈ bigL := mem_ps [493, 749, 759, 495, 496, 768, 777, 497, 499, 500, 498, 503, 56, 501, 502, 489, 490, 504, 506, 7, 507, 508, 510, 511] rfl
set_option maxRecDepth 20000 in
theorem m_wsL_law_r18 : ∀ w ∈ wsL_law_r18, w ∈ bigL := mem_ps [509, 514, 152, 154, 515, 750, 760, 517, 518, 519, 520, 27, 521, 769, 778, 522, 751, 761, 524, 525, 54, 526, 528, 529] rfl
set_option maxRecDepth 20000 in
theorem m_wsL_law_r19 : ∀ w ∈ wsL_law_r19, w ∈ bigL := mem_ps [527, 532, 530, 531, 533, 535, 536, 537, 538, 539, 540, 541, 542, 543, 544, 545, 752, 762, 547, 548, 63, 771, 780, 549] rfl
set_option maxRecDepth 20000 in
theorem m_wsL_law_r20 : ∀ w ∈ wsL_law_r20, w ∈ bigL := mem_ps [753, 763, 551, 552, 158, 67, 72, 553, 554, 754, 764, 556, 557, 773, 782, 558, 755, 765, 560, 561, 562, 564, 565, 566] rfl
set_option maxRecDepth 20000 in
theorem m_wsL_law_r21 : ∀ w ∈ wsL_law_r21, w ∈ bigL := mem_ps [567, 568, 569, 570, 571, 572, 573, 574, 575, 577, 578, 579, 580, 581, 582, 583, 584, 585, 586, 587, 589, 590, 591, 592] rfl
set_option maxRecDepth 20000 in
theorem m_wsL_law_r22 : ∀ w ∈ wsL_law_r22, w ∈ bigL := mem_ps [593, 594, 595, 596, 597, 598, 774, 783, 599, 756, 767, 601, 602, 776, 785, 772, 781, 770, 779, 512, 513, 603, 613, 614] rfl
set_option maxRecDepth 20000 in
theorem m_wsL_law_r23 : ∀ w ∈ wsL_law_r23, w ∈ bigL := mem_ps [615, 616, 608, 617, 619, 8, 620, 604, 605, 606, 607, 621, 622, 623, 624, 625, 627, 9, 628, 629, 631, 632, 630, 635] rfl
set_option maxRecDepth 20000 in
theorem m_wsL_law_r24 : ∀ w ∈ wsL_law_r24, w ∈ bigL := mem_ps [636, 638, 639, 637, 642, 640, 641, 633, 634, 643, 644, 645, 646, 647, 648, 28, 649, 650, 651, 652, 653, 654, 655, 656] rfl
set_option maxRecDepth 20000 in
theorem m_wsL_law_r25 : ∀ w ∈ wsL_law_r25, w ∈ bigL := mem_ps [657, 658, 659, 660, 149, 609, 610, 611, 612, 153, 661, 662, 663, 664, 665, 451, 452, 453, 454, 455, 456, 457, 666, 668] rfl
set_option maxRecDepth 20000 in
theorem m_wsL_law_r26 : ∀ w ∈ wsL_law_r26, w ∈ bigL := mem_ps [669, 667, 672, 670, 671, 446, 447, 448, 449, 450, 458, 459, 460, 461, 462, 471, 472, 473, 474, 475, 476, 477, 478, 60] rfl
set_option maxRecDepth 20000 in
theorem m_wsL_law_r27 : ∀ w ∈ wsL_law_r27, w ∈ bigL := mem_ps [69, 479, 480, 467, 468, 469, 470, 677, 678, 679, 680, 739, 740, 741, 742, 743, 744, 745, 746, 747] rfl
set_option maxRecDepth 20000 in
theorem m_wsX80 : ∀ w ∈ wsX80, w ∈ bigL := mem_ps [406, 408, 410, 412, 414, 416, 418, 420, 422, 424, 426] rfl
set_option maxRecDepth 20000 in
theorem m_wsX50 : ∀ w ∈ wsX50, w ∈ bigL := mem_ps [92, 94, 96, 98, 100] rfl
set_option maxRecDepth 20000 in
theorem m_wsX30 : ∀ w ∈ wsX30, w ∈ bigL := mem_ps [73, 75, 77, 79, 81] rfl
set_option maxRecDepth 20000 in
theorem m_wsX10 : ∀ w ∈ wsX10, w ∈ bigL := mem_ps [118, 120, 122, 124] rfl
set_option maxRecDepth 20000 in
theorem m_wsX60 : ∀ w ∈ wsX60, w ∈ bigL := mem_ps [159, 161, 163, 165, 167, 169, 171, 173, 175, 177, 179, 181, 183] rfl
set_option maxRecDepth 20000 in
theorem m_wsX40 : ∀ w ∈ wsX40, w ∈ bigL := mem_ps [193, 194, 195, 196, 197, 198, 199, 200, 201, 202, 203, 204, 205] rfl
set_option maxRecDepth 20000 in
theorem m_wsX00 : ∀ w ∈ wsX00, w ∈ bigL := mem_ps [213, 214, 215, 216, 217, 218, 219, 220, 221, 222, 223, 224, 225] rfl
theorem wsL_law_in : ∀ w ∈ wsL_law, w ∈ bigL := List.forall_mem_append.mpr ⟨List.forall_mem_append.mpr ⟨List.forall_mem_append.mpr ⟨List.forall_mem_append.mpr ⟨List.forall_mem_append.mpr ⟨List.forall_mem_append.mpr ⟨List.forall_mem_append.mpr ⟨List.forall_mem_append.mpr ⟨List.forall_mem_append.mpr ⟨m_wsL_law_r1, List.forall_mem_append.mpr ⟨m_wsL_law_r2, List.forall_mem_append.mpr ⟨m_wsL_law_r3, List.forall_mem_append.mpr ⟨m_wsL_law_r4, List.forall_mem_append.mpr ⟨m_wsL_law_r5, List.forall_mem_append.mpr ⟨m_wsL_law_r6, List.forall_mem_append.mpr ⟨m_wsL_law_r7, List.forall_mem_append.mpr ⟨m_wsL_law_r8, List.forall_mem_append.mpr ⟨m_wsL_law_r9, List.forall_mem_append.mpr ⟨m_wsL_law_r10, List.forall_mem_append.mpr ⟨m_wsL_law_r11, List.forall_mem_append.mpr ⟨m_wsL_law_r12, List.forall_mem_append.mpr ⟨m_wsL_law_r13, List.forall_mem_append.mpr ⟨m_wsL_law_r14, List.forall_mem_append.mpr ⟨m_wsL_law_r15, List.forall_mem_append.mpr ⟨m_wsL_law_r16, List.forall_mem_append.mpr ⟨m_wsL_law_r17, List.forall_mem_append.mpr ⟨m_wsL_law_r18, List.forall_mem_append.mpr ⟨m_wsL_law_r19, List.forall_mem_append.mpr ⟨m_wsL_law_r20, List.forall_mem_append.mpr ⟨m_wsL_law_r21, List.forall_mem_append.mpr ⟨m_wsL_law_r22, List.forall_mem_append.mpr ⟨m_wsL_law_r23, List.forall_mem_append.mpr ⟨m_wsL_law_r24, List.forall_mem_append.mpr ⟨m_wsL_law_r25, List.forall_mem_append.mpr ⟨m_wsL_law_r26, m_wsL_law_r27⟩⟩⟩⟩⟩⟩⟩⟩⟩⟩⟩⟩⟩⟩⟩⟩⟩⟩⟩⟩⟩⟩⟩⟩⟩⟩, m_wsX80⟩, m_wsX50⟩, m_wsX30⟩, m_wsX10⟩, m_wsX60⟩, m_wsX40⟩, m_wsX00⟩, fun _ h => absurd h List.not_mem_nil⟩
theorem wsL_hts {args : Array Value} {s : State} (hts : ∀ w ∈ lw_tbl, w.before args s = true) : ∀ w ∈ wsL_law, w.before args s = true := by
  intro w hw
  rcases List.mem_append.mp (wsL_law_in w hw) with h | h
  · exact hts w h
  · exact exL_hts hts w h
