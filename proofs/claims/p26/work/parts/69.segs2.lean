section LS
variable {p : Program} {l : Launch} {e : Env} {s : State} {m : MethodId} {args : Array Value} {below : List Frame} {meth : Method} {c : Code} {b L : Nat} {xs : Nat → Int32} {H : Heap} {locs : List Loc} {cells slots : Nat} {g : GE} {h : Nat → va_E} {ls : Array Slot} {st : ST} {gd gb : Nat → Int32} {Q : State → Prop}
def bitF (b a : Nat) : Nat := b / 2 ^ a % 2
theorem bitF_lt (b a : Nat) : bitF b a < 2 := Nat.mod_lt _ (by decide)
theorem bitF_in {S : Nat → Prop} {c a : Nat} (h : a < c) : bitF (mBits S c) a = 1 ↔ S a := bits_in h
theorem mk_pos {M : PRG} {f a : Nat} {r : Int} (h : MkQ M f a r) (h0 : 0 ≤ r) : ¬ mStrictF 2 M f a ∧ ∃ i k, i < pL M f ∧ k < 14 ∧ Cand M f a i k ∧ r = ((200 * i + mCode k : Nat) : Int) := by
  rcases h with ⟨-, z⟩ | ⟨a1, ⟨i, k, b, c, d, e⟩ | z⟩
  · omega
  · exact ⟨a1, i, k, b, c, d, e⟩
  · omega
theorem mk_neg {M : PRG} {f a : Nat} {r : Int} (h : MkQ M f a r) (h0 : r < 0) : (mStrictF 2 M f a ∧ r = -2) ∨ (¬ mStrictF 2 M f a ∧ r = -4) := by
  rcases h with z | ⟨a1, ⟨i, k, b, c, d, e⟩ | z⟩
  · exact Or.inl z
  · omega
  · exact Or.inr ⟨a1, z⟩
theorem mk_is {M : PRG} {f a : Nat} {r : Int} (h : MkQ M f a r) (hs : mStrictF 2 M f a) : r = -2 := by
  rcases h with ⟨-, z⟩ | ⟨z, -⟩
  · exact z
  · exact absurd hs z
/-- a letter put, its own put back -/
theorem fit_back {M : PRG} {f i k : Nat} (hP : PV M) (hf : f < pN M) (hi : i < pL M f) (hm : mFit M f i k) : mFit (mSet M f i k) f i (pB M f i) := by
  refine ⟨((hP.2.2 f hf).2.2.2.2.1 i hi).2.1, ?_⟩
  show mParts (pN M) (pA M) (pB M f i) = mParts (pN M) (pA M) (if f = f ∧ i = i then k else pB M f i)
  rw [if_pos ⟨rfl, rfl⟩]; exact hm.2.symm
theorem set_at {M : PRG} {f i k : Nat} : pB (mSet M f i k) f i = k := by
  show (if f = f ∧ i = i then k else pB M f i) = k
  rw [if_pos ⟨rfl, rfl⟩]
theorem kind_at {M : PRG} {f k : Nat} : pK (mKind M f k) f = k := by
  show (if f = f then k else pK M f) = k
  rw [if_pos rfl]
set_option maxHeartbeats 8000000 in
set_option maxRecDepth 100000 in
theorem seg_F (C : LwC p s m c args b L xs cells slots) (I : LI g h s st gd gb H locs) {x4 x5 x6 : Int32} (hx6 : x6.toInt = ((pN (sM st) : Nat) : Int)) (hl : lv_has ls 20 [(0, .ref b), (1, .ref (g.2.2.1 0)), (2, .ref (g.2.2.1 143)), (3, .ref (g.2.2.1 144)), (4, .int x4), (5, .int x5), (6, .int x6), (7, .int 1), (8, .int 0)]) (K : ∀ (x8 : Int32) (h : Nat → va_E) (H : Heap) (locs : List Loc) (ls : Array Slot), LI g h s st gd gb H locs → lv_has ls 20 [(0, .ref b), (1, .ref (g.2.2.1 0)), (2, .ref (g.2.2.1 143)), (3, .ref (g.2.2.1 144)), (4, .int x4), (5, .int x5), (6, .int x6), (7, .int 1), (8, .int x8)] → (x8.toInt = (((sm (neF (sM st)) (pN (sM st))) : Nat) : Int)) → W p l e room_1 s m args below meth c H locs cells slots Q (F0 m 1035 ls [])) : W p l e room_1 s m args below meth c H locs cells slots Q (F0 m 84 ls []) := by
  obtain ⟨hx, hb, hml, hown, hts, hX, hcs⟩ := id C
  have hP := I.hP
  have hn4 := hP.2.1
  have cuts : ∀ N_ : Nat, (∀ (f : Nat) (x8 : Int32) (x9 : Int32) (h : Nat → va_E) (H : Heap) (locs : List Loc) (ls : Array Slot), LI g h s st gd gb H locs → lv_has ls 20 [(0, .ref b), (1, .ref (g.2.2.1 0)), (2, .ref (g.2.2.1 143)), (3, .ref (g.2.2.1 144)), (4, .int x4), (5, .int x5), (6, .int x6), (7, .int 1), (8, .int x8), (9, .int x9)] → (f ≤ pN (sM st)) → (x8.toInt = ((sm (neF (sM st)) f : Nat) : Int)) → (x9.toInt = ((f : Nat) : Int)) → 5 - f < N_ → W p l e room_1 s m args below meth c H locs cells slots Q (F0 m 87 ls [])) := by
    intro N_
    induction N_ with
    | zero => exact by intros; omega
    | succ N_ ih =>
      have ih87 := ih
      · intro f x8 x9 h H locs ls I hl hf hx8 hx9 hN_
        refine lv_iload hx hb dL_law_87 (lv_at hl 9 rfl) ?_
        refine lv_iload hx hb dL_law_89 (lv_at hl 6 rfl) ?_
        refine lv_icmp_ge (tgt := 1035) hx hb dL_law_91 (by decide) (fun c1 => ?_) (fun c1 => ?_)
        · have c1 : (((pN (sM st)) : Nat) : Int) ≤ ((f : Nat) : Int) := (i_le hx6 hx9).mp c1
          exact K x8 _ _ _ _ I (lv_sub hl [0, 1, 2, 3, 4, 5, 6, 7, 8] rfl) (by rw [show pN (sM st) = f by omega]; exact hx8)
        · have c1 : ¬ ((((pN (sM st)) : Nat) : Int) ≤ ((f : Nat) : Int)) := fun q => c1 ((i_le hx6 hx9).mpr q)
          have hfl : f < pN (sM st) := by omega
          refine lv_aload_n hx hb dL_law_94 rfl (lv_at hl 1 rfl) ?_
          refine lv_iload hx hb dL_law_95 (lv_at hl 9 rfl) ?_
          refine lv_iconst (v := 1) hx hb dL_law_97 (by decide) ?_
          refine lk_function C I hl.1 (Nat.le_of_ble_eq_true rfl) dL_law_98 (fun r2 H locs I A2 => ?_)
          have tr2 : r2.toInt = (((pA (sM st) f) : Nat) : Int) := (A2.at hx9 hfl).2.1 (by decide)
          refine lv_istore (lv' := [(10, .int r2), (0, .ref b), (1, .ref (g.2.2.1 0)), (2, .ref (g.2.2.1 143)), (3, .ref (g.2.2.1 144)), (4, .int x4), (5, .int x5), (6, .int x6), (7, .int 1), (8, .int x8), (9, .int x9)]) hx hb dL_law_101 hl (by decide) rfl (fun ls hl => ?_)
          refine lv_aload_n hx hb dL_law_103 rfl (lv_at hl 2 rfl) ?_
          refine lv_iload hx hb dL_law_104 (lv_at hl 10 rfl) ?_
          refine lv_iconst (v := 0) hx hb dL_law_106 (by decide) ?_
          refine lk_function C I hl.1 (Nat.le_of_ble_eq_true rfl) dL_law_107 (fun r3 H locs I A3 => ?_)
          have tr3 : r3.toInt = (((pK (sM st) f) : Nat) : Int) := (A3.at hx9 hfl).1 (by decide)
          refine lv_istore (lv' := [(11, .int r3), (10, .int r2), (0, .ref b), (1, .ref (g.2.2.1 0)), (2, .ref (g.2.2.1 143)), (3, .ref (g.2.2.1 144)), (4, .int x4), (5, .int x5), (6, .int x6), (7, .int 1), (8, .int x8), (9, .int x9)]) hx hb dL_law_110 hl (by decide) rfl (fun ls hl => ?_)
          refine lv_iconst (v := 1) hx hb dL_law_112 (by decide) ?_
          refine lv_istore (lv' := [(12, .int 1), (11, .int r3), (10, .int r2), (0, .ref b), (1, .ref (g.2.2.1 0)), (2, .ref (g.2.2.1 143)), (3, .ref (g.2.2.1 144)), (4, .int x4), (5, .int x5), (6, .int x6), (7, .int 1), (8, .int x8), (9, .int x9)]) hx hb dL_law_113 hl (by decide) rfl (fun ls hl => ?_)
          refine lv_iconst (v := 0) hx hb dL_law_115 (by decide) ?_
          refine lv_istore (lv' := [(13, .int 0), (12, .int 1), (11, .int r3), (10, .int r2), (0, .ref b), (1, .ref (g.2.2.1 0)), (2, .ref (g.2.2.1 143)), (3, .ref (g.2.2.1 144)), (4, .int x4), (5, .int x5), (6, .int x6), (7, .int 1), (8, .int x8), (9, .int x9)]) hx hb dL_law_116 hl (by decide) rfl (fun ls hl => ?_)
          refine seg_k C I (x12 := 1) (x13 := 0) rfl (by decide) hfl hx6 hx8 hx9 tr2 tr3 (lv_sub hl [4, 5, 6, 7, 8, 9, 10, 11, 12, 13, 3, 2, 1, 0] rfl) (fun x12 h H locs ls I hl hx12 => ?_)
          refine seg_fr C I hfl hx6 hx8 hx9 tr2 tr3 hx12 hl (fun x8b x13 h H locs ls I hl hx8b hx13 => ?_)
          refine seg_ro C I hfl hx6 hx8 hx9 tr2 tr3 hx8b hx13 hl (fun h H locs ls I hl => ?_)
          refine seg_st C I hfl hx6 hx8 hx9 tr2 tr3 hx8b hx13 hl (fun h H locs ls I hl => ?_)
          refine seg_fi C I hfl hx6 hx8 hx9 tr2 tr3 hx8b hl (fun h H locs ls I hl => ?_)
          refine seg_sa C I hfl hx6 hx8 hx9 tr2 tr3 hx8b hl (fun h H locs ls I hl => ?_)
          obtain ⟨y4, ey4⟩ : ∃ y : Int32, y = x9 + (1) := ⟨_, rfl⟩
          have ty4 : y4.toInt = (((f + 1) : Nat) : Int) := i_addN ey4 hx9 (by decide : (1 : Int32).toInt = ((1 : Nat) : Int)) (by omega)
          refine lv_iinc (v := y4) (lv' := [(9, .int y4), (0, .ref b), (1, .ref (g.2.2.1 0)), (2, .ref (g.2.2.1 143)), (3, .ref (g.2.2.1 144)), (4, .int x4), (5, .int x5), (6, .int x6), (7, .int 1), (8, .int x8b), (10, .int r2), (11, .int r3)]) hx hb dL_law_1029 hl (k := 9) rfl (by rw [ey4]; rfl) (by decide) rfl (fun ls hl => ?_)
          refine lv_goto (tgt := 87) hx hb dL_law_1032 (by decide) ?_
          exact ih87 (f + 1) x8b y4 _ _ _ _ I (lv_sub hl [1, 2, 3, 4, 5, 6, 7, 8, 9, 0] rfl) (by omega) hx8b ty4 (by omega)
  have ih87 := cuts (6)
  refine lv_iconst (v := 0) hx hb dL_law_84 (by decide) ?_
  refine lv_istore (lv' := [(9, .int 0), (0, .ref b), (1, .ref (g.2.2.1 0)), (2, .ref (g.2.2.1 143)), (3, .ref (g.2.2.1 144)), (4, .int x4), (5, .int x5), (6, .int x6), (7, .int 1), (8, .int 0)]) hx hb dL_law_85 hl (by decide) rfl (fun ls hl => ?_)
  exact ih87 0 0 0 _ _ _ _ I (lv_sub hl [1, 2, 3, 4, 5, 6, 7, 8, 9, 0] rfl) (Nat.zero_le _) rfl ((by decide : (0 : Int32).toInt = ((0 : Nat) : Int))) (by omega)

set_option maxHeartbeats 8000000 in
set_option maxRecDepth 100000 in
theorem seg_rn (C : LwC p s m c args b L xs cells slots) (I : LI g h s st gd gb H locs) {x4 x5 x6 x8 : Int32} (hx6 : x6.toInt = ((pN (sM st) : Nat) : Int)) (hx8 : x8.toInt = (((sm (neF (sM st)) (pN (sM st))) : Nat) : Int)) (hl : lv_has ls 20 [(0, .ref b), (1, .ref (g.2.2.1 0)), (2, .ref (g.2.2.1 143)), (3, .ref (g.2.2.1 144)), (4, .int x4), (5, .int x5), (6, .int x6), (7, .int 1), (8, .int x8)]) (K : ∀  (h : Nat → va_E) (H : Heap) (locs : List Loc) (ls : Array Slot), LI g h s st gd gb H locs → lv_has ls 20 [(0, .ref b), (1, .ref (g.2.2.1 0)), (2, .ref (g.2.2.1 143)), (3, .ref (g.2.2.1 144)), (4, .int x4), (5, .int x5), (6, .int x6), (7, .int 1)] → W p l e room_1 s m args below meth c H locs cells slots Q (F0 m 1075 ls [])) : W p l e room_1 s m args below meth c H locs cells slots Q (F0 m 1035 ls []) := by
  obtain ⟨hx, hb, hml, hown, hts, hX, hcs⟩ := id C
  have hP := I.hP
  have hn4 := hP.2.1
  refine lv_iload hx hb dL_law_1035 (lv_at hl 7 rfl) ?_
  refine lv_if_eq (tgt := 1072) hx hb dL_law_1037 (by decide) (fun c1 => ?_) (fun c1 => ?_)
  · have c1 : ((1 : Nat) : Int) = (0 : Int) := (i_eq (by decide : (1 : Int32).toInt = ((1 : Nat) : Int)) (rfl : (0 : Int32).toInt = 0)).mp c1
    exfalso; omega
  · have c1 : ¬ (((1 : Nat) : Int) = (0 : Int)) := fun q => c1 ((i_eq (by decide : (1 : Int32).toInt = ((1 : Nat) : Int)) (rfl : (0 : Int32).toInt = 0)).mpr q)
    refine lv_aload_n hx hb dL_law_1040 rfl (lv_at hl 1 rfl) ?_
    refine lv_iconst (v := 0) hx hb dL_law_1041 (by decide) ?_
    refine lk_rounds C I hl.1 (Nat.le_of_ble_eq_true rfl) dL_law_1042 (fun r2 h H locs I A2 => ?_)
    have hro_ := rounds_0 A2 (by decide) hP
    refine lv_if_ne (tgt := 1052) hx hb dL_law_1045 (by decide) (fun c3 => ?_) (fun c3 => ?_)
    · have c3 : ¬ (r2.toInt = (0 : Int)) := fun q => c3 ((i_eq (rfl : r2.toInt = r2.toInt) (rfl : (0 : Int32).toInt = 0)).mpr q)
      refine lv_iconst (v := 0) hx hb dL_law_1052 (by decide) ?_
      refine lv_iload hx hb dL_law_1053 (lv_at hl 8 rfl) ?_
      refine lv_iload hx hb dL_law_1055 (lv_at hl 6 rfl) ?_
      refine lv_icmp_ne (tgt := 1064) hx hb dL_law_1057 (by decide) (fun c4 => ?_) (fun c4 => ?_)
      · have c4 : ¬ ((((sm (neF (sM st)) (pN (sM st))) : Nat) : Int) = (((pN (sM st)) : Nat) : Int)) := fun q => c4 ((i_eq hx8 hx6).mpr q)
        refine lv_iconst (v := 0) hx hb dL_law_1064 (by decide) ?_
        refine lv_icmp_ne (tgt := 1072) hx hb dL_law_1065 (by decide) (fun c5 => ?_) (fun c5 => ?_)
        · have c5 : ¬ (((0 : Nat) : Int) = ((0 : Nat) : Int)) := fun q => c5 ((i_eq (by decide : (0 : Int32).toInt = ((0 : Nat) : Int)) (by decide : (0 : Int32).toInt = ((0 : Nat) : Int))).mpr q)
          exfalso; omega
        · have c5 : ((0 : Nat) : Int) = ((0 : Nat) : Int) := (i_eq (by decide : (0 : Int32).toInt = ((0 : Nat) : Int)) (by decide : (0 : Int32).toInt = ((0 : Nat) : Int))).mp c5
          refine lv_iconst (v := 1) hx hb dL_law_1068 (by decide) ?_
          refine lv_goto (tgt := 1073) hx hb dL_law_1069 (by decide) ?_
          refine lv_istore (lv' := [(7, .int 1), (0, .ref b), (1, .ref (g.2.2.1 0)), (2, .ref (g.2.2.1 143)), (3, .ref (g.2.2.1 144)), (4, .int x4), (5, .int x5), (6, .int x6), (8, .int x8)]) hx hb dL_law_1073 hl (by decide) rfl (fun ls hl => ?_)
          exact K  _ _ _ _ I (lv_sub hl [1, 2, 3, 4, 5, 6, 7, 0] rfl) 
      · have c4 : (((sm (neF (sM st)) (pN (sM st))) : Nat) : Int) = (((pN (sM st)) : Nat) : Int) := (i_eq hx8 hx6).mp c4
        exfalso; omega
    · have c3 : r2.toInt = (0 : Int) := (i_eq (rfl : r2.toInt = r2.toInt) (rfl : (0 : Int32).toInt = 0)).mp c3
      refine lv_iconst (v := 1) hx hb dL_law_1048 (by decide) ?_
      refine lv_goto (tgt := 1053) hx hb dL_law_1049 (by decide) ?_
      refine lv_iload hx hb dL_law_1053 (lv_at hl 8 rfl) ?_
      refine lv_iload hx hb dL_law_1055 (lv_at hl 6 rfl) ?_
      refine lv_icmp_ne (tgt := 1064) hx hb dL_law_1057 (by decide) (fun c6 => ?_) (fun c6 => ?_)
      · have c6 : ¬ ((((sm (neF (sM st)) (pN (sM st))) : Nat) : Int) = (((pN (sM st)) : Nat) : Int)) := fun q => c6 ((i_eq hx8 hx6).mpr q)
        exfalso; omega
      · have c6 : (((sm (neF (sM st)) (pN (sM st))) : Nat) : Int) = (((pN (sM st)) : Nat) : Int) := (i_eq hx8 hx6).mp c6
        refine lv_iconst (v := 1) hx hb dL_law_1060 (by decide) ?_
        refine lv_goto (tgt := 1065) hx hb dL_law_1061 (by decide) ?_
        refine lv_icmp_ne (tgt := 1072) hx hb dL_law_1065 (by decide) (fun c7 => ?_) (fun c7 => ?_)
        · have c7 : ¬ (((1 : Nat) : Int) = ((1 : Nat) : Int)) := fun q => c7 ((i_eq (by decide : (1 : Int32).toInt = ((1 : Nat) : Int)) (by decide : (1 : Int32).toInt = ((1 : Nat) : Int))).mpr q)
          exfalso; omega
        · have c7 : ((1 : Nat) : Int) = ((1 : Nat) : Int) := (i_eq (by decide : (1 : Int32).toInt = ((1 : Nat) : Int)) (by decide : (1 : Int32).toInt = ((1 : Nat) : Int))).mp c7
          refine lv_iconst (v := 1) hx hb dL_law_1068 (by decide) ?_
          refine lv_goto (tgt := 1073) hx hb dL_law_1069 (by decide) ?_
          refine lv_istore (lv' := [(7, .int 1), (0, .ref b), (1, .ref (g.2.2.1 0)), (2, .ref (g.2.2.1 143)), (3, .ref (g.2.2.1 144)), (4, .int x4), (5, .int x5), (6, .int x6), (8, .int x8)]) hx hb dL_law_1073 hl (by decide) rfl (fun ls hl => ?_)
          exact K  _ _ _ _ I (lv_sub hl [1, 2, 3, 4, 5, 6, 7, 0] rfl) 

set_option maxHeartbeats 8000000 in
set_option maxRecDepth 100000 in
theorem seg_mk (C : LwC p s m c args b L xs cells slots) (I : LI g h s st gd gb H locs) {x4 x5 x6 : Int32} (hx6 : x6.toInt = ((pN (sM st) : Nat) : Int)) (hl : lv_has ls 20 [(0, .ref b), (1, .ref (g.2.2.1 0)), (2, .ref (g.2.2.1 143)), (3, .ref (g.2.2.1 144)), (4, .int x4), (5, .int x5), (6, .int x6), (7, .int 1)]) (K : ∀ (st2 : ST) (f : Nat) (x9 : Int32) (x10 : Int32) (h : Nat → va_E) (H : Heap) (locs : List Loc) (ls : Array Slot), LI g h s st2 gd gb H locs → lv_has ls 20 [(0, .ref b), (1, .ref (g.2.2.1 0)), (2, .ref (g.2.2.1 143)), (3, .ref (g.2.2.1 144)), (4, .int x4), (5, .int x5), (6, .int x6), (7, .int 1), (9, .int x9), (10, .int x10)] → (sM st2 = sM st) → (sV st2 = sV st) → (sVs st2 = sVs st) → (f < pN (sM st)) → (x9.toInt = ((f : Nat) : Int)) → (x10.toInt = ((pA (sM st) f : Nat) : Int)) → W p l e room_1 s m args below meth c H locs cells slots Q (F0 m 1327 ls [])) : W p l e room_1 s m args below meth c H locs cells slots Q (F0 m 1075 ls []) := by
  obtain ⟨hx, hb, hml, hown, hts, hX, hcs⟩ := id C
  have hP := I.hP
  have hn4 := hP.2.1
  have h1_ := hP.1
  refine lv_iload hx hb dL_law_1075 (lv_at hl 5 rfl) ?_
  refine lv_bipush (v := 6) hx hb dL_law_1077 (by decide) ?_
  refine lv_ishr hx hb dL_law_1079 ?_
  refine lv_topi (fun y1 ey1 => ?_)
  subst ey1
  refine lv_iload hx hb dL_law_1080 (lv_at hl 6 rfl) ?_
  refine lk_low C I hl.1 hx6 (by omega) (Nat.le_of_ble_eq_true rfl) dL_law_1082 (fun r2 H locs I tr2 => ?_)
  have hlt_r2 := lowF_lt (v := (x5 >>> ((6 : Int32) &&& 31))) (n := (pN (sM st))) (by omega)
  refine lv_istore (lv' := [(9, .int r2), (0, .ref b), (1, .ref (g.2.2.1 0)), (2, .ref (g.2.2.1 143)), (3, .ref (g.2.2.1 144)), (4, .int x4), (5, .int x5), (6, .int x6), (7, .int 1)]) hx hb dL_law_1085 hl (by decide) rfl (fun ls hl => ?_)
  obtain ⟨f, hfd⟩ : ∃ f_ : Nat, f_ = (lowF ((x5 >>> ((6 : Int32) &&& 31))) ((pN (sM st)))) := ⟨_, rfl⟩
  have hf_ : r2.toInt = ((f : Nat) : Int) := by rw [hfd]; exact tr2
  have hfl : f < pN (sM st) := by omega
  have hA3_ := (hP.2.2 f hfl).1
  refine lv_aload_n hx hb dL_law_1087 rfl (lv_at hl 2 rfl) ?_
  refine lv_iload hx hb dL_law_1088 (lv_at hl 0 rfl) ?_
  refine lv_iconst (v := 1) hx hb dL_law_1090 (by decide) ?_
  refine lk_function C I hl.1 (Nat.le_of_ble_eq_true rfl) dL_law_1091 (fun r3 H locs I A3 => ?_)
  have tr3 : r3.toInt = ((pA (sM st) f : Nat) : Int) := (A3.at hf_ hfl).2.1 (by decide)
  refine lv_istore (lv' := [(10, .int r3), (9, .int r2), (0, .ref b), (1, .ref (g.2.2.1 0)), (2, .ref (g.2.2.1 143)), (3, .ref (g.2.2.1 144)), (4, .int x4), (5, .int x5), (6, .int x6), (7, .int 1)]) hx hb dL_law_1094 hl (by decide) rfl (fun ls hl => ?_)
  refine lv_iload hx hb dL_law_1096 (lv_at hl 0 rfl) ?_
  refine lv_if_le (tgt := 1327) hx hb dL_law_1098 (by decide) (fun c4 => ?_) (fun c4 => ?_)
  · have c4 : (((pA (sM st) f) : Nat) : Int) ≤ (0 : Int) := (i_le tr3 (rfl : (0 : Int32).toInt = 0)).mp c4
    exact K st f r2 r3 _ _ _ _ I (lv_sub hl [2, 3, 4, 5, 6, 7, 8, 9, 1, 0] rfl) rfl rfl rfl hfl hf_ tr3
  · have c4 : ¬ ((((pA (sM st) f) : Nat) : Int) ≤ (0 : Int)) := fun q => c4 ((i_le tr3 (rfl : (0 : Int32).toInt = 0)).mpr q)
    refine lv_iload hx hb dL_law_1101 (lv_at hl 7 rfl) ?_
    refine lv_bipush (v := 9) hx hb dL_law_1103 (by decide) ?_
    refine lv_ishr hx hb dL_law_1105 ?_
    refine lv_topi (fun y5 ey5 => ?_)
    subst ey5
    refine lv_iload hx hb dL_law_1106 (lv_at hl 0 rfl) ?_
    refine lk_low C I hl.1 tr3 (by omega) (Nat.le_of_ble_eq_true rfl) dL_law_1108 (fun r6 H locs I tr6 => ?_)
    have hlt_r6 := lowF_lt (v := (x5 >>> ((9 : Int32) &&& 31))) (n := (pA (sM st) f)) (by omega)
    refine lv_istore (lv' := [(11, .int r6), (10, .int r3), (9, .int r2), (0, .ref b), (1, .ref (g.2.2.1 0)), (2, .ref (g.2.2.1 143)), (3, .ref (g.2.2.1 144)), (4, .int x4), (5, .int x5), (6, .int x6), (7, .int 1)]) hx hb dL_law_1111 hl (by decide) rfl (fun ls hl => ?_)
    obtain ⟨a9, ha9d⟩ : ∃ f_ : Nat, f_ = (lowF ((x5 >>> ((9 : Int32) &&& 31))) ((pA (sM st) f))) := ⟨_, rfl⟩
    have ha9_ : r6.toInt = ((a9 : Nat) : Int) := by rw [ha9d]; exact tr6
    have ha9 : a9 < pA (sM st) f := by omega
    refine lv_aload_n hx hb dL_law_1113 rfl (lv_at hl 4 rfl) ?_
    refine lv_iload hx hb dL_law_1114 (lv_at hl 2 rfl) ?_
    refine lv_iconst (v := 1) hx hb dL_law_1116 (by decide) ?_
    refine lk_strict C I hl.1 (Nat.le_of_ble_eq_true rfl) dL_law_1117 (fun r7 h H locs I A7 => ?_)
    have tr7 : r7.toInt = (((mBits (mStrictF (wU 1) (sM st) f) (pA (sM st) f)) : Nat) : Int) := strict_at (w := 1) A7 hfl hf_ (by decide) (by decide)
    refine lv_istore (lv' := [(12, .int r7), (11, .int r6), (10, .int r3), (9, .int r2), (0, .ref b), (1, .ref (g.2.2.1 0)), (2, .ref (g.2.2.1 143)), (3, .ref (g.2.2.1 144)), (4, .int x4), (5, .int x5), (6, .int x6), (7, .int 1)]) hx hb dL_law_1120 hl (by decide) rfl (fun ls hl => ?_)
    refine lv_aload_n hx hb dL_law_1122 rfl (lv_at hl 5 rfl) ?_
    refine lv_iload hx hb dL_law_1123 (lv_at hl 3 rfl) ?_
    refine lv_iload hx hb dL_law_1125 (lv_at hl 1 rfl) ?_
    refine lk_makes C I hl.1 (Nat.le_of_ble_eq_true rfl) dL_law_1127 (fun r8 h H locs I A8 => ?_)
    have hmk_ := makes_at A8 hfl ha9 hf_ ha9_
    refine lv_istore (lv' := [(13, .int r8), (12, .int r7), (11, .int r6), (10, .int r3), (9, .int r2), (0, .ref b), (1, .ref (g.2.2.1 0)), (2, .ref (g.2.2.1 143)), (3, .ref (g.2.2.1 144)), (4, .int x4), (5, .int x5), (6, .int x6), (7, .int 1)]) hx hb dL_law_1130 hl (by decide) rfl (fun ls hl => ?_)
    refine lv_iload hx hb dL_law_1132 (lv_at hl 0 rfl) ?_
    refine lv_if_lt (tgt := 1277) hx hb dL_law_1134 (by decide) (fun c9 => ?_) (fun c9 => ?_)
    · have c9 : r8.toInt < (0 : Int) := (i_lt (rfl : r8.toInt = r8.toInt) (rfl : (0 : Int32).toInt = 0)).mp c9
      have hmn_ := mk_neg hmk_ (by omega)
      refine lv_iload hx hb dL_law_1277 (lv_at hl 12 rfl) ?_
      refine lv_if_eq (tgt := 1324) hx hb dL_law_1279 (by decide) (fun c10 => ?_) (fun c10 => ?_)
      · have c10 : ((1 : Nat) : Int) = (0 : Int) := (i_eq (by decide : (1 : Int32).toInt = ((1 : Nat) : Int)) (rfl : (0 : Int32).toInt = 0)).mp c10
        exfalso; omega
      · have c10 : ¬ (((1 : Nat) : Int) = (0 : Int)) := fun q => c10 ((i_eq (by decide : (1 : Int32).toInt = ((1 : Nat) : Int)) (rfl : (0 : Int32).toInt = 0)).mpr q)
        refine lv_iload hx hb dL_law_1282 (lv_at hl 0 rfl) ?_
        refine lv_bipush (v := (-2)) hx hb dL_law_1284 (by decide) ?_
        refine lv_icmp_ne (tgt := 1303) hx hb dL_law_1286 (by decide) (fun c11 => ?_) (fun c11 => ?_)
        · have c11 : ¬ (r8.toInt = (-2 : Int)) := fun q => c11 ((i_eq (rfl : r8.toInt = r8.toInt) (by decide : (-2 : Int32).toInt = (-2 : Int))).mpr q)
          refine lv_iload hx hb dL_law_1303 (lv_at hl 0 rfl) ?_
          refine lv_bipush (v := (-4)) hx hb dL_law_1305 (by decide) ?_
          refine lv_icmp_ne (tgt := 1324) hx hb dL_law_1307 (by decide) (fun c12 => ?_) (fun c12 => ?_)
          · have c12 : ¬ (r8.toInt = (-4 : Int)) := fun q => c12 ((i_eq (rfl : r8.toInt = r8.toInt) (by decide : (-4 : Int32).toInt = (-4 : Int))).mpr q)
            exfalso; (rcases hmn_ with ⟨_, z_⟩ | ⟨_, z_⟩) <;> omega
          · have c12 : r8.toInt = (-4 : Int) := (i_eq (rfl : r8.toInt = r8.toInt) (by decide : (-4 : Int32).toInt = (-4 : Int))).mp c12
            refine lv_iload hx hb dL_law_1310 (lv_at hl 1 rfl) ?_
            refine lv_iload hx hb dL_law_1312 (lv_at hl 2 rfl) ?_
            refine lv_ishr hx hb dL_law_1314 ?_
            refine lv_topi (fun y13 ey13 => ?_)
            refine lv_iconst (v := 1) hx hb dL_law_1315 (by decide) ?_
            refine lv_iand hx hb dL_law_1316 ?_
            refine lv_topi (fun y14 ey14 => ?_)
            have ty14 : y14.toInt = (((bitF (mBits (mStrictF (wU 1) (sM st) f) (pA (sM st) f)) a9) : Nat) : Int) := shr_bit tr7 (mB3_le (u := 0) _ _ (by omega)) ha9_ (by omega) ey13 ey14
            have hbly14_ := bitF_lt (mBits (mStrictF (wU 1) (sM st) f) (pA (sM st) f)) a9
            refine lv_if_ne (tgt := 1324) hx hb dL_law_1317 (by decide) (fun c15 => ?_) (fun c15 => ?_)
            · have c15 : ¬ ((((bitF (mBits (mStrictF (wU 1) (sM st) f) (pA (sM st) f)) a9) : Nat) : Int) = (0 : Int)) := fun q => c15 ((i_eq ty14 (rfl : (0 : Int32).toInt = 0)).mpr q)
              exfalso; (rcases hmn_ with ⟨_, z_⟩ | ⟨z_, _⟩); omega; (have z2_ : ¬ bitF (mBits (mStrictF (wU 1) (sM st) f) (pA (sM st) f)) a9 = 1 := fun q_ => z_ ((bitF_in ha9).mp q_)); omega
            · have c15 : (((bitF (mBits (mStrictF (wU 1) (sM st) f) (pA (sM st) f)) a9) : Nat) : Int) = (0 : Int) := (i_eq ty14 (rfl : (0 : Int32).toInt = 0)).mp c15
              refine lv_iconst (v := 1) hx hb dL_law_1320 (by decide) ?_
              refine lv_goto (tgt := 1325) hx hb dL_law_1321 (by decide) ?_
              refine lv_istore (lv' := [(7, .int 1), (13, .int r8), (12, .int r7), (11, .int r6), (10, .int r3), (9, .int r2), (0, .ref b), (1, .ref (g.2.2.1 0)), (2, .ref (g.2.2.1 143)), (3, .ref (g.2.2.1 144)), (4, .int x4), (5, .int x5), (6, .int x6)]) hx hb dL_law_1325 hl (by decide) rfl (fun ls hl => ?_)
              exact K st f r2 r3 _ _ _ _ I (lv_sub hl [6, 7, 8, 9, 10, 11, 12, 0, 5, 4] rfl) rfl rfl rfl hfl hf_ tr3
        · have c11 : r8.toInt = (-2 : Int) := (i_eq (rfl : r8.toInt = r8.toInt) (by decide : (-2 : Int32).toInt = (-2 : Int))).mp c11
          refine lv_iload hx hb dL_law_1289 (lv_at hl 1 rfl) ?_
          refine lv_iload hx hb dL_law_1291 (lv_at hl 2 rfl) ?_
          refine lv_ishr hx hb dL_law_1293 ?_
          refine lv_topi (fun y16 ey16 => ?_)
          refine lv_iconst (v := 1) hx hb dL_law_1294 (by decide) ?_
          refine lv_iand hx hb dL_law_1295 ?_
          refine lv_topi (fun y17 ey17 => ?_)
          have ty17 : y17.toInt = (((bitF (mBits (mStrictF (wU 1) (sM st) f) (pA (sM st) f)) a9) : Nat) : Int) := shr_bit tr7 (mB3_le (u := 0) _ _ (by omega)) ha9_ (by omega) ey16 ey17
          have hbly17_ := bitF_lt (mBits (mStrictF (wU 1) (sM st) f) (pA (sM st) f)) a9
          refine lv_iconst (v := 1) hx hb dL_law_1296 (by decide) ?_
          refine lv_icmp_ne (tgt := 1324) hx hb dL_law_1297 (by decide) (fun c18 => ?_) (fun c18 => ?_)
          · have c18 : ¬ ((((bitF (mBits (mStrictF (wU 1) (sM st) f) (pA (sM st) f)) a9) : Nat) : Int) = ((1 : Nat) : Int)) := fun q => c18 ((i_eq ty17 (by decide : (1 : Int32).toInt = ((1 : Nat) : Int))).mpr q)
            exfalso; (rcases hmn_ with ⟨z_, _⟩ | ⟨_, z_⟩); (have z2_ := (bitF_in (S := mStrictF (wU 1) (sM st) f) ha9).mpr z_); omega; omega
          · have c18 : (((bitF (mBits (mStrictF (wU 1) (sM st) f) (pA (sM st) f)) a9) : Nat) : Int) = ((1 : Nat) : Int) := (i_eq ty17 (by decide : (1 : Int32).toInt = ((1 : Nat) : Int))).mp c18
            refine lv_goto (tgt := 1320) hx hb dL_law_1300 (by decide) ?_
            refine lv_iconst (v := 1) hx hb dL_law_1320 (by decide) ?_
            refine lv_goto (tgt := 1325) hx hb dL_law_1321 (by decide) ?_
            refine lv_istore (lv' := [(7, .int 1), (13, .int r8), (12, .int r7), (11, .int r6), (10, .int r3), (9, .int r2), (0, .ref b), (1, .ref (g.2.2.1 0)), (2, .ref (g.2.2.1 143)), (3, .ref (g.2.2.1 144)), (4, .int x4), (5, .int x5), (6, .int x6)]) hx hb dL_law_1325 hl (by decide) rfl (fun ls hl => ?_)
            exact K st f r2 r3 _ _ _ _ I (lv_sub hl [6, 7, 8, 9, 10, 11, 12, 0, 5, 4] rfl) rfl rfl rfl hfl hf_ tr3
    · have c9 : ¬ (r8.toInt < (0 : Int)) := fun q => c9 ((i_lt (rfl : r8.toInt = r8.toInt) (rfl : (0 : Int32).toInt = 0)).mpr q)
      obtain ⟨hns_, i, k, hi_, hk_, hc_, hr9_⟩ := mk_pos hmk_ (by omega)
      have hml_ := mCode_le hk_
      have e1_ : (200 * i + mCode k) / 200 = i := by omega
      have e2_ : (200 * i + mCode k) % 200 = mCode k := by omega
      have hb0_ : bitF (mBits (mStrictF (wU 1) (sM st) f) (pA (sM st) f)) a9 ≠ 1 := fun q_ => hns_ ((bitF_in ha9).mp q_)
      refine lv_aload_n hx hb dL_law_1137 rfl (lv_at hl 6 rfl) ?_
      refine lv_iload hx hb dL_law_1138 (lv_at hl 4 rfl) ?_
      refine lv_iload hx hb dL_law_1140 (lv_at hl 0 rfl) ?_
      refine lv_sipush (v := 200) hx hb dL_law_1142 (by decide) ?_
      refine lv_idiv hx hb dL_law_1145 (fun q => absurd ((i_eq (by decide : (200 : Int32).toInt = ((200 : Nat) : Int)) (by decide : (0 : Int32).toInt = (0 : Int))).mp q) (by omega)) ?_
      refine lv_topi (fun y19 ey19 => ?_)
      have ty19 : y19.toInt = ((((200 * i + mCode k) / 200) : Nat) : Int) := i_divN ey19 hr9_ (by decide : (200 : Int32).toInt = ((200 : Nat) : Int)) (by omega)
      refine lk_letter C I hl.1 (Nat.le_of_ble_eq_true rfl) dL_law_1146 (fun r20 H locs I A20 => ?_)
      have tr20 : r20.toInt = ((mCode (pB (sM st) f i) : Nat) : Int) := A20.at hf_ (ty19.trans (by rw [e1_])) hfl hi_
      refine lv_istore (lv' := [(14, .int r20), (13, .int r8), (12, .int r7), (11, .int r6), (10, .int r3), (9, .int r2), (0, .ref b), (1, .ref (g.2.2.1 0)), (2, .ref (g.2.2.1 143)), (3, .ref (g.2.2.1 144)), (4, .int x4), (5, .int x5), (6, .int x6), (7, .int 1)]) hx hb dL_law_1149 hl (by decide) rfl (fun ls hl => ?_)
      refine lv_iload hx hb dL_law_1151 (lv_at hl 13 rfl) ?_
      refine lv_if_eq (tgt := 1271) hx hb dL_law_1153 (by decide) (fun c21 => ?_) (fun c21 => ?_)
      · have c21 : ((1 : Nat) : Int) = (0 : Int) := (i_eq (by decide : (1 : Int32).toInt = ((1 : Nat) : Int)) (rfl : (0 : Int32).toInt = 0)).mp c21
        exfalso; omega
      · have c21 : ¬ (((1 : Nat) : Int) = (0 : Int)) := fun q => c21 ((i_eq (by decide : (1 : Int32).toInt = ((1 : Nat) : Int)) (rfl : (0 : Int32).toInt = 0)).mpr q)
        refine lv_iload hx hb dL_law_1156 (lv_at hl 2 rfl) ?_
        refine lv_iload hx hb dL_law_1158 (lv_at hl 3 rfl) ?_
        refine lv_ishr hx hb dL_law_1160 ?_
        refine lv_topi (fun y22 ey22 => ?_)
        refine lv_iconst (v := 1) hx hb dL_law_1161 (by decide) ?_
        refine lv_iand hx hb dL_law_1162 ?_
        refine lv_topi (fun y23 ey23 => ?_)
        have ty23 : y23.toInt = (((bitF (mBits (mStrictF (wU 1) (sM st) f) (pA (sM st) f)) a9) : Nat) : Int) := shr_bit tr7 (mB3_le (u := 0) _ _ (by omega)) ha9_ (by omega) ey22 ey23
        have hbly23_ := bitF_lt (mBits (mStrictF (wU 1) (sM st) f) (pA (sM st) f)) a9
        refine lv_if_ne (tgt := 1271) hx hb dL_law_1163 (by decide) (fun c24 => ?_) (fun c24 => ?_)
        · have c24 : ¬ ((((bitF (mBits (mStrictF (wU 1) (sM st) f) (pA (sM st) f)) a9) : Nat) : Int) = (0 : Int)) := fun q => c24 ((i_eq ty23 (rfl : (0 : Int32).toInt = 0)).mpr q)
          exfalso; omega
        · have c24 : (((bitF (mBits (mStrictF (wU 1) (sM st) f) (pA (sM st) f)) a9) : Nat) : Int) = (0 : Int) := (i_eq ty23 (rfl : (0 : Int32).toInt = 0)).mp c24
          refine lv_aload_n hx hb dL_law_1166 rfl (lv_at hl 7 rfl) ?_
          refine lv_iload hx hb dL_law_1167 (lv_at hl 5 rfl) ?_
          refine lv_iload hx hb dL_law_1169 (lv_at hl 1 rfl) ?_
          refine lv_sipush (v := 200) hx hb dL_law_1171 (by decide) ?_
          refine lv_idiv hx hb dL_law_1174 (fun q => absurd ((i_eq (by decide : (200 : Int32).toInt = ((200 : Nat) : Int)) (by decide : (0 : Int32).toInt = (0 : Int))).mp q) (by omega)) ?_
          refine lv_topi (fun y25 ey25 => ?_)
          have ty25 : y25.toInt = ((((200 * i + mCode k) / 200) : Nat) : Int) := i_divN ey25 hr9_ (by decide : (200 : Int32).toInt = ((200 : Nat) : Int)) (by omega)
          refine lv_iload hx hb dL_law_1175 (lv_at hl 1 rfl) ?_
          refine lv_sipush (v := 200) hx hb dL_law_1177 (by decide) ?_
          refine lv_irem hx hb dL_law_1180 (fun q => absurd ((i_eq (by decide : (200 : Int32).toInt = ((200 : Nat) : Int)) (by decide : (0 : Int32).toInt = (0 : Int))).mp q) (by omega)) ?_
          refine lv_topi (fun y26 ey26 => ?_)
          have ty26 : y26.toInt = ((((200 * i + mCode k) % 200) : Nat) : Int) := i_remN ey26 hr9_ (by decide : (200 : Int32).toInt = ((200 : Nat) : Int)) (by omega)
          refine lk_put C I hl.1 (Nat.le_of_ble_eq_true rfl) dL_law_1181 (fun r27 h H locs st27 I A27 => ?_)
          obtain ⟨tr27, es2_⟩ := put_at A27 hf_ (ty25.trans (by rw [e1_])) (ty26.trans (by rw [e2_])) hfl hi_ hk_ hc_.2.1 hc_.1
          have hM2_ : sM st27 = mSet (sM st) f i k := by rw [es2_]; exact (nact_M _ _).1
          have hf2_ : f < pN (sM st27) := by rw [hM2_]; exact hfl
          have ha2_ : a9 < pA (sM st27) f := by rw [hM2_]; exact ha9
          have hst2_ : mStrictF 2 (sM st27) f a9 := by rw [hM2_]; exact hc_.2.2
          have hb1_ : bitF (mBits (mStrictF (wU 1) (sM st27) f) (pA (sM st27) f)) a9 = 1 := (bitF_in ha2_).mpr hst2_
          have hA3_ : pA (sM st27) f ≤ 3 := by rw [hM2_]; exact (hP.2.2 f hfl).1
          refine lv_iload hx hb dL_law_1184 (lv_at hl 0 rfl) ?_
          refine lv_icmp_ne (tgt := 1271) hx hb dL_law_1186 (by decide) (fun c28 => ?_) (fun c28 => ?_)
          · have c28 : ¬ ((((mCode (pB (sM st) f i)) : Nat) : Int) = (((mCode (pB (sM st) f i)) : Nat) : Int)) := fun q => c28 ((i_eq tr27 tr20).mpr q)
            exfalso; omega
          · have c28 : (((mCode (pB (sM st) f i)) : Nat) : Int) = (((mCode (pB (sM st) f i)) : Nat) : Int) := (i_eq tr27 tr20).mp c28
            refine lv_aload_n hx hb dL_law_1189 rfl (lv_at hl 7 rfl) ?_
            refine lv_iload hx hb dL_law_1190 (lv_at hl 5 rfl) ?_
            refine lv_iconst (v := 1) hx hb dL_law_1192 (by decide) ?_
            refine lk_strict C I hl.1 (Nat.le_of_ble_eq_true rfl) dL_law_1193 (fun r29 h H locs I A29 => ?_)
            have tr29 : r29.toInt = (((mBits (mStrictF (wU 1) (sM st27) f) (pA (sM st27) f)) : Nat) : Int) := strict_at (w := 1) A29 hf2_ hf_ (by decide) (by decide)
            refine lv_iload hx hb dL_law_1196 (lv_at hl 3 rfl) ?_
            refine lv_ishr hx hb dL_law_1198 ?_
            refine lv_topi (fun y30 ey30 => ?_)
            refine lv_iconst (v := 1) hx hb dL_law_1199 (by decide) ?_
            refine lv_iand hx hb dL_law_1200 ?_
            refine lv_topi (fun y31 ey31 => ?_)
            have ty31 : y31.toInt = (((bitF (mBits (mStrictF (wU 1) (sM st27) f) (pA (sM st27) f)) a9) : Nat) : Int) := shr_bit tr29 (mB3_le (u := 0) _ _ (by omega)) ha9_ (by omega) ey30 ey31
            have hbly31_ := bitF_lt (mBits (mStrictF (wU 1) (sM st27) f) (pA (sM st27) f)) a9
            refine lv_iconst (v := 1) hx hb dL_law_1201 (by decide) ?_
            refine lv_icmp_ne (tgt := 1271) hx hb dL_law_1202 (by decide) (fun c32 => ?_) (fun c32 => ?_)
            · have c32 : ¬ ((((bitF (mBits (mStrictF (wU 1) (sM st27) f) (pA (sM st27) f)) a9) : Nat) : Int) = ((1 : Nat) : Int)) := fun q => c32 ((i_eq ty31 (by decide : (1 : Int32).toInt = ((1 : Nat) : Int))).mpr q)
              exfalso; omega
            · have c32 : (((bitF (mBits (mStrictF (wU 1) (sM st27) f) (pA (sM st27) f)) a9) : Nat) : Int) = ((1 : Nat) : Int) := (i_eq ty31 (by decide : (1 : Int32).toInt = ((1 : Nat) : Int))).mp c32
              refine lv_aload_n hx hb dL_law_1205 rfl (lv_at hl 7 rfl) ?_
              refine lv_iload hx hb dL_law_1206 (lv_at hl 5 rfl) ?_
              refine lv_iload hx hb dL_law_1208 (lv_at hl 3 rfl) ?_
              refine lk_makes C I hl.1 (Nat.le_of_ble_eq_true rfl) dL_law_1210 (fun r33 h H locs I A33 => ?_)
              have tr33 : r33.toInt = -2 := mk_is (makes_at A33 hf2_ ha2_ hf_ ha9_) hst2_
              refine lv_bipush (v := (-2)) hx hb dL_law_1213 (by decide) ?_
              refine lv_icmp_ne (tgt := 1271) hx hb dL_law_1215 (by decide) (fun c34 => ?_) (fun c34 => ?_)
              · have c34 : ¬ ((-2 : Int) = (-2 : Int)) := fun q => c34 ((i_eq tr33 (by decide : (-2 : Int32).toInt = (-2 : Int))).mpr q)
                exfalso; omega
              · have c34 : (-2 : Int) = (-2 : Int) := (i_eq tr33 (by decide : (-2 : Int32).toInt = (-2 : Int))).mp c34
                refine lv_aload_n hx hb dL_law_1218 rfl (lv_at hl 7 rfl) ?_
                refine lv_iload hx hb dL_law_1219 (lv_at hl 5 rfl) ?_
                refine lv_iload hx hb dL_law_1221 (lv_at hl 1 rfl) ?_
                refine lv_sipush (v := 200) hx hb dL_law_1223 (by decide) ?_
                refine lv_idiv hx hb dL_law_1226 (fun q => absurd ((i_eq (by decide : (200 : Int32).toInt = ((200 : Nat) : Int)) (by decide : (0 : Int32).toInt = (0 : Int))).mp q) (by omega)) ?_
                refine lv_topi (fun y35 ey35 => ?_)
                have ty35 : y35.toInt = ((((200 * i + mCode k) / 200) : Nat) : Int) := i_divN ey35 hr9_ (by decide : (200 : Int32).toInt = ((200 : Nat) : Int)) (by omega)
                refine lv_iload hx hb dL_law_1227 (lv_at hl 0 rfl) ?_
                refine lk_put C I hl.1 (Nat.le_of_ble_eq_true rfl) dL_law_1229 (fun r36 h H locs st36 I A36 => ?_)
                obtain ⟨tr36, es3_⟩ := put_at A36 hf_ (ty35.trans (by rw [e1_])) tr20 hf2_ (by rw [hM2_]; exact hi_) (pB_lt hP hfl hi_) (by rw [hM2_]; exact fit_back hP hfl hi_ hc_.2.1) (by rw [hM2_, set_at]; exact fun q_ => hc_.1 q_.symm)
                have hM3_ : sM st36 = (sM st) := by rw [es3_, (nact_M _ _).1, hM2_]; exact mSet_back
                rw [hM2_, set_at] at tr36
                have hf3_ : f < pN (sM st36) := by rw [hM3_]; exact hfl
                have hB3_ : (mBits (mStrictF (wU 1) (sM st36) f) (pA (sM st36) f)) = (mBits (mStrictF (wU 1) (sM st) f) (pA (sM st) f)) := by rw [hM3_]
                refine lv_iload hx hb dL_law_1232 (lv_at hl 1 rfl) ?_
                refine lv_sipush (v := 200) hx hb dL_law_1234 (by decide) ?_
                refine lv_irem hx hb dL_law_1237 (fun q => absurd ((i_eq (by decide : (200 : Int32).toInt = ((200 : Nat) : Int)) (by decide : (0 : Int32).toInt = (0 : Int))).mp q) (by omega)) ?_
                refine lv_topi (fun y37 ey37 => ?_)
                have ty37 : y37.toInt = ((((200 * i + mCode k) % 200) : Nat) : Int) := i_remN ey37 hr9_ (by decide : (200 : Int32).toInt = ((200 : Nat) : Int)) (by omega)
                refine lv_icmp_ne (tgt := 1271) hx hb dL_law_1238 (by decide) (fun c38 => ?_) (fun c38 => ?_)
                · have c38 : ¬ ((((mCode k) : Nat) : Int) = ((((200 * i + mCode k) % 200) : Nat) : Int)) := fun q => c38 ((i_eq tr36 ty37).mpr q)
                  exfalso; omega
                · have c38 : (((mCode k) : Nat) : Int) = ((((200 * i + mCode k) % 200) : Nat) : Int) := (i_eq tr36 ty37).mp c38
                  refine lv_aload_n hx hb dL_law_1241 rfl (lv_at hl 7 rfl) ?_
                  refine lv_iload hx hb dL_law_1242 (lv_at hl 5 rfl) ?_
                  refine lv_iconst (v := 1) hx hb dL_law_1244 (by decide) ?_
                  refine lk_strict C I hl.1 (Nat.le_of_ble_eq_true rfl) dL_law_1245 (fun r39 h H locs I A39 => ?_)
                  have tr39 : r39.toInt = (((mBits (mStrictF (wU 1) (sM st36) f) (pA (sM st36) f)) : Nat) : Int) := strict_at (w := 1) A39 hf3_ hf_ (by decide) (by decide)
                  refine lv_iload hx hb dL_law_1248 (lv_at hl 2 rfl) ?_
                  refine lv_icmp_ne (tgt := 1271) hx hb dL_law_1250 (by decide) (fun c40 => ?_) (fun c40 => ?_)
                  · have c40 : ¬ ((((mBits (mStrictF (wU 1) (sM st36) f) (pA (sM st36) f)) : Nat) : Int) = (((mBits (mStrictF (wU 1) (sM st) f) (pA (sM st) f)) : Nat) : Int)) := fun q => c40 ((i_eq tr39 tr7).mpr q)
                    exfalso; omega
                  · have c40 : (((mBits (mStrictF (wU 1) (sM st36) f) (pA (sM st36) f)) : Nat) : Int) = (((mBits (mStrictF (wU 1) (sM st) f) (pA (sM st) f)) : Nat) : Int) := (i_eq tr39 tr7).mp c40
                    refine lv_aload_n hx hb dL_law_1253 rfl (lv_at hl 7 rfl) ?_
                    refine lk_undo C I hl.1 (Nat.le_of_ble_eq_true rfl) dL_law_1254 (fun r41 h H locs st41 I A41 => ?_)
                    have hu1_ := (undo_n A41 es3_).1
                    refine lv_if_lt (tgt := 1271) hx hb dL_law_1257 (by decide) (fun c42 => ?_) (fun c42 => ?_)
                    · have c42 : r41.toInt < (0 : Int) := (i_lt (rfl : r41.toInt = r41.toInt) (rfl : (0 : Int32).toInt = 0)).mp c42
                      exfalso; omega
                    · have c42 : ¬ (r41.toInt < (0 : Int)) := fun q => c42 ((i_lt (rfl : r41.toInt = r41.toInt) (rfl : (0 : Int32).toInt = 0)).mpr q)
                      refine lv_aload_n hx hb dL_law_1260 rfl (lv_at hl 7 rfl) ?_
                      refine lk_undo C I hl.1 (Nat.le_of_ble_eq_true rfl) dL_law_1261 (fun r43 h H locs st43 I A43 => ?_)
                      obtain ⟨_, hu2_, hm4_, hv4_, hw4_⟩ := undo_2 es2_ es3_ A41 A43
                      refine lv_if_lt (tgt := 1271) hx hb dL_law_1264 (by decide) (fun c44 => ?_) (fun c44 => ?_)
                      · have c44 : r43.toInt < (0 : Int) := (i_lt (rfl : r43.toInt = r43.toInt) (rfl : (0 : Int32).toInt = 0)).mp c44
                        exfalso; omega
                      · have c44 : ¬ (r43.toInt < (0 : Int)) := fun q => c44 ((i_lt (rfl : r43.toInt = r43.toInt) (rfl : (0 : Int32).toInt = 0)).mpr q)
                        refine lv_iconst (v := 1) hx hb dL_law_1267 (by decide) ?_
                        refine lv_goto (tgt := 1272) hx hb dL_law_1268 (by decide) ?_
                        refine lv_istore (lv' := [(7, .int 1), (14, .int r20), (13, .int r8), (12, .int r7), (11, .int r6), (10, .int r3), (9, .int r2), (0, .ref b), (1, .ref (g.2.2.1 0)), (2, .ref (g.2.2.1 143)), (3, .ref (g.2.2.1 144)), (4, .int x4), (5, .int x5), (6, .int x6)]) hx hb dL_law_1272 hl (by decide) rfl (fun ls hl => ?_)
                        refine lv_goto (tgt := 1327) hx hb dL_law_1274 (by decide) ?_
                        exact K st43 f r2 r3 _ _ _ _ I (lv_sub hl [7, 8, 9, 10, 11, 12, 13, 0, 6, 5] rfl) hm4_ hv4_ hw4_ hfl hf_ tr3

set_option maxHeartbeats 8000000 in
set_option maxRecDepth 100000 in
theorem seg_en (C : LwC p s m c args b L xs cells slots) (I : LI g h s st gd gb H locs) {x4 x5 x6 x9 x10 : Int32} {f : Nat} (hx6 : x6.toInt = ((pN (sM st) : Nat) : Int)) (hf : f < pN (sM st)) (hx9 : x9.toInt = ((f : Nat) : Int)) (hx10 : x10.toInt = ((pA (sM st) f : Nat) : Int)) (AD : AlD (sM st) gd) (AB : AlB (sM st) gb) (hv : sV st = 1) (hvs : sVs st 0 = sM st) (hl : lv_has ls 20 [(0, .ref b), (1, .ref (g.2.2.1 0)), (2, .ref (g.2.2.1 143)), (3, .ref (g.2.2.1 144)), (4, .int x4), (5, .int x5), (6, .int x6), (7, .int 1), (9, .int x9), (10, .int x10)]) (K : ∀ (st2 : ST) (h : Nat → va_E) (H : Heap) (locs : List Loc) (ls : Array Slot), LI g h s st2 gd gb H locs → lv_has ls 20 [(0, .ref b), (1, .ref (g.2.2.1 0)), (2, .ref (g.2.2.1 143)), (3, .ref (g.2.2.1 144)), (4, .int x4), (7, .int 1)] → (sM st2 = sM st) → (sV st2 = 0) → W p l e room_1 s m args below meth c H locs cells slots Q (F0 m 1533 ls [])) : W p l e room_1 s m args below meth c H locs cells slots Q (F0 m 1327 ls []) := by
  obtain ⟨hx, hb, hml, hown, hts, hX, hcs⟩ := id C
  have hP := I.hP
  have hn4 := hP.2.1
  obtain ⟨hA3_, hk3_, hl1_, -⟩ := hP.2.2 f hf
  have hm0_ : mIs 0 (pA (sM st) f) 0 0 0 := (mIs_0 (by decide) (by decide) (by decide)).mpr ⟨Or.inr rfl, Or.inr rfl, Or.inr rfl⟩
  refine lv_iload hx hb dL_law_1327 (lv_at hl 7 rfl) ?_
  refine lv_if_eq (tgt := 1357) hx hb dL_law_1329 (by decide) (fun c1 => ?_) (fun c1 => ?_)
  · have c1 : ((1 : Nat) : Int) = (0 : Int) := (i_eq (by decide : (1 : Int32).toInt = ((1 : Nat) : Int)) (rfl : (0 : Int32).toInt = 0)).mp c1
    exfalso; omega
  · have c1 : ¬ (((1 : Nat) : Int) = (0 : Int)) := fun q => c1 ((i_eq (by decide : (1 : Int32).toInt = ((1 : Nat) : Int)) (rfl : (0 : Int32).toInt = 0)).mpr q)
    refine lv_aload_n hx hb dL_law_1332 rfl (lv_at hl 1 rfl) ?_
    refine lv_aload_n hx hb dL_law_1333 rfl (lv_at hl 2 rfl) ?_
    refine lv_aload_n hx hb dL_law_1334 rfl (lv_at hl 3 rfl) ?_
    refine lk_alike C I hl.1 AD AB (Nat.le_of_ble_eq_true rfl) dL_law_1335 (fun H locs I => ?_)
    refine lv_if_eq (tgt := 1357) hx hb dL_law_1338 (by decide) (fun c3 => ?_) (fun c3 => ?_)
    · have c3 : ((1 : Nat) : Int) = (0 : Int) := (i_eq (by decide : (1 : Int32).toInt = ((1 : Nat) : Int)) (rfl : (0 : Int32).toInt = 0)).mp c3
      exfalso; omega
    · have c3 : ¬ (((1 : Nat) : Int) = (0 : Int)) := fun q => c3 ((i_eq (by decide : (1 : Int32).toInt = ((1 : Nat) : Int)) (rfl : (0 : Int32).toInt = 0)).mpr q)
      refine lv_aload_n hx hb dL_law_1341 rfl (lv_at hl 1 rfl) ?_
      refine lv_iload hx hb dL_law_1342 (lv_at hl 8 rfl) ?_
      refine lv_iload hx hb dL_law_1344 (lv_at hl 9 rfl) ?_
      refine lk_makes C I hl.1 (Nat.le_of_ble_eq_true rfl) dL_law_1346 (fun r4 h H locs I A4 => ?_)
      have tr4 : r4.toInt = -1 := makes_no A4 hx9 hx10
      refine lv_iconst (v := (-1)) hx hb dL_law_1349 (by decide) ?_
      refine lv_icmp_ne (tgt := 1357) hx hb dL_law_1350 (by decide) (fun c5 => ?_) (fun c5 => ?_)
      · have c5 : ¬ ((-1 : Int) = (-1 : Int)) := fun q => c5 ((i_eq tr4 (by decide : (-1 : Int32).toInt = (-1 : Int))).mpr q)
        exfalso; omega
      · have c5 : (-1 : Int) = (-1 : Int) := (i_eq tr4 (by decide : (-1 : Int32).toInt = (-1 : Int))).mp c5
        refine lv_iconst (v := 1) hx hb dL_law_1353 (by decide) ?_
        refine lv_goto (tgt := 1358) hx hb dL_law_1354 (by decide) ?_
        refine lv_istore (lv' := [(7, .int 1), (0, .ref b), (1, .ref (g.2.2.1 0)), (2, .ref (g.2.2.1 143)), (3, .ref (g.2.2.1 144)), (4, .int x4), (5, .int x5), (6, .int x6), (9, .int x9), (10, .int x10)]) hx hb dL_law_1358 hl (by decide) rfl (fun ls hl => ?_)
        refine lv_aload_n hx hb dL_law_1360 rfl (lv_at hl 2 rfl) ?_
        refine lv_iload hx hb dL_law_1361 (lv_at hl 8 rfl) ?_
        refine lv_iconst (v := 0) hx hb dL_law_1363 (by decide) ?_
        refine lk_function C I hl.1 (Nat.le_of_ble_eq_true rfl) dL_law_1364 (fun r6 H locs I A6 => ?_)
        have tr6 : r6.toInt = ((pK (sM st) f : Nat) : Int) := (A6.at hx9 hf).1 (by decide)
        refine lv_istore (lv' := [(11, .int r6), (7, .int 1), (0, .ref b), (1, .ref (g.2.2.1 0)), (2, .ref (g.2.2.1 143)), (3, .ref (g.2.2.1 144)), (4, .int x4), (5, .int x5), (6, .int x6), (9, .int x9), (10, .int x10)]) hx hb dL_law_1367 hl (by decide) rfl (fun ls hl => ?_)
        refine lv_iload hx hb dL_law_1369 (lv_at hl 0 rfl) ?_
        refine lv_iconst (v := 1) hx hb dL_law_1371 (by decide) ?_
        refine lv_iadd hx hb dL_law_1372 ?_
        refine lv_topi (fun y7 ey7 => ?_)
        have ty7 : y7.toInt = ((((pK (sM st) f) + 1) : Nat) : Int) := i_addN ey7 tr6 (by decide : (1 : Int32).toInt = ((1 : Nat) : Int)) (by omega)
        refine lv_iload hx hb dL_law_1373 (lv_at hl 7 rfl) ?_
        refine lv_bipush (v := 12) hx hb dL_law_1375 (by decide) ?_
        refine lv_ishr hx hb dL_law_1377 ?_
        refine lv_topi (fun y8 ey8 => ?_)
        subst ey8
        refine lv_iconst (v := 3) hx hb dL_law_1378 (by decide) ?_
        refine lk_low C I hl.1 (by decide : (3 : Int32).toInt = ((3 : Nat) : Int)) (by omega) (Nat.le_of_ble_eq_true rfl) dL_law_1379 (fun r9 H locs I tr9 => ?_)
        have hlt_r9 := lowF_lt (v := (x5 >>> ((12 : Int32) &&& 31))) (n := 3) (by omega)
        refine lv_iadd hx hb dL_law_1382 ?_
        refine lv_topi (fun y10 ey10 => ?_)
        have ty10 : y10.toInt = (((((pK (sM st) f) + 1) + (lowF ((x5 >>> ((12 : Int32) &&& 31))) 3)) : Nat) : Int) := i_addN ey10 ty7 tr9 (by omega)
        refine lv_iconst (v := 4) hx hb dL_law_1383 (by decide) ?_
        refine lv_irem hx hb dL_law_1384 (fun q => absurd ((i_eq (by decide : (4 : Int32).toInt = ((4 : Nat) : Int)) (by decide : (0 : Int32).toInt = (0 : Int))).mp q) (by omega)) ?_
        refine lv_topi (fun y11 ey11 => ?_)
        have ty11 : y11.toInt = ((((((pK (sM st) f) + 1) + (lowF ((x5 >>> ((12 : Int32) &&& 31))) 3)) % 4) : Nat) : Int) := i_remN ey11 ty10 (by decide : (4 : Int32).toInt = ((4 : Nat) : Int)) (by omega)
        refine lv_istore (lv' := [(12, .int y11), (11, .int r6), (7, .int 1), (0, .ref b), (1, .ref (g.2.2.1 0)), (2, .ref (g.2.2.1 143)), (3, .ref (g.2.2.1 144)), (4, .int x4), (5, .int x5), (6, .int x6), (9, .int x9), (10, .int x10)]) hx hb dL_law_1385 hl (by decide) rfl (fun ls hl => ?_)
        obtain ⟨c9, hc9d⟩ : ∃ f_ : Nat, f_ = ((((pK (sM st) f) + 1) + (lowF ((x5 >>> ((12 : Int32) &&& 31))) 3)) % 4) := ⟨_, rfl⟩
        have hc9_ : y11.toInt = ((c9 : Nat) : Int) := by rw [hc9d]; exact ty11
        have hc3_ : c9 ≤ 3 := by omega
        have hcn_ : pK (sM st) f ≠ c9 := by omega
        refine lv_aload_n hx hb dL_law_1387 rfl (lv_at hl 4 rfl) ?_
        refine lv_iload hx hb dL_law_1388 (lv_at hl 10 rfl) ?_
        refine lv_iconst (v := 0) hx hb dL_law_1390 (by decide) ?_
        refine lv_iconst (v := 0) hx hb dL_law_1391 (by decide) ?_
        refine lv_iconst (v := 0) hx hb dL_law_1392 (by decide) ?_
        refine lk_value C I hl.1 (Nat.le_of_ble_eq_true rfl) dL_law_1393 (fun r12 h H locs I A12 => ?_)
        have tr12 : r12.toInt = (((fT 0 (sM st) f (0 + mB 0 * 0 + mB 0 * mB 0 * 0)) : Nat) : Int) := (tab_at (a := 0) (b := 0) (c := 0) A12 hP hf hx9 rfl rfl rfl).1 hm0_
        refine lv_istore (lv' := [(13, .int r12), (12, .int y11), (11, .int r6), (7, .int 1), (0, .ref b), (1, .ref (g.2.2.1 0)), (2, .ref (g.2.2.1 143)), (3, .ref (g.2.2.1 144)), (4, .int x4), (5, .int x5), (6, .int x6), (9, .int x9), (10, .int x10)]) hx hb dL_law_1396 hl (by decide) rfl (fun ls hl => ?_)
        refine lv_iload hx hb dL_law_1398 (lv_at hl 3 rfl) ?_
        refine lv_if_eq (tgt := 1530) hx hb dL_law_1400 (by decide) (fun c13 => ?_) (fun c13 => ?_)
        · have c13 : ((1 : Nat) : Int) = (0 : Int) := (i_eq (by decide : (1 : Int32).toInt = ((1 : Nat) : Int)) (rfl : (0 : Int32).toInt = 0)).mp c13
          exfalso; omega
        · have c13 : ¬ (((1 : Nat) : Int) = (0 : Int)) := fun q => c13 ((i_eq (by decide : (1 : Int32).toInt = ((1 : Nat) : Int)) (rfl : (0 : Int32).toInt = 0)).mpr q)
          refine lv_aload_n hx hb dL_law_1403 rfl (lv_at hl 5 rfl) ?_
          refine lv_iload hx hb dL_law_1404 (lv_at hl 11 rfl) ?_
          refine lv_iload hx hb dL_law_1406 (lv_at hl 2 rfl) ?_
          refine lk_rename C I hl.1 (Nat.le_of_ble_eq_true rfl) dL_law_1408 (fun r14 h H locs st14 I A14 => ?_)
          obtain ⟨tr14, es_⟩ := ren_is A14 hx9 hf tr6 hk3_
          rw [es_] at I
          refine lv_bipush (v := (-2)) hx hb dL_law_1411 (by decide) ?_
          refine lv_icmp_ne (tgt := 1530) hx hb dL_law_1413 (by decide) (fun c15 => ?_) (fun c15 => ?_)
          · have c15 : ¬ ((-2 : Int) = (-2 : Int)) := fun q => c15 ((i_eq tr14 (by decide : (-2 : Int32).toInt = (-2 : Int))).mpr q)
            exfalso; omega
          · have c15 : (-2 : Int) = (-2 : Int) := (i_eq tr14 (by decide : (-2 : Int32).toInt = (-2 : Int))).mp c15
            refine lv_aload_n hx hb dL_law_1416 rfl (lv_at hl 5 rfl) ?_
            refine lv_iload hx hb dL_law_1417 (lv_at hl 11 rfl) ?_
            refine lv_iload hx hb dL_law_1419 (lv_at hl 1 rfl) ?_
            refine lk_rename C I hl.1 (Nat.le_of_ble_eq_true rfl) dL_law_1421 (fun r16 h H locs st16 I A16 => ?_)
            obtain ⟨tr16, es2_⟩ := ren_at A16 hx9 hf hc9_ (by omega) (by omega)
            have hM2_ : sM st16 = mKind (sM st) f c9 := by rw [es2_]; exact (nact_M _ _).1
            refine lv_iload hx hb dL_law_1424 (lv_at hl 2 rfl) ?_
            refine lv_icmp_ne (tgt := 1530) hx hb dL_law_1426 (by decide) (fun c17 => ?_) (fun c17 => ?_)
            · have c17 : ¬ ((((pK (sM st) f) : Nat) : Int) = (((pK (sM st) f) : Nat) : Int)) := fun q => c17 ((i_eq tr16 tr6).mpr q)
              exfalso; omega
            · have c17 : (((pK (sM st) f) : Nat) : Int) = (((pK (sM st) f) : Nat) : Int) := (i_eq tr16 tr6).mp c17
              refine lv_aload_n hx hb dL_law_1429 rfl (lv_at hl 5 rfl) ?_
              refine lv_iload hx hb dL_law_1430 (lv_at hl 11 rfl) ?_
              refine lv_iconst (v := 0) hx hb dL_law_1432 (by decide) ?_
              refine lk_function C I hl.1 (Nat.le_of_ble_eq_true rfl) dL_law_1433 (fun r18 H locs I A18 => ?_)
              have tr18 : r18.toInt = ((c9 : Nat) : Int) := ((A18.at hx9 (by rw [hM2_]; exact hf)).1 (by decide)).trans (by rw [hM2_, kind_at])
              refine lv_iload hx hb dL_law_1436 (lv_at hl 1 rfl) ?_
              refine lv_icmp_ne (tgt := 1530) hx hb dL_law_1438 (by decide) (fun c19 => ?_) (fun c19 => ?_)
              · have c19 : ¬ (((c9 : Nat) : Int) = ((c9 : Nat) : Int)) := fun q => c19 ((i_eq tr18 hc9_).mpr q)
                exfalso; omega
              · have c19 : ((c9 : Nat) : Int) = ((c9 : Nat) : Int) := (i_eq tr18 hc9_).mp c19
                refine lv_aload_n hx hb dL_law_1441 rfl (lv_at hl 5 rfl) ?_
                refine lk_undo C I hl.1 (Nat.le_of_ble_eq_true rfl) dL_law_1442 (fun r20 h H locs st20 I A20 => ?_)
                obtain ⟨hu1_, hm3_, hv3_, hw3_, -⟩ := undo_n A20 es2_
                refine lv_if_lt (tgt := 1530) hx hb dL_law_1445 (by decide) (fun c21 => ?_) (fun c21 => ?_)
                · have c21 : r20.toInt < (0 : Int) := (i_lt (rfl : r20.toInt = r20.toInt) (rfl : (0 : Int32).toInt = 0)).mp c21
                  exfalso; omega
                · have c21 : ¬ (r20.toInt < (0 : Int)) := fun q => c21 ((i_lt (rfl : r20.toInt = r20.toInt) (rfl : (0 : Int32).toInt = 0)).mpr q)
                  refine lv_aload_n hx hb dL_law_1448 rfl (lv_at hl 5 rfl) ?_
                  refine lv_iload hx hb dL_law_1449 (lv_at hl 11 rfl) ?_
                  refine lv_iconst (v := 0) hx hb dL_law_1451 (by decide) ?_
                  refine lk_function C I hl.1 (Nat.le_of_ble_eq_true rfl) dL_law_1452 (fun r22 H locs I A22 => ?_)
                  have tr22 : r22.toInt = ((pK (sM st) f : Nat) : Int) := ((A22.at hx9 (by rw [hm3_]; exact hf)).1 (by decide)).trans (by rw [hm3_])
                  refine lv_iload hx hb dL_law_1455 (lv_at hl 2 rfl) ?_
                  refine lv_icmp_ne (tgt := 1530) hx hb dL_law_1457 (by decide) (fun c23 => ?_) (fun c23 => ?_)
                  · have c23 : ¬ ((((pK (sM st) f) : Nat) : Int) = (((pK (sM st) f) : Nat) : Int)) := fun q => c23 ((i_eq tr22 tr6).mpr q)
                    exfalso; omega
                  · have c23 : (((pK (sM st) f) : Nat) : Int) = (((pK (sM st) f) : Nat) : Int) := (i_eq tr22 tr6).mp c23
                    refine lv_aload_n hx hb dL_law_1460 rfl (lv_at hl 5 rfl) ?_
                    refine lv_iload hx hb dL_law_1461 (lv_at hl 11 rfl) ?_
                    refine lv_iconst (v := 0) hx hb dL_law_1463 (by decide) ?_
                    refine lv_iconst (v := 0) hx hb dL_law_1464 (by decide) ?_
                    refine lv_iconst (v := 0) hx hb dL_law_1465 (by decide) ?_
                    refine lk_value C I hl.1 (Nat.le_of_ble_eq_true rfl) dL_law_1466 (fun r24 h H locs I A24 => ?_)
                    have tr24 : r24.toInt = (((fT 0 (sM st) f (0 + mB 0 * 0 + mB 0 * mB 0 * 0)) : Nat) : Int) := ((tab_at (a := 0) (b := 0) (c := 0) A24 (by rw [hm3_]; exact hP) (by rw [hm3_]; exact hf) hx9 rfl rfl rfl).1 (by rw [hm3_]; exact hm0_)).trans (by rw [hm3_])
                    refine lv_iload hx hb dL_law_1469 (lv_at hl 0 rfl) ?_
                    refine lv_icmp_ne (tgt := 1530) hx hb dL_law_1471 (by decide) (fun c25 => ?_) (fun c25 => ?_)
                    · have c25 : ¬ ((((fT 0 (sM st) f (0 + mB 0 * 0 + mB 0 * mB 0 * 0)) : Nat) : Int) = (((fT 0 (sM st) f (0 + mB 0 * 0 + mB 0 * mB 0 * 0)) : Nat) : Int)) := fun q => c25 ((i_eq tr24 tr12).mpr q)
                      exfalso; omega
                    · have c25 : (((fT 0 (sM st) f (0 + mB 0 * 0 + mB 0 * mB 0 * 0)) : Nat) : Int) = (((fT 0 (sM st) f (0 + mB 0 * 0 + mB 0 * mB 0 * 0)) : Nat) : Int) := (i_eq tr24 tr12).mp c25
                      refine lv_aload_n hx hb dL_law_1474 rfl (lv_at hl 5 rfl) ?_
                      refine lv_iload hx hb dL_law_1475 (lv_at hl 11 rfl) ?_
                      refine lv_iconst (v := 0) hx hb dL_law_1477 (by decide) ?_
                      refine lv_aload_n hx hb dL_law_1478 rfl (lv_at hl 5 rfl) ?_
                      refine lv_iload hx hb dL_law_1479 (lv_at hl 11 rfl) ?_
                      refine lv_iconst (v := 0) hx hb dL_law_1481 (by decide) ?_
                      refine lk_letter C I hl.1 (Nat.le_of_ble_eq_true rfl) dL_law_1482 (fun r26 H locs I A26 => ?_)
                      have tr26 : r26.toInt = ((mCode (pB (sM st20) f 0) : Nat) : Int) := A26.at (j := 0) hx9 rfl (by rw [hm3_]; exact hf) (by rw [hm3_]; exact hl1_)
                      refine lk_put C I hl.1 (Nat.le_of_ble_eq_true rfl) dL_law_1485 (fun r27 h H locs st27 I A27 => ?_)
                      obtain ⟨tr27, es4_⟩ := put_is (i := 0) A27 (by rw [hm3_]; exact hP) hx9 rfl (by rw [hm3_]; exact hf) (by rw [hm3_]; exact hl1_) tr26
                      rw [es4_] at I
                      refine lv_bipush (v := (-2)) hx hb dL_law_1488 (by decide) ?_
                      refine lv_icmp_ne (tgt := 1530) hx hb dL_law_1490 (by decide) (fun c28 => ?_) (fun c28 => ?_)
                      · have c28 : ¬ ((-2 : Int) = (-2 : Int)) := fun q => c28 ((i_eq tr27 (by decide : (-2 : Int32).toInt = (-2 : Int))).mpr q)
                        exfalso; omega
                      · have c28 : (-2 : Int) = (-2 : Int) := (i_eq tr27 (by decide : (-2 : Int32).toInt = (-2 : Int))).mp c28
                        refine lv_aload_n hx hb dL_law_1493 rfl (lv_at hl 5 rfl) ?_
                        refine lv_aload_n hx hb dL_law_1494 rfl (lv_at hl 6 rfl) ?_
                        refine lv_aload_n hx hb dL_law_1495 rfl (lv_at hl 7 rfl) ?_
                        refine lk_alike C I hl.1 (by rw [hm3_]; exact AD) (by rw [hm3_]; exact AB) (Nat.le_of_ble_eq_true rfl) dL_law_1496 (fun H locs I => ?_)
                        refine lv_if_eq (tgt := 1530) hx hb dL_law_1499 (by decide) (fun c30 => ?_) (fun c30 => ?_)
                        · have c30 : ((1 : Nat) : Int) = (0 : Int) := (i_eq (by decide : (1 : Int32).toInt = ((1 : Nat) : Int)) (rfl : (0 : Int32).toInt = 0)).mp c30
                          exfalso; omega
                        · have c30 : ¬ (((1 : Nat) : Int) = (0 : Int)) := fun q => c30 ((i_eq (by decide : (1 : Int32).toInt = ((1 : Nat) : Int)) (rfl : (0 : Int32).toInt = 0)).mpr q)
                          refine lv_aload_n hx hb dL_law_1502 rfl (lv_at hl 5 rfl) ?_
                          refine lk_back C I hl.1 (Nat.le_of_ble_eq_true rfl) dL_law_1503 (fun r31 h H locs st31 I A31 => ?_)
                          obtain ⟨tr31, hm5_, hv5_, hu5_⟩ := back_at A31 (hv3_.trans hv)
                          rw [hw3_, hvs] at hm5_
                          refine lv_if_ne (tgt := 1530) hx hb dL_law_1506 (by decide) (fun c32 => ?_) (fun c32 => ?_)
                          · have c32 : ¬ (((0 : Nat) : Int) = (0 : Int)) := fun q => c32 ((i_eq tr31 (rfl : (0 : Int32).toInt = 0)).mpr q)
                            exfalso; omega
                          · have c32 : ((0 : Nat) : Int) = (0 : Int) := (i_eq tr31 (rfl : (0 : Int32).toInt = 0)).mp c32
                            refine lv_aload_n hx hb dL_law_1509 rfl (lv_at hl 5 rfl) ?_
                            refine lv_iconst (v := 3) hx hb dL_law_1510 (by decide) ?_
                            refine lk_count C I hl.1 (Nat.le_of_ble_eq_true rfl) dL_law_1511 (fun r33 H locs I A33 => ?_)
                            have tr33 : r33.toInt = ((0 : Nat) : Int) := (A33.c3 (by decide)).trans (by rw [hu5_])
                            refine lv_if_ne (tgt := 1530) hx hb dL_law_1514 (by decide) (fun c34 => ?_) (fun c34 => ?_)
                            · have c34 : ¬ (((0 : Nat) : Int) = (0 : Int)) := fun q => c34 ((i_eq tr33 (rfl : (0 : Int32).toInt = 0)).mpr q)
                              exfalso; omega
                            · have c34 : ((0 : Nat) : Int) = (0 : Int) := (i_eq tr33 (rfl : (0 : Int32).toInt = 0)).mp c34
                              refine lv_aload_n hx hb dL_law_1517 rfl (lv_at hl 5 rfl) ?_
                              refine lv_aload_n hx hb dL_law_1518 rfl (lv_at hl 6 rfl) ?_
                              refine lv_aload_n hx hb dL_law_1519 rfl (lv_at hl 7 rfl) ?_
                              refine lk_alike C I hl.1 (by rw [hm5_]; exact AD) (by rw [hm5_]; exact AB) (Nat.le_of_ble_eq_true rfl) dL_law_1520 (fun H locs I => ?_)
                              refine lv_if_eq (tgt := 1530) hx hb dL_law_1523 (by decide) (fun c36 => ?_) (fun c36 => ?_)
                              · have c36 : ((1 : Nat) : Int) = (0 : Int) := (i_eq (by decide : (1 : Int32).toInt = ((1 : Nat) : Int)) (rfl : (0 : Int32).toInt = 0)).mp c36
                                exfalso; omega
                              · have c36 : ¬ (((1 : Nat) : Int) = (0 : Int)) := fun q => c36 ((i_eq (by decide : (1 : Int32).toInt = ((1 : Nat) : Int)) (rfl : (0 : Int32).toInt = 0)).mpr q)
                                refine lv_iconst (v := 1) hx hb dL_law_1526 (by decide) ?_
                                refine lv_goto (tgt := 1531) hx hb dL_law_1527 (by decide) ?_
                                refine lv_istore (lv' := [(7, .int 1), (13, .int r12), (12, .int y11), (11, .int r6), (0, .ref b), (1, .ref (g.2.2.1 0)), (2, .ref (g.2.2.1 143)), (3, .ref (g.2.2.1 144)), (4, .int x4), (5, .int x5), (6, .int x6), (9, .int x9), (10, .int x10)]) hx hb dL_law_1531 hl (by decide) rfl (fun ls hl => ?_)
                                exact K st31 _ _ _ _ I (lv_sub hl [4, 5, 6, 7, 8, 0] rfl) hm5_ hv5_

set_option maxHeartbeats 8000000 in
set_option maxRecDepth 100000 in
theorem seg_rd (C : LwC p s m c args b L xs cells slots) (I : LI g h s st gd gb H locs) (AD : AlD (sM st) gd) (AB : AlB (sM st) gb) (hv : sV st = 0) (hl : lv_has ls 20 [(0, .ref b), (1, .ref (g.2.2.1 0)), (2, .ref (g.2.2.1 143)), (3, .ref (g.2.2.1 144)), (4, .int 0)]) (K : ∀ (st : ST) (gd : Nat → Int32) (gb : Nat → Int32) (h : Nat → va_E) (H : Heap) (locs : List Loc) (ls : Array Slot), LI g h s st gd gb H locs → lv_has ls 20 [(0, .ref b)] → W p l e room_1 s m args below meth c H locs cells slots Q (F0 m 1570 ls [.int 1])) : W p l e room_1 s m args below meth c H locs cells slots Q (F0 m 33 ls []) := by
  obtain ⟨hx, hb, hml, hown, hts, hX, hcs⟩ := id C
  have hP := I.hP
  have hn4 := hP.2.1
  have cuts : ∀ N_ : Nat, (∀ (rd : Nat) (x4 : Int32) (st : ST) (gd : Nat → Int32) (gb : Nat → Int32) (h : Nat → va_E) (H : Heap) (locs : List Loc) (ls : Array Slot), LI g h s st gd gb H locs → lv_has ls 20 [(0, .ref b), (1, .ref (g.2.2.1 0)), (2, .ref (g.2.2.1 143)), (3, .ref (g.2.2.1 144)), (4, .int x4)] → (rd ≤ 3) → (x4.toInt = ((rd : Nat) : Int)) → (AlD (sM st) gd) → (AlB (sM st) gb) → (sV st = 0) → 4 - rd < N_ → W p l e room_1 s m args below meth c H locs cells slots Q (F0 m 33 ls [])) := by
    intro N_
    induction N_ with
    | zero => exact by intros; omega
    | succ N_ ih =>
      have ih33 := ih
      · intro rd x4 st gd gb h H locs ls I hl hr4 hx4 AD AB hv hN_
        refine lv_iload hx hb dL_law_33 (lv_at hl 4 rfl) ?_
        refine lv_iconst (v := 3) hx hb dL_law_35 (by decide) ?_
        refine lv_icmp_ge (tgt := 1564) hx hb dL_law_36 (by decide) (fun c1 => ?_) (fun c1 => ?_)
        · have c1 : ((3 : Nat) : Int) ≤ ((rd : Nat) : Int) := (i_le (by decide : (3 : Int32).toInt = ((3 : Nat) : Int)) hx4).mp c1
          refine lv_aload_n hx hb dL_law_1564 rfl (lv_at hl 1 rfl) ?_
          refine lv_aload_n hx hb dL_law_1565 rfl (lv_at hl 2 rfl) ?_
          refine lv_aload_n hx hb dL_law_1566 rfl (lv_at hl 3 rfl) ?_
          refine lk_alike C I hl.1 AD AB (Nat.le_of_ble_eq_true rfl) dL_law_1567 (fun H locs I => ?_)
          exact K st gd gb _ _ _ _ I (lv_sub hl [0] rfl) 
        · have c1 : ¬ (((3 : Nat) : Int) ≤ ((rd : Nat) : Int)) := fun q => c1 ((i_le (by decide : (3 : Int32).toInt = ((3 : Nat) : Int)) hx4).mpr q)
          refine lv_aload_n hx hb dL_law_39 rfl (lv_at hl 0 rfl) ?_
          refine lv_bipush (v := 9) hx hb dL_law_40 (by decide) ?_
          refine lv_iload hx hb dL_law_42 (lv_at hl 4 rfl) ?_
          refine lv_iadd hx hb dL_law_44 ?_
          refine lv_topi (fun y3 ey3 => ?_)
          have ty3 : y3.toInt = (((9 + rd) : Nat) : Int) := i_addN ey3 (by decide : (9 : Int32).toInt = ((9 : Nat) : Int)) hx4 (by omega)
          refine lk_cell C I hl.1 ty3 (Nat.le_of_ble_eq_true rfl) dL_law_45 (fun r4 H locs I => ?_)
          refine lv_istore (lv' := [(5, .int r4), (0, .ref b), (1, .ref (g.2.2.1 0)), (2, .ref (g.2.2.1 143)), (3, .ref (g.2.2.1 144)), (4, .int x4)]) hx hb dL_law_48 hl (by decide) rfl (fun ls hl => ?_)
          refine lv_aload_n hx hb dL_law_50 rfl (lv_at hl 2 rfl) ?_
          refine lv_iconst (v := 0) hx hb dL_law_51 (by decide) ?_
          refine lk_count C I hl.1 (Nat.le_of_ble_eq_true rfl) dL_law_52 (fun r5 H locs I A5 => ?_)
          have tr5 : r5.toInt = ((pN (sM st) : Nat) : Int) := A5.c0 (by decide)
          refine lv_istore (lv' := [(6, .int r5), (5, .int r4), (0, .ref b), (1, .ref (g.2.2.1 0)), (2, .ref (g.2.2.1 143)), (3, .ref (g.2.2.1 144)), (4, .int x4)]) hx hb dL_law_55 hl (by decide) rfl (fun ls hl => ?_)
          refine lv_aload_n hx hb dL_law_57 rfl (lv_at hl 3 rfl) ?_
          refine lk_keep C I hl.1 (Nat.le_of_ble_eq_true rfl) dL_law_58 (fun r6 h H locs st6 I A6 => ?_)
          obtain ⟨tr6, hm1_, hv1_, hs1_⟩ := keep_at A6 hv
          refine lv_iconst (v := 1) hx hb dL_law_61 (by decide) ?_
          refine lv_icmp_ne (tgt := 78) hx hb dL_law_62 (by decide) (fun c7 => ?_) (fun c7 => ?_)
          · have c7 : ¬ (((1 : Nat) : Int) = ((1 : Nat) : Int)) := fun q => c7 ((i_eq tr6 (by decide : (1 : Int32).toInt = ((1 : Nat) : Int))).mpr q)
            exfalso; omega
          · have c7 : ((1 : Nat) : Int) = ((1 : Nat) : Int) := (i_eq tr6 (by decide : (1 : Int32).toInt = ((1 : Nat) : Int))).mp c7
            refine lv_aload_n hx hb dL_law_65 rfl (lv_at hl 3 rfl) ?_
            refine lv_aload_n hx hb dL_law_66 rfl (lv_at hl 4 rfl) ?_
            refine lv_aload_n hx hb dL_law_67 rfl (lv_at hl 5 rfl) ?_
            refine lk_alike C I hl.1 (by rw [hm1_]; exact AD) (by rw [hm1_]; exact AB) (Nat.le_of_ble_eq_true rfl) dL_law_68 (fun H locs I => ?_)
            refine lv_if_eq (tgt := 78) hx hb dL_law_71 (by decide) (fun c9 => ?_) (fun c9 => ?_)
            · have c9 : ((1 : Nat) : Int) = (0 : Int) := (i_eq (by decide : (1 : Int32).toInt = ((1 : Nat) : Int)) (rfl : (0 : Int32).toInt = 0)).mp c9
              exfalso; omega
            · have c9 : ¬ (((1 : Nat) : Int) = (0 : Int)) := fun q => c9 ((i_eq (by decide : (1 : Int32).toInt = ((1 : Nat) : Int)) (rfl : (0 : Int32).toInt = 0)).mpr q)
              refine lv_iconst (v := 1) hx hb dL_law_74 (by decide) ?_
              refine lv_goto (tgt := 79) hx hb dL_law_75 (by decide) ?_
              refine lv_istore (lv' := [(7, .int 1), (6, .int r5), (5, .int r4), (0, .ref b), (1, .ref (g.2.2.1 0)), (2, .ref (g.2.2.1 143)), (3, .ref (g.2.2.1 144)), (4, .int x4)]) hx hb dL_law_79 hl (by decide) rfl (fun ls hl => ?_)
              refine lv_iconst (v := 0) hx hb dL_law_81 (by decide) ?_
              refine lv_istore (lv' := [(8, .int 0), (7, .int 1), (6, .int r5), (5, .int r4), (0, .ref b), (1, .ref (g.2.2.1 0)), (2, .ref (g.2.2.1 143)), (3, .ref (g.2.2.1 144)), (4, .int x4)]) hx hb dL_law_82 hl (by decide) rfl (fun ls hl => ?_)
              refine seg_F C I (by rw [hm1_]; exact tr5) (lv_sub hl [4, 5, 6, 7, 8, 3, 2, 1, 0] rfl) (fun x8 h H locs ls I hl hx8 => ?_)
              refine seg_rn C I (by rw [hm1_]; exact tr5) hx8 hl (fun h H locs ls I hl => ?_)
              refine seg_mk C I (by rw [hm1_]; exact tr5) hl (fun st2 f x9 x10 h H locs ls I hl hm2_ hv2_ hs2_ hf_ hx9 hx10 => ?_)
              rw [← hm2_] at hf_ hx10
              refine seg_en C I (by rw [hm2_, hm1_]; exact tr5) hf_ hx9 hx10 (by rw [hm2_, hm1_]; exact AD) (by rw [hm2_, hm1_]; exact AB) (hv2_.trans hv1_) (by rw [hs2_, hs1_, hm2_, hm1_]) hl (fun st3 h H locs ls I hl hm3_ hv3_ => ?_)
              refine lv_iload hx hb dL_law_1533 (lv_at hl 5 rfl) ?_
              refine lv_if_eq (tgt := 1556) hx hb dL_law_1535 (by decide) (fun c10 => ?_) (fun c10 => ?_)
              · have c10 : ((1 : Nat) : Int) = (0 : Int) := (i_eq (by decide : (1 : Int32).toInt = ((1 : Nat) : Int)) (rfl : (0 : Int32).toInt = 0)).mp c10
                exfalso; omega
              · have c10 : ¬ (((1 : Nat) : Int) = (0 : Int)) := fun q => c10 ((i_eq (by decide : (1 : Int32).toInt = ((1 : Nat) : Int)) (rfl : (0 : Int32).toInt = 0)).mpr q)
                refine lv_aload_n hx hb dL_law_1538 rfl (lv_at hl 1 rfl) ?_
                refine lv_aload_n hx hb dL_law_1539 rfl (lv_at hl 0 rfl) ?_
                refine lv_bipush (v := 12) hx hb dL_law_1540 (by decide) ?_
                refine lv_iconst (v := 5) hx hb dL_law_1542 (by decide) ?_
                refine lv_iload hx hb dL_law_1543 (lv_at hl 4 rfl) ?_
                refine lv_imul hx hb dL_law_1545 ?_
                refine lv_topi (fun y11 ey11 => ?_)
                have ty11 : y11.toInt = (((5 * rd) : Nat) : Int) := i_mulN ey11 (by decide : (5 : Int32).toInt = ((5 : Nat) : Int)) hx4 (by omega)
                refine lv_iadd hx hb dL_law_1546 ?_
                refine lv_topi (fun y12 ey12 => ?_)
                have ty12 : y12.toInt = (((12 + (5 * rd)) : Nat) : Int) := i_addN ey12 (by decide : (12 : Int32).toInt = ((12 : Nat) : Int)) ty11 (by omega)
                refine lv_iconst (v := 5) hx hb dL_law_1547 (by decide) ?_
                refine lv_aload_n hx hb dL_law_1548 rfl (lv_at hl 2 rfl) ?_
                refine lv_aload_n hx hb dL_law_1549 rfl (lv_at hl 3 rfl) ?_
                refine lk_some C I hl.1 (by rw [hm3_, hm2_, hm1_]; exact AD) (by rw [hm3_, hm2_, hm1_]; exact AB) hv3_ ty12 (by omega) (by decide : (5 : Int32).toInt = ((5 : Nat) : Int)) (by omega) (Nat.le_of_ble_eq_true rfl) dL_law_1550 (fun h H locs st9 gd9 gb9 I AD9 AB9 hv9 => ?_)
                refine lv_if_ne (tgt := 1558) hx hb dL_law_1553 (by decide) (fun c14 => ?_) (fun c14 => ?_)
                · have c14 : ¬ (((1 : Nat) : Int) = (0 : Int)) := fun q => c14 ((i_eq (by decide : (1 : Int32).toInt = ((1 : Nat) : Int)) (rfl : (0 : Int32).toInt = 0)).mpr q)
                  obtain ⟨y15, ey15⟩ : ∃ y : Int32, y = x4 + (1) := ⟨_, rfl⟩
                  have ty15 : y15.toInt = (((rd + 1) : Nat) : Int) := i_addN ey15 hx4 (by decide : (1 : Int32).toInt = ((1 : Nat) : Int)) (by omega)
                  refine lv_iinc (v := y15) (lv' := [(4, .int y15), (0, .ref b), (1, .ref (g.2.2.1 0)), (2, .ref (g.2.2.1 143)), (3, .ref (g.2.2.1 144)), (7, .int 1)]) hx hb dL_law_1558 hl (k := 4) rfl (by rw [ey15]; rfl) (by decide) rfl (fun ls hl => ?_)
                  refine lv_goto (tgt := 33) hx hb dL_law_1561 (by decide) ?_
                  exact ih33 (rd + 1) y15 st9 gd9 gb9 _ _ _ _ I (lv_sub hl [1, 2, 3, 4, 0] rfl) (by omega) ty15 AD9 AB9 hv9 (by omega)
                · have c14 : ((1 : Nat) : Int) = (0 : Int) := (i_eq (by decide : (1 : Int32).toInt = ((1 : Nat) : Int)) (rfl : (0 : Int32).toInt = 0)).mp c14
                  exfalso; omega
  have ih33 := cuts (5)
  exact ih33 0 0 st gd gb _ _ _ _ I (lv_sub hl [0, 1, 2, 3, 4] rfl) (Nat.zero_le _) ((by decide : (0 : Int32).toInt = ((0 : Nat) : Int))) AD AB hv (by omega)
end LS
