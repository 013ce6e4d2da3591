section LS
variable {p : Program} {l : Launch} {e : Env} {s : State} {m : MethodId} {args : Array Value} {below : List Frame} {meth : Method} {c : Code} {b L : Nat} {xs : Nat → Int32} {H : Heap} {locs : List Loc} {cells slots : Nat} {g : GE} {h : Nat → va_E} {ls : Array Slot} {st : ST} {gd gb : Nat → Int32} {Q : State → Prop}
set_option maxHeartbeats 8000000 in
set_option maxRecDepth 100000 in
theorem seg_k (C : LwC p s m c args b L xs cells slots) (I : LI g h s st gd gb H locs) {x12 x13 : Int32} (hx12 : x12 = 1) (hx13 : x13.toInt = ((0 : Nat) : Int)) {x4 x5 x6 x8 x9 x10 x11 : Int32} {f : Nat} (hf : f < pN (sM st)) (hx6 : x6.toInt = ((pN (sM st) : Nat) : Int)) (hx8 : x8.toInt = ((sm (neF (sM st)) f : Nat) : Int)) (hx9 : x9.toInt = ((f : Nat) : Int)) (hx10 : x10.toInt = ((pA (sM st) f : Nat) : Int)) (hx11 : x11.toInt = ((pK (sM st) f : Nat) : Int)) (hl : lv_has ls 20 [(0, .ref b), (1, .ref (g.2.2.1 0)), (2, .ref (g.2.2.1 143)), (3, .ref (g.2.2.1 144)), (4, .int x4), (5, .int x5), (6, .int x6), (7, .int 1), (8, .int x8), (9, .int x9), (10, .int x10), (11, .int x11), (12, .int 1), (13, .int 0)]) (K : ∀ (x12 : Int32) (h : Nat → va_E) (H : Heap) (locs : List Loc) (ls : Array Slot), LI g h s st gd gb H locs → lv_has ls 20 [(0, .ref b), (1, .ref (g.2.2.1 0)), (2, .ref (g.2.2.1 143)), (3, .ref (g.2.2.1 144)), (4, .int x4), (5, .int x5), (6, .int x6), (7, .int 1), (8, .int x8), (9, .int x9), (10, .int x10), (11, .int x11), (12, .int x12)] → (Bq x12 (AllN (sM st) f 125)) → W p l e room_1 s m args below meth c H locs cells slots Q (F0 m 479 ls [])) : W p l e room_1 s m args below meth c H locs cells slots Q (F0 m 118 ls []) := by
  obtain ⟨hx, hb, hml, hown, hts, hX, hcs⟩ := id C
  have hP := I.hP
  have hn4 := hP.2.1
  have h3_ := (hP.2.2 f hf).1
  have hk3_ := (hP.2.2 f hf).2.1
  have cuts : ∀ N_ : Nat, (∀ (k : Nat) (x12 : Int32) (x13 : Int32) (h : Nat → va_E) (H : Heap) (locs : List Loc) (ls : Array Slot), LI g h s st gd gb H locs → lv_has ls 20 [(0, .ref b), (1, .ref (g.2.2.1 0)), (2, .ref (g.2.2.1 143)), (3, .ref (g.2.2.1 144)), (4, .int x4), (5, .int x5), (6, .int x6), (7, .int 1), (8, .int x8), (9, .int x9), (10, .int x10), (11, .int x11), (12, .int x12), (13, .int x13)] → (k ≤ 125) → (x13.toInt = ((k : Nat) : Int)) → (Bq x12 (AllN (sM st) f k)) → 10 * (125 - k) + 9 < N_ → W p l e room_1 s m args below meth c H locs cells slots Q (F0 m 118 ls [])) ∧ (∀ (k : Nat) (x12 : Int32) (x13 : Int32) (x14 : Int32) (x15 : Int32) (x16 : Int32) (x17 : Int32) (t18 : Int32) (h : Nat → va_E) (H : Heap) (locs : List Loc) (ls : Array Slot), LI g h s st gd gb H locs → lv_has ls 20 [(0, .ref b), (1, .ref (g.2.2.1 0)), (2, .ref (g.2.2.1 143)), (3, .ref (g.2.2.1 144)), (4, .int x4), (5, .int x5), (6, .int x6), (7, .int 1), (8, .int x8), (9, .int x9), (10, .int x10), (11, .int x11), (12, .int x12), (13, .int x13), (14, .int x14), (15, .int x15), (16, .int x16), (17, .int x17)] → (k < 125) → (x13.toInt = ((k : Nat) : Int)) → (Bq x12 (AllN (sM st) f k)) → (x14.toInt = ((k / 25 : Nat) : Int)) → (x15.toInt = ((k / 5 % 5 : Nat) : Int)) → (x16.toInt = ((k % 5 : Nat) : Int)) → ((isQ (sM st) f k → x17.toInt = ((vK (sM st) f k : Nat) : Int)) ∧ (¬ isQ (sM st) f k → x17.toInt = -1)) → (Bq t18 (isQ (sM st) f k)) → 10 * (125 - k) + 8 < N_ → W p l e room_1 s m args below meth c H locs cells slots Q (F0 m 202 ls [.int t18])) ∧ (∀ (k : Nat) (x12 : Int32) (x13 : Int32) (x14 : Int32) (x15 : Int32) (x16 : Int32) (x17 : Int32) (x18 : Int32) (t19 : Int32) (h : Nat → va_E) (H : Heap) (locs : List Loc) (ls : Array Slot), LI g h s st gd gb H locs → lv_has ls 20 [(0, .ref b), (1, .ref (g.2.2.1 0)), (2, .ref (g.2.2.1 143)), (3, .ref (g.2.2.1 144)), (4, .int x4), (5, .int x5), (6, .int x6), (7, .int 1), (8, .int x8), (9, .int x9), (10, .int x10), (11, .int x11), (12, .int x12), (13, .int x13), (14, .int x14), (15, .int x15), (16, .int x16), (17, .int x17), (18, .int x18)] → (k < 125) → (x13.toInt = ((k : Nat) : Int)) → (Bq x12 (AllN (sM st) f k)) → (x14.toInt = ((k / 25 : Nat) : Int)) → (x15.toInt = ((k / 5 % 5 : Nat) : Int)) → (x16.toInt = ((k % 5 : Nat) : Int)) → ((isQ (sM st) f k → x17.toInt = ((vK (sM st) f k : Nat) : Int)) ∧ (¬ isQ (sM st) f k → x17.toInt = -1)) → (Bq x18 (isQ (sM st) f k)) → (Bq t19 ((0 < pA (sM st) f ∧ k / 25 = 4) ∨ (1 < pA (sM st) f ∧ k / 5 % 5 = 4) ∨ (2 < pA (sM st) f ∧ k % 5 = 4))) → 10 * (125 - k) + 7 < N_ → W p l e room_1 s m args below meth c H locs cells slots Q (F0 m 244 ls [.int t19])) ∧ (∀ (k : Nat) (x12 : Int32) (x13 : Int32) (x14 : Int32) (x15 : Int32) (x16 : Int32) (x17 : Int32) (x18 : Int32) (h : Nat → va_E) (H : Heap) (locs : List Loc) (ls : Array Slot), LI g h s st gd gb H locs → lv_has ls 20 [(0, .ref b), (1, .ref (g.2.2.1 0)), (2, .ref (g.2.2.1 143)), (3, .ref (g.2.2.1 144)), (4, .int x4), (5, .int x5), (6, .int x6), (7, .int 1), (8, .int x8), (9, .int x9), (10, .int x10), (11, .int x11), (12, .int x12), (13, .int x13), (14, .int x14), (15, .int x15), (16, .int x16), (17, .int x17), (18, .int x18)] → (k < 125) → (x13.toInt = ((k : Nat) : Int)) → (Bq x12 (AllN (sM st) f k)) → (x14.toInt = ((k / 25 : Nat) : Int)) → (x15.toInt = ((k / 5 % 5 : Nat) : Int)) → (x16.toInt = ((k % 5 : Nat) : Int)) → ((isQ (sM st) f k → x17.toInt = ((vK (sM st) f k : Nat) : Int)) ∧ (¬ isQ (sM st) f k → x17.toInt = -1)) → (Bq x18 (isQ (sM st) f k)) → 10 * (125 - k) + 6 < N_ → W p l e room_1 s m args below meth c H locs cells slots Q (F0 m 322 ls [.int 1])) ∧ (∀ (k : Nat) (x12 : Int32) (x13 : Int32) (x14 : Int32) (x15 : Int32) (x16 : Int32) (x17 : Int32) (x18 : Int32) (t12 : Int32) (h : Nat → va_E) (H : Heap) (locs : List Loc) (ls : Array Slot), LI g h s st gd gb H locs → lv_has ls 20 [(0, .ref b), (1, .ref (g.2.2.1 0)), (2, .ref (g.2.2.1 143)), (3, .ref (g.2.2.1 144)), (4, .int x4), (5, .int x5), (6, .int x6), (7, .int 1), (8, .int x8), (9, .int x9), (10, .int x10), (11, .int x11), (12, .int x12), (13, .int x13), (14, .int x14), (15, .int x15), (16, .int x16), (17, .int x17), (18, .int x18)] → (k < 125) → (x13.toInt = ((k : Nat) : Int)) → (Bq x12 (AllN (sM st) f k)) → (x14.toInt = ((k / 25 : Nat) : Int)) → (x15.toInt = ((k / 5 % 5 : Nat) : Int)) → (x16.toInt = ((k % 5 : Nat) : Int)) → ((isQ (sM st) f k → x17.toInt = ((vK (sM st) f k : Nat) : Int)) ∧ (¬ isQ (sM st) f k → x17.toInt = -1)) → (Bq x18 (isQ (sM st) f k)) → (Bq t12 (AllN (sM st) f (k + 1))) → 10 * (125 - k) + 5 < N_ → W p l e room_1 s m args below meth c H locs cells slots Q (F0 m 345 ls [.int t12])) ∧ (∀ (k : Nat) (x12 : Int32) (x13 : Int32) (x14 : Int32) (x15 : Int32) (x16 : Int32) (x17 : Int32) (x18 : Int32) (h : Nat → va_E) (H : Heap) (locs : List Loc) (ls : Array Slot), LI g h s st gd gb H locs → lv_has ls 20 [(0, .ref b), (1, .ref (g.2.2.1 0)), (2, .ref (g.2.2.1 143)), (3, .ref (g.2.2.1 144)), (4, .int x4), (5, .int x5), (6, .int x6), (7, .int 1), (8, .int x8), (9, .int x9), (10, .int x10), (11, .int x11), (12, .int x12), (13, .int x13), (14, .int x14), (15, .int x15), (16, .int x16), (17, .int x17), (18, .int x18)] → (k < 125) → (x13.toInt = ((k : Nat) : Int)) → (Bq x12 (AllN (sM st) f (k + 1))) → (x14.toInt = ((k / 25 : Nat) : Int)) → (x15.toInt = ((k / 5 % 5 : Nat) : Int)) → (x16.toInt = ((k % 5 : Nat) : Int)) → (isQ (sM st) f k) → (x17.toInt = ((vK (sM st) f k : Nat) : Int)) → (vK (sM st) f k < 4) → 10 * (125 - k) + 4 < N_ → W p l e room_1 s m args below meth c H locs cells slots Q (F0 m 396 ls [])) ∧ (∀ (k : Nat) (x12 : Int32) (x13 : Int32) (x14 : Int32) (x15 : Int32) (x16 : Int32) (x17 : Int32) (x18 : Int32) (h : Nat → va_E) (H : Heap) (locs : List Loc) (ls : Array Slot), LI g h s st gd gb H locs → lv_has ls 20 [(0, .ref b), (1, .ref (g.2.2.1 0)), (2, .ref (g.2.2.1 143)), (3, .ref (g.2.2.1 144)), (4, .int x4), (5, .int x5), (6, .int x6), (7, .int 1), (8, .int x8), (9, .int x9), (10, .int x10), (11, .int x11), (12, .int x12), (13, .int x13), (14, .int x14), (15, .int x15), (16, .int x16), (17, .int x17), (18, .int x18)] → (k < 125) → (x13.toInt = ((k : Nat) : Int)) → (Bq x12 (AllN (sM st) f (k + 1))) → (x14.toInt = ((k / 25 : Nat) : Int)) → (x15.toInt = ((k / 5 % 5 : Nat) : Int)) → (x16.toInt = ((k % 5 : Nat) : Int)) → (isQ (sM st) f k) → (x17.toInt = ((vK (sM st) f k : Nat) : Int)) → (vK (sM st) f k < 4) → 10 * (125 - k) + 3 < N_ → W p l e room_1 s m args below meth c H locs cells slots Q (F0 m 431 ls [])) := by
    intro N_
    induction N_ with
    | zero => exact ⟨by intros; omega, by intros; omega, by intros; omega, by intros; omega, by intros; omega, by intros; omega, by intros; omega⟩
    | succ N_ ih =>
      obtain ⟨ih118, ih202, ih244, ih322, ih345, ih396, ih431⟩ := ih
      refine ⟨?_, ?_, ?_, ?_, ?_, ?_, ?_⟩
      · intro k x12 x13 h H locs ls I hl hk hx13 hx12 hN_
        refine lv_iload hx hb dL_law_118 (lv_at hl 13 rfl) ?_
        refine lv_bipush (v := 125) hx hb dL_law_120 (by decide) ?_
        refine lv_icmp_ge (tgt := 479) hx hb dL_law_122 (by decide) (fun c1 => ?_) (fun c1 => ?_)
        · have c1 : ((125 : Nat) : Int) ≤ ((k : Nat) : Int) := (i_le (by decide : (125 : Int32).toInt = ((125 : Nat) : Int)) hx13).mp c1
          exact K x12 _ _ _ _ I (lv_sub hl [0, 1, 2, 3, 4, 5, 6, 7, 8, 9, 10, 11, 12] rfl) (by rw [show k = 125 by omega] at hx12; exact hx12)
        · have c1 : ¬ (((125 : Nat) : Int) ≤ ((k : Nat) : Int)) := fun q => c1 ((i_le (by decide : (125 : Int32).toInt = ((125 : Nat) : Int)) hx13).mpr q)
          refine lv_iload hx hb dL_law_125 (lv_at hl 7 rfl) ?_
          refine lv_if_eq (tgt := 479) hx hb dL_law_127 (by decide) (fun c2 => ?_) (fun c2 => ?_)
          · have c2 : ((1 : Nat) : Int) = (0 : Int) := (i_eq (by decide : (1 : Int32).toInt = ((1 : Nat) : Int)) (rfl : (0 : Int32).toInt = 0)).mp c2
            exfalso; omega
          · have c2 : ¬ (((1 : Nat) : Int) = (0 : Int)) := fun q => c2 ((i_eq (by decide : (1 : Int32).toInt = ((1 : Nat) : Int)) (rfl : (0 : Int32).toInt = 0)).mpr q)
            refine lv_iload hx hb dL_law_130 (lv_at hl 13 rfl) ?_
            refine lv_bipush (v := 25) hx hb dL_law_132 (by decide) ?_
            refine lv_idiv hx hb dL_law_134 (fun q => absurd ((i_eq (by decide : (25 : Int32).toInt = ((25 : Nat) : Int)) (by decide : (0 : Int32).toInt = (0 : Int))).mp q) (by omega)) ?_
            refine lv_topi (fun y3 ey3 => ?_)
            have ty3 : y3.toInt = (((k / 25) : Nat) : Int) := i_divN ey3 hx13 (by decide : (25 : Int32).toInt = ((25 : Nat) : Int)) (by omega)
            refine lv_istore (lv' := [(14, .int y3), (0, .ref b), (1, .ref (g.2.2.1 0)), (2, .ref (g.2.2.1 143)), (3, .ref (g.2.2.1 144)), (4, .int x4), (5, .int x5), (6, .int x6), (7, .int 1), (8, .int x8), (9, .int x9), (10, .int x10), (11, .int x11), (12, .int x12), (13, .int x13)]) hx hb dL_law_135 hl (by decide) rfl (fun ls hl => ?_)
            refine lv_iload hx hb dL_law_137 (lv_at hl 14 rfl) ?_
            refine lv_iconst (v := 5) hx hb dL_law_139 (by decide) ?_
            refine lv_idiv hx hb dL_law_140 (fun q => absurd ((i_eq (by decide : (5 : Int32).toInt = ((5 : Nat) : Int)) (by decide : (0 : Int32).toInt = (0 : Int))).mp q) (by omega)) ?_
            refine lv_topi (fun y4 ey4 => ?_)
            have ty4 : y4.toInt = (((k / 5) : Nat) : Int) := i_divN ey4 hx13 (by decide : (5 : Int32).toInt = ((5 : Nat) : Int)) (by omega)
            refine lv_iconst (v := 5) hx hb dL_law_141 (by decide) ?_
            refine lv_irem hx hb dL_law_142 (fun q => absurd ((i_eq (by decide : (5 : Int32).toInt = ((5 : Nat) : Int)) (by decide : (0 : Int32).toInt = (0 : Int))).mp q) (by omega)) ?_
            refine lv_topi (fun y5 ey5 => ?_)
            have ty5 : y5.toInt = ((((k / 5) % 5) : Nat) : Int) := i_remN ey5 ty4 (by decide : (5 : Int32).toInt = ((5 : Nat) : Int)) (by omega)
            refine lv_istore (lv' := [(15, .int y5), (14, .int y3), (0, .ref b), (1, .ref (g.2.2.1 0)), (2, .ref (g.2.2.1 143)), (3, .ref (g.2.2.1 144)), (4, .int x4), (5, .int x5), (6, .int x6), (7, .int 1), (8, .int x8), (9, .int x9), (10, .int x10), (11, .int x11), (12, .int x12), (13, .int x13)]) hx hb dL_law_143 hl (by decide) rfl (fun ls hl => ?_)
            refine lv_iload hx hb dL_law_145 (lv_at hl 15 rfl) ?_
            refine lv_iconst (v := 5) hx hb dL_law_147 (by decide) ?_
            refine lv_irem hx hb dL_law_148 (fun q => absurd ((i_eq (by decide : (5 : Int32).toInt = ((5 : Nat) : Int)) (by decide : (0 : Int32).toInt = (0 : Int))).mp q) (by omega)) ?_
            refine lv_topi (fun y6 ey6 => ?_)
            have ty6 : y6.toInt = (((k % 5) : Nat) : Int) := i_remN ey6 hx13 (by decide : (5 : Int32).toInt = ((5 : Nat) : Int)) (by omega)
            refine lv_istore (lv' := [(16, .int y6), (15, .int y5), (14, .int y3), (0, .ref b), (1, .ref (g.2.2.1 0)), (2, .ref (g.2.2.1 143)), (3, .ref (g.2.2.1 144)), (4, .int x4), (5, .int x5), (6, .int x6), (7, .int 1), (8, .int x8), (9, .int x9), (10, .int x10), (11, .int x11), (12, .int x12), (13, .int x13)]) hx hb dL_law_149 hl (by decide) rfl (fun ls hl => ?_)
            refine lv_aload_n hx hb dL_law_151 rfl (lv_at hl 4 rfl) ?_
            refine lv_iload hx hb dL_law_152 (lv_at hl 12 rfl) ?_
            refine lv_iload hx hb dL_law_154 (lv_at hl 2 rfl) ?_
            refine lv_iload hx hb dL_law_156 (lv_at hl 1 rfl) ?_
            refine lv_iload hx hb dL_law_158 (lv_at hl 0 rfl) ?_
            refine lk_value C I hl.1 (Nat.le_of_ble_eq_true rfl) dL_law_160 (fun r7 h H locs I A7 => ?_)
            have hv_ : (isQ (sM st) f k → r7.toInt = ((vK (sM st) f k : Nat) : Int)) ∧ (¬ isQ (sM st) f k → r7.toInt = -1) := tab_at A7 hP hf hx9 ty3 ty5 ty6
            refine lv_istore (lv' := [(17, .int r7), (16, .int y6), (15, .int y5), (14, .int y3), (0, .ref b), (1, .ref (g.2.2.1 0)), (2, .ref (g.2.2.1 143)), (3, .ref (g.2.2.1 144)), (4, .int x4), (5, .int x5), (6, .int x6), (7, .int 1), (8, .int x8), (9, .int x9), (10, .int x10), (11, .int x11), (12, .int x12), (13, .int x13)]) hx hb dL_law_163 hl (by decide) rfl (fun ls hl => ?_)
            refine lv_iload hx hb dL_law_165 (lv_at hl 14 rfl) ?_
            refine lv_if_gt (tgt := 175) hx hb dL_law_167 (by decide) (fun c8 => ?_) (fun c8 => ?_)
            · have c8 : (0 : Int) < (((pA (sM st) f) : Nat) : Int) := (i_lt (rfl : (0 : Int32).toInt = 0) hx10).mp c8
              refine lv_iload hx hb dL_law_175 (lv_at hl 14 rfl) ?_
              refine lv_iconst (v := 1) hx hb dL_law_177 (by decide) ?_
              refine lv_icmp_gt (tgt := 186) hx hb dL_law_178 (by decide) (fun c9 => ?_) (fun c9 => ?_)
              · have c9 : ((1 : Nat) : Int) < (((pA (sM st) f) : Nat) : Int) := (i_lt (by decide : (1 : Int32).toInt = ((1 : Nat) : Int)) hx10).mp c9
                refine lv_iload hx hb dL_law_186 (lv_at hl 14 rfl) ?_
                refine lv_iconst (v := 2) hx hb dL_law_188 (by decide) ?_
                refine lv_icmp_gt (tgt := 197) hx hb dL_law_189 (by decide) (fun c10 => ?_) (fun c10 => ?_)
                · have c10 : ((2 : Nat) : Int) < (((pA (sM st) f) : Nat) : Int) := (i_lt (by decide : (2 : Int32).toInt = ((2 : Nat) : Int)) hx10).mp c10
                  refine lv_iconst (v := 1) hx hb dL_law_197 (by decide) ?_
                  refine lv_goto (tgt := 202) hx hb dL_law_198 (by decide) ?_
                  exact ih202 k x12 x13 y3 y5 y6 r7 1 _ _ _ _ I (lv_sub hl [4, 5, 6, 7, 8, 9, 10, 11, 12, 13, 14, 15, 16, 17, 3, 2, 1, 0] rfl) (by omega) hx13 hx12 ty3 ty5 ty6 hv_ (Bq.t ((mIs_0 (by omega) (by omega) (by omega)).mpr (by omega))) (by omega)
                · have c10 : ¬ (((2 : Nat) : Int) < (((pA (sM st) f) : Nat) : Int)) := fun q => c10 ((i_lt (by decide : (2 : Int32).toInt = ((2 : Nat) : Int)) hx10).mpr q)
                  refine lv_iload hx hb dL_law_192 (lv_at hl 1 rfl) ?_
                  refine lv_if_ne (tgt := 201) hx hb dL_law_194 (by decide) (fun c11 => ?_) (fun c11 => ?_)
                  · have c11 : ¬ ((((k % 5) : Nat) : Int) = (0 : Int)) := fun q => c11 ((i_eq ty6 (rfl : (0 : Int32).toInt = 0)).mpr q)
                    refine lv_iconst (v := 0) hx hb dL_law_201 (by decide) ?_
                    exact ih202 k x12 x13 y3 y5 y6 r7 0 _ _ _ _ I (lv_sub hl [4, 5, 6, 7, 8, 9, 10, 11, 12, 13, 14, 15, 16, 17, 3, 2, 1, 0] rfl) (by omega) hx13 hx12 ty3 ty5 ty6 hv_ (Bq.f (fun q_ => by have z_ := (mIs_0 (by omega) (by omega) (by omega)).mp q_; omega)) (by omega)
                  · have c11 : (((k % 5) : Nat) : Int) = (0 : Int) := (i_eq ty6 (rfl : (0 : Int32).toInt = 0)).mp c11
                    refine lv_iconst (v := 1) hx hb dL_law_197 (by decide) ?_
                    refine lv_goto (tgt := 202) hx hb dL_law_198 (by decide) ?_
                    exact ih202 k x12 x13 y3 y5 y6 r7 1 _ _ _ _ I (lv_sub hl [4, 5, 6, 7, 8, 9, 10, 11, 12, 13, 14, 15, 16, 17, 3, 2, 1, 0] rfl) (by omega) hx13 hx12 ty3 ty5 ty6 hv_ (Bq.t ((mIs_0 (by omega) (by omega) (by omega)).mpr (by omega))) (by omega)
              · have c9 : ¬ (((1 : Nat) : Int) < (((pA (sM st) f) : Nat) : Int)) := fun q => c9 ((i_lt (by decide : (1 : Int32).toInt = ((1 : Nat) : Int)) hx10).mpr q)
                refine lv_iload hx hb dL_law_181 (lv_at hl 2 rfl) ?_
                refine lv_if_ne (tgt := 201) hx hb dL_law_183 (by decide) (fun c12 => ?_) (fun c12 => ?_)
                · have c12 : ¬ (((((k / 5) % 5) : Nat) : Int) = (0 : Int)) := fun q => c12 ((i_eq ty5 (rfl : (0 : Int32).toInt = 0)).mpr q)
                  refine lv_iconst (v := 0) hx hb dL_law_201 (by decide) ?_
                  exact ih202 k x12 x13 y3 y5 y6 r7 0 _ _ _ _ I (lv_sub hl [4, 5, 6, 7, 8, 9, 10, 11, 12, 13, 14, 15, 16, 17, 3, 2, 1, 0] rfl) (by omega) hx13 hx12 ty3 ty5 ty6 hv_ (Bq.f (fun q_ => by have z_ := (mIs_0 (by omega) (by omega) (by omega)).mp q_; omega)) (by omega)
                · have c12 : ((((k / 5) % 5) : Nat) : Int) = (0 : Int) := (i_eq ty5 (rfl : (0 : Int32).toInt = 0)).mp c12
                  refine lv_iload hx hb dL_law_186 (lv_at hl 14 rfl) ?_
                  refine lv_iconst (v := 2) hx hb dL_law_188 (by decide) ?_
                  refine lv_icmp_gt (tgt := 197) hx hb dL_law_189 (by decide) (fun c13 => ?_) (fun c13 => ?_)
                  · have c13 : ((2 : Nat) : Int) < (((pA (sM st) f) : Nat) : Int) := (i_lt (by decide : (2 : Int32).toInt = ((2 : Nat) : Int)) hx10).mp c13
                    refine lv_iconst (v := 1) hx hb dL_law_197 (by decide) ?_
                    refine lv_goto (tgt := 202) hx hb dL_law_198 (by decide) ?_
                    exact ih202 k x12 x13 y3 y5 y6 r7 1 _ _ _ _ I (lv_sub hl [4, 5, 6, 7, 8, 9, 10, 11, 12, 13, 14, 15, 16, 17, 3, 2, 1, 0] rfl) (by omega) hx13 hx12 ty3 ty5 ty6 hv_ (Bq.t ((mIs_0 (by omega) (by omega) (by omega)).mpr (by omega))) (by omega)
                  · have c13 : ¬ (((2 : Nat) : Int) < (((pA (sM st) f) : Nat) : Int)) := fun q => c13 ((i_lt (by decide : (2 : Int32).toInt = ((2 : Nat) : Int)) hx10).mpr q)
                    refine lv_iload hx hb dL_law_192 (lv_at hl 1 rfl) ?_
                    refine lv_if_ne (tgt := 201) hx hb dL_law_194 (by decide) (fun c14 => ?_) (fun c14 => ?_)
                    · have c14 : ¬ ((((k % 5) : Nat) : Int) = (0 : Int)) := fun q => c14 ((i_eq ty6 (rfl : (0 : Int32).toInt = 0)).mpr q)
                      refine lv_iconst (v := 0) hx hb dL_law_201 (by decide) ?_
                      exact ih202 k x12 x13 y3 y5 y6 r7 0 _ _ _ _ I (lv_sub hl [4, 5, 6, 7, 8, 9, 10, 11, 12, 13, 14, 15, 16, 17, 3, 2, 1, 0] rfl) (by omega) hx13 hx12 ty3 ty5 ty6 hv_ (Bq.f (fun q_ => by have z_ := (mIs_0 (by omega) (by omega) (by omega)).mp q_; omega)) (by omega)
                    · have c14 : (((k % 5) : Nat) : Int) = (0 : Int) := (i_eq ty6 (rfl : (0 : Int32).toInt = 0)).mp c14
                      refine lv_iconst (v := 1) hx hb dL_law_197 (by decide) ?_
                      refine lv_goto (tgt := 202) hx hb dL_law_198 (by decide) ?_
                      exact ih202 k x12 x13 y3 y5 y6 r7 1 _ _ _ _ I (lv_sub hl [4, 5, 6, 7, 8, 9, 10, 11, 12, 13, 14, 15, 16, 17, 3, 2, 1, 0] rfl) (by omega) hx13 hx12 ty3 ty5 ty6 hv_ (Bq.t ((mIs_0 (by omega) (by omega) (by omega)).mpr (by omega))) (by omega)
            · have c8 : ¬ ((0 : Int) < (((pA (sM st) f) : Nat) : Int)) := fun q => c8 ((i_lt (rfl : (0 : Int32).toInt = 0) hx10).mpr q)
              refine lv_iload hx hb dL_law_170 (lv_at hl 3 rfl) ?_
              refine lv_if_ne (tgt := 201) hx hb dL_law_172 (by decide) (fun c15 => ?_) (fun c15 => ?_)
              · have c15 : ¬ ((((k / 25) : Nat) : Int) = (0 : Int)) := fun q => c15 ((i_eq ty3 (rfl : (0 : Int32).toInt = 0)).mpr q)
                refine lv_iconst (v := 0) hx hb dL_law_201 (by decide) ?_
                exact ih202 k x12 x13 y3 y5 y6 r7 0 _ _ _ _ I (lv_sub hl [4, 5, 6, 7, 8, 9, 10, 11, 12, 13, 14, 15, 16, 17, 3, 2, 1, 0] rfl) (by omega) hx13 hx12 ty3 ty5 ty6 hv_ (Bq.f (fun q_ => by have z_ := (mIs_0 (by omega) (by omega) (by omega)).mp q_; omega)) (by omega)
              · have c15 : (((k / 25) : Nat) : Int) = (0 : Int) := (i_eq ty3 (rfl : (0 : Int32).toInt = 0)).mp c15
                refine lv_iload hx hb dL_law_175 (lv_at hl 14 rfl) ?_
                refine lv_iconst (v := 1) hx hb dL_law_177 (by decide) ?_
                refine lv_icmp_gt (tgt := 186) hx hb dL_law_178 (by decide) (fun c16 => ?_) (fun c16 => ?_)
                · have c16 : ((1 : Nat) : Int) < (((pA (sM st) f) : Nat) : Int) := (i_lt (by decide : (1 : Int32).toInt = ((1 : Nat) : Int)) hx10).mp c16
                  refine lv_iload hx hb dL_law_186 (lv_at hl 14 rfl) ?_
                  refine lv_iconst (v := 2) hx hb dL_law_188 (by decide) ?_
                  refine lv_icmp_gt (tgt := 197) hx hb dL_law_189 (by decide) (fun c17 => ?_) (fun c17 => ?_)
                  · have c17 : ((2 : Nat) : Int) < (((pA (sM st) f) : Nat) : Int) := (i_lt (by decide : (2 : Int32).toInt = ((2 : Nat) : Int)) hx10).mp c17
                    refine lv_iconst (v := 1) hx hb dL_law_197 (by decide) ?_
                    refine lv_goto (tgt := 202) hx hb dL_law_198 (by decide) ?_
                    exact ih202 k x12 x13 y3 y5 y6 r7 1 _ _ _ _ I (lv_sub hl [4, 5, 6, 7, 8, 9, 10, 11, 12, 13, 14, 15, 16, 17, 3, 2, 1, 0] rfl) (by omega) hx13 hx12 ty3 ty5 ty6 hv_ (Bq.t ((mIs_0 (by omega) (by omega) (by omega)).mpr (by omega))) (by omega)
                  · have c17 : ¬ (((2 : Nat) : Int) < (((pA (sM st) f) : Nat) : Int)) := fun q => c17 ((i_lt (by decide : (2 : Int32).toInt = ((2 : Nat) : Int)) hx10).mpr q)
                    refine lv_iload hx hb dL_law_192 (lv_at hl 1 rfl) ?_
                    refine lv_if_ne (tgt := 201) hx hb dL_law_194 (by decide) (fun c18 => ?_) (fun c18 => ?_)
                    · have c18 : ¬ ((((k % 5) : Nat) : Int) = (0 : Int)) := fun q => c18 ((i_eq ty6 (rfl : (0 : Int32).toInt = 0)).mpr q)
                      refine lv_iconst (v := 0) hx hb dL_law_201 (by decide) ?_
                      exact ih202 k x12 x13 y3 y5 y6 r7 0 _ _ _ _ I (lv_sub hl [4, 5, 6, 7, 8, 9, 10, 11, 12, 13, 14, 15, 16, 17, 3, 2, 1, 0] rfl) (by omega) hx13 hx12 ty3 ty5 ty6 hv_ (Bq.f (fun q_ => by have z_ := (mIs_0 (by omega) (by omega) (by omega)).mp q_; omega)) (by omega)
                    · have c18 : (((k % 5) : Nat) : Int) = (0 : Int) := (i_eq ty6 (rfl : (0 : Int32).toInt = 0)).mp c18
                      refine lv_iconst (v := 1) hx hb dL_law_197 (by decide) ?_
                      refine lv_goto (tgt := 202) hx hb dL_law_198 (by decide) ?_
                      exact ih202 k x12 x13 y3 y5 y6 r7 1 _ _ _ _ I (lv_sub hl [4, 5, 6, 7, 8, 9, 10, 11, 12, 13, 14, 15, 16, 17, 3, 2, 1, 0] rfl) (by omega) hx13 hx12 ty3 ty5 ty6 hv_ (Bq.t ((mIs_0 (by omega) (by omega) (by omega)).mpr (by omega))) (by omega)
                · have c16 : ¬ (((1 : Nat) : Int) < (((pA (sM st) f) : Nat) : Int)) := fun q => c16 ((i_lt (by decide : (1 : Int32).toInt = ((1 : Nat) : Int)) hx10).mpr q)
                  refine lv_iload hx hb dL_law_181 (lv_at hl 2 rfl) ?_
                  refine lv_if_ne (tgt := 201) hx hb dL_law_183 (by decide) (fun c19 => ?_) (fun c19 => ?_)
                  · have c19 : ¬ (((((k / 5) % 5) : Nat) : Int) = (0 : Int)) := fun q => c19 ((i_eq ty5 (rfl : (0 : Int32).toInt = 0)).mpr q)
                    refine lv_iconst (v := 0) hx hb dL_law_201 (by decide) ?_
                    exact ih202 k x12 x13 y3 y5 y6 r7 0 _ _ _ _ I (lv_sub hl [4, 5, 6, 7, 8, 9, 10, 11, 12, 13, 14, 15, 16, 17, 3, 2, 1, 0] rfl) (by omega) hx13 hx12 ty3 ty5 ty6 hv_ (Bq.f (fun q_ => by have z_ := (mIs_0 (by omega) (by omega) (by omega)).mp q_; omega)) (by omega)
                  · have c19 : ((((k / 5) % 5) : Nat) : Int) = (0 : Int) := (i_eq ty5 (rfl : (0 : Int32).toInt = 0)).mp c19
                    refine lv_iload hx hb dL_law_186 (lv_at hl 14 rfl) ?_
                    refine lv_iconst (v := 2) hx hb dL_law_188 (by decide) ?_
                    refine lv_icmp_gt (tgt := 197) hx hb dL_law_189 (by decide) (fun c20 => ?_) (fun c20 => ?_)
                    · have c20 : ((2 : Nat) : Int) < (((pA (sM st) f) : Nat) : Int) := (i_lt (by decide : (2 : Int32).toInt = ((2 : Nat) : Int)) hx10).mp c20
                      refine lv_iconst (v := 1) hx hb dL_law_197 (by decide) ?_
                      refine lv_goto (tgt := 202) hx hb dL_law_198 (by decide) ?_
                      exact ih202 k x12 x13 y3 y5 y6 r7 1 _ _ _ _ I (lv_sub hl [4, 5, 6, 7, 8, 9, 10, 11, 12, 13, 14, 15, 16, 17, 3, 2, 1, 0] rfl) (by omega) hx13 hx12 ty3 ty5 ty6 hv_ (Bq.t ((mIs_0 (by omega) (by omega) (by omega)).mpr (by omega))) (by omega)
                    · have c20 : ¬ (((2 : Nat) : Int) < (((pA (sM st) f) : Nat) : Int)) := fun q => c20 ((i_lt (by decide : (2 : Int32).toInt = ((2 : Nat) : Int)) hx10).mpr q)
                      refine lv_iload hx hb dL_law_192 (lv_at hl 1 rfl) ?_
                      refine lv_if_ne (tgt := 201) hx hb dL_law_194 (by decide) (fun c21 => ?_) (fun c21 => ?_)
                      · have c21 : ¬ ((((k % 5) : Nat) : Int) = (0 : Int)) := fun q => c21 ((i_eq ty6 (rfl : (0 : Int32).toInt = 0)).mpr q)
                        refine lv_iconst (v := 0) hx hb dL_law_201 (by decide) ?_
                        exact ih202 k x12 x13 y3 y5 y6 r7 0 _ _ _ _ I (lv_sub hl [4, 5, 6, 7, 8, 9, 10, 11, 12, 13, 14, 15, 16, 17, 3, 2, 1, 0] rfl) (by omega) hx13 hx12 ty3 ty5 ty6 hv_ (Bq.f (fun q_ => by have z_ := (mIs_0 (by omega) (by omega) (by omega)).mp q_; omega)) (by omega)
                      · have c21 : (((k % 5) : Nat) : Int) = (0 : Int) := (i_eq ty6 (rfl : (0 : Int32).toInt = 0)).mp c21
                        refine lv_iconst (v := 1) hx hb dL_law_197 (by decide) ?_
                        refine lv_goto (tgt := 202) hx hb dL_law_198 (by decide) ?_
                        exact ih202 k x12 x13 y3 y5 y6 r7 1 _ _ _ _ I (lv_sub hl [4, 5, 6, 7, 8, 9, 10, 11, 12, 13, 14, 15, 16, 17, 3, 2, 1, 0] rfl) (by omega) hx13 hx12 ty3 ty5 ty6 hv_ (Bq.t ((mIs_0 (by omega) (by omega) (by omega)).mpr (by omega))) (by omega)
      · intro k x12 x13 x14 x15 x16 x17 t18 h H locs ls I hl hk hx13 hx12 hx14 hx15 hx16 hv ht18 hN_
        refine lv_istore (lv' := [(18, .int t18), (0, .ref b), (1, .ref (g.2.2.1 0)), (2, .ref (g.2.2.1 143)), (3, .ref (g.2.2.1 144)), (4, .int x4), (5, .int x5), (6, .int x6), (7, .int 1), (8, .int x8), (9, .int x9), (10, .int x10), (11, .int x11), (12, .int x12), (13, .int x13), (14, .int x14), (15, .int x15), (16, .int x16), (17, .int x17)]) hx hb dL_law_202 hl (by decide) rfl (fun ls hl => ?_)
        refine lv_iload hx hb dL_law_204 (lv_at hl 11 rfl) ?_
        refine lv_if_le (tgt := 215) hx hb dL_law_206 (by decide) (fun c22 => ?_) (fun c22 => ?_)
        · have c22 : (((pA (sM st) f) : Nat) : Int) ≤ (0 : Int) := (i_le hx10 (rfl : (0 : Int32).toInt = 0)).mp c22
          refine lv_iload hx hb dL_law_215 (lv_at hl 11 rfl) ?_
          refine lv_iconst (v := 1) hx hb dL_law_217 (by decide) ?_
          refine lv_icmp_le (tgt := 227) hx hb dL_law_218 (by decide) (fun c23 => ?_) (fun c23 => ?_)
          · have c23 : (((pA (sM st) f) : Nat) : Int) ≤ ((1 : Nat) : Int) := (i_le hx10 (by decide : (1 : Int32).toInt = ((1 : Nat) : Int))).mp c23
            refine lv_iload hx hb dL_law_227 (lv_at hl 11 rfl) ?_
            refine lv_iconst (v := 2) hx hb dL_law_229 (by decide) ?_
            refine lv_icmp_le (tgt := 243) hx hb dL_law_230 (by decide) (fun c24 => ?_) (fun c24 => ?_)
            · have c24 : (((pA (sM st) f) : Nat) : Int) ≤ ((2 : Nat) : Int) := (i_le hx10 (by decide : (2 : Int32).toInt = ((2 : Nat) : Int))).mp c24
              refine lv_iconst (v := 0) hx hb dL_law_243 (by decide) ?_
              exact ih244 k x12 x13 x14 x15 x16 x17 t18 0 _ _ _ _ I (lv_sub hl [1, 2, 3, 4, 5, 6, 7, 8, 9, 10, 11, 12, 13, 14, 15, 16, 17, 18, 0] rfl) hk hx13 hx12 hx14 hx15 hx16 hv ht18 (Bq.f (by omega)) (by omega)
            · have c24 : ¬ ((((pA (sM st) f) : Nat) : Int) ≤ ((2 : Nat) : Int)) := fun q => c24 ((i_le hx10 (by decide : (2 : Int32).toInt = ((2 : Nat) : Int))).mpr q)
              refine lv_iload hx hb dL_law_233 (lv_at hl 17 rfl) ?_
              refine lv_iconst (v := 4) hx hb dL_law_235 (by decide) ?_
              refine lv_icmp_ne (tgt := 243) hx hb dL_law_236 (by decide) (fun c25 => ?_) (fun c25 => ?_)
              · have c25 : ¬ ((((k % 5) : Nat) : Int) = ((4 : Nat) : Int)) := fun q => c25 ((i_eq hx16 (by decide : (4 : Int32).toInt = ((4 : Nat) : Int))).mpr q)
                refine lv_iconst (v := 0) hx hb dL_law_243 (by decide) ?_
                exact ih244 k x12 x13 x14 x15 x16 x17 t18 0 _ _ _ _ I (lv_sub hl [1, 2, 3, 4, 5, 6, 7, 8, 9, 10, 11, 12, 13, 14, 15, 16, 17, 18, 0] rfl) hk hx13 hx12 hx14 hx15 hx16 hv ht18 (Bq.f (by omega)) (by omega)
              · have c25 : (((k % 5) : Nat) : Int) = ((4 : Nat) : Int) := (i_eq hx16 (by decide : (4 : Int32).toInt = ((4 : Nat) : Int))).mp c25
                refine lv_iconst (v := 1) hx hb dL_law_239 (by decide) ?_
                refine lv_goto (tgt := 244) hx hb dL_law_240 (by decide) ?_
                exact ih244 k x12 x13 x14 x15 x16 x17 t18 1 _ _ _ _ I (lv_sub hl [1, 2, 3, 4, 5, 6, 7, 8, 9, 10, 11, 12, 13, 14, 15, 16, 17, 18, 0] rfl) hk hx13 hx12 hx14 hx15 hx16 hv ht18 (Bq.t (by omega)) (by omega)
          · have c23 : ¬ ((((pA (sM st) f) : Nat) : Int) ≤ ((1 : Nat) : Int)) := fun q => c23 ((i_le hx10 (by decide : (1 : Int32).toInt = ((1 : Nat) : Int))).mpr q)
            refine lv_iload hx hb dL_law_221 (lv_at hl 16 rfl) ?_
            refine lv_iconst (v := 4) hx hb dL_law_223 (by decide) ?_
            refine lv_icmp_eq (tgt := 239) hx hb dL_law_224 (by decide) (fun c26 => ?_) (fun c26 => ?_)
            · have c26 : (((k / 5 % 5) : Nat) : Int) = ((4 : Nat) : Int) := (i_eq hx15 (by decide : (4 : Int32).toInt = ((4 : Nat) : Int))).mp c26
              refine lv_iconst (v := 1) hx hb dL_law_239 (by decide) ?_
              refine lv_goto (tgt := 244) hx hb dL_law_240 (by decide) ?_
              exact ih244 k x12 x13 x14 x15 x16 x17 t18 1 _ _ _ _ I (lv_sub hl [1, 2, 3, 4, 5, 6, 7, 8, 9, 10, 11, 12, 13, 14, 15, 16, 17, 18, 0] rfl) hk hx13 hx12 hx14 hx15 hx16 hv ht18 (Bq.t (by omega)) (by omega)
            · have c26 : ¬ ((((k / 5 % 5) : Nat) : Int) = ((4 : Nat) : Int)) := fun q => c26 ((i_eq hx15 (by decide : (4 : Int32).toInt = ((4 : Nat) : Int))).mpr q)
              refine lv_iload hx hb dL_law_227 (lv_at hl 11 rfl) ?_
              refine lv_iconst (v := 2) hx hb dL_law_229 (by decide) ?_
              refine lv_icmp_le (tgt := 243) hx hb dL_law_230 (by decide) (fun c27 => ?_) (fun c27 => ?_)
              · have c27 : (((pA (sM st) f) : Nat) : Int) ≤ ((2 : Nat) : Int) := (i_le hx10 (by decide : (2 : Int32).toInt = ((2 : Nat) : Int))).mp c27
                refine lv_iconst (v := 0) hx hb dL_law_243 (by decide) ?_
                exact ih244 k x12 x13 x14 x15 x16 x17 t18 0 _ _ _ _ I (lv_sub hl [1, 2, 3, 4, 5, 6, 7, 8, 9, 10, 11, 12, 13, 14, 15, 16, 17, 18, 0] rfl) hk hx13 hx12 hx14 hx15 hx16 hv ht18 (Bq.f (by omega)) (by omega)
              · have c27 : ¬ ((((pA (sM st) f) : Nat) : Int) ≤ ((2 : Nat) : Int)) := fun q => c27 ((i_le hx10 (by decide : (2 : Int32).toInt = ((2 : Nat) : Int))).mpr q)
                refine lv_iload hx hb dL_law_233 (lv_at hl 17 rfl) ?_
                refine lv_iconst (v := 4) hx hb dL_law_235 (by decide) ?_
                refine lv_icmp_ne (tgt := 243) hx hb dL_law_236 (by decide) (fun c28 => ?_) (fun c28 => ?_)
                · have c28 : ¬ ((((k % 5) : Nat) : Int) = ((4 : Nat) : Int)) := fun q => c28 ((i_eq hx16 (by decide : (4 : Int32).toInt = ((4 : Nat) : Int))).mpr q)
                  refine lv_iconst (v := 0) hx hb dL_law_243 (by decide) ?_
                  exact ih244 k x12 x13 x14 x15 x16 x17 t18 0 _ _ _ _ I (lv_sub hl [1, 2, 3, 4, 5, 6, 7, 8, 9, 10, 11, 12, 13, 14, 15, 16, 17, 18, 0] rfl) hk hx13 hx12 hx14 hx15 hx16 hv ht18 (Bq.f (by omega)) (by omega)
                · have c28 : (((k % 5) : Nat) : Int) = ((4 : Nat) : Int) := (i_eq hx16 (by decide : (4 : Int32).toInt = ((4 : Nat) : Int))).mp c28
                  refine lv_iconst (v := 1) hx hb dL_law_239 (by decide) ?_
                  refine lv_goto (tgt := 244) hx hb dL_law_240 (by decide) ?_
                  exact ih244 k x12 x13 x14 x15 x16 x17 t18 1 _ _ _ _ I (lv_sub hl [1, 2, 3, 4, 5, 6, 7, 8, 9, 10, 11, 12, 13, 14, 15, 16, 17, 18, 0] rfl) hk hx13 hx12 hx14 hx15 hx16 hv ht18 (Bq.t (by omega)) (by omega)
        · have c22 : ¬ ((((pA (sM st) f) : Nat) : Int) ≤ (0 : Int)) := fun q => c22 ((i_le hx10 (rfl : (0 : Int32).toInt = 0)).mpr q)
          refine lv_iload hx hb dL_law_209 (lv_at hl 15 rfl) ?_
          refine lv_iconst (v := 4) hx hb dL_law_211 (by decide) ?_
          refine lv_icmp_eq (tgt := 239) hx hb dL_law_212 (by decide) (fun c29 => ?_) (fun c29 => ?_)
          · have c29 : (((k / 25) : Nat) : Int) = ((4 : Nat) : Int) := (i_eq hx14 (by decide : (4 : Int32).toInt = ((4 : Nat) : Int))).mp c29
            refine lv_iconst (v := 1) hx hb dL_law_239 (by decide) ?_
            refine lv_goto (tgt := 244) hx hb dL_law_240 (by decide) ?_
            exact ih244 k x12 x13 x14 x15 x16 x17 t18 1 _ _ _ _ I (lv_sub hl [1, 2, 3, 4, 5, 6, 7, 8, 9, 10, 11, 12, 13, 14, 15, 16, 17, 18, 0] rfl) hk hx13 hx12 hx14 hx15 hx16 hv ht18 (Bq.t (by omega)) (by omega)
          · have c29 : ¬ ((((k / 25) : Nat) : Int) = ((4 : Nat) : Int)) := fun q => c29 ((i_eq hx14 (by decide : (4 : Int32).toInt = ((4 : Nat) : Int))).mpr q)
            refine lv_iload hx hb dL_law_215 (lv_at hl 11 rfl) ?_
            refine lv_iconst (v := 1) hx hb dL_law_217 (by decide) ?_
            refine lv_icmp_le (tgt := 227) hx hb dL_law_218 (by decide) (fun c30 => ?_) (fun c30 => ?_)
            · have c30 : (((pA (sM st) f) : Nat) : Int) ≤ ((1 : Nat) : Int) := (i_le hx10 (by decide : (1 : Int32).toInt = ((1 : Nat) : Int))).mp c30
              refine lv_iload hx hb dL_law_227 (lv_at hl 11 rfl) ?_
              refine lv_iconst (v := 2) hx hb dL_law_229 (by decide) ?_
              refine lv_icmp_le (tgt := 243) hx hb dL_law_230 (by decide) (fun c31 => ?_) (fun c31 => ?_)
              · have c31 : (((pA (sM st) f) : Nat) : Int) ≤ ((2 : Nat) : Int) := (i_le hx10 (by decide : (2 : Int32).toInt = ((2 : Nat) : Int))).mp c31
                refine lv_iconst (v := 0) hx hb dL_law_243 (by decide) ?_
                exact ih244 k x12 x13 x14 x15 x16 x17 t18 0 _ _ _ _ I (lv_sub hl [1, 2, 3, 4, 5, 6, 7, 8, 9, 10, 11, 12, 13, 14, 15, 16, 17, 18, 0] rfl) hk hx13 hx12 hx14 hx15 hx16 hv ht18 (Bq.f (by omega)) (by omega)
              · have c31 : ¬ ((((pA (sM st) f) : Nat) : Int) ≤ ((2 : Nat) : Int)) := fun q => c31 ((i_le hx10 (by decide : (2 : Int32).toInt = ((2 : Nat) : Int))).mpr q)
                refine lv_iload hx hb dL_law_233 (lv_at hl 17 rfl) ?_
                refine lv_iconst (v := 4) hx hb dL_law_235 (by decide) ?_
                refine lv_icmp_ne (tgt := 243) hx hb dL_law_236 (by decide) (fun c32 => ?_) (fun c32 => ?_)
                · have c32 : ¬ ((((k % 5) : Nat) : Int) = ((4 : Nat) : Int)) := fun q => c32 ((i_eq hx16 (by decide : (4 : Int32).toInt = ((4 : Nat) : Int))).mpr q)
                  refine lv_iconst (v := 0) hx hb dL_law_243 (by decide) ?_
                  exact ih244 k x12 x13 x14 x15 x16 x17 t18 0 _ _ _ _ I (lv_sub hl [1, 2, 3, 4, 5, 6, 7, 8, 9, 10, 11, 12, 13, 14, 15, 16, 17, 18, 0] rfl) hk hx13 hx12 hx14 hx15 hx16 hv ht18 (Bq.f (by omega)) (by omega)
                · have c32 : (((k % 5) : Nat) : Int) = ((4 : Nat) : Int) := (i_eq hx16 (by decide : (4 : Int32).toInt = ((4 : Nat) : Int))).mp c32
                  refine lv_iconst (v := 1) hx hb dL_law_239 (by decide) ?_
                  refine lv_goto (tgt := 244) hx hb dL_law_240 (by decide) ?_
                  exact ih244 k x12 x13 x14 x15 x16 x17 t18 1 _ _ _ _ I (lv_sub hl [1, 2, 3, 4, 5, 6, 7, 8, 9, 10, 11, 12, 13, 14, 15, 16, 17, 18, 0] rfl) hk hx13 hx12 hx14 hx15 hx16 hv ht18 (Bq.t (by omega)) (by omega)
            · have c30 : ¬ ((((pA (sM st) f) : Nat) : Int) ≤ ((1 : Nat) : Int)) := fun q => c30 ((i_le hx10 (by decide : (1 : Int32).toInt = ((1 : Nat) : Int))).mpr q)
              refine lv_iload hx hb dL_law_221 (lv_at hl 16 rfl) ?_
              refine lv_iconst (v := 4) hx hb dL_law_223 (by decide) ?_
              refine lv_icmp_eq (tgt := 239) hx hb dL_law_224 (by decide) (fun c33 => ?_) (fun c33 => ?_)
              · have c33 : (((k / 5 % 5) : Nat) : Int) = ((4 : Nat) : Int) := (i_eq hx15 (by decide : (4 : Int32).toInt = ((4 : Nat) : Int))).mp c33
                refine lv_iconst (v := 1) hx hb dL_law_239 (by decide) ?_
                refine lv_goto (tgt := 244) hx hb dL_law_240 (by decide) ?_
                exact ih244 k x12 x13 x14 x15 x16 x17 t18 1 _ _ _ _ I (lv_sub hl [1, 2, 3, 4, 5, 6, 7, 8, 9, 10, 11, 12, 13, 14, 15, 16, 17, 18, 0] rfl) hk hx13 hx12 hx14 hx15 hx16 hv ht18 (Bq.t (by omega)) (by omega)
              · have c33 : ¬ ((((k / 5 % 5) : Nat) : Int) = ((4 : Nat) : Int)) := fun q => c33 ((i_eq hx15 (by decide : (4 : Int32).toInt = ((4 : Nat) : Int))).mpr q)
                refine lv_iload hx hb dL_law_227 (lv_at hl 11 rfl) ?_
                refine lv_iconst (v := 2) hx hb dL_law_229 (by decide) ?_
                refine lv_icmp_le (tgt := 243) hx hb dL_law_230 (by decide) (fun c34 => ?_) (fun c34 => ?_)
                · have c34 : (((pA (sM st) f) : Nat) : Int) ≤ ((2 : Nat) : Int) := (i_le hx10 (by decide : (2 : Int32).toInt = ((2 : Nat) : Int))).mp c34
                  refine lv_iconst (v := 0) hx hb dL_law_243 (by decide) ?_
                  exact ih244 k x12 x13 x14 x15 x16 x17 t18 0 _ _ _ _ I (lv_sub hl [1, 2, 3, 4, 5, 6, 7, 8, 9, 10, 11, 12, 13, 14, 15, 16, 17, 18, 0] rfl) hk hx13 hx12 hx14 hx15 hx16 hv ht18 (Bq.f (by omega)) (by omega)
                · have c34 : ¬ ((((pA (sM st) f) : Nat) : Int) ≤ ((2 : Nat) : Int)) := fun q => c34 ((i_le hx10 (by decide : (2 : Int32).toInt = ((2 : Nat) : Int))).mpr q)
                  refine lv_iload hx hb dL_law_233 (lv_at hl 17 rfl) ?_
                  refine lv_iconst (v := 4) hx hb dL_law_235 (by decide) ?_
                  refine lv_icmp_ne (tgt := 243) hx hb dL_law_236 (by decide) (fun c35 => ?_) (fun c35 => ?_)
                  · have c35 : ¬ ((((k % 5) : Nat) : Int) = ((4 : Nat) : Int)) := fun q => c35 ((i_eq hx16 (by decide : (4 : Int32).toInt = ((4 : Nat) : Int))).mpr q)
                    refine lv_iconst (v := 0) hx hb dL_law_243 (by decide) ?_
                    exact ih244 k x12 x13 x14 x15 x16 x17 t18 0 _ _ _ _ I (lv_sub hl [1, 2, 3, 4, 5, 6, 7, 8, 9, 10, 11, 12, 13, 14, 15, 16, 17, 18, 0] rfl) hk hx13 hx12 hx14 hx15 hx16 hv ht18 (Bq.f (by omega)) (by omega)
                  · have c35 : (((k % 5) : Nat) : Int) = ((4 : Nat) : Int) := (i_eq hx16 (by decide : (4 : Int32).toInt = ((4 : Nat) : Int))).mp c35
                    refine lv_iconst (v := 1) hx hb dL_law_239 (by decide) ?_
                    refine lv_goto (tgt := 244) hx hb dL_law_240 (by decide) ?_
                    exact ih244 k x12 x13 x14 x15 x16 x17 t18 1 _ _ _ _ I (lv_sub hl [1, 2, 3, 4, 5, 6, 7, 8, 9, 10, 11, 12, 13, 14, 15, 16, 17, 18, 0] rfl) hk hx13 hx12 hx14 hx15 hx16 hv ht18 (Bq.t (by omega)) (by omega)
      · intro k x12 x13 x14 x15 x16 x17 x18 t19 h H locs ls I hl hk hx13 hx12 hx14 hx15 hx16 hv hx18 ht19 hN_
        refine lv_istore (lv' := [(19, .int t19), (0, .ref b), (1, .ref (g.2.2.1 0)), (2, .ref (g.2.2.1 143)), (3, .ref (g.2.2.1 144)), (4, .int x4), (5, .int x5), (6, .int x6), (7, .int 1), (8, .int x8), (9, .int x9), (10, .int x10), (11, .int x11), (12, .int x12), (13, .int x13), (14, .int x14), (15, .int x15), (16, .int x16), (17, .int x17), (18, .int x18)]) hx hb dL_law_244 hl (by decide) rfl (fun ls hl => ?_)
        refine lv_iload hx hb dL_law_246 (lv_at hl 19 rfl) ?_
        refine lv_if_eq (tgt := 311) hx hb dL_law_248 (by decide) (fun c36 => ?_) (fun c36 => ?_)
        · have c36 := hx18.eq c36
          have hvn_ := hv.2 c36
          refine lv_iload hx hb dL_law_311 (lv_at hl 18 rfl) ?_
          refine lv_iconst (v := (-1)) hx hb dL_law_313 (by decide) ?_
          refine lv_icmp_ne (tgt := 321) hx hb dL_law_314 (by decide) (fun c37 => ?_) (fun c37 => ?_)
          · have c37 : ¬ (x17.toInt = (-1 : Int)) := fun q => c37 ((i_eq (rfl : x17.toInt = x17.toInt) (by decide : (-1 : Int32).toInt = (-1 : Int))).mpr q)
            exfalso; omega
          · have c37 : x17.toInt = (-1 : Int) := (i_eq (rfl : x17.toInt = x17.toInt) (by decide : (-1 : Int32).toInt = (-1 : Int))).mp c37
            refine lv_iconst (v := 1) hx hb dL_law_317 (by decide) ?_
            refine lv_goto (tgt := 322) hx hb dL_law_318 (by decide) ?_
            exact ih322 k x12 x13 x14 x15 x16 x17 x18 _ _ _ _ I (lv_sub hl [1, 2, 3, 4, 5, 6, 7, 8, 9, 10, 11, 12, 13, 14, 15, 16, 17, 18, 19] rfl) hk hx13 hx12 hx14 hx15 hx16 hv hx18 (by omega)
        · have c36 := hx18.ne c36
          have hvv_ : x17.toInt = ((vK (sM st) f k : Nat) : Int) := hv.1 c36
          have hl5_ : vK (sM st) f k < 5 := fT_lt0 hP hf c36
          have hodd_ : ((0 < pA (sM st) f ∧ k / 25 = 4) ∨ (1 < pA (sM st) f ∧ k / 5 % 5 = 4) ∨ (2 < pA (sM st) f ∧ k % 5 = 4)) → pK (sM st) f % 2 = 1 → vK (sM st) f k = 4 := fun a_ b_ => fT_odd hP hf c36 b_ a_
          have hhalf_ : pK (sM st) f = 2 → 0 < pA (sM st) f → k / 25 = 4 → vK (sM st) f k = 4 := fun a_ b_ c_ => fT_half c36 a_ b_ c_
          refine lv_iload hx hb dL_law_251 (lv_at hl 18 rfl) ?_
          refine lv_if_lt (tgt := 307) hx hb dL_law_253 (by decide) (fun c38 => ?_) (fun c38 => ?_)
          · have c38 : x17.toInt < (0 : Int) := (i_lt (rfl : x17.toInt = x17.toInt) (rfl : (0 : Int32).toInt = 0)).mp c38
            exfalso; omega
          · have c38 : ¬ (x17.toInt < (0 : Int)) := fun q => c38 ((i_lt (rfl : x17.toInt = x17.toInt) (rfl : (0 : Int32).toInt = 0)).mpr q)
            refine lv_iload hx hb dL_law_256 (lv_at hl 18 rfl) ?_
            refine lv_iconst (v := 5) hx hb dL_law_258 (by decide) ?_
            refine lv_icmp_ge (tgt := 307) hx hb dL_law_259 (by decide) (fun c39 => ?_) (fun c39 => ?_)
            · have c39 : ((5 : Nat) : Int) ≤ x17.toInt := (i_le (by decide : (5 : Int32).toInt = ((5 : Nat) : Int)) (rfl : x17.toInt = x17.toInt)).mp c39
              exfalso; omega
            · have c39 : ¬ (((5 : Nat) : Int) ≤ x17.toInt) := fun q => c39 ((i_le (by decide : (5 : Int32).toInt = ((5 : Nat) : Int)) (rfl : x17.toInt = x17.toInt)).mpr q)
              refine lv_iload hx hb dL_law_262 (lv_at hl 12 rfl) ?_
              refine lv_iconst (v := 2) hx hb dL_law_264 (by decide) ?_
              refine lv_irem hx hb dL_law_265 (fun q => absurd ((i_eq (by decide : (2 : Int32).toInt = ((2 : Nat) : Int)) (by decide : (0 : Int32).toInt = (0 : Int))).mp q) (by omega)) ?_
              refine lv_topi (fun y40 ey40 => ?_)
              have ty40 : y40.toInt = ((((pK (sM st) f) % 2) : Nat) : Int) := i_remN ey40 hx11 (by decide : (2 : Int32).toInt = ((2 : Nat) : Int)) (by omega)
              refine lv_if_eq (tgt := 280) hx hb dL_law_266 (by decide) (fun c41 => ?_) (fun c41 => ?_)
              · have c41 : ((((pK (sM st) f) % 2) : Nat) : Int) = (0 : Int) := (i_eq ty40 (rfl : (0 : Int32).toInt = 0)).mp c41
                refine lv_iload hx hb dL_law_280 (lv_at hl 12 rfl) ?_
                refine lv_iconst (v := 2) hx hb dL_law_282 (by decide) ?_
                refine lv_icmp_ne (tgt := 303) hx hb dL_law_283 (by decide) (fun c42 => ?_) (fun c42 => ?_)
                · have c42 : ¬ ((((pK (sM st) f) : Nat) : Int) = ((2 : Nat) : Int)) := fun q => c42 ((i_eq hx11 (by decide : (2 : Int32).toInt = ((2 : Nat) : Int))).mpr q)
                  refine lv_iconst (v := 1) hx hb dL_law_303 (by decide) ?_
                  refine lv_goto (tgt := 322) hx hb dL_law_304 (by decide) ?_
                  exact ih322 k x12 x13 x14 x15 x16 x17 x18 _ _ _ _ I (lv_sub hl [1, 2, 3, 4, 5, 6, 7, 8, 9, 10, 11, 12, 13, 14, 15, 16, 17, 18, 19] rfl) hk hx13 hx12 hx14 hx15 hx16 hv hx18 (by omega)
                · have c42 : (((pK (sM st) f) : Nat) : Int) = ((2 : Nat) : Int) := (i_eq hx11 (by decide : (2 : Int32).toInt = ((2 : Nat) : Int))).mp c42
                  refine lv_iload hx hb dL_law_286 (lv_at hl 11 rfl) ?_
                  refine lv_if_eq (tgt := 303) hx hb dL_law_288 (by decide) (fun c43 => ?_) (fun c43 => ?_)
                  · have c43 : (((pA (sM st) f) : Nat) : Int) = (0 : Int) := (i_eq hx10 (rfl : (0 : Int32).toInt = 0)).mp c43
                    refine lv_iconst (v := 1) hx hb dL_law_303 (by decide) ?_
                    refine lv_goto (tgt := 322) hx hb dL_law_304 (by decide) ?_
                    exact ih322 k x12 x13 x14 x15 x16 x17 x18 _ _ _ _ I (lv_sub hl [1, 2, 3, 4, 5, 6, 7, 8, 9, 10, 11, 12, 13, 14, 15, 16, 17, 18, 19] rfl) hk hx13 hx12 hx14 hx15 hx16 hv hx18 (by omega)
                  · have c43 : ¬ ((((pA (sM st) f) : Nat) : Int) = (0 : Int)) := fun q => c43 ((i_eq hx10 (rfl : (0 : Int32).toInt = 0)).mpr q)
                    refine lv_iload hx hb dL_law_291 (lv_at hl 15 rfl) ?_
                    refine lv_iconst (v := 4) hx hb dL_law_293 (by decide) ?_
                    refine lv_icmp_lt (tgt := 303) hx hb dL_law_294 (by decide) (fun c44 => ?_) (fun c44 => ?_)
                    · have c44 : (((k / 25) : Nat) : Int) < ((4 : Nat) : Int) := (i_lt hx14 (by decide : (4 : Int32).toInt = ((4 : Nat) : Int))).mp c44
                      refine lv_iconst (v := 1) hx hb dL_law_303 (by decide) ?_
                      refine lv_goto (tgt := 322) hx hb dL_law_304 (by decide) ?_
                      exact ih322 k x12 x13 x14 x15 x16 x17 x18 _ _ _ _ I (lv_sub hl [1, 2, 3, 4, 5, 6, 7, 8, 9, 10, 11, 12, 13, 14, 15, 16, 17, 18, 19] rfl) hk hx13 hx12 hx14 hx15 hx16 hv hx18 (by omega)
                    · have c44 : ¬ ((((k / 25) : Nat) : Int) < ((4 : Nat) : Int)) := fun q => c44 ((i_lt hx14 (by decide : (4 : Int32).toInt = ((4 : Nat) : Int))).mpr q)
                      refine lv_iload hx hb dL_law_297 (lv_at hl 18 rfl) ?_
                      refine lv_iconst (v := 4) hx hb dL_law_299 (by decide) ?_
                      refine lv_icmp_ne (tgt := 307) hx hb dL_law_300 (by decide) (fun c45 => ?_) (fun c45 => ?_)
                      · have c45 : ¬ (x17.toInt = ((4 : Nat) : Int)) := fun q => c45 ((i_eq (rfl : x17.toInt = x17.toInt) (by decide : (4 : Int32).toInt = ((4 : Nat) : Int))).mpr q)
                        exfalso; (have z_ := hhalf_ (by omega) (by omega) (by omega)); omega
                      · have c45 : x17.toInt = ((4 : Nat) : Int) := (i_eq (rfl : x17.toInt = x17.toInt) (by decide : (4 : Int32).toInt = ((4 : Nat) : Int))).mp c45
                        refine lv_iconst (v := 1) hx hb dL_law_303 (by decide) ?_
                        refine lv_goto (tgt := 322) hx hb dL_law_304 (by decide) ?_
                        exact ih322 k x12 x13 x14 x15 x16 x17 x18 _ _ _ _ I (lv_sub hl [1, 2, 3, 4, 5, 6, 7, 8, 9, 10, 11, 12, 13, 14, 15, 16, 17, 18, 19] rfl) hk hx13 hx12 hx14 hx15 hx16 hv hx18 (by omega)
              · have c41 : ¬ (((((pK (sM st) f) % 2) : Nat) : Int) = (0 : Int)) := fun q => c41 ((i_eq ty40 (rfl : (0 : Int32).toInt = 0)).mpr q)
                refine lv_iload hx hb dL_law_269 (lv_at hl 0 rfl) ?_
                refine lv_if_eq (tgt := 280) hx hb dL_law_271 (by decide) (fun c46 => ?_) (fun c46 => ?_)
                · have c46 := ht19.eq c46
                  refine lv_iload hx hb dL_law_280 (lv_at hl 12 rfl) ?_
                  refine lv_iconst (v := 2) hx hb dL_law_282 (by decide) ?_
                  refine lv_icmp_ne (tgt := 303) hx hb dL_law_283 (by decide) (fun c47 => ?_) (fun c47 => ?_)
                  · have c47 : ¬ ((((pK (sM st) f) : Nat) : Int) = ((2 : Nat) : Int)) := fun q => c47 ((i_eq hx11 (by decide : (2 : Int32).toInt = ((2 : Nat) : Int))).mpr q)
                    refine lv_iconst (v := 1) hx hb dL_law_303 (by decide) ?_
                    refine lv_goto (tgt := 322) hx hb dL_law_304 (by decide) ?_
                    exact ih322 k x12 x13 x14 x15 x16 x17 x18 _ _ _ _ I (lv_sub hl [1, 2, 3, 4, 5, 6, 7, 8, 9, 10, 11, 12, 13, 14, 15, 16, 17, 18, 19] rfl) hk hx13 hx12 hx14 hx15 hx16 hv hx18 (by omega)
                  · have c47 : (((pK (sM st) f) : Nat) : Int) = ((2 : Nat) : Int) := (i_eq hx11 (by decide : (2 : Int32).toInt = ((2 : Nat) : Int))).mp c47
                    refine lv_iload hx hb dL_law_286 (lv_at hl 11 rfl) ?_
                    refine lv_if_eq (tgt := 303) hx hb dL_law_288 (by decide) (fun c48 => ?_) (fun c48 => ?_)
                    · have c48 : (((pA (sM st) f) : Nat) : Int) = (0 : Int) := (i_eq hx10 (rfl : (0 : Int32).toInt = 0)).mp c48
                      refine lv_iconst (v := 1) hx hb dL_law_303 (by decide) ?_
                      refine lv_goto (tgt := 322) hx hb dL_law_304 (by decide) ?_
                      exact ih322 k x12 x13 x14 x15 x16 x17 x18 _ _ _ _ I (lv_sub hl [1, 2, 3, 4, 5, 6, 7, 8, 9, 10, 11, 12, 13, 14, 15, 16, 17, 18, 19] rfl) hk hx13 hx12 hx14 hx15 hx16 hv hx18 (by omega)
                    · have c48 : ¬ ((((pA (sM st) f) : Nat) : Int) = (0 : Int)) := fun q => c48 ((i_eq hx10 (rfl : (0 : Int32).toInt = 0)).mpr q)
                      refine lv_iload hx hb dL_law_291 (lv_at hl 15 rfl) ?_
                      refine lv_iconst (v := 4) hx hb dL_law_293 (by decide) ?_
                      refine lv_icmp_lt (tgt := 303) hx hb dL_law_294 (by decide) (fun c49 => ?_) (fun c49 => ?_)
                      · have c49 : (((k / 25) : Nat) : Int) < ((4 : Nat) : Int) := (i_lt hx14 (by decide : (4 : Int32).toInt = ((4 : Nat) : Int))).mp c49
                        refine lv_iconst (v := 1) hx hb dL_law_303 (by decide) ?_
                        refine lv_goto (tgt := 322) hx hb dL_law_304 (by decide) ?_
                        exact ih322 k x12 x13 x14 x15 x16 x17 x18 _ _ _ _ I (lv_sub hl [1, 2, 3, 4, 5, 6, 7, 8, 9, 10, 11, 12, 13, 14, 15, 16, 17, 18, 19] rfl) hk hx13 hx12 hx14 hx15 hx16 hv hx18 (by omega)
                      · have c49 : ¬ ((((k / 25) : Nat) : Int) < ((4 : Nat) : Int)) := fun q => c49 ((i_lt hx14 (by decide : (4 : Int32).toInt = ((4 : Nat) : Int))).mpr q)
                        refine lv_iload hx hb dL_law_297 (lv_at hl 18 rfl) ?_
                        refine lv_iconst (v := 4) hx hb dL_law_299 (by decide) ?_
                        refine lv_icmp_ne (tgt := 307) hx hb dL_law_300 (by decide) (fun c50 => ?_) (fun c50 => ?_)
                        · have c50 : ¬ (x17.toInt = ((4 : Nat) : Int)) := fun q => c50 ((i_eq (rfl : x17.toInt = x17.toInt) (by decide : (4 : Int32).toInt = ((4 : Nat) : Int))).mpr q)
                          exfalso; (have z_ := hhalf_ (by omega) (by omega) (by omega)); omega
                        · have c50 : x17.toInt = ((4 : Nat) : Int) := (i_eq (rfl : x17.toInt = x17.toInt) (by decide : (4 : Int32).toInt = ((4 : Nat) : Int))).mp c50
                          refine lv_iconst (v := 1) hx hb dL_law_303 (by decide) ?_
                          refine lv_goto (tgt := 322) hx hb dL_law_304 (by decide) ?_
                          exact ih322 k x12 x13 x14 x15 x16 x17 x18 _ _ _ _ I (lv_sub hl [1, 2, 3, 4, 5, 6, 7, 8, 9, 10, 11, 12, 13, 14, 15, 16, 17, 18, 19] rfl) hk hx13 hx12 hx14 hx15 hx16 hv hx18 (by omega)
                · have c46 := ht19.ne c46
                  refine lv_iload hx hb dL_law_274 (lv_at hl 18 rfl) ?_
                  refine lv_iconst (v := 4) hx hb dL_law_276 (by decide) ?_
                  refine lv_icmp_ne (tgt := 307) hx hb dL_law_277 (by decide) (fun c51 => ?_) (fun c51 => ?_)
                  · have c51 : ¬ (x17.toInt = ((4 : Nat) : Int)) := fun q => c51 ((i_eq (rfl : x17.toInt = x17.toInt) (by decide : (4 : Int32).toInt = ((4 : Nat) : Int))).mpr q)
                    exfalso; (have z_ := hodd_ c46 (by omega)); omega
                  · have c51 : x17.toInt = ((4 : Nat) : Int) := (i_eq (rfl : x17.toInt = x17.toInt) (by decide : (4 : Int32).toInt = ((4 : Nat) : Int))).mp c51
                    refine lv_iload hx hb dL_law_280 (lv_at hl 12 rfl) ?_
                    refine lv_iconst (v := 2) hx hb dL_law_282 (by decide) ?_
                    refine lv_icmp_ne (tgt := 303) hx hb dL_law_283 (by decide) (fun c52 => ?_) (fun c52 => ?_)
                    · have c52 : ¬ ((((pK (sM st) f) : Nat) : Int) = ((2 : Nat) : Int)) := fun q => c52 ((i_eq hx11 (by decide : (2 : Int32).toInt = ((2 : Nat) : Int))).mpr q)
                      refine lv_iconst (v := 1) hx hb dL_law_303 (by decide) ?_
                      refine lv_goto (tgt := 322) hx hb dL_law_304 (by decide) ?_
                      exact ih322 k x12 x13 x14 x15 x16 x17 x18 _ _ _ _ I (lv_sub hl [1, 2, 3, 4, 5, 6, 7, 8, 9, 10, 11, 12, 13, 14, 15, 16, 17, 18, 19] rfl) hk hx13 hx12 hx14 hx15 hx16 hv hx18 (by omega)
                    · have c52 : (((pK (sM st) f) : Nat) : Int) = ((2 : Nat) : Int) := (i_eq hx11 (by decide : (2 : Int32).toInt = ((2 : Nat) : Int))).mp c52
                      refine lv_iload hx hb dL_law_286 (lv_at hl 11 rfl) ?_
                      refine lv_if_eq (tgt := 303) hx hb dL_law_288 (by decide) (fun c53 => ?_) (fun c53 => ?_)
                      · have c53 : (((pA (sM st) f) : Nat) : Int) = (0 : Int) := (i_eq hx10 (rfl : (0 : Int32).toInt = 0)).mp c53
                        refine lv_iconst (v := 1) hx hb dL_law_303 (by decide) ?_
                        refine lv_goto (tgt := 322) hx hb dL_law_304 (by decide) ?_
                        exact ih322 k x12 x13 x14 x15 x16 x17 x18 _ _ _ _ I (lv_sub hl [1, 2, 3, 4, 5, 6, 7, 8, 9, 10, 11, 12, 13, 14, 15, 16, 17, 18, 19] rfl) hk hx13 hx12 hx14 hx15 hx16 hv hx18 (by omega)
                      · have c53 : ¬ ((((pA (sM st) f) : Nat) : Int) = (0 : Int)) := fun q => c53 ((i_eq hx10 (rfl : (0 : Int32).toInt = 0)).mpr q)
                        refine lv_iload hx hb dL_law_291 (lv_at hl 15 rfl) ?_
                        refine lv_iconst (v := 4) hx hb dL_law_293 (by decide) ?_
                        refine lv_icmp_lt (tgt := 303) hx hb dL_law_294 (by decide) (fun c54 => ?_) (fun c54 => ?_)
                        · have c54 : (((k / 25) : Nat) : Int) < ((4 : Nat) : Int) := (i_lt hx14 (by decide : (4 : Int32).toInt = ((4 : Nat) : Int))).mp c54
                          refine lv_iconst (v := 1) hx hb dL_law_303 (by decide) ?_
                          refine lv_goto (tgt := 322) hx hb dL_law_304 (by decide) ?_
                          exact ih322 k x12 x13 x14 x15 x16 x17 x18 _ _ _ _ I (lv_sub hl [1, 2, 3, 4, 5, 6, 7, 8, 9, 10, 11, 12, 13, 14, 15, 16, 17, 18, 19] rfl) hk hx13 hx12 hx14 hx15 hx16 hv hx18 (by omega)
                        · have c54 : ¬ ((((k / 25) : Nat) : Int) < ((4 : Nat) : Int)) := fun q => c54 ((i_lt hx14 (by decide : (4 : Int32).toInt = ((4 : Nat) : Int))).mpr q)
                          refine lv_iload hx hb dL_law_297 (lv_at hl 18 rfl) ?_
                          refine lv_iconst (v := 4) hx hb dL_law_299 (by decide) ?_
                          refine lv_icmp_ne (tgt := 307) hx hb dL_law_300 (by decide) (fun c55 => ?_) (fun c55 => ?_)
                          · have c55 : ¬ (x17.toInt = ((4 : Nat) : Int)) := fun q => c55 ((i_eq (rfl : x17.toInt = x17.toInt) (by decide : (4 : Int32).toInt = ((4 : Nat) : Int))).mpr q)
                            exfalso; (have z_ := hhalf_ (by omega) (by omega) (by omega)); omega
                          · have c55 : x17.toInt = ((4 : Nat) : Int) := (i_eq (rfl : x17.toInt = x17.toInt) (by decide : (4 : Int32).toInt = ((4 : Nat) : Int))).mp c55
                            refine lv_iconst (v := 1) hx hb dL_law_303 (by decide) ?_
                            refine lv_goto (tgt := 322) hx hb dL_law_304 (by decide) ?_
                            exact ih322 k x12 x13 x14 x15 x16 x17 x18 _ _ _ _ I (lv_sub hl [1, 2, 3, 4, 5, 6, 7, 8, 9, 10, 11, 12, 13, 14, 15, 16, 17, 18, 19] rfl) hk hx13 hx12 hx14 hx15 hx16 hv hx18 (by omega)
      · intro k x12 x13 x14 x15 x16 x17 x18 h H locs ls I hl hk hx13 hx12 hx14 hx15 hx16 hv hx18 hN_
        refine lv_istore (lv' := [(7, .int 1), (0, .ref b), (1, .ref (g.2.2.1 0)), (2, .ref (g.2.2.1 143)), (3, .ref (g.2.2.1 144)), (4, .int x4), (5, .int x5), (6, .int x6), (8, .int x8), (9, .int x9), (10, .int x10), (11, .int x11), (12, .int x12), (13, .int x13), (14, .int x14), (15, .int x15), (16, .int x16), (17, .int x17), (18, .int x18)]) hx hb dL_law_322 hl (by decide) rfl (fun ls hl => ?_)
        refine lv_iload hx hb dL_law_324 (lv_at hl 12 rfl) ?_
        refine lv_if_eq (tgt := 344) hx hb dL_law_326 (by decide) (fun c56 => ?_) (fun c56 => ?_)
        · have c56 := hx12.eq c56
          refine lv_iconst (v := 0) hx hb dL_law_344 (by decide) ?_
          exact ih345 k x12 x13 x14 x15 x16 x17 x18 0 _ _ _ _ I (lv_sub hl [1, 2, 3, 4, 5, 6, 7, 0, 8, 9, 10, 11, 12, 13, 14, 15, 16, 17, 18] rfl) hk hx13 hx12 hx14 hx15 hx16 hv hx18 (Bq.f (AllN.no c56)) (by omega)
        · have c56 := hx12.ne c56
          refine lv_iload hx hb dL_law_329 (lv_at hl 18 rfl) ?_
          refine lv_if_eq (tgt := 340) hx hb dL_law_331 (by decide) (fun c57 => ?_) (fun c57 => ?_)
          · have c57 := hx18.eq c57
            refine lv_iconst (v := 1) hx hb dL_law_340 (by decide) ?_
            refine lv_goto (tgt := 345) hx hb dL_law_341 (by decide) ?_
            exact ih345 k x12 x13 x14 x15 x16 x17 x18 1 _ _ _ _ I (lv_sub hl [1, 2, 3, 4, 5, 6, 7, 0, 8, 9, 10, 11, 12, 13, 14, 15, 16, 17, 18] rfl) hk hx13 hx12 hx14 hx15 hx16 hv hx18 (Bq.t ((AllN.up c56).mpr (fun q_ => absurd q_ c57))) (by omega)
          · have c57 := hx18.ne c57
            refine lv_iload hx hb dL_law_334 (lv_at hl 17 rfl) ?_
            refine lv_iconst (v := 4) hx hb dL_law_336 (by decide) ?_
            refine lv_icmp_ne (tgt := 344) hx hb dL_law_337 (by decide) (fun c58 => ?_) (fun c58 => ?_)
            · have c58 : ¬ (x17.toInt = ((4 : Nat) : Int)) := fun q => c58 ((i_eq (rfl : x17.toInt = x17.toInt) (by decide : (4 : Int32).toInt = ((4 : Nat) : Int))).mpr q)
              refine lv_iconst (v := 0) hx hb dL_law_344 (by decide) ?_
              exact ih345 k x12 x13 x14 x15 x16 x17 x18 0 _ _ _ _ I (lv_sub hl [1, 2, 3, 4, 5, 6, 7, 0, 8, 9, 10, 11, 12, 13, 14, 15, 16, 17, 18] rfl) hk hx13 hx12 hx14 hx15 hx16 hv hx18 (Bq.f (fun q_ => by have z_ := (AllN.up c56).mp q_ c57; have z2_ := hv.1 c57; omega)) (by omega)
            · have c58 : x17.toInt = ((4 : Nat) : Int) := (i_eq (rfl : x17.toInt = x17.toInt) (by decide : (4 : Int32).toInt = ((4 : Nat) : Int))).mp c58
              refine lv_iconst (v := 1) hx hb dL_law_340 (by decide) ?_
              refine lv_goto (tgt := 345) hx hb dL_law_341 (by decide) ?_
              exact ih345 k x12 x13 x14 x15 x16 x17 x18 1 _ _ _ _ I (lv_sub hl [1, 2, 3, 4, 5, 6, 7, 0, 8, 9, 10, 11, 12, 13, 14, 15, 16, 17, 18] rfl) hk hx13 hx12 hx14 hx15 hx16 hv hx18 (Bq.t ((AllN.up c56).mpr (fun _ => by have z_ := hv.1 c57; omega))) (by omega)
      · intro k x12 x13 x14 x15 x16 x17 x18 t12 h H locs ls I hl hk hx13 hx12 hx14 hx15 hx16 hv hx18 ht12 hN_
        refine lv_istore (lv' := [(12, .int t12), (0, .ref b), (1, .ref (g.2.2.1 0)), (2, .ref (g.2.2.1 143)), (3, .ref (g.2.2.1 144)), (4, .int x4), (5, .int x5), (6, .int x6), (7, .int 1), (8, .int x8), (9, .int x9), (10, .int x10), (11, .int x11), (13, .int x13), (14, .int x14), (15, .int x15), (16, .int x16), (17, .int x17), (18, .int x18)]) hx hb dL_law_345 hl (by decide) rfl (fun ls hl => ?_)
        refine lv_iload hx hb dL_law_347 (lv_at hl 18 rfl) ?_
        refine lv_if_eq (tgt := 473) hx hb dL_law_349 (by decide) (fun c59 => ?_) (fun c59 => ?_)
        · have c59 := hx18.eq c59
          obtain ⟨y60, ey60⟩ : ∃ y : Int32, y = x13 + (1) := ⟨_, rfl⟩
          have ty60 : y60.toInt = (((k + 1) : Nat) : Int) := i_addN ey60 hx13 (by decide : (1 : Int32).toInt = ((1 : Nat) : Int)) (by omega)
          refine lv_iinc (v := y60) (lv' := [(13, .int y60), (12, .int t12), (0, .ref b), (1, .ref (g.2.2.1 0)), (2, .ref (g.2.2.1 143)), (3, .ref (g.2.2.1 144)), (4, .int x4), (5, .int x5), (6, .int x6), (7, .int 1), (8, .int x8), (9, .int x9), (10, .int x10), (11, .int x11), (14, .int x14), (15, .int x15), (16, .int x16), (17, .int x17), (18, .int x18)]) hx hb dL_law_473 hl (k := 13) rfl (by rw [ey60]; rfl) (by decide) rfl (fun ls hl => ?_)
          refine lv_goto (tgt := 118) hx hb dL_law_476 (by decide) ?_
          exact ih118 (k + 1) t12 y60 _ _ _ _ I (lv_sub hl [2, 3, 4, 5, 6, 7, 8, 9, 10, 11, 12, 13, 1, 0] rfl) (by omega) ty60 ht12 (by omega)
        · have c59 := hx18.ne c59
          have hq_ : isQ (sM st) f k := c59
          have hv17_ : x17.toInt = ((vK (sM st) f k : Nat) : Int) := hv.1 hq_
          refine lv_iload hx hb dL_law_352 (lv_at hl 17 rfl) ?_
          refine lv_iconst (v := 4) hx hb dL_law_354 (by decide) ?_
          refine lv_icmp_ge (tgt := 473) hx hb dL_law_355 (by decide) (fun c61 => ?_) (fun c61 => ?_)
          · have c61 : ((4 : Nat) : Int) ≤ x17.toInt := (i_le (by decide : (4 : Int32).toInt = ((4 : Nat) : Int)) (rfl : x17.toInt = x17.toInt)).mp c61
            obtain ⟨y62, ey62⟩ : ∃ y : Int32, y = x13 + (1) := ⟨_, rfl⟩
            have ty62 : y62.toInt = (((k + 1) : Nat) : Int) := i_addN ey62 hx13 (by decide : (1 : Int32).toInt = ((1 : Nat) : Int)) (by omega)
            refine lv_iinc (v := y62) (lv' := [(13, .int y62), (12, .int t12), (0, .ref b), (1, .ref (g.2.2.1 0)), (2, .ref (g.2.2.1 143)), (3, .ref (g.2.2.1 144)), (4, .int x4), (5, .int x5), (6, .int x6), (7, .int 1), (8, .int x8), (9, .int x9), (10, .int x10), (11, .int x11), (14, .int x14), (15, .int x15), (16, .int x16), (17, .int x17), (18, .int x18)]) hx hb dL_law_473 hl (k := 13) rfl (by rw [ey62]; rfl) (by decide) rfl (fun ls hl => ?_)
            refine lv_goto (tgt := 118) hx hb dL_law_476 (by decide) ?_
            exact ih118 (k + 1) t12 y62 _ _ _ _ I (lv_sub hl [2, 3, 4, 5, 6, 7, 8, 9, 10, 11, 12, 13, 1, 0] rfl) (by omega) ty62 ht12 (by omega)
          · have c61 : ¬ (((4 : Nat) : Int) ≤ x17.toInt) := fun q => c61 ((i_le (by decide : (4 : Int32).toInt = ((4 : Nat) : Int)) (rfl : x17.toInt = x17.toInt)).mpr q)
            have hv4_ : vK (sM st) f k < 4 := by omega
            refine lv_iload hx hb dL_law_358 (lv_at hl 8 rfl) ?_
            refine lv_if_eq (tgt := 470) hx hb dL_law_360 (by decide) (fun c63 => ?_) (fun c63 => ?_)
            · have c63 : ((1 : Nat) : Int) = (0 : Int) := (i_eq (by decide : (1 : Int32).toInt = ((1 : Nat) : Int)) (rfl : (0 : Int32).toInt = 0)).mp c63
              exfalso; omega
            · have c63 : ¬ (((1 : Nat) : Int) = (0 : Int)) := fun q => c63 ((i_eq (by decide : (1 : Int32).toInt = ((1 : Nat) : Int)) (rfl : (0 : Int32).toInt = 0)).mpr q)
              refine lv_iload hx hb dL_law_363 (lv_at hl 11 rfl) ?_
              refine lv_iconst (v := 1) hx hb dL_law_365 (by decide) ?_
              refine lv_icmp_lt (tgt := 396) hx hb dL_law_366 (by decide) (fun c64 => ?_) (fun c64 => ?_)
              · have c64 : (((pA (sM st) f) : Nat) : Int) < ((1 : Nat) : Int) := (i_lt hx10 (by decide : (1 : Int32).toInt = ((1 : Nat) : Int))).mp c64
                exact ih396 k t12 x13 x14 x15 x16 x17 x18 _ _ _ _ I (lv_sub hl [1, 2, 3, 4, 5, 6, 7, 8, 9, 10, 11, 12, 0, 13, 14, 15, 16, 17, 18] rfl) hk hx13 ht12 hx14 hx15 hx16 hq_ hv17_ hv4_ (by omega)
              · have c64 : ¬ ((((pA (sM st) f) : Nat) : Int) < ((1 : Nat) : Int)) := fun q => c64 ((i_lt hx10 (by decide : (1 : Int32).toInt = ((1 : Nat) : Int))).mpr q)
                refine lv_iload hx hb dL_law_369 (lv_at hl 14 rfl) ?_
                refine lv_iconst (v := 4) hx hb dL_law_371 (by decide) ?_
                refine lv_icmp_lt (tgt := 396) hx hb dL_law_372 (by decide) (fun c65 => ?_) (fun c65 => ?_)
                · have c65 : (((k / 25) : Nat) : Int) < ((4 : Nat) : Int) := (i_lt hx14 (by decide : (4 : Int32).toInt = ((4 : Nat) : Int))).mp c65
                  exact ih396 k t12 x13 x14 x15 x16 x17 x18 _ _ _ _ I (lv_sub hl [1, 2, 3, 4, 5, 6, 7, 8, 9, 10, 11, 12, 0, 13, 14, 15, 16, 17, 18] rfl) hk hx13 ht12 hx14 hx15 hx16 hq_ hv17_ hv4_ (by omega)
                · have c65 : ¬ ((((k / 25) : Nat) : Int) < ((4 : Nat) : Int)) := fun q => c65 ((i_lt hx14 (by decide : (4 : Int32).toInt = ((4 : Nat) : Int))).mpr q)
                  refine lv_aload_n hx hb dL_law_375 rfl (lv_at hl 2 rfl) ?_
                  refine lv_iload hx hb dL_law_376 (lv_at hl 10 rfl) ?_
                  refine lv_iload hx hb dL_law_378 (lv_at hl 6 rfl) ?_
                  refine lv_iconst (v := 4) hx hb dL_law_380 (by decide) ?_
                  refine lk_low C I hl.1 (by decide : (4 : Int32).toInt = ((4 : Nat) : Int)) (by omega) (Nat.le_of_ble_eq_true rfl) dL_law_381 (fun r66 H locs I tr66 => ?_)
                  have hlt_r66 := lowF_lt (v := x5) (n := 4) (by omega)
                  refine lv_iload hx hb dL_law_384 (lv_at hl 15 rfl) ?_
                  refine lv_iload hx hb dL_law_386 (lv_at hl 16 rfl) ?_
                  refine lk_value C I hl.1 (Nat.le_of_ble_eq_true rfl) dL_law_388 (fun r67 h H locs I A67 => ?_)
                  have hz_ := (mIs_0 (by omega) (by omega) (by omega)).mp hq_
                  have hm_ : mIs 0 (pA (sM st) f) (lowF x5 4) (k / 5 % 5) (k % 5) := (mIs_0 (by omega) (by omega) (by omega)).mpr (by omega)
                  have he_ := fT_more hP hf hq_ hm_ (Or.inl (by omega)) (Or.inr rfl) (Or.inr rfl) (by show vK (sM st) f k ≠ 4; omega)
                  have tr67 : r67.toInt = ((vK (sM st) f k : Nat) : Int) := ((tab_at A67 hP hf hx9 tr66 hx15 hx16).1 hm_).trans (by rw [he_]; rfl)
                  refine lv_iload hx hb dL_law_391 (lv_at hl 17 rfl) ?_
                  refine lv_icmp_ne (tgt := 470) hx hb dL_law_393 (by decide) (fun c68 => ?_) (fun c68 => ?_)
                  · have c68 : ¬ ((((vK (sM st) f k) : Nat) : Int) = x17.toInt) := fun q => c68 ((i_eq tr67 (rfl : x17.toInt = x17.toInt)).mpr q)
                    exfalso; omega
                  · have c68 : (((vK (sM st) f k) : Nat) : Int) = x17.toInt := (i_eq tr67 (rfl : x17.toInt = x17.toInt)).mp c68
                    exact ih396 k t12 x13 x14 x15 x16 x17 x18 _ _ _ _ I (lv_sub hl [1, 2, 3, 4, 5, 6, 7, 8, 9, 10, 11, 12, 0, 13, 14, 15, 16, 17, 18] rfl) hk hx13 ht12 hx14 hx15 hx16 hq_ hv17_ hv4_ (by omega)
      · intro k x12 x13 x14 x15 x16 x17 x18 h H locs ls I hl hk hx13 hx12 hx14 hx15 hx16 hq hv17 hv4 hN_
        refine lv_iload hx hb dL_law_396 (lv_at hl 10 rfl) ?_
        refine lv_iconst (v := 2) hx hb dL_law_398 (by decide) ?_
        refine lv_icmp_lt (tgt := 431) hx hb dL_law_399 (by decide) (fun c69 => ?_) (fun c69 => ?_)
        · have c69 : (((pA (sM st) f) : Nat) : Int) < ((2 : Nat) : Int) := (i_lt hx10 (by decide : (2 : Int32).toInt = ((2 : Nat) : Int))).mp c69
          exact ih431 k x12 x13 x14 x15 x16 x17 x18 _ _ _ _ I (lv_sub hl [0, 1, 2, 3, 4, 5, 6, 7, 8, 9, 10, 11, 12, 13, 14, 15, 16, 17, 18] rfl) hk hx13 hx12 hx14 hx15 hx16 hq hv17 hv4 (by omega)
        · have c69 : ¬ ((((pA (sM st) f) : Nat) : Int) < ((2 : Nat) : Int)) := fun q => c69 ((i_lt hx10 (by decide : (2 : Int32).toInt = ((2 : Nat) : Int))).mpr q)
          refine lv_iload hx hb dL_law_402 (lv_at hl 15 rfl) ?_
          refine lv_iconst (v := 4) hx hb dL_law_404 (by decide) ?_
          refine lv_icmp_lt (tgt := 431) hx hb dL_law_405 (by decide) (fun c70 => ?_) (fun c70 => ?_)
          · have c70 : (((k / 5 % 5) : Nat) : Int) < ((4 : Nat) : Int) := (i_lt hx15 (by decide : (4 : Int32).toInt = ((4 : Nat) : Int))).mp c70
            exact ih431 k x12 x13 x14 x15 x16 x17 x18 _ _ _ _ I (lv_sub hl [0, 1, 2, 3, 4, 5, 6, 7, 8, 9, 10, 11, 12, 13, 14, 15, 16, 17, 18] rfl) hk hx13 hx12 hx14 hx15 hx16 hq hv17 hv4 (by omega)
          · have c70 : ¬ ((((k / 5 % 5) : Nat) : Int) < ((4 : Nat) : Int)) := fun q => c70 ((i_lt hx15 (by decide : (4 : Int32).toInt = ((4 : Nat) : Int))).mpr q)
            refine lv_aload_n hx hb dL_law_408 rfl (lv_at hl 1 rfl) ?_
            refine lv_iload hx hb dL_law_409 (lv_at hl 9 rfl) ?_
            refine lv_iload hx hb dL_law_411 (lv_at hl 14 rfl) ?_
            refine lv_iload hx hb dL_law_413 (lv_at hl 5 rfl) ?_
            refine lv_iconst (v := 2) hx hb dL_law_415 (by decide) ?_
            refine lv_ishr hx hb dL_law_416 ?_
            refine lv_topi (fun y71 ey71 => ?_)
            subst ey71
            refine lv_iconst (v := 4) hx hb dL_law_417 (by decide) ?_
            refine lk_low C I hl.1 (by decide : (4 : Int32).toInt = ((4 : Nat) : Int)) (by omega) (Nat.le_of_ble_eq_true rfl) dL_law_418 (fun r72 H locs I tr72 => ?_)
            have hlt_r72 := lowF_lt (v := (x5 >>> ((2 : Int32) &&& 31))) (n := 4) (by omega)
            refine lv_iload hx hb dL_law_421 (lv_at hl 16 rfl) ?_
            refine lk_value C I hl.1 (Nat.le_of_ble_eq_true rfl) dL_law_423 (fun r73 h H locs I A73 => ?_)
            have hz_ := (mIs_0 (by omega) (by omega) (by omega)).mp hq
            have hm_ : mIs 0 (pA (sM st) f) (k / 25) (lowF ((x5 >>> ((2 : Int32) &&& 31))) 4) (k % 5) := (mIs_0 (by omega) (by omega) (by omega)).mpr (by omega)
            have he_ := fT_more hP hf hq hm_ (Or.inr rfl) (Or.inl (by omega)) (Or.inr rfl) (by show vK (sM st) f k ≠ 4; omega)
            have tr73 : r73.toInt = ((vK (sM st) f k : Nat) : Int) := ((tab_at A73 hP hf hx9 hx14 tr72 hx16).1 hm_).trans (by rw [he_]; rfl)
            refine lv_iload hx hb dL_law_426 (lv_at hl 17 rfl) ?_
            refine lv_icmp_ne (tgt := 470) hx hb dL_law_428 (by decide) (fun c74 => ?_) (fun c74 => ?_)
            · have c74 : ¬ ((((vK (sM st) f k) : Nat) : Int) = x17.toInt) := fun q => c74 ((i_eq tr73 (rfl : x17.toInt = x17.toInt)).mpr q)
              exfalso; omega
            · have c74 : (((vK (sM st) f k) : Nat) : Int) = x17.toInt := (i_eq tr73 (rfl : x17.toInt = x17.toInt)).mp c74
              exact ih431 k x12 x13 x14 x15 x16 x17 x18 _ _ _ _ I (lv_sub hl [0, 1, 2, 3, 4, 5, 6, 7, 8, 9, 10, 11, 12, 13, 14, 15, 16, 17, 18] rfl) hk hx13 hx12 hx14 hx15 hx16 hq hv17 hv4 (by omega)
      · intro k x12 x13 x14 x15 x16 x17 x18 h H locs ls I hl hk hx13 hx12 hx14 hx15 hx16 hq hv17 hv4 hN_
        refine lv_iload hx hb dL_law_431 (lv_at hl 10 rfl) ?_
        refine lv_iconst (v := 3) hx hb dL_law_433 (by decide) ?_
        refine lv_icmp_lt (tgt := 466) hx hb dL_law_434 (by decide) (fun c75 => ?_) (fun c75 => ?_)
        · have c75 : (((pA (sM st) f) : Nat) : Int) < ((3 : Nat) : Int) := (i_lt hx10 (by decide : (3 : Int32).toInt = ((3 : Nat) : Int))).mp c75
          refine lv_iconst (v := 1) hx hb dL_law_466 (by decide) ?_
          refine lv_goto (tgt := 471) hx hb dL_law_467 (by decide) ?_
          refine lv_istore (lv' := [(7, .int 1), (0, .ref b), (1, .ref (g.2.2.1 0)), (2, .ref (g.2.2.1 143)), (3, .ref (g.2.2.1 144)), (4, .int x4), (5, .int x5), (6, .int x6), (8, .int x8), (9, .int x9), (10, .int x10), (11, .int x11), (12, .int x12), (13, .int x13), (14, .int x14), (15, .int x15), (16, .int x16), (17, .int x17), (18, .int x18)]) hx hb dL_law_471 hl (by decide) rfl (fun ls hl => ?_)
          obtain ⟨y76, ey76⟩ : ∃ y : Int32, y = x13 + (1) := ⟨_, rfl⟩
          have ty76 : y76.toInt = (((k + 1) : Nat) : Int) := i_addN ey76 hx13 (by decide : (1 : Int32).toInt = ((1 : Nat) : Int)) (by omega)
          refine lv_iinc (v := y76) (lv' := [(13, .int y76), (7, .int 1), (0, .ref b), (1, .ref (g.2.2.1 0)), (2, .ref (g.2.2.1 143)), (3, .ref (g.2.2.1 144)), (4, .int x4), (5, .int x5), (6, .int x6), (8, .int x8), (9, .int x9), (10, .int x10), (11, .int x11), (12, .int x12), (14, .int x14), (15, .int x15), (16, .int x16), (17, .int x17), (18, .int x18)]) hx hb dL_law_473 hl (k := 13) rfl (by rw [ey76]; rfl) (by decide) rfl (fun ls hl => ?_)
          refine lv_goto (tgt := 118) hx hb dL_law_476 (by decide) ?_
          exact ih118 (k + 1) x12 y76 _ _ _ _ I (lv_sub hl [2, 3, 4, 5, 6, 7, 8, 1, 9, 10, 11, 12, 13, 0] rfl) (by omega) ty76 hx12 (by omega)
        · have c75 : ¬ ((((pA (sM st) f) : Nat) : Int) < ((3 : Nat) : Int)) := fun q => c75 ((i_lt hx10 (by decide : (3 : Int32).toInt = ((3 : Nat) : Int))).mpr q)
          refine lv_iload hx hb dL_law_437 (lv_at hl 16 rfl) ?_
          refine lv_iconst (v := 4) hx hb dL_law_439 (by decide) ?_
          refine lv_icmp_lt (tgt := 466) hx hb dL_law_440 (by decide) (fun c77 => ?_) (fun c77 => ?_)
          · have c77 : (((k % 5) : Nat) : Int) < ((4 : Nat) : Int) := (i_lt hx16 (by decide : (4 : Int32).toInt = ((4 : Nat) : Int))).mp c77
            refine lv_iconst (v := 1) hx hb dL_law_466 (by decide) ?_
            refine lv_goto (tgt := 471) hx hb dL_law_467 (by decide) ?_
            refine lv_istore (lv' := [(7, .int 1), (0, .ref b), (1, .ref (g.2.2.1 0)), (2, .ref (g.2.2.1 143)), (3, .ref (g.2.2.1 144)), (4, .int x4), (5, .int x5), (6, .int x6), (8, .int x8), (9, .int x9), (10, .int x10), (11, .int x11), (12, .int x12), (13, .int x13), (14, .int x14), (15, .int x15), (16, .int x16), (17, .int x17), (18, .int x18)]) hx hb dL_law_471 hl (by decide) rfl (fun ls hl => ?_)
            obtain ⟨y78, ey78⟩ : ∃ y : Int32, y = x13 + (1) := ⟨_, rfl⟩
            have ty78 : y78.toInt = (((k + 1) : Nat) : Int) := i_addN ey78 hx13 (by decide : (1 : Int32).toInt = ((1 : Nat) : Int)) (by omega)
            refine lv_iinc (v := y78) (lv' := [(13, .int y78), (7, .int 1), (0, .ref b), (1, .ref (g.2.2.1 0)), (2, .ref (g.2.2.1 143)), (3, .ref (g.2.2.1 144)), (4, .int x4), (5, .int x5), (6, .int x6), (8, .int x8), (9, .int x9), (10, .int x10), (11, .int x11), (12, .int x12), (14, .int x14), (15, .int x15), (16, .int x16), (17, .int x17), (18, .int x18)]) hx hb dL_law_473 hl (k := 13) rfl (by rw [ey78]; rfl) (by decide) rfl (fun ls hl => ?_)
            refine lv_goto (tgt := 118) hx hb dL_law_476 (by decide) ?_
            exact ih118 (k + 1) x12 y78 _ _ _ _ I (lv_sub hl [2, 3, 4, 5, 6, 7, 8, 1, 9, 10, 11, 12, 13, 0] rfl) (by omega) ty78 hx12 (by omega)
          · have c77 : ¬ ((((k % 5) : Nat) : Int) < ((4 : Nat) : Int)) := fun q => c77 ((i_lt hx16 (by decide : (4 : Int32).toInt = ((4 : Nat) : Int))).mpr q)
            refine lv_aload_n hx hb dL_law_443 rfl (lv_at hl 1 rfl) ?_
            refine lv_iload hx hb dL_law_444 (lv_at hl 9 rfl) ?_
            refine lv_iload hx hb dL_law_446 (lv_at hl 14 rfl) ?_
            refine lv_iload hx hb dL_law_448 (lv_at hl 15 rfl) ?_
            refine lv_iload hx hb dL_law_450 (lv_at hl 5 rfl) ?_
            refine lv_iconst (v := 4) hx hb dL_law_452 (by decide) ?_
            refine lv_ishr hx hb dL_law_453 ?_
            refine lv_topi (fun y79 ey79 => ?_)
            subst ey79
            refine lv_iconst (v := 4) hx hb dL_law_454 (by decide) ?_
            refine lk_low C I hl.1 (by decide : (4 : Int32).toInt = ((4 : Nat) : Int)) (by omega) (Nat.le_of_ble_eq_true rfl) dL_law_455 (fun r80 H locs I tr80 => ?_)
            have hlt_r80 := lowF_lt (v := (x5 >>> ((4 : Int32) &&& 31))) (n := 4) (by omega)
            refine lk_value C I hl.1 (Nat.le_of_ble_eq_true rfl) dL_law_458 (fun r81 h H locs I A81 => ?_)
            have hz_ := (mIs_0 (by omega) (by omega) (by omega)).mp hq
            have hm_ : mIs 0 (pA (sM st) f) (k / 25) (k / 5 % 5) (lowF ((x5 >>> ((4 : Int32) &&& 31))) 4) := (mIs_0 (by omega) (by omega) (by omega)).mpr (by omega)
            have he_ := fT_more hP hf hq hm_ (Or.inr rfl) (Or.inr rfl) (Or.inl (by omega)) (by show vK (sM st) f k ≠ 4; omega)
            have tr81 : r81.toInt = ((vK (sM st) f k : Nat) : Int) := ((tab_at A81 hP hf hx9 hx14 hx15 tr80).1 hm_).trans (by rw [he_]; rfl)
            refine lv_iload hx hb dL_law_461 (lv_at hl 17 rfl) ?_
            refine lv_icmp_ne (tgt := 470) hx hb dL_law_463 (by decide) (fun c82 => ?_) (fun c82 => ?_)
            · have c82 : ¬ ((((vK (sM st) f k) : Nat) : Int) = x17.toInt) := fun q => c82 ((i_eq tr81 (rfl : x17.toInt = x17.toInt)).mpr q)
              exfalso; omega
            · have c82 : (((vK (sM st) f k) : Nat) : Int) = x17.toInt := (i_eq tr81 (rfl : x17.toInt = x17.toInt)).mp c82
              refine lv_iconst (v := 1) hx hb dL_law_466 (by decide) ?_
              refine lv_goto (tgt := 471) hx hb dL_law_467 (by decide) ?_
              refine lv_istore (lv' := [(7, .int 1), (0, .ref b), (1, .ref (g.2.2.1 0)), (2, .ref (g.2.2.1 143)), (3, .ref (g.2.2.1 144)), (4, .int x4), (5, .int x5), (6, .int x6), (8, .int x8), (9, .int x9), (10, .int x10), (11, .int x11), (12, .int x12), (13, .int x13), (14, .int x14), (15, .int x15), (16, .int x16), (17, .int x17), (18, .int x18)]) hx hb dL_law_471 hl (by decide) rfl (fun ls hl => ?_)
              obtain ⟨y83, ey83⟩ : ∃ y : Int32, y = x13 + (1) := ⟨_, rfl⟩
              have ty83 : y83.toInt = (((k + 1) : Nat) : Int) := i_addN ey83 hx13 (by decide : (1 : Int32).toInt = ((1 : Nat) : Int)) (by omega)
              refine lv_iinc (v := y83) (lv' := [(13, .int y83), (7, .int 1), (0, .ref b), (1, .ref (g.2.2.1 0)), (2, .ref (g.2.2.1 143)), (3, .ref (g.2.2.1 144)), (4, .int x4), (5, .int x5), (6, .int x6), (8, .int x8), (9, .int x9), (10, .int x10), (11, .int x11), (12, .int x12), (14, .int x14), (15, .int x15), (16, .int x16), (17, .int x17), (18, .int x18)]) hx hb dL_law_473 hl (k := 13) rfl (by rw [ey83]; rfl) (by decide) rfl (fun ls hl => ?_)
              refine lv_goto (tgt := 118) hx hb dL_law_476 (by decide) ?_
              exact ih118 (k + 1) x12 y83 _ _ _ _ I (lv_sub hl [2, 3, 4, 5, 6, 7, 8, 1, 9, 10, 11, 12, 13, 0] rfl) (by omega) ty83 hx12 (by omega)
  obtain ⟨ih118, ih202, ih244, ih322, ih345, ih396, ih431⟩ := cuts (2000)
  exact ih118 0 1 0 _ _ _ _ I (lv_sub hl [0, 1, 2, 3, 4, 5, 6, 7, 8, 9, 10, 11, 12, 13] rfl) (Nat.zero_le _) ((by decide : (0 : Int32).toInt = ((0 : Nat) : Int))) (Bq.t AllN.z0) (by omega)
end LS
