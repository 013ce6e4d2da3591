section LS
variable {p : Program} {l : Launch} {e : Env} {s : State} {m : MethodId} {args : Array Value} {below : List Frame} {meth : Method} {c : Code} {b L : Nat} {xs : Nat → Int32} {H : Heap} {locs : List Loc} {cells slots : Nat} {g : GE} {h : Nat → va_E} {ls : Array Slot} {st : ST} {gd gb : Nat → Int32} {Q : State → Prop}
theorem wi_no {M : PRG} {f k row b7 : Nat} (h : ¬ ∃ b_, b_ < mRw 1 M f ∧ frF M f b_ = 1 ∧ sm (frF M f) b_ < k ∧ b_ &&& row = b_) (h1 : frF M f b7 = 1) (h2 : sm (frF M f) b7 = k) (h3 : ¬ b7 &&& row = b7) : ¬ ∃ b_, b_ < mRw 1 M f ∧ frF M f b_ = 1 ∧ sm (frF M f) b_ < (k + 1) ∧ b_ &&& row = b_ := by
  rintro ⟨a, a1, a2, a3, a4⟩
  rcases Nat.lt_succ_iff_lt_or_eq.mp a3 with q | q
  · exact h ⟨a, a1, a2, q, a4⟩
  · rcases Nat.lt_trichotomy a b7 with z | z | z
    · have := sm_mono (g := frF M f) (show a + 1 ≤ b7 by omega)
      rw [sm_succ, a2] at this; omega
    · rw [z] at a4; exact h3 a4
    · have := sm_mono (g := frF M f) (show b7 + 1 ≤ a by omega)
      rw [sm_succ, h1] at this; omega
theorem wi_fin {M : PRG} {f row : Nat} (hP : PV M) (hf : f < pN M) (hr : row < mRw 1 M f) : (∃ b_, b_ < mRw 1 M f ∧ frF M f b_ = 1 ∧ sm (frF M f) b_ < sm (frF M f) (mRw 1 M f) ∧ b_ &&& row = b_) ↔ fT 1 M f row = 1 := by
  rw [← fr_within hP hf hr]
  constructor
  · rintro ⟨b, b1, b2, -, b4⟩; exact ⟨b, b1, b2, b4⟩
  · rintro ⟨b, b1, b2, b4⟩
    have := sm_mono (g := frF M f) (show b + 1 ≤ mRw 1 M f by omega)
    rw [sm_succ, b2] at this
    exact ⟨b, b1, b2, by omega, b4⟩
set_option maxHeartbeats 8000000 in
set_option maxRecDepth 100000 in
theorem seg_fr (C : LwC p s m c args b L xs cells slots) (I : LI g h s st gd gb H locs) {x4 x5 x6 x8 x9 x10 x11 : Int32} {f : Nat} (hf : f < pN (sM st)) (hx6 : x6.toInt = ((pN (sM st) : Nat) : Int)) (hx8 : x8.toInt = ((sm (neF (sM st)) f : Nat) : Int)) (hx9 : x9.toInt = ((f : Nat) : Int)) (hx10 : x10.toInt = ((pA (sM st) f : Nat) : Int)) (hx11 : x11.toInt = ((pK (sM st) f : Nat) : Int)) {x12 : Int32} (hx12 : Bq x12 (AllN (sM st) f 125)) (hl : lv_has ls 20 [(0, .ref b), (1, .ref (g.2.2.1 0)), (2, .ref (g.2.2.1 143)), (3, .ref (g.2.2.1 144)), (4, .int x4), (5, .int x5), (6, .int x6), (7, .int 1), (8, .int x8), (9, .int x9), (10, .int x10), (11, .int x11), (12, .int x12)]) (K : ∀ (x8b : Int32) (x13 : Int32) (h : Nat → va_E) (H : Heap) (locs : List Loc) (ls : Array Slot), LI g h s st gd gb H locs → lv_has ls 20 [(0, .ref b), (1, .ref (g.2.2.1 0)), (2, .ref (g.2.2.1 143)), (3, .ref (g.2.2.1 144)), (4, .int x4), (5, .int x5), (6, .int x6), (7, .int 1), (8, .int x8b), (9, .int x9), (10, .int x10), (11, .int x11), (13, .int x13)] → (x8b.toInt = (((sm (neF (sM st)) (f + 1)) : Nat) : Int)) → (x13.toInt = (((sm (frF (sM st) f) (mRw 1 (sM st) f)) : Nat) : Int)) → W p l e room_1 s m args below meth c H locs cells slots Q (F0 m 611 ls [])) : W p l e room_1 s m args below meth c H locs cells slots Q (F0 m 479 ls []) := by
  obtain ⟨hx, hb, hml, hown, hts, hX, hcs⟩ := id C
  have hP := I.hP
  have hn4 := hP.2.1
  have h8_ := rows_1 hP hf
  have hFC_ := sm_ub (f := frF (sM st) f) (c := 1) (mRw 1 (sM st) f) (fun _ _ => fF_le)
  have h3_ := (hP.2.2 f hf).1
  have hne_ := sm_ub (f := neF (sM st)) (c := 1) f (fun _ _ => neF_le)
  have cuts : ∀ N_ : Nat, (∀ (x8b : Int32) (h : Nat → va_E) (H : Heap) (locs : List Loc) (ls : Array Slot), LI g h s st gd gb H locs → lv_has ls 20 [(0, .ref b), (1, .ref (g.2.2.1 0)), (2, .ref (g.2.2.1 143)), (3, .ref (g.2.2.1 144)), (4, .int x4), (5, .int x5), (6, .int x6), (7, .int 1), (8, .int x8b), (9, .int x9), (10, .int x10), (11, .int x11)] → (x8b.toInt = (((sm (neF (sM st)) (f + 1)) : Nat) : Int)) → 1000 < N_ → W p l e room_1 s m args below meth c H locs cells slots Q (F0 m 494 ls [])) ∧ (∀ (x8b : Int32) (x13 : Int32) (k : Nat) (x14 : Int32) (x15 : Int32) (h : Nat → va_E) (H : Heap) (locs : List Loc) (ls : Array Slot), LI g h s st gd gb H locs → lv_has ls 20 [(0, .ref b), (1, .ref (g.2.2.1 0)), (2, .ref (g.2.2.1 143)), (3, .ref (g.2.2.1 144)), (4, .int x4), (5, .int x5), (6, .int x6), (7, .int 1), (8, .int x8b), (9, .int x9), (10, .int x10), (11, .int x11), (13, .int x13), (14, .int x14), (15, .int x15)] → (x8b.toInt = (((sm (neF (sM st)) (f + 1)) : Nat) : Int)) → (x13.toInt = (((sm (frF (sM st) f) (mRw 1 (sM st) f)) : Nat) : Int)) → (k ≤ (sm (frF (sM st) f) (mRw 1 (sM st) f))) → (x15.toInt = ((k : Nat) : Int)) → ((k = 0 ∧ x14.toInt = -1) ∨ ∃ b_, b_ < (mRw 1 (sM st) f) ∧ frF (sM st) f b_ = 1 ∧ sm (frF (sM st) f) b_ + 1 = k ∧ x14.toInt = ((b_ : Nat) : Int)) → 20 * ((sm (frF (sM st) f) (mRw 1 (sM st) f)) - k) + 19 < N_ → W p l e room_1 s m args below meth c H locs cells slots Q (F0 m 509 ls [])) ∧ (∀ (x8b : Int32) (x13 : Int32) (k : Nat) (x14 : Int32) (x15 : Int32) (x16 : Int32) (b9 : Nat) (j : Nat) (x17 : Int32) (h : Nat → va_E) (H : Heap) (locs : List Loc) (ls : Array Slot), LI g h s st gd gb H locs → lv_has ls 20 [(0, .ref b), (1, .ref (g.2.2.1 0)), (2, .ref (g.2.2.1 143)), (3, .ref (g.2.2.1 144)), (4, .int x4), (5, .int x5), (6, .int x6), (7, .int 1), (8, .int x8b), (9, .int x9), (10, .int x10), (11, .int x11), (13, .int x13), (14, .int x14), (15, .int x15), (16, .int x16), (17, .int x17)] → (x8b.toInt = (((sm (neF (sM st)) (f + 1)) : Nat) : Int)) → (x13.toInt = (((sm (frF (sM st) f) (mRw 1 (sM st) f)) : Nat) : Int)) → (k < (sm (frF (sM st) f) (mRw 1 (sM st) f))) → (x15.toInt = ((k : Nat) : Int)) → ((k = 0 ∧ x14.toInt = -1) ∨ ∃ b_, b_ < (mRw 1 (sM st) f) ∧ frF (sM st) f b_ = 1 ∧ sm (frF (sM st) f) b_ + 1 = k ∧ x14.toInt = ((b_ : Nat) : Int)) → (b9 < (mRw 1 (sM st) f)) → (frF (sM st) f b9 = 1) → (sm (frF (sM st) f) b9 = k) → (x16.toInt = ((b9 : Nat) : Int)) → (j ≤ k) → (x17.toInt = ((j : Nat) : Int)) → 20 * ((sm (frF (sM st) f) (mRw 1 (sM st) f)) - k) + (9 - j) < N_ → W p l e room_1 s m args below meth c H locs cells slots Q (F0 m 560 ls [])) := by
    intro N_
    induction N_ with
    | zero => exact ⟨by intros; omega, by intros; omega, by intros; omega⟩
    | succ N_ ih =>
      obtain ⟨ih494, ih509, ih560⟩ := ih
      refine ⟨?_, ?_, ?_⟩
      · intro x8b h H locs ls I hl hx8b hN_
        refine lv_aload_n hx hb dL_law_494 rfl (lv_at hl 1 rfl) ?_
        refine lv_iload hx hb dL_law_495 (lv_at hl 9 rfl) ?_
        refine lv_iconst (v := (-1)) hx hb dL_law_497 (by decide) ?_
        refine lk_frontier C I hl.1 (Nat.le_of_ble_eq_true rfl) dL_law_498 (fun r1 h H locs I A1 => ?_)
        have tr1 : r1.toInt = (((sm (frF (sM st) f) (mRw 1 (sM st) f)) : Nat) : Int) := (fr_all A1 hP hf hx9).1 (by decide)
        refine lv_istore (lv' := [(13, .int r1), (0, .ref b), (1, .ref (g.2.2.1 0)), (2, .ref (g.2.2.1 143)), (3, .ref (g.2.2.1 144)), (4, .int x4), (5, .int x5), (6, .int x6), (7, .int 1), (8, .int x8b), (9, .int x9), (10, .int x10), (11, .int x11)]) hx hb dL_law_501 hl (by decide) rfl (fun ls hl => ?_)
        refine lv_iconst (v := (-1)) hx hb dL_law_503 (by decide) ?_
        refine lv_istore (lv' := [(14, .int ((-1))), (13, .int r1), (0, .ref b), (1, .ref (g.2.2.1 0)), (2, .ref (g.2.2.1 143)), (3, .ref (g.2.2.1 144)), (4, .int x4), (5, .int x5), (6, .int x6), (7, .int 1), (8, .int x8b), (9, .int x9), (10, .int x10), (11, .int x11)]) hx hb dL_law_504 hl (by decide) rfl (fun ls hl => ?_)
        refine lv_iconst (v := 0) hx hb dL_law_506 (by decide) ?_
        refine lv_istore (lv' := [(15, .int 0), (14, .int ((-1))), (13, .int r1), (0, .ref b), (1, .ref (g.2.2.1 0)), (2, .ref (g.2.2.1 143)), (3, .ref (g.2.2.1 144)), (4, .int x4), (5, .int x5), (6, .int x6), (7, .int 1), (8, .int x8b), (9, .int x9), (10, .int x10), (11, .int x11)]) hx hb dL_law_507 hl (by decide) rfl (fun ls hl => ?_)
        exact ih509 x8b r1 0 ((-1)) 0 _ _ _ _ I (lv_sub hl [3, 4, 5, 6, 7, 8, 9, 10, 11, 12, 13, 14, 2, 1, 0] rfl) hx8b tr1 (Nat.zero_le _) ((by decide : (0 : Int32).toInt = ((0 : Nat) : Int))) (Or.inl ⟨rfl, (by decide : (-1 : Int32).toInt = (-1 : Int))⟩) (by omega)
      · intro x8b x13 k x14 x15 h H locs ls I hl hx8b hx13 hk hx15 hlast hN_
        refine lv_iload hx hb dL_law_509 (lv_at hl 14 rfl) ?_
        refine lv_iload hx hb dL_law_511 (lv_at hl 12 rfl) ?_
        refine lv_icmp_ge (tgt := 611) hx hb dL_law_513 (by decide) (fun c2 => ?_) (fun c2 => ?_)
        · have c2 : (((sm (frF (sM st) f) (mRw 1 (sM st) f)) : Nat) : Int) ≤ ((k : Nat) : Int) := (i_le hx13 hx15).mp c2
          exact K x8b x13 _ _ _ _ I (lv_sub hl [0, 1, 2, 3, 4, 5, 6, 7, 8, 9, 10, 11, 12] rfl) hx8b hx13
        · have c2 : ¬ ((((sm (frF (sM st) f) (mRw 1 (sM st) f)) : Nat) : Int) ≤ ((k : Nat) : Int)) := fun q => c2 ((i_le hx13 hx15).mpr q)
          refine lv_aload_n hx hb dL_law_516 rfl (lv_at hl 1 rfl) ?_
          refine lv_iload hx hb dL_law_517 (lv_at hl 9 rfl) ?_
          refine lv_iload hx hb dL_law_519 (lv_at hl 14 rfl) ?_
          refine lk_frontier C I hl.1 (Nat.le_of_ble_eq_true rfl) dL_law_521 (fun r3 h H locs I A3 => ?_)
          obtain ⟨b9, hb9_l, hb9_1, hb9_s, tr3⟩ := fr_hit A3 hP hf hx9 hx15 (by omega)
          refine lv_istore (lv' := [(16, .int r3), (0, .ref b), (1, .ref (g.2.2.1 0)), (2, .ref (g.2.2.1 143)), (3, .ref (g.2.2.1 144)), (4, .int x4), (5, .int x5), (6, .int x6), (7, .int 1), (8, .int x8b), (9, .int x9), (10, .int x10), (11, .int x11), (13, .int x13), (14, .int x14), (15, .int x15)]) hx hb dL_law_524 hl (by decide) rfl (fun ls hl => ?_)
          refine lv_iload hx hb dL_law_526 (lv_at hl 8 rfl) ?_
          refine lv_if_eq (tgt := 554) hx hb dL_law_528 (by decide) (fun c4 => ?_) (fun c4 => ?_)
          · have c4 : ((1 : Nat) : Int) = (0 : Int) := (i_eq (by decide : (1 : Int32).toInt = ((1 : Nat) : Int)) (rfl : (0 : Int32).toInt = 0)).mp c4
            exfalso; omega
          · have c4 : ¬ (((1 : Nat) : Int) = (0 : Int)) := fun q => c4 ((i_eq (by decide : (1 : Int32).toInt = ((1 : Nat) : Int)) (rfl : (0 : Int32).toInt = 0)).mpr q)
            refine lv_iload hx hb dL_law_531 (lv_at hl 0 rfl) ?_
            refine lv_iload hx hb dL_law_533 (lv_at hl 14 rfl) ?_
            refine lv_icmp_le (tgt := 554) hx hb dL_law_535 (by decide) (fun c5 => ?_) (fun c5 => ?_)
            · have c5 : ((b9 : Nat) : Int) ≤ x14.toInt := (i_le tr3 (rfl : x14.toInt = x14.toInt)).mp c5
              exfalso; (rcases hlast with ⟨_, z_⟩ | ⟨b8, z1_, z2_, z3_, z4_⟩); omega; (have q_ := fr_apart z2_ hb9_1 (by omega)); omega
            · have c5 : ¬ (((b9 : Nat) : Int) ≤ x14.toInt) := fun q => c5 ((i_le tr3 (rfl : x14.toInt = x14.toInt)).mpr q)
              refine lv_aload_n hx hb dL_law_538 rfl (lv_at hl 2 rfl) ?_
              refine lv_iload hx hb dL_law_539 (lv_at hl 10 rfl) ?_
              refine lv_iload hx hb dL_law_541 (lv_at hl 0 rfl) ?_
              refine lk_rough C I hl.1 (Nat.le_of_ble_eq_true rfl) dL_law_543 (fun r6 h H locs I A6 => ?_)
              have tr6 : r6.toInt = ((1 : Nat) : Int) := (rough_1 A6 hP hf hx9 tr3 hb9_l).trans (by rw [(fr_FrQ hb9_1).1])
              refine lv_iconst (v := 1) hx hb dL_law_546 (by decide) ?_
              refine lv_icmp_ne (tgt := 554) hx hb dL_law_547 (by decide) (fun c7 => ?_) (fun c7 => ?_)
              · have c7 : ¬ (((1 : Nat) : Int) = ((1 : Nat) : Int)) := fun q => c7 ((i_eq tr6 (by decide : (1 : Int32).toInt = ((1 : Nat) : Int))).mpr q)
                exfalso; omega
              · have c7 : ((1 : Nat) : Int) = ((1 : Nat) : Int) := (i_eq tr6 (by decide : (1 : Int32).toInt = ((1 : Nat) : Int))).mp c7
                refine lv_iconst (v := 1) hx hb dL_law_550 (by decide) ?_
                refine lv_goto (tgt := 555) hx hb dL_law_551 (by decide) ?_
                refine lv_istore (lv' := [(7, .int 1), (16, .int r3), (0, .ref b), (1, .ref (g.2.2.1 0)), (2, .ref (g.2.2.1 143)), (3, .ref (g.2.2.1 144)), (4, .int x4), (5, .int x5), (6, .int x6), (8, .int x8b), (9, .int x9), (10, .int x10), (11, .int x11), (13, .int x13), (14, .int x14), (15, .int x15)]) hx hb dL_law_555 hl (by decide) rfl (fun ls hl => ?_)
                refine lv_iconst (v := 0) hx hb dL_law_557 (by decide) ?_
                refine lv_istore (lv' := [(17, .int 0), (7, .int 1), (16, .int r3), (0, .ref b), (1, .ref (g.2.2.1 0)), (2, .ref (g.2.2.1 143)), (3, .ref (g.2.2.1 144)), (4, .int x4), (5, .int x5), (6, .int x6), (8, .int x8b), (9, .int x9), (10, .int x10), (11, .int x11), (13, .int x13), (14, .int x14), (15, .int x15)]) hx hb dL_law_558 hl (by decide) rfl (fun ls hl => ?_)
                exact ih560 x8b x13 k x14 x15 r3 b9 0 0 _ _ _ _ I (lv_sub hl [3, 4, 5, 6, 7, 8, 9, 1, 10, 11, 12, 13, 14, 15, 16, 2, 0] rfl) hx8b hx13 (by omega) hx15 hlast hb9_l hb9_1 hb9_s tr3 (Nat.zero_le _) ((by decide : (0 : Int32).toInt = ((0 : Nat) : Int))) (by omega)
      · intro x8b x13 k x14 x15 x16 b9 j x17 h H locs ls I hl hx8b hx13 hk hx15 hlast hb9 hb1 hbs hx16 hj hx17 hN_
        refine lv_iload hx hb dL_law_560 (lv_at hl 16 rfl) ?_
        refine lv_iload hx hb dL_law_562 (lv_at hl 14 rfl) ?_
        refine lv_icmp_ge (tgt := 601) hx hb dL_law_564 (by decide) (fun c8 => ?_) (fun c8 => ?_)
        · have c8 : ((k : Nat) : Int) ≤ ((j : Nat) : Int) := (i_le hx15 hx17).mp c8
          refine lv_iload hx hb dL_law_601 (lv_at hl 15 rfl) ?_
          refine lv_istore (lv' := [(14, .int x16), (0, .ref b), (1, .ref (g.2.2.1 0)), (2, .ref (g.2.2.1 143)), (3, .ref (g.2.2.1 144)), (4, .int x4), (5, .int x5), (6, .int x6), (7, .int 1), (8, .int x8b), (9, .int x9), (10, .int x10), (11, .int x11), (13, .int x13), (15, .int x15), (16, .int x16), (17, .int x17)]) hx hb dL_law_603 hl (by decide) rfl (fun ls hl => ?_)
          obtain ⟨y9, ey9⟩ : ∃ y : Int32, y = x15 + (1) := ⟨_, rfl⟩
          have ty9 : y9.toInt = (((k + 1) : Nat) : Int) := i_addN ey9 hx15 (by decide : (1 : Int32).toInt = ((1 : Nat) : Int)) (by omega)
          refine lv_iinc (v := y9) (lv' := [(15, .int y9), (14, .int x16), (0, .ref b), (1, .ref (g.2.2.1 0)), (2, .ref (g.2.2.1 143)), (3, .ref (g.2.2.1 144)), (4, .int x4), (5, .int x5), (6, .int x6), (7, .int 1), (8, .int x8b), (9, .int x9), (10, .int x10), (11, .int x11), (13, .int x13), (16, .int x16), (17, .int x17)]) hx hb dL_law_605 hl (k := 14) rfl (by rw [ey9]; rfl) (by decide) rfl (fun ls hl => ?_)
          refine lv_goto (tgt := 509) hx hb dL_law_608 (by decide) ?_
          exact ih509 x8b x13 (k + 1) x16 y9 _ _ _ _ I (lv_sub hl [2, 3, 4, 5, 6, 7, 8, 9, 10, 11, 12, 13, 14, 1, 0] rfl) hx8b hx13 (by omega) ty9 (Or.inr ⟨b9, hb9, hb1, by omega, hx16⟩) (by omega)
        · have c8 : ¬ (((k : Nat) : Int) ≤ ((j : Nat) : Int)) := fun q => c8 ((i_le hx15 hx17).mpr q)
          refine lv_iload hx hb dL_law_567 (lv_at hl 7 rfl) ?_
          refine lv_if_eq (tgt := 592) hx hb dL_law_569 (by decide) (fun c10 => ?_) (fun c10 => ?_)
          · have c10 : ((1 : Nat) : Int) = (0 : Int) := (i_eq (by decide : (1 : Int32).toInt = ((1 : Nat) : Int)) (rfl : (0 : Int32).toInt = 0)).mp c10
            exfalso; omega
          · have c10 : ¬ (((1 : Nat) : Int) = (0 : Int)) := fun q => c10 ((i_eq (by decide : (1 : Int32).toInt = ((1 : Nat) : Int)) (rfl : (0 : Int32).toInt = 0)).mpr q)
            refine lv_aload_n hx hb dL_law_572 rfl (lv_at hl 1 rfl) ?_
            refine lv_iload hx hb dL_law_573 (lv_at hl 9 rfl) ?_
            refine lv_iload hx hb dL_law_575 (lv_at hl 16 rfl) ?_
            refine lk_frontier C I hl.1 (Nat.le_of_ble_eq_true rfl) dL_law_577 (fun r11 h H locs I A11 => ?_)
            obtain ⟨b7, hb7_l, hb7_1, hb7_s, tr11⟩ := fr_hit A11 hP hf hx9 hx17 (by omega)
            have hb7t := tr11
            refine lv_iload hx hb dL_law_580 (lv_at hl 15 rfl) ?_
            refine lv_iconst (v := (-1)) hx hb dL_law_582 (by decide) ?_
            refine lv_ixor hx hb dL_law_583 ?_
            refine lv_topi (fun y12 ey12 => ?_)
            refine lv_iand hx hb dL_law_584 ?_
            refine lv_topi (fun y13 ey13 => ?_)
            refine lv_if_eq (tgt := 592) hx hb dL_law_585 (by decide) (fun c14 => ?_) (fun c14 => ?_)
            · exact absurd ((sub_iff hb7t hx16 (by omega) (by omega) ey12 ey13).mp c14) (fr_apart hb7_1 hb1 (by omega)).2
            · refine lv_iconst (v := 1) hx hb dL_law_588 (by decide) ?_
              refine lv_goto (tgt := 593) hx hb dL_law_589 (by decide) ?_
              refine lv_istore (lv' := [(7, .int 1), (0, .ref b), (1, .ref (g.2.2.1 0)), (2, .ref (g.2.2.1 143)), (3, .ref (g.2.2.1 144)), (4, .int x4), (5, .int x5), (6, .int x6), (8, .int x8b), (9, .int x9), (10, .int x10), (11, .int x11), (13, .int x13), (14, .int x14), (15, .int x15), (16, .int x16), (17, .int x17)]) hx hb dL_law_593 hl (by decide) rfl (fun ls hl => ?_)
              obtain ⟨y15, ey15⟩ : ∃ y : Int32, y = x17 + (1) := ⟨_, rfl⟩
              have ty15 : y15.toInt = (((j + 1) : Nat) : Int) := i_addN ey15 hx17 (by decide : (1 : Int32).toInt = ((1 : Nat) : Int)) (by omega)
              refine lv_iinc (v := y15) (lv' := [(17, .int y15), (7, .int 1), (0, .ref b), (1, .ref (g.2.2.1 0)), (2, .ref (g.2.2.1 143)), (3, .ref (g.2.2.1 144)), (4, .int x4), (5, .int x5), (6, .int x6), (8, .int x8b), (9, .int x9), (10, .int x10), (11, .int x11), (13, .int x13), (14, .int x14), (15, .int x15), (16, .int x16)]) hx hb dL_law_595 hl (k := 16) rfl (by rw [ey15]; rfl) (by decide) rfl (fun ls hl => ?_)
              refine lv_goto (tgt := 560) hx hb dL_law_598 (by decide) ?_
              exact ih560 x8b x13 k x14 x15 x16 b9 (j + 1) y15 _ _ _ _ I (lv_sub hl [2, 3, 4, 5, 6, 7, 8, 1, 9, 10, 11, 12, 13, 14, 15, 16, 0] rfl) hx8b hx13 hk hx15 hlast hb9 hb1 hbs hx16 (by omega) ty15 (by omega)
  obtain ⟨ih494, ih509, ih560⟩ := cuts (2000)
  refine lv_iload hx hb dL_law_479 (lv_at hl 8 rfl) ?_
  refine lv_iload hx hb dL_law_481 (lv_at hl 12 rfl) ?_
  refine lv_if_eq (tgt := 490) hx hb dL_law_483 (by decide) (fun c16 => ?_) (fun c16 => ?_)
  · have c16 := hx12.eq c16
    refine lv_iconst (v := 0) hx hb dL_law_490 (by decide) ?_
    refine lv_iadd hx hb dL_law_491 ?_
    refine lv_topi (fun y17 ey17 => ?_)
    have ty17 : y17.toInt = ((((sm (neF (sM st)) f) + 0) : Nat) : Int) := i_addN ey17 hx8 (by decide : (0 : Int32).toInt = ((0 : Nat) : Int)) (by omega)
    refine lv_istore (lv' := [(8, .int y17), (0, .ref b), (1, .ref (g.2.2.1 0)), (2, .ref (g.2.2.1 143)), (3, .ref (g.2.2.1 144)), (4, .int x4), (5, .int x5), (6, .int x6), (7, .int 1), (9, .int x9), (10, .int x10), (11, .int x11), (12, .int x12)]) hx hb dL_law_492 hl (by decide) rfl (fun ls hl => ?_)
    exact ih494 y17 _ _ _ _ I (lv_sub hl [1, 2, 3, 4, 5, 6, 7, 8, 0, 9, 10, 11] rfl) (ty17.trans (by rw [sm_succ, neF_0 c16]; (try rfl))) (by omega)
  · have c16 := hx12.ne c16
    refine lv_iconst (v := 1) hx hb dL_law_486 (by decide) ?_
    refine lv_goto (tgt := 491) hx hb dL_law_487 (by decide) ?_
    refine lv_iadd hx hb dL_law_491 ?_
    refine lv_topi (fun y18 ey18 => ?_)
    have ty18 : y18.toInt = ((((sm (neF (sM st)) f) + 1) : Nat) : Int) := i_addN ey18 hx8 (by decide : (1 : Int32).toInt = ((1 : Nat) : Int)) (by omega)
    refine lv_istore (lv' := [(8, .int y18), (0, .ref b), (1, .ref (g.2.2.1 0)), (2, .ref (g.2.2.1 143)), (3, .ref (g.2.2.1 144)), (4, .int x4), (5, .int x5), (6, .int x6), (7, .int 1), (9, .int x9), (10, .int x10), (11, .int x11), (12, .int x12)]) hx hb dL_law_492 hl (by decide) rfl (fun ls hl => ?_)
    exact ih494 y18 _ _ _ _ I (lv_sub hl [1, 2, 3, 4, 5, 6, 7, 8, 0, 9, 10, 11] rfl) (ty18.trans (by rw [sm_succ, neF_1 c16]; (try rfl))) (by omega)

set_option maxHeartbeats 8000000 in
set_option maxRecDepth 100000 in
theorem seg_ro (C : LwC p s m c args b L xs cells slots) (I : LI g h s st gd gb H locs) {x4 x5 x6 x8 x9 x10 x11 : Int32} {f : Nat} (hf : f < pN (sM st)) (hx6 : x6.toInt = ((pN (sM st) : Nat) : Int)) (hx8 : x8.toInt = ((sm (neF (sM st)) f : Nat) : Int)) (hx9 : x9.toInt = ((f : Nat) : Int)) (hx10 : x10.toInt = ((pA (sM st) f : Nat) : Int)) (hx11 : x11.toInt = ((pK (sM st) f : Nat) : Int)) {x8b x13 : Int32} (hx8b : x8b.toInt = (((sm (neF (sM st)) (f + 1)) : Nat) : Int)) (hx13 : x13.toInt = (((sm (frF (sM st) f) (mRw 1 (sM st) f)) : Nat) : Int)) (hl : lv_has ls 20 [(0, .ref b), (1, .ref (g.2.2.1 0)), (2, .ref (g.2.2.1 143)), (3, .ref (g.2.2.1 144)), (4, .int x4), (5, .int x5), (6, .int x6), (7, .int 1), (8, .int x8b), (9, .int x9), (10, .int x10), (11, .int x11), (13, .int x13)]) (K : ∀  (h : Nat → va_E) (H : Heap) (locs : List Loc) (ls : Array Slot), LI g h s st gd gb H locs → lv_has ls 20 [(0, .ref b), (1, .ref (g.2.2.1 0)), (2, .ref (g.2.2.1 143)), (3, .ref (g.2.2.1 144)), (4, .int x4), (5, .int x5), (6, .int x6), (7, .int 1), (8, .int x8b), (9, .int x9), (10, .int x10), (11, .int x11), (13, .int x13)] → W p l e room_1 s m args below meth c H locs cells slots Q (F0 m 710 ls [])) : W p l e room_1 s m args below meth c H locs cells slots Q (F0 m 611 ls []) := by
  obtain ⟨hx, hb, hml, hown, hts, hX, hcs⟩ := id C
  have hP := I.hP
  have hn4 := hP.2.1
  have h8_ := rows_1 hP hf
  have hFC_ := sm_ub (f := frF (sM st) f) (c := 1) (mRw 1 (sM st) f) (fun _ _ => fF_le)
  have h3_ := (hP.2.2 f hf).1
  have hne_ := sm_ub (f := neF (sM st)) (c := 1) f (fun _ _ => neF_le)
  have cuts : ∀ N_ : Nat, (∀ (row : Nat) (x15 : Int32) (h : Nat → va_E) (H : Heap) (locs : List Loc) (ls : Array Slot), LI g h s st gd gb H locs → lv_has ls 20 [(0, .ref b), (1, .ref (g.2.2.1 0)), (2, .ref (g.2.2.1 143)), (3, .ref (g.2.2.1 144)), (4, .int x4), (5, .int x5), (6, .int x6), (7, .int 1), (8, .int x8b), (9, .int x9), (10, .int x10), (11, .int x11), (13, .int x13), (15, .int x15)] → (row ≤ (mRw 1 (sM st) f)) → (x15.toInt = ((row : Nat) : Int)) → 40 * ((mRw 1 (sM st) f) - row) + 39 < N_ → W p l e room_1 s m args below meth c H locs cells slots Q (F0 m 614 ls [])) ∧ (∀ (row : Nat) (x15 : Int32) (k : Nat) (x16 : Int32) (x17 : Int32) (h : Nat → va_E) (H : Heap) (locs : List Loc) (ls : Array Slot), LI g h s st gd gb H locs → lv_has ls 20 [(0, .ref b), (1, .ref (g.2.2.1 0)), (2, .ref (g.2.2.1 143)), (3, .ref (g.2.2.1 144)), (4, .int x4), (5, .int x5), (6, .int x6), (7, .int 1), (8, .int x8b), (9, .int x9), (10, .int x10), (11, .int x11), (13, .int x13), (15, .int x15), (16, .int x16), (17, .int x17)] → (row < (mRw 1 (sM st) f)) → (x15.toInt = ((row : Nat) : Int)) → (k ≤ (sm (frF (sM st) f) (mRw 1 (sM st) f))) → (x17.toInt = ((k : Nat) : Int)) → (Bq x16 (∃ b_, b_ < (mRw 1 (sM st) f) ∧ frF (sM st) f b_ = 1 ∧ sm (frF (sM st) f) b_ < k ∧ b_ &&& row = b_)) → 40 * ((mRw 1 (sM st) f) - row) + 2 * ((sm (frF (sM st) f) (mRw 1 (sM st) f)) - k) + 1 < N_ → W p l e room_1 s m args below meth c H locs cells slots Q (F0 m 629 ls [])) ∧ (∀ (row : Nat) (x15 : Int32) (k : Nat) (x16 : Int32) (x17 : Int32) (t16 : Int32) (h : Nat → va_E) (H : Heap) (locs : List Loc) (ls : Array Slot), LI g h s st gd gb H locs → lv_has ls 20 [(0, .ref b), (1, .ref (g.2.2.1 0)), (2, .ref (g.2.2.1 143)), (3, .ref (g.2.2.1 144)), (4, .int x4), (5, .int x5), (6, .int x6), (7, .int 1), (8, .int x8b), (9, .int x9), (10, .int x10), (11, .int x11), (13, .int x13), (15, .int x15), (16, .int x16), (17, .int x17)] → (row < (mRw 1 (sM st) f)) → (x15.toInt = ((row : Nat) : Int)) → (k < (sm (frF (sM st) f) (mRw 1 (sM st) f))) → (x17.toInt = ((k : Nat) : Int)) → (Bq t16 (∃ b_, b_ < (mRw 1 (sM st) f) ∧ frF (sM st) f b_ = 1 ∧ sm (frF (sM st) f) b_ < (k + 1) ∧ b_ &&& row = b_)) → 40 * ((mRw 1 (sM st) f) - row) + 2 * ((sm (frF (sM st) f) (mRw 1 (sM st) f)) - k) < N_ → W p l e room_1 s m args below meth c H locs cells slots Q (F0 m 662 ls [.int t16])) := by
    intro N_
    induction N_ with
    | zero => exact ⟨by intros; omega, by intros; omega, by intros; omega⟩
    | succ N_ ih =>
      obtain ⟨ih614, ih629, ih662⟩ := ih
      refine ⟨?_, ?_, ?_⟩
      · intro row x15 h H locs ls I hl hrow hx15 hN_
        refine lv_iload hx hb dL_law_614 (lv_at hl 13 rfl) ?_
        refine lv_iconst (v := 1) hx hb dL_law_616 (by decide) ?_
        refine lv_iload hx hb dL_law_617 (lv_at hl 10 rfl) ?_
        refine lv_ishl hx hb dL_law_619 ?_
        refine lv_topi (fun y1 ey1 => ?_)
        have ty1 : y1.toInt = (((mRw 1 (sM st) f) : Nat) : Int) := shl_1 hx10 h3_ ey1
        refine lv_icmp_ge (tgt := 710) hx hb dL_law_620 (by decide) (fun c2 => ?_) (fun c2 => ?_)
        · have c2 : (((mRw 1 (sM st) f) : Nat) : Int) ≤ ((row : Nat) : Int) := (i_le ty1 hx15).mp c2
          exact K  _ _ _ _ I (lv_sub hl [0, 1, 2, 3, 4, 5, 6, 7, 8, 9, 10, 11, 12] rfl) 
        · have c2 : ¬ ((((mRw 1 (sM st) f) : Nat) : Int) ≤ ((row : Nat) : Int)) := fun q => c2 ((i_le ty1 hx15).mpr q)
          refine lv_iconst (v := 0) hx hb dL_law_623 (by decide) ?_
          refine lv_istore (lv' := [(16, .int 0), (0, .ref b), (1, .ref (g.2.2.1 0)), (2, .ref (g.2.2.1 143)), (3, .ref (g.2.2.1 144)), (4, .int x4), (5, .int x5), (6, .int x6), (7, .int 1), (8, .int x8b), (9, .int x9), (10, .int x10), (11, .int x11), (13, .int x13), (15, .int x15)]) hx hb dL_law_624 hl (by decide) rfl (fun ls hl => ?_)
          refine lv_iconst (v := 0) hx hb dL_law_626 (by decide) ?_
          refine lv_istore (lv' := [(17, .int 0), (16, .int 0), (0, .ref b), (1, .ref (g.2.2.1 0)), (2, .ref (g.2.2.1 143)), (3, .ref (g.2.2.1 144)), (4, .int x4), (5, .int x5), (6, .int x6), (7, .int 1), (8, .int x8b), (9, .int x9), (10, .int x10), (11, .int x11), (13, .int x13), (15, .int x15)]) hx hb dL_law_627 hl (by decide) rfl (fun ls hl => ?_)
          exact ih629 row x15 0 0 0 _ _ _ _ I (lv_sub hl [2, 3, 4, 5, 6, 7, 8, 9, 10, 11, 12, 13, 14, 15, 1, 0] rfl) (by omega) hx15 (Nat.zero_le _) ((by decide : (0 : Int32).toInt = ((0 : Nat) : Int))) (Bq.f (fun q_ => by obtain ⟨b_, _, _, z_, _⟩ := q_; omega)) (by omega)
      · intro row x15 k x16 x17 h H locs ls I hl hrow hx15 hk hx17 hx16 hN_
        refine lv_iload hx hb dL_law_629 (lv_at hl 15 rfl) ?_
        refine lv_iload hx hb dL_law_631 (lv_at hl 12 rfl) ?_
        refine lv_icmp_ge (tgt := 670) hx hb dL_law_633 (by decide) (fun c3 => ?_) (fun c3 => ?_)
        · have c3 : (((sm (frF (sM st) f) (mRw 1 (sM st) f)) : Nat) : Int) ≤ ((k : Nat) : Int) := (i_le hx13 hx17).mp c3
          have hw_ : Bq x16 (fT 1 (sM st) f row = 1) := hx16.iff (by rw [show k = (sm (frF (sM st) f) (mRw 1 (sM st) f)) by omega]; exact wi_fin hP hf hrow)
          refine lv_iload hx hb dL_law_670 (lv_at hl 7 rfl) ?_
          refine lv_if_eq (tgt := 701) hx hb dL_law_672 (by decide) (fun c4 => ?_) (fun c4 => ?_)
          · have c4 : ((1 : Nat) : Int) = (0 : Int) := (i_eq (by decide : (1 : Int32).toInt = ((1 : Nat) : Int)) (rfl : (0 : Int32).toInt = 0)).mp c4
            exfalso; omega
          · have c4 : ¬ (((1 : Nat) : Int) = (0 : Int)) := fun q => c4 ((i_eq (by decide : (1 : Int32).toInt = ((1 : Nat) : Int)) (rfl : (0 : Int32).toInt = 0)).mpr q)
            refine lv_aload_n hx hb dL_law_675 rfl (lv_at hl 1 rfl) ?_
            refine lv_iload hx hb dL_law_676 (lv_at hl 9 rfl) ?_
            refine lv_iload hx hb dL_law_678 (lv_at hl 13 rfl) ?_
            refine lk_rough C I hl.1 (Nat.le_of_ble_eq_true rfl) dL_law_680 (fun r5 h H locs I A5 => ?_)
            have tr5 : r5.toInt = ((fT 1 (sM st) f row : Nat) : Int) := rough_1 A5 hP hf hx9 hx15 hrow
            refine lv_iconst (v := 1) hx hb dL_law_683 (by decide) ?_
            refine lv_icmp_ne (tgt := 691) hx hb dL_law_684 (by decide) (fun c6 => ?_) (fun c6 => ?_)
            · have c6 : ¬ ((((fT 1 (sM st) f row) : Nat) : Int) = ((1 : Nat) : Int)) := fun q => c6 ((i_eq tr5 (by decide : (1 : Int32).toInt = ((1 : Nat) : Int))).mpr q)
              refine lv_iconst (v := 0) hx hb dL_law_691 (by decide) ?_
              refine lv_iload hx hb dL_law_692 (lv_at hl 14 rfl) ?_
              refine lv_icmp_ne (tgt := 701) hx hb dL_law_694 (by decide) (fun c7 => ?_) (fun c7 => ?_)
              · (rcases hw_ with ⟨z_, zy_⟩ | ⟨z_, zn_⟩); exfalso; omega; exact absurd z_.symm c7
              · refine lv_iconst (v := 1) hx hb dL_law_697 (by decide) ?_
                refine lv_goto (tgt := 702) hx hb dL_law_698 (by decide) ?_
                refine lv_istore (lv' := [(7, .int 1), (0, .ref b), (1, .ref (g.2.2.1 0)), (2, .ref (g.2.2.1 143)), (3, .ref (g.2.2.1 144)), (4, .int x4), (5, .int x5), (6, .int x6), (8, .int x8b), (9, .int x9), (10, .int x10), (11, .int x11), (13, .int x13), (15, .int x15), (16, .int x16), (17, .int x17)]) hx hb dL_law_702 hl (by decide) rfl (fun ls hl => ?_)
                obtain ⟨y8, ey8⟩ : ∃ y : Int32, y = x15 + (1) := ⟨_, rfl⟩
                have ty8 : y8.toInt = (((row + 1) : Nat) : Int) := i_addN ey8 hx15 (by decide : (1 : Int32).toInt = ((1 : Nat) : Int)) (by omega)
                refine lv_iinc (v := y8) (lv' := [(15, .int y8), (7, .int 1), (0, .ref b), (1, .ref (g.2.2.1 0)), (2, .ref (g.2.2.1 143)), (3, .ref (g.2.2.1 144)), (4, .int x4), (5, .int x5), (6, .int x6), (8, .int x8b), (9, .int x9), (10, .int x10), (11, .int x11), (13, .int x13), (16, .int x16), (17, .int x17)]) hx hb dL_law_704 hl (k := 13) rfl (by rw [ey8]; rfl) (by decide) rfl (fun ls hl => ?_)
                refine lv_goto (tgt := 614) hx hb dL_law_707 (by decide) ?_
                exact ih614 (row + 1) y8 _ _ _ _ I (lv_sub hl [2, 3, 4, 5, 6, 7, 8, 1, 9, 10, 11, 12, 13, 0] rfl) (by omega) ty8 (by omega)
            · have c6 : (((fT 1 (sM st) f row) : Nat) : Int) = ((1 : Nat) : Int) := (i_eq tr5 (by decide : (1 : Int32).toInt = ((1 : Nat) : Int))).mp c6
              refine lv_iconst (v := 1) hx hb dL_law_687 (by decide) ?_
              refine lv_goto (tgt := 692) hx hb dL_law_688 (by decide) ?_
              refine lv_iload hx hb dL_law_692 (lv_at hl 14 rfl) ?_
              refine lv_icmp_ne (tgt := 701) hx hb dL_law_694 (by decide) (fun c9 => ?_) (fun c9 => ?_)
              · (rcases hw_ with ⟨z_, zy_⟩ | ⟨z_, zn_⟩); exact absurd z_.symm c9; exact absurd (by omega) zn_
              · refine lv_iconst (v := 1) hx hb dL_law_697 (by decide) ?_
                refine lv_goto (tgt := 702) hx hb dL_law_698 (by decide) ?_
                refine lv_istore (lv' := [(7, .int 1), (0, .ref b), (1, .ref (g.2.2.1 0)), (2, .ref (g.2.2.1 143)), (3, .ref (g.2.2.1 144)), (4, .int x4), (5, .int x5), (6, .int x6), (8, .int x8b), (9, .int x9), (10, .int x10), (11, .int x11), (13, .int x13), (15, .int x15), (16, .int x16), (17, .int x17)]) hx hb dL_law_702 hl (by decide) rfl (fun ls hl => ?_)
                obtain ⟨y10, ey10⟩ : ∃ y : Int32, y = x15 + (1) := ⟨_, rfl⟩
                have ty10 : y10.toInt = (((row + 1) : Nat) : Int) := i_addN ey10 hx15 (by decide : (1 : Int32).toInt = ((1 : Nat) : Int)) (by omega)
                refine lv_iinc (v := y10) (lv' := [(15, .int y10), (7, .int 1), (0, .ref b), (1, .ref (g.2.2.1 0)), (2, .ref (g.2.2.1 143)), (3, .ref (g.2.2.1 144)), (4, .int x4), (5, .int x5), (6, .int x6), (8, .int x8b), (9, .int x9), (10, .int x10), (11, .int x11), (13, .int x13), (16, .int x16), (17, .int x17)]) hx hb dL_law_704 hl (k := 13) rfl (by rw [ey10]; rfl) (by decide) rfl (fun ls hl => ?_)
                refine lv_goto (tgt := 614) hx hb dL_law_707 (by decide) ?_
                exact ih614 (row + 1) y10 _ _ _ _ I (lv_sub hl [2, 3, 4, 5, 6, 7, 8, 1, 9, 10, 11, 12, 13, 0] rfl) (by omega) ty10 (by omega)
        · have c3 : ¬ ((((sm (frF (sM st) f) (mRw 1 (sM st) f)) : Nat) : Int) ≤ ((k : Nat) : Int)) := fun q => c3 ((i_le hx13 hx17).mpr q)
          refine lv_iload hx hb dL_law_636 (lv_at hl 14 rfl) ?_
          refine lv_if_ne (tgt := 657) hx hb dL_law_638 (by decide) (fun c11 => ?_) (fun c11 => ?_)
          · have c11 := hx16.ne c11
            refine lv_iconst (v := 1) hx hb dL_law_657 (by decide) ?_
            refine lv_goto (tgt := 662) hx hb dL_law_658 (by decide) ?_
            exact ih662 row x15 k x16 x17 1 _ _ _ _ I (lv_sub hl [0, 1, 2, 3, 4, 5, 6, 7, 8, 9, 10, 11, 12, 13, 14, 15] rfl) hrow hx15 (by omega) hx17 (Bq.t (by obtain ⟨b_, z1_, z2_, z3_, z4_⟩ := c11; exact ⟨b_, z1_, z2_, by omega, z4_⟩)) (by omega)
          · have c11 := hx16.eq c11
            refine lv_aload_n hx hb dL_law_641 rfl (lv_at hl 1 rfl) ?_
            refine lv_iload hx hb dL_law_642 (lv_at hl 9 rfl) ?_
            refine lv_iload hx hb dL_law_644 (lv_at hl 15 rfl) ?_
            refine lk_frontier C I hl.1 (Nat.le_of_ble_eq_true rfl) dL_law_646 (fun r12 h H locs I A12 => ?_)
            obtain ⟨b7, hb7_l, hb7_1, hb7_s, tr12⟩ := fr_hit A12 hP hf hx9 hx17 (by omega)
            have hb7t := tr12
            refine lv_iload hx hb dL_law_649 (lv_at hl 13 rfl) ?_
            refine lv_iconst (v := (-1)) hx hb dL_law_651 (by decide) ?_
            refine lv_ixor hx hb dL_law_652 ?_
            refine lv_topi (fun y13 ey13 => ?_)
            refine lv_iand hx hb dL_law_653 ?_
            refine lv_topi (fun y14 ey14 => ?_)
            refine lv_if_ne (tgt := 661) hx hb dL_law_654 (by decide) (fun c15 => ?_) (fun c15 => ?_)
            · refine lv_iconst (v := 0) hx hb dL_law_661 (by decide) ?_
              exact ih662 row x15 k x16 x17 0 _ _ _ _ I (lv_sub hl [0, 1, 2, 3, 4, 5, 6, 7, 8, 9, 10, 11, 12, 13, 14, 15] rfl) hrow hx15 (by omega) hx17 (Bq.f (wi_no c11 hb7_1 hb7_s (fun z_ => c15 ((sub_iff hb7t hx15 (by omega) (by omega) ey13 ey14).mpr z_)))) (by omega)
            · refine lv_iconst (v := 1) hx hb dL_law_657 (by decide) ?_
              refine lv_goto (tgt := 662) hx hb dL_law_658 (by decide) ?_
              exact ih662 row x15 k x16 x17 1 _ _ _ _ I (lv_sub hl [0, 1, 2, 3, 4, 5, 6, 7, 8, 9, 10, 11, 12, 13, 14, 15] rfl) hrow hx15 (by omega) hx17 (Bq.t ⟨b7, hb7_l, hb7_1, by omega, (sub_iff hb7t hx15 (by omega) (by omega) ey13 ey14).mp c15⟩) (by omega)
      · intro row x15 k x16 x17 t16 h H locs ls I hl hrow hx15 hk hx17 ht16 hN_
        refine lv_istore (lv' := [(16, .int t16), (0, .ref b), (1, .ref (g.2.2.1 0)), (2, .ref (g.2.2.1 143)), (3, .ref (g.2.2.1 144)), (4, .int x4), (5, .int x5), (6, .int x6), (7, .int 1), (8, .int x8b), (9, .int x9), (10, .int x10), (11, .int x11), (13, .int x13), (15, .int x15), (17, .int x17)]) hx hb dL_law_662 hl (by decide) rfl (fun ls hl => ?_)
        obtain ⟨y16, ey16⟩ : ∃ y : Int32, y = x17 + (1) := ⟨_, rfl⟩
        have ty16 : y16.toInt = (((k + 1) : Nat) : Int) := i_addN ey16 hx17 (by decide : (1 : Int32).toInt = ((1 : Nat) : Int)) (by omega)
        refine lv_iinc (v := y16) (lv' := [(17, .int y16), (16, .int t16), (0, .ref b), (1, .ref (g.2.2.1 0)), (2, .ref (g.2.2.1 143)), (3, .ref (g.2.2.1 144)), (4, .int x4), (5, .int x5), (6, .int x6), (7, .int 1), (8, .int x8b), (9, .int x9), (10, .int x10), (11, .int x11), (13, .int x13), (15, .int x15)]) hx hb dL_law_664 hl (k := 15) rfl (by rw [ey16]; rfl) (by decide) rfl (fun ls hl => ?_)
        refine lv_goto (tgt := 629) hx hb dL_law_667 (by decide) ?_
        exact ih629 row x15 (k + 1) t16 y16 _ _ _ _ I (lv_sub hl [2, 3, 4, 5, 6, 7, 8, 9, 10, 11, 12, 13, 14, 15, 1, 0] rfl) hrow hx15 (by omega) ty16 ht16 (by omega)
  obtain ⟨ih614, ih629, ih662⟩ := cuts (2000)
  refine lv_iconst (v := 0) hx hb dL_law_611 (by decide) ?_
  refine lv_istore (lv' := [(15, .int 0), (0, .ref b), (1, .ref (g.2.2.1 0)), (2, .ref (g.2.2.1 143)), (3, .ref (g.2.2.1 144)), (4, .int x4), (5, .int x5), (6, .int x6), (7, .int 1), (8, .int x8b), (9, .int x9), (10, .int x10), (11, .int x11), (13, .int x13)]) hx hb dL_law_612 hl (by decide) rfl (fun ls hl => ?_)
  exact ih614 0 0 _ _ _ _ I (lv_sub hl [1, 2, 3, 4, 5, 6, 7, 8, 9, 10, 11, 12, 13, 0] rfl) (Nat.zero_le _) ((by decide : (0 : Int32).toInt = ((0 : Nat) : Int))) (by omega)

set_option maxHeartbeats 8000000 in
set_option maxRecDepth 100000 in
theorem seg_st (C : LwC p s m c args b L xs cells slots) (I : LI g h s st gd gb H locs) {x4 x5 x6 x8 x9 x10 x11 : Int32} {f : Nat} (hf : f < pN (sM st)) (hx6 : x6.toInt = ((pN (sM st) : Nat) : Int)) (hx8 : x8.toInt = ((sm (neF (sM st)) f : Nat) : Int)) (hx9 : x9.toInt = ((f : Nat) : Int)) (hx10 : x10.toInt = ((pA (sM st) f : Nat) : Int)) (hx11 : x11.toInt = ((pK (sM st) f : Nat) : Int)) {x8b x13 : Int32} (hx8b : x8b.toInt = (((sm (neF (sM st)) (f + 1)) : Nat) : Int)) (hx13 : x13.toInt = (((sm (frF (sM st) f) (mRw 1 (sM st) f)) : Nat) : Int)) (hl : lv_has ls 20 [(0, .ref b), (1, .ref (g.2.2.1 0)), (2, .ref (g.2.2.1 143)), (3, .ref (g.2.2.1 144)), (4, .int x4), (5, .int x5), (6, .int x6), (7, .int 1), (8, .int x8b), (9, .int x9), (10, .int x10), (11, .int x11), (13, .int x13)]) (K : ∀  (h : Nat → va_E) (H : Heap) (locs : List Loc) (ls : Array Slot), LI g h s st gd gb H locs → lv_has ls 20 [(0, .ref b), (1, .ref (g.2.2.1 0)), (2, .ref (g.2.2.1 143)), (3, .ref (g.2.2.1 144)), (4, .int x4), (5, .int x5), (6, .int x6), (7, .int 1), (8, .int x8b), (9, .int x9), (10, .int x10), (11, .int x11)] → W p l e room_1 s m args below meth c H locs cells slots Q (F0 m 814 ls [])) : W p l e room_1 s m args below meth c H locs cells slots Q (F0 m 710 ls []) := by
  obtain ⟨hx, hb, hml, hown, hts, hX, hcs⟩ := id C
  have hP := I.hP
  have hn4 := hP.2.1
  have h8_ := rows_1 hP hf
  have hFC_ := sm_ub (f := frF (sM st) f) (c := 1) (mRw 1 (sM st) f) (fun _ _ => fF_le)
  have h3_ := (hP.2.2 f hf).1
  have hne_ := sm_ub (f := neF (sM st)) (c := 1) f (fun _ _ => neF_le)
  have hel_ := early_le hP hf
  refine lv_iload hx hb dL_law_710 (lv_at hl 7 rfl) ?_
  refine lv_if_eq (tgt := 811) hx hb dL_law_712 (by decide) (fun c1 => ?_) (fun c1 => ?_)
  · have c1 : ((1 : Nat) : Int) = (0 : Int) := (i_eq (by decide : (1 : Int32).toInt = ((1 : Nat) : Int)) (rfl : (0 : Int32).toInt = 0)).mp c1
    exfalso; omega
  · have c1 : ¬ (((1 : Nat) : Int) = (0 : Int)) := fun q => c1 ((i_eq (by decide : (1 : Int32).toInt = ((1 : Nat) : Int)) (rfl : (0 : Int32).toInt = 0)).mpr q)
    refine lv_aload_n hx hb dL_law_715 rfl (lv_at hl 1 rfl) ?_
    refine lv_iload hx hb dL_law_716 (lv_at hl 9 rfl) ?_
    refine lv_iload hx hb dL_law_718 (lv_at hl 12 rfl) ?_
    refine lk_frontier C I hl.1 (Nat.le_of_ble_eq_true rfl) dL_law_720 (fun r2 h H locs I A2 => ?_)
    have tr2 : r2.toInt = -4 := fr_end A2 hP hf hx9 hx13
    refine lv_bipush (v := (-4)) hx hb dL_law_723 (by decide) ?_
    refine lv_icmp_ne (tgt := 811) hx hb dL_law_725 (by decide) (fun c3 => ?_) (fun c3 => ?_)
    · have c3 : ¬ ((-4 : Int) = (-4 : Int)) := fun q => c3 ((i_eq tr2 (by decide : (-4 : Int32).toInt = (-4 : Int))).mpr q)
      exfalso; omega
    · have c3 : (-4 : Int) = (-4 : Int) := (i_eq tr2 (by decide : (-4 : Int32).toInt = (-4 : Int))).mp c3
      refine lv_aload_n hx hb dL_law_728 rfl (lv_at hl 1 rfl) ?_
      refine lv_iload hx hb dL_law_729 (lv_at hl 9 rfl) ?_
      refine lv_iconst (v := 0) hx hb dL_law_731 (by decide) ?_
      refine lk_strict C I hl.1 (Nat.le_of_ble_eq_true rfl) dL_law_732 (fun r4 h H locs I A4 => ?_)
      have tr4 : r4.toInt = (((mBits (mStrictF (wU 0) (sM st) f) (pA (sM st) f)) : Nat) : Int) := strict_at (w := 0) A4 hf hx9 (by decide) (by decide)
      refine lv_aload_n hx hb dL_law_735 rfl (lv_at hl 1 rfl) ?_
      refine lv_iload hx hb dL_law_736 (lv_at hl 9 rfl) ?_
      refine lv_iconst (v := 2) hx hb dL_law_738 (by decide) ?_
      refine lk_strict C I hl.1 (Nat.le_of_ble_eq_true rfl) dL_law_739 (fun r5 h H locs I A5 => ?_)
      have tr5 : r5.toInt = (((mBits (mStrictF (wU 2) (sM st) f) (pA (sM st) f)) : Nat) : Int) := strict_at (w := 2) A5 hf hx9 (by decide) (by decide)
      refine lv_iconst (v := (-1)) hx hb dL_law_742 (by decide) ?_
      refine lv_ixor hx hb dL_law_743 ?_
      refine lv_topi (fun y6 ey6 => ?_)
      refine lv_iand hx hb dL_law_744 ?_
      refine lv_topi (fun y7 ey7 => ?_)
      refine lv_if_ne (tgt := 811) hx hb dL_law_745 (by decide) (fun c8 => ?_) (fun c8 => ?_)
      · exact absurd ((sub_iff tr4 tr5 (mB3_le (u := 0) _ _ h3_) (mB3_le (u := 0) _ _ h3_) ey6 ey7).mpr (bits_sub h3_ (fun a_ ha_ q_ => strict_truly (u := 1) (by decide) (by decide) hP hf ha_ q_))) c8
      · refine lv_aload_n hx hb dL_law_748 rfl (lv_at hl 1 rfl) ?_
        refine lv_iload hx hb dL_law_749 (lv_at hl 9 rfl) ?_
        refine lv_iconst (v := 1) hx hb dL_law_751 (by decide) ?_
        refine lk_strict C I hl.1 (Nat.le_of_ble_eq_true rfl) dL_law_752 (fun r9 h H locs I A9 => ?_)
        have tr9 : r9.toInt = (((mBits (mStrictF (wU 1) (sM st) f) (pA (sM st) f)) : Nat) : Int) := strict_at (w := 1) A9 hf hx9 (by decide) (by decide)
        refine lv_aload_n hx hb dL_law_755 rfl (lv_at hl 1 rfl) ?_
        refine lv_iload hx hb dL_law_756 (lv_at hl 9 rfl) ?_
        refine lv_iconst (v := 2) hx hb dL_law_758 (by decide) ?_
        refine lk_strict C I hl.1 (Nat.le_of_ble_eq_true rfl) dL_law_759 (fun r10 h H locs I A10 => ?_)
        have tr10 : r10.toInt = (((mBits (mStrictF (wU 2) (sM st) f) (pA (sM st) f)) : Nat) : Int) := strict_at (w := 2) A10 hf hx9 (by decide) (by decide)
        refine lv_iconst (v := (-1)) hx hb dL_law_762 (by decide) ?_
        refine lv_ixor hx hb dL_law_763 ?_
        refine lv_topi (fun y11 ey11 => ?_)
        refine lv_iand hx hb dL_law_764 ?_
        refine lv_topi (fun y12 ey12 => ?_)
        refine lv_if_ne (tgt := 811) hx hb dL_law_765 (by decide) (fun c13 => ?_) (fun c13 => ?_)
        · exact absurd ((sub_iff tr9 tr10 (mB3_le (u := 0) _ _ h3_) (mB3_le (u := 0) _ _ h3_) ey11 ey12).mpr (bits_sub h3_ (fun a_ ha_ q_ => strict_truly (u := 2) (by decide) (by decide) hP hf ha_ q_))) c13
        · refine lv_aload_n hx hb dL_law_768 rfl (lv_at hl 1 rfl) ?_
          refine lv_iload hx hb dL_law_769 (lv_at hl 9 rfl) ?_
          refine lv_iconst (v := 0) hx hb dL_law_771 (by decide) ?_
          refine lk_early C I hl.1 (Nat.le_of_ble_eq_true rfl) dL_law_772 (fun r14 h H locs I A14 => ?_)
          have tr14 : r14.toInt = (((sm (fun j => ePart (sM st) 0 (pB (sM st) f j)) (pL (sM st) f)) : Nat) : Int) := early_at (w := 0) A14 hf hx9 (by decide) (by decide)
          refine lv_if_lt (tgt := 811) hx hb dL_law_775 (by decide) (fun c15 => ?_) (fun c15 => ?_)
          · have c15 : (((sm (fun j => ePart (sM st) 0 (pB (sM st) f j)) (pL (sM st) f)) : Nat) : Int) < (0 : Int) := (i_lt tr14 (rfl : (0 : Int32).toInt = 0)).mp c15
            exfalso; omega
          · have c15 : ¬ ((((sm (fun j => ePart (sM st) 0 (pB (sM st) f j)) (pL (sM st) f)) : Nat) : Int) < (0 : Int)) := fun q => c15 ((i_lt tr14 (rfl : (0 : Int32).toInt = 0)).mpr q)
            refine lv_aload_n hx hb dL_law_778 rfl (lv_at hl 1 rfl) ?_
            refine lv_iload hx hb dL_law_779 (lv_at hl 9 rfl) ?_
            refine lv_iconst (v := 2) hx hb dL_law_781 (by decide) ?_
            refine lk_early C I hl.1 (Nat.le_of_ble_eq_true rfl) dL_law_782 (fun r16 h H locs I A16 => ?_)
            have tr16 : r16.toInt = (((sm (fun j => ePart (sM st) 2 (pB (sM st) f j)) (pL (sM st) f)) : Nat) : Int) := early_at (w := 2) A16 hf hx9 (by decide) (by decide)
            refine lv_aload_n hx hb dL_law_785 rfl (lv_at hl 1 rfl) ?_
            refine lv_iload hx hb dL_law_786 (lv_at hl 9 rfl) ?_
            refine lv_iconst (v := 3) hx hb dL_law_788 (by decide) ?_
            refine lk_early C I hl.1 (Nat.le_of_ble_eq_true rfl) dL_law_789 (fun r17 h H locs I A17 => ?_)
            have tr17 : r17.toInt = (((sm (fun j => ePart (sM st) 3 (pB (sM st) f j)) (pL (sM st) f)) : Nat) : Int) := early_at (w := 3) A17 hf hx9 (by decide) (by decide)
            refine lv_icmp_gt (tgt := 811) hx hb dL_law_792 (by decide) (fun c18 => ?_) (fun c18 => ?_)
            · have c18 : (((sm (fun j => ePart (sM st) 3 (pB (sM st) f j)) (pL (sM st) f)) : Nat) : Int) < (((sm (fun j => ePart (sM st) 2 (pB (sM st) f j)) (pL (sM st) f)) : Nat) : Int) := (i_lt tr17 tr16).mp c18
              exfalso; omega
            · have c18 : ¬ ((((sm (fun j => ePart (sM st) 3 (pB (sM st) f j)) (pL (sM st) f)) : Nat) : Int) < (((sm (fun j => ePart (sM st) 2 (pB (sM st) f j)) (pL (sM st) f)) : Nat) : Int)) := fun q => c18 ((i_lt tr17 tr16).mpr q)
              refine lv_aload_n hx hb dL_law_795 rfl (lv_at hl 1 rfl) ?_
              refine lv_iload hx hb dL_law_796 (lv_at hl 9 rfl) ?_
              refine lv_iload hx hb dL_law_798 (lv_at hl 9 rfl) ?_
              refine lk_same C I hl.1 (Nat.le_of_ble_eq_true rfl) dL_law_800 (fun r19 h H locs I A19 => ?_)
              have hsm_ := same_at A19 hP hf hf hx9 hx9
              refine lv_iconst (v := 1) hx hb dL_law_803 (by decide) ?_
              refine lv_icmp_ne (tgt := 811) hx hb dL_law_804 (by decide) (fun c20 => ?_) (fun c20 => ?_)
              · (rcases hsm_ with ⟨z_, _⟩ | ⟨_, z_⟩); exact absurd z_ c20; exact absurd SaT.rf z_
              · refine lv_iconst (v := 1) hx hb dL_law_807 (by decide) ?_
                refine lv_goto (tgt := 812) hx hb dL_law_808 (by decide) ?_
                refine lv_istore (lv' := [(7, .int 1), (0, .ref b), (1, .ref (g.2.2.1 0)), (2, .ref (g.2.2.1 143)), (3, .ref (g.2.2.1 144)), (4, .int x4), (5, .int x5), (6, .int x6), (8, .int x8b), (9, .int x9), (10, .int x10), (11, .int x11), (13, .int x13)]) hx hb dL_law_812 hl (by decide) rfl (fun ls hl => ?_)
                exact K  _ _ _ _ I (lv_sub hl [1, 2, 3, 4, 5, 6, 7, 0, 8, 9, 10, 11] rfl) 

set_option maxHeartbeats 8000000 in
set_option maxRecDepth 100000 in
theorem seg_fi (C : LwC p s m c args b L xs cells slots) (I : LI g h s st gd gb H locs) {x4 x5 x6 x8 x9 x10 x11 : Int32} {f : Nat} (hf : f < pN (sM st)) (hx6 : x6.toInt = ((pN (sM st) : Nat) : Int)) (hx8 : x8.toInt = ((sm (neF (sM st)) f : Nat) : Int)) (hx9 : x9.toInt = ((f : Nat) : Int)) (hx10 : x10.toInt = ((pA (sM st) f : Nat) : Int)) (hx11 : x11.toInt = ((pK (sM st) f : Nat) : Int)) {x8b : Int32} (hx8b : x8b.toInt = (((sm (neF (sM st)) (f + 1)) : Nat) : Int)) (hl : lv_has ls 20 [(0, .ref b), (1, .ref (g.2.2.1 0)), (2, .ref (g.2.2.1 143)), (3, .ref (g.2.2.1 144)), (4, .int x4), (5, .int x5), (6, .int x6), (7, .int 1), (8, .int x8b), (9, .int x9), (10, .int x10), (11, .int x11)]) (K : ∀  (h : Nat → va_E) (H : Heap) (locs : List Loc) (ls : Array Slot), LI g h s st gd gb H locs → lv_has ls 20 [(0, .ref b), (1, .ref (g.2.2.1 0)), (2, .ref (g.2.2.1 143)), (3, .ref (g.2.2.1 144)), (4, .int x4), (5, .int x5), (6, .int x6), (7, .int 1), (8, .int x8b), (9, .int x9), (10, .int x10), (11, .int x11)] → W p l e room_1 s m args below meth c H locs cells slots Q (F0 m 895 ls [])) : W p l e room_1 s m args below meth c H locs cells slots Q (F0 m 814 ls []) := by
  obtain ⟨hx, hb, hml, hown, hts, hX, hcs⟩ := id C
  have hP := I.hP
  have hn4 := hP.2.1
  have h8_ := rows_1 hP hf
  have hFC_ := sm_ub (f := frF (sM st) f) (c := 1) (mRw 1 (sM st) f) (fun _ _ => fF_le)
  have h3_ := (hP.2.2 f hf).1
  have hne_ := sm_ub (f := neF (sM st)) (c := 1) f (fun _ _ => neF_le)
  have cuts : ∀ N_ : Nat, (∀ (v : Nat) (x15 : Int32) (h : Nat → va_E) (H : Heap) (locs : List Loc) (ls : Array Slot), LI g h s st gd gb H locs → lv_has ls 20 [(0, .ref b), (1, .ref (g.2.2.1 0)), (2, .ref (g.2.2.1 143)), (3, .ref (g.2.2.1 144)), (4, .int x4), (5, .int x5), (6, .int x6), (7, .int 1), (8, .int x8b), (9, .int x9), (10, .int x10), (11, .int x11), (15, .int x15)] → (v ≤ 5) → (x15.toInt = ((v : Nat) : Int)) → 6 - v < N_ → W p l e room_1 s m args below meth c H locs cells slots Q (F0 m 817 ls [])) := by
    intro N_
    induction N_ with
    | zero => exact by intros; omega
    | succ N_ ih =>
      have ih817 := ih
      · intro v x15 h H locs ls I hl hv hx15 hN_
        refine lv_iload hx hb dL_law_817 (lv_at hl 12 rfl) ?_
        refine lv_iconst (v := 5) hx hb dL_law_819 (by decide) ?_
        refine lv_icmp_ge (tgt := 895) hx hb dL_law_820 (by decide) (fun c1 => ?_) (fun c1 => ?_)
        · have c1 : ((5 : Nat) : Int) ≤ ((v : Nat) : Int) := (i_le (by decide : (5 : Int32).toInt = ((5 : Nat) : Int)) hx15).mp c1
          exact K  _ _ _ _ I (lv_sub hl [0, 1, 2, 3, 4, 5, 6, 7, 8, 9, 10, 11] rfl) 
        · have c1 : ¬ (((5 : Nat) : Int) ≤ ((v : Nat) : Int)) := fun q => c1 ((i_le (by decide : (5 : Int32).toInt = ((5 : Nat) : Int)) hx15).mpr q)
          refine lv_aload_n hx hb dL_law_823 rfl (lv_at hl 1 rfl) ?_
          refine lv_iload hx hb dL_law_824 (lv_at hl 9 rfl) ?_
          refine lv_iload hx hb dL_law_826 (lv_at hl 12 rfl) ?_
          refine lk_first C I hl.1 (Nat.le_of_ble_eq_true rfl) dL_law_828 (fun r2 h H locs I A2 => ?_)
          have hfi_ := first_at A2 hP hf hx9 hx15 (by omega)
          refine lv_istore (lv' := [(16, .int r2), (0, .ref b), (1, .ref (g.2.2.1 0)), (2, .ref (g.2.2.1 143)), (3, .ref (g.2.2.1 144)), (4, .int x4), (5, .int x5), (6, .int x6), (7, .int 1), (8, .int x8b), (9, .int x9), (10, .int x10), (11, .int x11), (15, .int x15)]) hx hb dL_law_831 hl (by decide) rfl (fun ls hl => ?_)
          refine lv_iload hx hb dL_law_833 (lv_at hl 8 rfl) ?_
          refine lv_if_eq (tgt := 886) hx hb dL_law_835 (by decide) (fun c3 => ?_) (fun c3 => ?_)
          · have c3 : ((1 : Nat) : Int) = (0 : Int) := (i_eq (by decide : (1 : Int32).toInt = ((1 : Nat) : Int)) (rfl : (0 : Int32).toInt = 0)).mp c3
            exfalso; omega
          · have c3 : ¬ (((1 : Nat) : Int) = (0 : Int)) := fun q => c3 ((i_eq (by decide : (1 : Int32).toInt = ((1 : Nat) : Int)) (rfl : (0 : Int32).toInt = 0)).mpr q)
            refine lv_iload hx hb dL_law_838 (lv_at hl 0 rfl) ?_
            refine lv_if_ge (tgt := 853) hx hb dL_law_840 (by decide) (fun c4 => ?_) (fun c4 => ?_)
            · have c4 : (0 : Int) ≤ r2.toInt := (i_le (rfl : (0 : Int32).toInt = 0) (rfl : r2.toInt = r2.toInt)).mp c4
              obtain ⟨q, hq1_, hq2_, -, hq3_⟩ := hfi_.resolve_right (fun z_ => by have z2_ := z_.2; omega)
              have e1_ : (100 * (q / 25) + 10 * (q / 5 % 5) + q % 5) / 100 = q / 25 := by omega
              have e2_ : (100 * (q / 25) + 10 * (q / 5 % 5) + q % 5) / 10 % 10 = q / 5 % 5 := by omega
              have e3_ : (100 * (q / 25) + 10 * (q / 5 % 5) + q % 5) % 10 = q % 5 := by omega
              refine lv_aload_n hx hb dL_law_853 rfl (lv_at hl 2 rfl) ?_
              refine lv_iload hx hb dL_law_854 (lv_at hl 10 rfl) ?_
              refine lv_iload hx hb dL_law_856 (lv_at hl 0 rfl) ?_
              refine lv_bipush (v := 100) hx hb dL_law_858 (by decide) ?_
              refine lv_idiv hx hb dL_law_860 (fun q => absurd ((i_eq (by decide : (100 : Int32).toInt = ((100 : Nat) : Int)) (by decide : (0 : Int32).toInt = (0 : Int))).mp q) (by omega)) ?_
              refine lv_topi (fun y5 ey5 => ?_)
              have ty5 : y5.toInt = ((((100 * (q / 25) + 10 * (q / 5 % 5) + q % 5) / 100) : Nat) : Int) := i_divN ey5 hq3_ (by decide : (100 : Int32).toInt = ((100 : Nat) : Int)) (by omega)
              refine lv_iload hx hb dL_law_861 (lv_at hl 0 rfl) ?_
              refine lv_bipush (v := 10) hx hb dL_law_863 (by decide) ?_
              refine lv_idiv hx hb dL_law_865 (fun q => absurd ((i_eq (by decide : (10 : Int32).toInt = ((10 : Nat) : Int)) (by decide : (0 : Int32).toInt = (0 : Int))).mp q) (by omega)) ?_
              refine lv_topi (fun y6 ey6 => ?_)
              have ty6 : y6.toInt = ((((100 * (q / 25) + 10 * (q / 5 % 5) + q % 5) / 10) : Nat) : Int) := i_divN ey6 hq3_ (by decide : (10 : Int32).toInt = ((10 : Nat) : Int)) (by omega)
              refine lv_bipush (v := 10) hx hb dL_law_866 (by decide) ?_
              refine lv_irem hx hb dL_law_868 (fun q => absurd ((i_eq (by decide : (10 : Int32).toInt = ((10 : Nat) : Int)) (by decide : (0 : Int32).toInt = (0 : Int))).mp q) (by omega)) ?_
              refine lv_topi (fun y7 ey7 => ?_)
              have ty7 : y7.toInt = (((((100 * (q / 25) + 10 * (q / 5 % 5) + q % 5) / 10) % 10) : Nat) : Int) := i_remN ey7 ty6 (by decide : (10 : Int32).toInt = ((10 : Nat) : Int)) (by omega)
              refine lv_iload hx hb dL_law_869 (lv_at hl 0 rfl) ?_
              refine lv_bipush (v := 10) hx hb dL_law_871 (by decide) ?_
              refine lv_irem hx hb dL_law_873 (fun q => absurd ((i_eq (by decide : (10 : Int32).toInt = ((10 : Nat) : Int)) (by decide : (0 : Int32).toInt = (0 : Int))).mp q) (by omega)) ?_
              refine lv_topi (fun y8 ey8 => ?_)
              have ty8 : y8.toInt = ((((100 * (q / 25) + 10 * (q / 5 % 5) + q % 5) % 10) : Nat) : Int) := i_remN ey8 hq3_ (by decide : (10 : Int32).toInt = ((10 : Nat) : Int)) (by omega)
              refine lk_value C I hl.1 (Nat.le_of_ble_eq_true rfl) dL_law_874 (fun r9 h H locs I A9 => ?_)
              have tr9 : r9.toInt = ((v : Nat) : Int) := ((tab_at A9 hP hf hx9 (ty5.trans (by rw [e1_])) (ty7.trans (by rw [e2_])) (ty8.trans (by rw [e3_]))).1 hq2_.1).trans (by rw [← hq2_.2]; rfl)
              refine lv_iload hx hb dL_law_877 (lv_at hl 13 rfl) ?_
              refine lv_icmp_ne (tgt := 886) hx hb dL_law_879 (by decide) (fun c10 => ?_) (fun c10 => ?_)
              · have c10 : ¬ (((v : Nat) : Int) = ((v : Nat) : Int)) := fun q => c10 ((i_eq tr9 hx15).mpr q)
                exfalso; omega
              · have c10 : ((v : Nat) : Int) = ((v : Nat) : Int) := (i_eq tr9 hx15).mp c10
                refine lv_iconst (v := 1) hx hb dL_law_882 (by decide) ?_
                refine lv_goto (tgt := 887) hx hb dL_law_883 (by decide) ?_
                refine lv_istore (lv' := [(7, .int 1), (16, .int r2), (0, .ref b), (1, .ref (g.2.2.1 0)), (2, .ref (g.2.2.1 143)), (3, .ref (g.2.2.1 144)), (4, .int x4), (5, .int x5), (6, .int x6), (8, .int x8b), (9, .int x9), (10, .int x10), (11, .int x11), (15, .int x15)]) hx hb dL_law_887 hl (by decide) rfl (fun ls hl => ?_)
                obtain ⟨y11, ey11⟩ : ∃ y : Int32, y = x15 + (1) := ⟨_, rfl⟩
                have ty11 : y11.toInt = (((v + 1) : Nat) : Int) := i_addN ey11 hx15 (by decide : (1 : Int32).toInt = ((1 : Nat) : Int)) (by omega)
                refine lv_iinc (v := y11) (lv' := [(15, .int y11), (7, .int 1), (16, .int r2), (0, .ref b), (1, .ref (g.2.2.1 0)), (2, .ref (g.2.2.1 143)), (3, .ref (g.2.2.1 144)), (4, .int x4), (5, .int x5), (6, .int x6), (8, .int x8b), (9, .int x9), (10, .int x10), (11, .int x11)]) hx hb dL_law_889 hl (k := 13) rfl (by rw [ey11]; rfl) (by decide) rfl (fun ls hl => ?_)
                refine lv_goto (tgt := 817) hx hb dL_law_892 (by decide) ?_
                exact ih817 (v + 1) y11 _ _ _ _ I (lv_sub hl [3, 4, 5, 6, 7, 8, 9, 1, 10, 11, 12, 13, 0] rfl) (by omega) ty11 (by omega)
            · have c4 : ¬ ((0 : Int) ≤ r2.toInt) := fun q => c4 ((i_le (rfl : (0 : Int32).toInt = 0) (rfl : r2.toInt = r2.toInt)).mpr q)
              refine lv_iload hx hb dL_law_843 (lv_at hl 0 rfl) ?_
              refine lv_bipush (v := (-4)) hx hb dL_law_845 (by decide) ?_
              refine lv_icmp_ne (tgt := 886) hx hb dL_law_847 (by decide) (fun c12 => ?_) (fun c12 => ?_)
              · have c12 : ¬ (r2.toInt = (-4 : Int)) := fun q => c12 ((i_eq (rfl : r2.toInt = r2.toInt) (by decide : (-4 : Int32).toInt = (-4 : Int))).mpr q)
                exfalso; (rcases hfi_ with ⟨_, _, _, _, z_⟩ | ⟨_, z_⟩) <;> omega
              · have c12 : r2.toInt = (-4 : Int) := (i_eq (rfl : r2.toInt = r2.toInt) (by decide : (-4 : Int32).toInt = (-4 : Int))).mp c12
                refine lv_goto (tgt := 882) hx hb dL_law_850 (by decide) ?_
                refine lv_iconst (v := 1) hx hb dL_law_882 (by decide) ?_
                refine lv_goto (tgt := 887) hx hb dL_law_883 (by decide) ?_
                refine lv_istore (lv' := [(7, .int 1), (16, .int r2), (0, .ref b), (1, .ref (g.2.2.1 0)), (2, .ref (g.2.2.1 143)), (3, .ref (g.2.2.1 144)), (4, .int x4), (5, .int x5), (6, .int x6), (8, .int x8b), (9, .int x9), (10, .int x10), (11, .int x11), (15, .int x15)]) hx hb dL_law_887 hl (by decide) rfl (fun ls hl => ?_)
                obtain ⟨y13, ey13⟩ : ∃ y : Int32, y = x15 + (1) := ⟨_, rfl⟩
                have ty13 : y13.toInt = (((v + 1) : Nat) : Int) := i_addN ey13 hx15 (by decide : (1 : Int32).toInt = ((1 : Nat) : Int)) (by omega)
                refine lv_iinc (v := y13) (lv' := [(15, .int y13), (7, .int 1), (16, .int r2), (0, .ref b), (1, .ref (g.2.2.1 0)), (2, .ref (g.2.2.1 143)), (3, .ref (g.2.2.1 144)), (4, .int x4), (5, .int x5), (6, .int x6), (8, .int x8b), (9, .int x9), (10, .int x10), (11, .int x11)]) hx hb dL_law_889 hl (k := 13) rfl (by rw [ey13]; rfl) (by decide) rfl (fun ls hl => ?_)
                refine lv_goto (tgt := 817) hx hb dL_law_892 (by decide) ?_
                exact ih817 (v + 1) y13 _ _ _ _ I (lv_sub hl [3, 4, 5, 6, 7, 8, 9, 1, 10, 11, 12, 13, 0] rfl) (by omega) ty13 (by omega)
  have ih817 := cuts (20)
  refine lv_iconst (v := 0) hx hb dL_law_814 (by decide) ?_
  refine lv_istore (lv' := [(15, .int 0), (0, .ref b), (1, .ref (g.2.2.1 0)), (2, .ref (g.2.2.1 143)), (3, .ref (g.2.2.1 144)), (4, .int x4), (5, .int x5), (6, .int x6), (7, .int 1), (8, .int x8b), (9, .int x9), (10, .int x10), (11, .int x11)]) hx hb dL_law_815 hl (by decide) rfl (fun ls hl => ?_)
  exact ih817 0 0 _ _ _ _ I (lv_sub hl [1, 2, 3, 4, 5, 6, 7, 8, 9, 10, 11, 12, 0] rfl) (by decide) ((by decide : (0 : Int32).toInt = ((0 : Nat) : Int))) (by omega)

set_option maxHeartbeats 8000000 in
set_option maxRecDepth 100000 in
theorem seg_sa (C : LwC p s m c args b L xs cells slots) (I : LI g h s st gd gb H locs) {x4 x5 x6 x8 x9 x10 x11 : Int32} {f : Nat} (hf : f < pN (sM st)) (hx6 : x6.toInt = ((pN (sM st) : Nat) : Int)) (hx8 : x8.toInt = ((sm (neF (sM st)) f : Nat) : Int)) (hx9 : x9.toInt = ((f : Nat) : Int)) (hx10 : x10.toInt = ((pA (sM st) f : Nat) : Int)) (hx11 : x11.toInt = ((pK (sM st) f : Nat) : Int)) {x8b : Int32} (hx8b : x8b.toInt = (((sm (neF (sM st)) (f + 1)) : Nat) : Int)) (hl : lv_has ls 20 [(0, .ref b), (1, .ref (g.2.2.1 0)), (2, .ref (g.2.2.1 143)), (3, .ref (g.2.2.1 144)), (4, .int x4), (5, .int x5), (6, .int x6), (7, .int 1), (8, .int x8b), (9, .int x9), (10, .int x10), (11, .int x11)]) (K : ∀  (h : Nat → va_E) (H : Heap) (locs : List Loc) (ls : Array Slot), LI g h s st gd gb H locs → lv_has ls 20 [(0, .ref b), (1, .ref (g.2.2.1 0)), (2, .ref (g.2.2.1 143)), (3, .ref (g.2.2.1 144)), (4, .int x4), (5, .int x5), (6, .int x6), (7, .int 1), (8, .int x8b), (9, .int x9), (10, .int x10), (11, .int x11)] → W p l e room_1 s m args below meth c H locs cells slots Q (F0 m 1029 ls [])) : W p l e room_1 s m args below meth c H locs cells slots Q (F0 m 895 ls []) := by
  obtain ⟨hx, hb, hml, hown, hts, hX, hcs⟩ := id C
  have hP := I.hP
  have hn4 := hP.2.1
  have h8_ := rows_1 hP hf
  have hFC_ := sm_ub (f := frF (sM st) f) (c := 1) (mRw 1 (sM st) f) (fun _ _ => fF_le)
  have h3_ := (hP.2.2 f hf).1
  have hne_ := sm_ub (f := neF (sM st)) (c := 1) f (fun _ _ => neF_le)
  have cuts : ∀ N_ : Nat, (∀ (g2 : Nat) (x15 : Int32) (h : Nat → va_E) (H : Heap) (locs : List Loc) (ls : Array Slot), LI g h s st gd gb H locs → lv_has ls 20 [(0, .ref b), (1, .ref (g.2.2.1 0)), (2, .ref (g.2.2.1 143)), (3, .ref (g.2.2.1 144)), (4, .int x4), (5, .int x5), (6, .int x6), (7, .int 1), (8, .int x8b), (9, .int x9), (10, .int x10), (11, .int x11), (15, .int x15)] → (g2 ≤ f) → (x15.toInt = ((g2 : Nat) : Int)) → 10 * (f - g2) + 9 < N_ → W p l e room_1 s m args below meth c H locs cells slots Q (F0 m 898 ls [])) ∧ (∀ (g2 : Nat) (x15 : Int32) (v : Nat) (x16 : Int32) (h : Nat → va_E) (H : Heap) (locs : List Loc) (ls : Array Slot), LI g h s st gd gb H locs → lv_has ls 20 [(0, .ref b), (1, .ref (g.2.2.1 0)), (2, .ref (g.2.2.1 143)), (3, .ref (g.2.2.1 144)), (4, .int x4), (5, .int x5), (6, .int x6), (7, .int 1), (8, .int x8b), (9, .int x9), (10, .int x10), (11, .int x11), (15, .int x15), (16, .int x16)] → (g2 < f) → (x15.toInt = ((g2 : Nat) : Int)) → (v ≤ 5) → (x16.toInt = ((v : Nat) : Int)) → 10 * (f - g2) + (5 - v) < N_ → W p l e room_1 s m args below meth c H locs cells slots Q (F0 m 939 ls [])) := by
    intro N_
    induction N_ with
    | zero => exact ⟨by intros; omega, by intros; omega⟩
    | succ N_ ih =>
      obtain ⟨ih898, ih939⟩ := ih
      refine ⟨?_, ?_⟩
      · intro g2 x15 h H locs ls I hl hg2 hx15 hN_
        refine lv_iload hx hb dL_law_898 (lv_at hl 12 rfl) ?_
        refine lv_iload hx hb dL_law_900 (lv_at hl 9 rfl) ?_
        refine lv_icmp_ge (tgt := 1029) hx hb dL_law_902 (by decide) (fun c1 => ?_) (fun c1 => ?_)
        · have c1 : ((f : Nat) : Int) ≤ ((g2 : Nat) : Int) := (i_le hx9 hx15).mp c1
          exact K  _ _ _ _ I (lv_sub hl [0, 1, 2, 3, 4, 5, 6, 7, 8, 9, 10, 11] rfl) 
        · have c1 : ¬ (((f : Nat) : Int) ≤ ((g2 : Nat) : Int)) := fun q => c1 ((i_le hx9 hx15).mpr q)
          have hg : g2 < pN (sM st) := by omega
          refine lv_iload hx hb dL_law_905 (lv_at hl 7 rfl) ?_
          refine lv_if_eq (tgt := 933) hx hb dL_law_907 (by decide) (fun c2 => ?_) (fun c2 => ?_)
          · have c2 : ((1 : Nat) : Int) = (0 : Int) := (i_eq (by decide : (1 : Int32).toInt = ((1 : Nat) : Int)) (rfl : (0 : Int32).toInt = 0)).mp c2
            exfalso; omega
          · have c2 : ¬ (((1 : Nat) : Int) = (0 : Int)) := fun q => c2 ((i_eq (by decide : (1 : Int32).toInt = ((1 : Nat) : Int)) (rfl : (0 : Int32).toInt = 0)).mpr q)
            refine lv_aload_n hx hb dL_law_910 rfl (lv_at hl 1 rfl) ?_
            refine lv_iload hx hb dL_law_911 (lv_at hl 9 rfl) ?_
            refine lv_iload hx hb dL_law_913 (lv_at hl 12 rfl) ?_
            refine lk_same C I hl.1 (Nat.le_of_ble_eq_true rfl) dL_law_915 (fun r3 h H locs I A3 => ?_)
            have hs1_ := same_at A3 hP hf hg hx9 hx15
            refine lv_aload_n hx hb dL_law_918 rfl (lv_at hl 1 rfl) ?_
            refine lv_iload hx hb dL_law_919 (lv_at hl 12 rfl) ?_
            refine lv_iload hx hb dL_law_921 (lv_at hl 9 rfl) ?_
            refine lk_same C I hl.1 (Nat.le_of_ble_eq_true rfl) dL_law_923 (fun r4 h H locs I A4 => ?_)
            have hs2_ := same_at A4 hP hg hf hx15 hx9
            refine lv_icmp_ne (tgt := 933) hx hb dL_law_926 (by decide) (fun c5 => ?_) (fun c5 => ?_)
            · (rcases hs1_ with ⟨y_, z_⟩ | ⟨y_, z_⟩) <;> (rcases hs2_ with ⟨y2_, z2_⟩ | ⟨y2_, z2_⟩); exact absurd (y_.trans y2_.symm) c5; exact absurd z_.sy z2_; exact absurd z2_.sy z_; exact absurd (y_.trans y2_.symm) c5
            · refine lv_iconst (v := 1) hx hb dL_law_929 (by decide) ?_
              refine lv_goto (tgt := 934) hx hb dL_law_930 (by decide) ?_
              refine lv_istore (lv' := [(7, .int 1), (0, .ref b), (1, .ref (g.2.2.1 0)), (2, .ref (g.2.2.1 143)), (3, .ref (g.2.2.1 144)), (4, .int x4), (5, .int x5), (6, .int x6), (8, .int x8b), (9, .int x9), (10, .int x10), (11, .int x11), (15, .int x15)]) hx hb dL_law_934 hl (by decide) rfl (fun ls hl => ?_)
              refine lv_iconst (v := 0) hx hb dL_law_936 (by decide) ?_
              refine lv_istore (lv' := [(16, .int 0), (7, .int 1), (0, .ref b), (1, .ref (g.2.2.1 0)), (2, .ref (g.2.2.1 143)), (3, .ref (g.2.2.1 144)), (4, .int x4), (5, .int x5), (6, .int x6), (8, .int x8b), (9, .int x9), (10, .int x10), (11, .int x11), (15, .int x15)]) hx hb dL_law_937 hl (by decide) rfl (fun ls hl => ?_)
              exact ih939 g2 x15 0 0 _ _ _ _ I (lv_sub hl [2, 3, 4, 5, 6, 7, 8, 1, 9, 10, 11, 12, 13, 0] rfl) (by omega) hx15 (by decide) ((by decide : (0 : Int32).toInt = ((0 : Nat) : Int))) (by omega)
      · intro g2 x15 v x16 h H locs ls I hl hg2 hx15 hv hx16 hN_
        have hg : g2 < pN (sM st) := by omega
        refine lv_iload hx hb dL_law_939 (lv_at hl 13 rfl) ?_
        refine lv_iconst (v := 5) hx hb dL_law_941 (by decide) ?_
        refine lv_icmp_ge (tgt := 1023) hx hb dL_law_942 (by decide) (fun c6 => ?_) (fun c6 => ?_)
        · have c6 : ((5 : Nat) : Int) ≤ ((v : Nat) : Int) := (i_le (by decide : (5 : Int32).toInt = ((5 : Nat) : Int)) hx16).mp c6
          obtain ⟨y7, ey7⟩ : ∃ y : Int32, y = x15 + (1) := ⟨_, rfl⟩
          have ty7 : y7.toInt = (((g2 + 1) : Nat) : Int) := i_addN ey7 hx15 (by decide : (1 : Int32).toInt = ((1 : Nat) : Int)) (by omega)
          refine lv_iinc (v := y7) (lv' := [(15, .int y7), (0, .ref b), (1, .ref (g.2.2.1 0)), (2, .ref (g.2.2.1 143)), (3, .ref (g.2.2.1 144)), (4, .int x4), (5, .int x5), (6, .int x6), (7, .int 1), (8, .int x8b), (9, .int x9), (10, .int x10), (11, .int x11), (16, .int x16)]) hx hb dL_law_1023 hl (k := 12) rfl (by rw [ey7]; rfl) (by decide) rfl (fun ls hl => ?_)
          refine lv_goto (tgt := 898) hx hb dL_law_1026 (by decide) ?_
          exact ih898 (g2 + 1) y7 _ _ _ _ I (lv_sub hl [1, 2, 3, 4, 5, 6, 7, 8, 9, 10, 11, 12, 0] rfl) (by omega) ty7 (by omega)
        · have c6 : ¬ (((5 : Nat) : Int) ≤ ((v : Nat) : Int)) := fun q => c6 ((i_le (by decide : (5 : Int32).toInt = ((5 : Nat) : Int)) hx16).mpr q)
          refine lv_aload_n hx hb dL_law_945 rfl (lv_at hl 1 rfl) ?_
          refine lv_iload hx hb dL_law_946 (lv_at hl 9 rfl) ?_
          refine lv_iload hx hb dL_law_948 (lv_at hl 12 rfl) ?_
          refine lk_same C I hl.1 (Nat.le_of_ble_eq_true rfl) dL_law_950 (fun r8 h H locs I A8 => ?_)
          have hs1_ := same_at A8 hP hf hg hx9 hx15
          refine lv_iconst (v := 1) hx hb dL_law_953 (by decide) ?_
          refine lv_icmp_ne (tgt := 1023) hx hb dL_law_954 (by decide) (fun c9 => ?_) (fun c9 => ?_)
          · obtain ⟨y10, ey10⟩ : ∃ y : Int32, y = x15 + (1) := ⟨_, rfl⟩
            have ty10 : y10.toInt = (((g2 + 1) : Nat) : Int) := i_addN ey10 hx15 (by decide : (1 : Int32).toInt = ((1 : Nat) : Int)) (by omega)
            refine lv_iinc (v := y10) (lv' := [(15, .int y10), (0, .ref b), (1, .ref (g.2.2.1 0)), (2, .ref (g.2.2.1 143)), (3, .ref (g.2.2.1 144)), (4, .int x4), (5, .int x5), (6, .int x6), (7, .int 1), (8, .int x8b), (9, .int x9), (10, .int x10), (11, .int x11), (16, .int x16)]) hx hb dL_law_1023 hl (k := 12) rfl (by rw [ey10]; rfl) (by decide) rfl (fun ls hl => ?_)
            refine lv_goto (tgt := 898) hx hb dL_law_1026 (by decide) ?_
            exact ih898 (g2 + 1) y10 _ _ _ _ I (lv_sub hl [1, 2, 3, 4, 5, 6, 7, 8, 9, 10, 11, 12, 0] rfl) (by omega) ty10 (by omega)
          · have hS_ : SaT (sM st) f g2 := by (rcases hs1_ with ⟨_, z_⟩ | ⟨z_, _⟩); exact z_; rw [z_] at c9; exact absurd c9 (by decide)
            have hsc_ : (mBits (mStrictF (wU 2) (sM st) f) (pA (sM st) f)) = (mBits (mStrictF (wU 2) (sM st) g2) (pA (sM st) g2)) := strict_cg hP hf hg hS_
            have hpa_ := hS_.1
            refine lv_iload hx hb dL_law_957 (lv_at hl 7 rfl) ?_
            refine lv_if_eq (tgt := 1014) hx hb dL_law_959 (by decide) (fun c11 => ?_) (fun c11 => ?_)
            · have c11 : ((1 : Nat) : Int) = (0 : Int) := (i_eq (by decide : (1 : Int32).toInt = ((1 : Nat) : Int)) (rfl : (0 : Int32).toInt = 0)).mp c11
              exfalso; omega
            · have c11 : ¬ (((1 : Nat) : Int) = (0 : Int)) := fun q => c11 ((i_eq (by decide : (1 : Int32).toInt = ((1 : Nat) : Int)) (rfl : (0 : Int32).toInt = 0)).mpr q)
              refine lv_aload_n hx hb dL_law_962 rfl (lv_at hl 1 rfl) ?_
              refine lv_iload hx hb dL_law_963 (lv_at hl 9 rfl) ?_
              refine lv_iload hx hb dL_law_965 (lv_at hl 13 rfl) ?_
              refine lk_first C I hl.1 (Nat.le_of_ble_eq_true rfl) dL_law_967 (fun r12 h H locs I A12 => ?_)
              have hf1_ := first_at A12 hP hf hx9 hx16 (by omega)
              refine lv_aload_n hx hb dL_law_970 rfl (lv_at hl 1 rfl) ?_
              refine lv_iload hx hb dL_law_971 (lv_at hl 12 rfl) ?_
              refine lv_iload hx hb dL_law_973 (lv_at hl 13 rfl) ?_
              refine lk_first C I hl.1 (Nat.le_of_ble_eq_true rfl) dL_law_975 (fun r13 h H locs I A13 => ?_)
              have hf2_ := first_at A13 hP hg hx15 hx16 (by omega)
              refine lv_icmp_ne (tgt := 1014) hx hb dL_law_978 (by decide) (fun c14 => ?_) (fun c14 => ?_)
              · have c14 : ¬ (r12.toInt = r13.toInt) := fun q => c14 ((i_eq (rfl : r12.toInt = r12.toInt) (rfl : r13.toInt = r13.toInt)).mpr q)
                exact absurd ((FiQ.cg hP hf hS_ hf1_).inj hf2_) c14
              · have c14 : r12.toInt = r13.toInt := (i_eq (rfl : r12.toInt = r12.toInt) (rfl : r13.toInt = r13.toInt)).mp c14
                refine lv_aload_n hx hb dL_law_981 rfl (lv_at hl 1 rfl) ?_
                refine lv_iload hx hb dL_law_982 (lv_at hl 9 rfl) ?_
                refine lv_iconst (v := 2) hx hb dL_law_984 (by decide) ?_
                refine lk_strict C I hl.1 (Nat.le_of_ble_eq_true rfl) dL_law_985 (fun r15 h H locs I A15 => ?_)
                have tr15 : r15.toInt = (((mBits (mStrictF (wU 2) (sM st) f) (pA (sM st) f)) : Nat) : Int) := strict_at (w := 2) A15 hf hx9 (by decide) (by decide)
                refine lv_aload_n hx hb dL_law_988 rfl (lv_at hl 1 rfl) ?_
                refine lv_iload hx hb dL_law_989 (lv_at hl 12 rfl) ?_
                refine lv_iconst (v := 2) hx hb dL_law_991 (by decide) ?_
                refine lk_strict C I hl.1 (Nat.le_of_ble_eq_true rfl) dL_law_992 (fun r16 h H locs I A16 => ?_)
                have tr16 : r16.toInt = (((mBits (mStrictF (wU 2) (sM st) g2) (pA (sM st) g2)) : Nat) : Int) := strict_at (w := 2) A16 hg hx15 (by decide) (by decide)
                refine lv_icmp_ne (tgt := 1014) hx hb dL_law_995 (by decide) (fun c17 => ?_) (fun c17 => ?_)
                · have c17 : ¬ ((((mBits (mStrictF (wU 2) (sM st) f) (pA (sM st) f)) : Nat) : Int) = (((mBits (mStrictF (wU 2) (sM st) g2) (pA (sM st) g2)) : Nat) : Int)) := fun q => c17 ((i_eq tr15 tr16).mpr q)
                  exfalso; omega
                · have c17 : (((mBits (mStrictF (wU 2) (sM st) f) (pA (sM st) f)) : Nat) : Int) = (((mBits (mStrictF (wU 2) (sM st) g2) (pA (sM st) g2)) : Nat) : Int) := (i_eq tr15 tr16).mp c17
                  refine lv_iload hx hb dL_law_998 (lv_at hl 10 rfl) ?_
                  refine lv_aload_n hx hb dL_law_1000 rfl (lv_at hl 1 rfl) ?_
                  refine lv_iload hx hb dL_law_1001 (lv_at hl 12 rfl) ?_
                  refine lv_iconst (v := 1) hx hb dL_law_1003 (by decide) ?_
                  refine lk_function C I hl.1 (Nat.le_of_ble_eq_true rfl) dL_law_1004 (fun r18 H locs I A18 => ?_)
                  have tr18 : r18.toInt = ((pA (sM st) g2 : Nat) : Int) := (A18.at hx15 hg).2.1 (by decide)
                  refine lv_icmp_ne (tgt := 1014) hx hb dL_law_1007 (by decide) (fun c19 => ?_) (fun c19 => ?_)
                  · have c19 : ¬ ((((pA (sM st) f) : Nat) : Int) = (((pA (sM st) g2) : Nat) : Int)) := fun q => c19 ((i_eq hx10 tr18).mpr q)
                    exfalso; omega
                  · have c19 : (((pA (sM st) f) : Nat) : Int) = (((pA (sM st) g2) : Nat) : Int) := (i_eq hx10 tr18).mp c19
                    refine lv_iconst (v := 1) hx hb dL_law_1010 (by decide) ?_
                    refine lv_goto (tgt := 1015) hx hb dL_law_1011 (by decide) ?_
                    refine lv_istore (lv' := [(7, .int 1), (0, .ref b), (1, .ref (g.2.2.1 0)), (2, .ref (g.2.2.1 143)), (3, .ref (g.2.2.1 144)), (4, .int x4), (5, .int x5), (6, .int x6), (8, .int x8b), (9, .int x9), (10, .int x10), (11, .int x11), (15, .int x15), (16, .int x16)]) hx hb dL_law_1015 hl (by decide) rfl (fun ls hl => ?_)
                    obtain ⟨y20, ey20⟩ : ∃ y : Int32, y = x16 + (1) := ⟨_, rfl⟩
                    have ty20 : y20.toInt = (((v + 1) : Nat) : Int) := i_addN ey20 hx16 (by decide : (1 : Int32).toInt = ((1 : Nat) : Int)) (by omega)
                    refine lv_iinc (v := y20) (lv' := [(16, .int y20), (7, .int 1), (0, .ref b), (1, .ref (g.2.2.1 0)), (2, .ref (g.2.2.1 143)), (3, .ref (g.2.2.1 144)), (4, .int x4), (5, .int x5), (6, .int x6), (8, .int x8b), (9, .int x9), (10, .int x10), (11, .int x11), (15, .int x15)]) hx hb dL_law_1017 hl (k := 13) rfl (by rw [ey20]; rfl) (by decide) rfl (fun ls hl => ?_)
                    refine lv_goto (tgt := 939) hx hb dL_law_1020 (by decide) ?_
                    exact ih939 g2 x15 (v + 1) y20 _ _ _ _ I (lv_sub hl [2, 3, 4, 5, 6, 7, 8, 1, 9, 10, 11, 12, 13, 0] rfl) hg2 hx15 (by omega) ty20 (by omega)
  obtain ⟨ih898, ih939⟩ := cuts (200)
  refine lv_iconst (v := 0) hx hb dL_law_895 (by decide) ?_
  refine lv_istore (lv' := [(15, .int 0), (0, .ref b), (1, .ref (g.2.2.1 0)), (2, .ref (g.2.2.1 143)), (3, .ref (g.2.2.1 144)), (4, .int x4), (5, .int x5), (6, .int x6), (7, .int 1), (8, .int x8b), (9, .int x9), (10, .int x10), (11, .int x11)]) hx hb dL_law_896 hl (by decide) rfl (fun ls hl => ?_)
  exact ih898 0 0 _ _ _ _ I (lv_sub hl [1, 2, 3, 4, 5, 6, 7, 8, 9, 10, 11, 12, 0] rfl) (Nat.zero_le _) ((by decide : (0 : Int32).toInt = ((0 : Nat) : Int))) (by omega)
end LS
