theorem sm_succ {f : Nat → Nat} {n : Nat} : sm f (n + 1) = sm f n + f n := rfl
theorem sm_t {T : Nat → Nat} {c n : Nat} (h : T n = c) : sm (fun r_ => if T r_ = c then 0 else 1) (n + 1) = sm (fun r_ => if T r_ = c then 0 else 1) n := by
  show _ + (if T n = c then 0 else 1) = _
  rw [if_pos h, Nat.add_zero]
theorem sm_f {T : Nat → Nat} {c n : Nat} (h : ¬ T n = c) : sm (fun r_ => if T r_ = c then 0 else 1) (n + 1) = sm (fun r_ => if T r_ = c then 0 else 1) n + 1 := by
  show _ + (if T n = c then 0 else 1) = _
  rw [if_neg h]
theorem sm_ub1 (T : Nat → Nat) (c n : Nat) : sm (fun r_ => if T r_ = c then 0 else 1) n ≤ n := by
  have := sm_ub (f := fun r_ => if T r_ = c then 0 else 1) (c := 1) n (fun i _ => by split <;> omega)
  omega
theorem stays_next {u : Nat} {M : PRG} {r f a : Nat} {x y : Int32} (hns : ∀ j_, j_ < r → ¬ Stable u M j_) (hb : Bq x (¬ Stable u M r)) (hs : Bq y (mStrict u M (mTab u M (r + 1)) f a)) :
    (x = 1 ∧ y = 1 ∧ ∀ j_, j_ < r + 1 → ¬ Stable u M j_) ∨ (y = 0 ∧ ¬ mStrict u M (mTab u M (r + 1)) f a) ∨ (x = 0 ∧ y = 1 ∧ 1 ≤ r + 1 ∧ IsK u M (r + 1 - 1) ∧ mStrict u M (mTab u M (r + 1)) f a) := by
  rcases hs with ⟨h1, h2⟩ | ⟨h1, h2⟩
  · rcases hb with ⟨g1, g2⟩ | ⟨g1, g2⟩
    · refine Or.inl ⟨g1, h1, fun j_ hj_ => ?_⟩
      rcases Nat.lt_succ_iff_lt_or_eq.mp hj_ with z | z
      · exact hns j_ z
      · rw [z]; exact g2
    · exact Or.inr (Or.inr ⟨g1, h1, by omega, ⟨Classical.not_not.mp g2, hns⟩, h2⟩)
  · exact Or.inr (Or.inl ⟨h1, h2⟩)
theorem inX7_isStrict_X0 : ∀ w ∈ wsX00, w ∈ wsX7_isStrict := by decide +kernel
theorem inX7_isStrict_X4 : ∀ w ∈ wsX40, w ∈ wsX7_isStrict := by decide +kernel
theorem inX7_isStrict_X6 : ∀ w ∈ wsX60, w ∈ wsX7_isStrict := by decide +kernel
abbrev rm_X7_isStrict : Room := { frames := 2, cells := 0, slots := 0, locals := 43 }
set_option maxHeartbeats 4000000 in
set_option maxRecDepth 100000 in
theorem c_X7_isStrict (l : Launch) {g : GE} {h : Nat → va_E} {v u kk kc : Nat} {tk fz dp : Int32} {gp gg gs : Nat → Int32} {gd gt gc : Nat → Nat → Int32} (V : VwA g h v u kk kc tk fz dp gp gg gs gd gt gc) {o : Nat} {n : Int32} {ga gk gl : Nat → Int32} {gb : Nat → Nat → Int32} (P : PrA g h o n ga gk gl gb) {M : PRG} (S : PrS M n ga gk gl gb) (hP : PV M) {T : Nat → Nat → Nat} (hT : TbS u M gt T) (p1 p2 : Int32) {f a : Nat} (hp1 : p1.toInt = (f : Int)) (hp2 : p2.toInt = (a : Int)) (hf : f < pN M) (ha : a < 3) : MI l yX7_isStrict wsX7_isStrict rm_X7_isStrict [.ref (g.2.2.1 v), .ref (g.2.2.1 o), .int p1, .int p2] g h (fun r h2 => h2 = h ∧ Bq r (mStrict u M T f a)) := by
  refine Met.ofW (cc := cX7_isStrict) (maxL := 5) (ret := (some .boolean)) (by decide) rfl ?_
  intro p e s m args below meth c s₁ B hml hv
  obtain ⟨rfl, w0⟩ := hv
  have hx := B.exec
  have hb := B.bytes
  have hr := B.returns
  have hts := atoms_spec (ws := wsX7_isStrict) B.pre
  have hown : s.vm.findClass RX7 = some m.cls := findClass_of_methodNamed B.named
  have hlocks := B.notSynchronized
  have w := w0.start
  clear w0
  have hl := lv_entry ([.ref (g.2.2.1 v), .ref (g.2.2.1 o), .int p1, .int p2]) (n := 5) (Nat.le_of_ble_eq_true rfl)
  rw [lg_entry_eq]
  generalize (lg_sl ([.ref (g.2.2.1 v), .ref (g.2.2.1 o), .int p1, .int p2]) ++ List.replicate (5 - (lg_sl ([.ref (g.2.2.1 v), .ref (g.2.2.1 o), .int p1, .int p2])).length) Slot.unset).toArray = ls at hl ⊢
  have hl : lv_has ls 5 [(0, .ref (g.2.2.1 v)), (1, .ref (g.2.2.1 o)), (2, .int p1), (3, .int p2)] := hl
  have hn4 := hP.2.1
  have hNv := V.hN
  have hR := mRw_mR V.hu hP hf
  have hR5 := mR_le u
  have cuts : ∀ N : Nat, (∀ (row : Nat) (x4 : Int32) (hc : Nat → va_E) (H : Heap) (locs : List Loc) (ls : Array Slot), WD g (inW g) s hc H locs → lv_has ls 5 [(0, .ref (g.2.2.1 v)), (1, .ref (g.2.2.1 o)), (2, .int p1), (3, .int p2), (4, .int x4)] → (row ≤ mRw u M f) → (x4.toInt = ((row : Nat) : Int)) → (∀ r_, r_ < row → mDig u r_ a = mN u → T f r_ = mN u) → (VwA g hc v u kk kc tk fz dp gp gg gs gd gt gc) → (PrA g hc o n ga gk gl gb) → (hc = h) → mRw u M f - row < N → W p l e (headSpec wsX7_isStrict rm_X7_isStrict).room s m ([.ref (g.2.2.1 v), .ref (g.2.2.1 o), .int p1, .int p2] : List Value).toArray below meth c H locs 0 0 (MQ below (va_Qi (fun r h2 => h2 = h ∧ Bq r (mStrict u M T f a)) (Wd g) (inW g)) ([.ref (g.2.2.1 v), .ref (g.2.2.1 o), .int p1, .int p2] : List Value).toArray s 0 0 (inW g)) (F0 m 18 ls [])) := by
    intro N
    induction N with
    | zero => exact by intros; omega
    | succ N ih =>
      have ih18 := ih
      · intro row x4 hc H locs ls w hl hrow hx4 hno V P hh hN_
        refine lv_iload hx hb dX7_isStrict_18 (lv_at hl 4 rfl) ?_
        refine lv_aload_n hx hb dX7_isStrict_20 rfl (lv_at hl 0 rfl) ?_
        refine lv_aload_n hx hb dX7_isStrict_21 rfl (lv_at hl 1 rfl) ?_
        refine lv_iload_n hx hb dX7_isStrict_22 rfl (lv_at hl 2 rfl) ?_
        refine r_callI w (va_3 V.hu (fun q_ => va_runU (As := [.ref (g.2.2.1 o), .int p1]) (rest := [.int x4]) ⟨hx, hb, hml, hown, hts⟩ (c_X7_rowsOf l V P S hP p1 hp1 (by omega)) (va_cwU 2 hts gX7_isStrict_X7_rowsOf_u61X6 rfl rfl rfl rfl (by decide +kernel) ⟨Nat.le_of_ble_eq_true rfl, Nat.le_of_ble_eq_true rfl⟩) (r_preV w (by have := V.hN; omega) (V.ob (by subst q_; rfl)) rfl) rfl rfl hl.1 rfl (lv_room (Nat.le_of_ble_eq_true rfl)) dX7_isStrict_23 ⟨Nat.zero_le _, Nat.zero_le _⟩) (fun q_ => va_runU (As := [.ref (g.2.2.1 o), .int p1]) (rest := [.int x4]) ⟨hx, hb, hml, hown, hts⟩ (c_X7_rowsOf l V P S hP p1 hp1 (by omega)) (va_cwU 2 hts gX7_isStrict_X7_rowsOf_u61X4 rfl rfl rfl rfl (by decide +kernel) ⟨Nat.le_of_ble_eq_true rfl, Nat.le_of_ble_eq_true rfl⟩) (r_preV w (by have := V.hN; omega) (V.ob (by subst q_; rfl)) rfl) rfl rfl hl.1 rfl (lv_room (Nat.le_of_ble_eq_true rfl)) dX7_isStrict_23 ⟨Nat.zero_le _, Nat.zero_le _⟩) (fun q_ => va_runU (As := [.ref (g.2.2.1 o), .int p1]) (rest := [.int x4]) ⟨hx, hb, hml, hown, hts⟩ (c_X7_rowsOf l V P S hP p1 hp1 (by omega)) (va_cwU 2 hts gX7_isStrict_X7_rowsOf_u61X0 rfl rfl rfl rfl (by decide +kernel) ⟨Nat.le_of_ble_eq_true rfl, Nat.le_of_ble_eq_true rfl⟩) (r_preV w (by have := V.hN; omega) (V.ob (by subst q_; rfl)) rfl) rfl rfl hl.1 rfl (lv_room (Nat.le_of_ble_eq_true rfl)) dX7_isStrict_23 ⟨Nat.zero_le _, Nat.zero_le _⟩)) (fun r2 h1 H locs hp w => ?_)
        obtain ⟨eh_, qq3⟩ := hp
        have eh_ := eh_.symm
        subst eh_
        refine lv_icmp_ge (tgt := 67) hx hb dX7_isStrict_26 (by decide) (fun c4 => ?_) (fun c4 => ?_)
        · have c4 : (((mRw u M f) : Nat) : Int) ≤ ((row : Nat) : Int) := (i_le qq3 hx4).mp c4
          refine lv_iconst (v := 1) hx hb dX7_isStrict_67 (by decide) ?_
          refine r_zret (v := 1) hx hb hr rfl hlocks w dX7_isStrict_68 ?_
          exact ⟨hh, Bq.t (fun r_ hr_ hd_ => hno r_ (by omega) hd_)⟩
        · have c4 : ¬ ((((mRw u M f) : Nat) : Int) ≤ ((row : Nat) : Int)) := fun q => c4 ((i_le qq3 hx4).mpr q)
          have hrow : row < mRw u M f := by omega
          have hTr := hT f row hf hrow
          refine lv_aload_n hx hb dX7_isStrict_29 rfl (lv_at hl 0 rfl) ?_
          refine r_getV hx hb hts ⟨inX7_isStrict_X0, inX7_isStrict_X4, inX7_isStrict_X6⟩ hown w V.hu (by have := V.hN; omega) V.c0 5 (by decide) (hts (Cond.fieldLink RX7 36 "EarlyValues$View" "digits" "[[I") (List.mem_of_getElem? (i := 1) (by decide +kernel))) rfl rfl dX7_isStrict_30 ?_
          refine lv_iload_n hx hb dX7_isStrict_33 rfl (lv_at hl 3 rfl) ?_
          refine r_aald (t := 4) (j := a) hx hb w (by decide) (by have := V.hN; omega) V.c4 hp2 (by omega) (rowsF_in (by omega)) dX7_isStrict_34 ?_
          refine lv_iload hx hb dX7_isStrict_35 (lv_at hl 4 rfl) ?_
          refine r_iald (j := row) hx hb w (by have := V.hN; omega) (V.c5 (i := a) (by omega)) hx4 (by omega) dX7_isStrict_37 ?_
          refine lv_aload_n hx hb dX7_isStrict_38 rfl (lv_at hl 0 rfl) ?_
          refine r_getV hx hb hts ⟨inX7_isStrict_X0, inX7_isStrict_X4, inX7_isStrict_X6⟩ hown w V.hu (by have := V.hN; omega) V.c0 1 (by decide) (hts (Cond.fieldLink RX7 25 "EarlyValues$View" "never" "I") (List.mem_of_getElem? (i := 2) (by decide +kernel))) rfl rfl dX7_isStrict_39 ?_
          refine lv_icmp_ne (tgt := 61) hx hb dX7_isStrict_42 (by decide) (fun c5 => ?_) (fun c5 => ?_)
          · have c5 : ¬ ((((mDig u row a) : Nat) : Int) = (((mN u) : Nat) : Int)) := fun q => c5 ((i_eq (V.dg a row (by omega) (by omega)) (mN_i u)).mpr q)
            obtain ⟨y6, ey6⟩ : ∃ y : Int32, y = x4 + (1) := ⟨_, rfl⟩
            have ty6 : y6.toInt = (((row + 1) : Nat) : Int) := i_addN ey6 hx4 (by decide : (1 : Int32).toInt = ((1 : Nat) : Int)) (by omega)
            refine lv_iinc (v := y6) (lv' := [(4, .int y6), (0, .ref (g.2.2.1 v)), (1, .ref (g.2.2.1 o)), (2, .int p1), (3, .int p2)]) hx hb dX7_isStrict_61 hl (k := 4) rfl (by rw [ey6]; rfl) (by decide) rfl (fun ls hl => ?_)
            refine lv_goto (tgt := 18) hx hb dX7_isStrict_64 (by decide) ?_
            exact ih18 (row + 1) y6 hc _ _ _ w (lv_sub hl [1, 2, 3, 4, 0] rfl) (by omega) ty6 (fun r_ hr_ hd_ => by rcases Nat.lt_succ_iff_lt_or_eq.mp hr_ with z_ | z_; exact hno r_ z_ hd_; rw [z_] at hd_ ⊢; omega) V P hh (by omega)
          · have c5 : (((mDig u row a) : Nat) : Int) = (((mN u) : Nat) : Int) := (i_eq (V.dg a row (by omega) (by omega)) (mN_i u)).mp c5
            refine lv_aload_n hx hb dX7_isStrict_45 rfl (lv_at hl 0 rfl) ?_
            refine lv_iload_n hx hb dX7_isStrict_46 rfl (lv_at hl 2 rfl) ?_
            refine lv_iload hx hb dX7_isStrict_47 (lv_at hl 4 rfl) ?_
            refine r_callI w (va_3 V.hu (fun q_ => va_runU (As := [.int p1, .int x4]) (rest := []) ⟨hx, hb, hml, hown, hts⟩ (c_X7_at l V p1 x4 hp1 hx4 (by omega) (by omega)) (va_cwU 2 hts gX7_isStrict_X7_at_u83X6 rfl rfl rfl rfl (by decide +kernel) ⟨Nat.le_of_ble_eq_true rfl, Nat.le_of_ble_eq_true rfl⟩) (r_preV w (by have := V.hN; omega) (V.ob (by subst q_; rfl)) rfl) rfl rfl hl.1 rfl (lv_room (Nat.le_of_ble_eq_true rfl)) dX7_isStrict_49 ⟨Nat.zero_le _, Nat.zero_le _⟩) (fun q_ => va_runU (As := [.int p1, .int x4]) (rest := []) ⟨hx, hb, hml, hown, hts⟩ (c_X7_at l V p1 x4 hp1 hx4 (by omega) (by omega)) (va_cwU 2 hts gX7_isStrict_X7_at_u83X4 rfl rfl rfl rfl (by decide +kernel) ⟨Nat.le_of_ble_eq_true rfl, Nat.le_of_ble_eq_true rfl⟩) (r_preV w (by have := V.hN; omega) (V.ob (by subst q_; rfl)) rfl) rfl rfl hl.1 rfl (lv_room (Nat.le_of_ble_eq_true rfl)) dX7_isStrict_49 ⟨Nat.zero_le _, Nat.zero_le _⟩) (fun q_ => va_runU (As := [.int p1, .int x4]) (rest := []) ⟨hx, hb, hml, hown, hts⟩ (c_X7_at l V p1 x4 hp1 hx4 (by omega) (by omega)) (va_cwU 2 hts gX7_isStrict_X7_at_u83X0 rfl rfl rfl rfl (by decide +kernel) ⟨Nat.le_of_ble_eq_true rfl, Nat.le_of_ble_eq_true rfl⟩) (r_preV w (by have := V.hN; omega) (V.ob (by subst q_; rfl)) rfl) rfl rfl hl.1 rfl (lv_room (Nat.le_of_ble_eq_true rfl)) dX7_isStrict_49 ⟨Nat.zero_le _, Nat.zero_le _⟩)) (fun r8 h7 H locs hp w => ?_)
            obtain ⟨eh_, qq9⟩ := hp
            have eh_ := eh_.symm
            subst eh_
            subst qq9
            refine lv_aload_n hx hb dX7_isStrict_52 rfl (lv_at hl 0 rfl) ?_
            refine r_getV hx hb hts ⟨inX7_isStrict_X0, inX7_isStrict_X4, inX7_isStrict_X6⟩ hown w V.hu (by have := V.hN; omega) V.c0 1 (by decide) (hts (Cond.fieldLink RX7 25 "EarlyValues$View" "never" "I") (List.mem_of_getElem? (i := 2) (by decide +kernel))) rfl rfl dX7_isStrict_53 ?_
            refine lv_icmp_eq (tgt := 61) hx hb dX7_isStrict_56 (by decide) (fun c10 => ?_) (fun c10 => ?_)
            · have c10 : (gt f row).toInt = (((mN u) : Nat) : Int) := (i_eq rfl (mN_i u)).mp c10
              obtain ⟨y11, ey11⟩ : ∃ y : Int32, y = x4 + (1) := ⟨_, rfl⟩
              have ty11 : y11.toInt = (((row + 1) : Nat) : Int) := i_addN ey11 hx4 (by decide : (1 : Int32).toInt = ((1 : Nat) : Int)) (by omega)
              refine lv_iinc (v := y11) (lv' := [(4, .int y11), (0, .ref (g.2.2.1 v)), (1, .ref (g.2.2.1 o)), (2, .int p1), (3, .int p2)]) hx hb dX7_isStrict_61 hl (k := 4) rfl (by rw [ey11]; rfl) (by decide) rfl (fun ls hl => ?_)
              refine lv_goto (tgt := 18) hx hb dX7_isStrict_64 (by decide) ?_
              exact ih18 (row + 1) y11 hc _ _ _ w (lv_sub hl [1, 2, 3, 4, 0] rfl) (by omega) ty11 (fun r_ hr_ hd_ => by rcases Nat.lt_succ_iff_lt_or_eq.mp hr_ with z_ | z_; exact hno r_ z_ hd_; rw [z_] at hd_ ⊢; omega) V P hh (by omega)
            · have c10 : ¬ ((gt f row).toInt = (((mN u) : Nat) : Int)) := fun q => c10 ((i_eq rfl (mN_i u)).mpr q)
              refine lv_iconst (v := 0) hx hb dX7_isStrict_59 (by decide) ?_
              refine r_zret (v := 0) hx hb hr rfl hlocks w dX7_isStrict_60 ?_
              exact ⟨hh, Bq.f (fun q_ => absurd (q_ row hrow (by omega)) (by omega))⟩
  have ih18 := cuts (mRw u M f + 1)
  refine lv_iload_n hx hb dX7_isStrict_0 rfl (lv_at hl 3 rfl) ?_
  refine lv_if_lt (tgt := 13) hx hb dX7_isStrict_1 (by decide) (fun c12 => ?_) (fun c12 => ?_)
  · have c12 : ((a : Nat) : Int) < (0 : Int) := (i_lt hp2 (rfl : (0 : Int32).toInt = 0)).mp c12
    exfalso
    omega
  · have c12 : ¬ (((a : Nat) : Int) < (0 : Int)) := fun q => c12 ((i_lt hp2 (rfl : (0 : Int32).toInt = 0)).mpr q)
    refine lv_iload_n hx hb dX7_isStrict_4 rfl (lv_at hl 3 rfl) ?_
    refine lv_aload_n hx hb dX7_isStrict_5 rfl (lv_at hl 0 rfl) ?_
    refine r_getV hx hb hts ⟨inX7_isStrict_X0, inX7_isStrict_X4, inX7_isStrict_X6⟩ hown w V.hu (by have := V.hN; omega) V.c0 5 (by decide) (hts (Cond.fieldLink RX7 36 "EarlyValues$View" "digits" "[[I") (List.mem_of_getElem? (i := 1) (by decide +kernel))) rfl rfl dX7_isStrict_6 ?_
    refine r_alen (t := 4) (v := 3) hx hb w (by decide) (by have := V.hN; omega) V.c4 rfl dX7_isStrict_9 ?_
    refine lv_icmp_lt (tgt := 15) hx hb dX7_isStrict_10 (by decide) (fun c13 => ?_) (fun c13 => ?_)
    · have c13 : ((a : Nat) : Int) < ((3 : Nat) : Int) := (i_lt hp2 (by decide : (3 : Int32).toInt = ((3 : Nat) : Int))).mp c13
      refine lv_iconst (v := 0) hx hb dX7_isStrict_15 (by decide) ?_
      refine lv_istore (lv' := [(4, .int 0), (0, .ref (g.2.2.1 v)), (1, .ref (g.2.2.1 o)), (2, .int p1), (3, .int p2)]) hx hb dX7_isStrict_16 hl (by decide) rfl (fun ls hl => ?_)
      exact ih18 0 0 h _ _ _ w (lv_sub hl [1, 2, 3, 4, 0] rfl) (Nat.zero_le _) ((by decide : (0 : Int32).toInt = ((0 : Nat) : Int))) (fun r_ hr_ => absurd hr_ (Nat.not_lt_zero _)) V P rfl (by omega)
    · have c13 : ¬ (((a : Nat) : Int) < ((3 : Nat) : Int)) := fun q => c13 ((i_lt hp2 (by decide : (3 : Int32).toInt = ((3 : Nat) : Int))).mpr q)
      exfalso
      omega

theorem inX7_strictBits_X3 : ∀ w ∈ wsX30, w ∈ wsX7_strictBits := by decide +kernel
abbrev rm_X7_strictBits : Room := { frames := 3, cells := 0, slots := 0, locals := 67 }
set_option maxHeartbeats 4000000 in
set_option maxRecDepth 100000 in
theorem c_X7_strictBits (l : Launch) {g : GE} {h : Nat → va_E} {v u kk kc : Nat} {tk fz dp : Int32} {gp gg gs : Nat → Int32} {gd gt gc : Nat → Nat → Int32} (V : VwA g h v u kk kc tk fz dp gp gg gs gd gt gc) {o : Nat} {n : Int32} {ga gk gl : Nat → Int32} {gb : Nat → Nat → Int32} (P : PrA g h o n ga gk gl gb) {M : PRG} (S : PrS M n ga gk gl gb) (hP : PV M) {T : Nat → Nat → Nat} (hT : TbS u M gt T) (p1 : Int32) {f : Nat} (hp1 : p1.toInt = (f : Int)) (hf : f < pN M) : MI l yX7_strictBits wsX7_strictBits rm_X7_strictBits [.ref (g.2.2.1 v), .ref (g.2.2.1 o), .int p1] g h (fun r h2 => h2 = h ∧ r.toInt = ((mBits (mStrict u M T f) (pA M f) : Nat) : Int)) := by
  refine Met.ofW (cc := cX7_strictBits) (maxL := 5) (ret := (some .int)) (by decide) rfl ?_
  intro p e s m args below meth c s₁ B hml hv
  obtain ⟨rfl, w0⟩ := hv
  have hx := B.exec
  have hb := B.bytes
  have hr := B.returns
  have hts := atoms_spec (ws := wsX7_strictBits) B.pre
  have hown : s.vm.findClass RX7 = some m.cls := findClass_of_methodNamed B.named
  have hlocks := B.notSynchronized
  have w := w0.start
  clear w0
  have hl := lv_entry ([.ref (g.2.2.1 v), .ref (g.2.2.1 o), .int p1]) (n := 5) (Nat.le_of_ble_eq_true rfl)
  rw [lg_entry_eq]
  generalize (lg_sl ([.ref (g.2.2.1 v), .ref (g.2.2.1 o), .int p1]) ++ List.replicate (5 - (lg_sl ([.ref (g.2.2.1 v), .ref (g.2.2.1 o), .int p1])).length) Slot.unset).toArray = ls at hl ⊢
  have hl : lv_has ls 5 [(0, .ref (g.2.2.1 v)), (1, .ref (g.2.2.1 o)), (2, .int p1)] := hl
  have hn4 := hP.2.1
  have hNv := V.hN
  have ha3 := (hP.2.2 f hf).1
  have cuts : ∀ N : Nat, (∀ (i : Nat) (x3 : Int32) (x4 : Int32) (hc : Nat → va_E) (H : Heap) (locs : List Loc) (ls : Array Slot), WD g (inW g) s hc H locs → lv_has ls 5 [(0, .ref (g.2.2.1 v)), (1, .ref (g.2.2.1 o)), (2, .int p1), (3, .int x3), (4, .int x4)] → (i ≤ pA M f) → (x3.toInt = (((mBits (mStrict u M T f) i) : Nat) : Int)) → (x4.toInt = ((i : Nat) : Int)) → (VwA g hc v u kk kc tk fz dp gp gg gs gd gt gc) → (PrA g hc o n ga gk gl gb) → (hc = h) → pA M f - i < N → W p l e (headSpec wsX7_strictBits rm_X7_strictBits).room s m ([.ref (g.2.2.1 v), .ref (g.2.2.1 o), .int p1] : List Value).toArray below meth c H locs 0 0 (MQ below (va_Qi (fun r h2 => h2 = h ∧ r.toInt = ((mBits (mStrict u M T f) (pA M f) : Nat) : Int)) (Wd g) (inW g)) ([.ref (g.2.2.1 v), .ref (g.2.2.1 o), .int p1] : List Value).toArray s 0 0 (inW g)) (F0 m 13 ls [])) := by
    intro N
    induction N with
    | zero => exact by intros; omega
    | succ N ih =>
      have ih13 := ih
      · intro i x3 x4 hc H locs ls w hl hi hx3 hx4 V P hh hN_
        refine lv_iload hx hb dX7_strictBits_13 (lv_at hl 4 rfl) ?_
        refine lv_aload_n hx hb dX7_strictBits_15 rfl (lv_at hl 1 rfl) ?_
        refine r_get (C := RX3) (T := TX3) (N := 5) (ci := 2) hx hb hts inX7_strictBits_X3 hown w (by have := P.1; omega) P.c0 rfl 1 (by decide) (hts (Cond.fieldLink RX7 55 "EarlyValues$Program" "arguments" "[I") (List.mem_of_getElem? (i := 1) (by decide +kernel))) rfl rfl dX7_strictBits_16 ?_
        refine lv_iload_n hx hb dX7_strictBits_19 rfl (lv_at hl 2 rfl) ?_
        refine r_iald (j := f) hx hb w (by have := P.1; omega) P.c1 hp1 (by omega) dX7_strictBits_20 ?_
        refine lv_icmp_ge (tgt := 48) hx hb dX7_strictBits_21 (by decide) (fun c1 => ?_) (fun c1 => ?_)
        · have c1 : (((pA M f) : Nat) : Int) ≤ ((i : Nat) : Int) := (i_le (S.2.1 f (by omega)) hx4).mp c1
          refine lv_iload_n hx hb dX7_strictBits_48 rfl (lv_at hl 3 rfl) ?_
          refine r_iret (v := x3) hx hb hr hlocks w dX7_strictBits_49 ?_
          exact ⟨hh, hx3.trans (by rw [show i = pA M f by omega])⟩
        · have c1 : ¬ ((((pA M f) : Nat) : Int) ≤ ((i : Nat) : Int)) := fun q => c1 ((i_le (S.2.1 f (by omega)) hx4).mpr q)
          refine lv_aload_n hx hb dX7_strictBits_24 rfl (lv_at hl 0 rfl) ?_
          refine lv_aload_n hx hb dX7_strictBits_25 rfl (lv_at hl 1 rfl) ?_
          refine lv_iload_n hx hb dX7_strictBits_26 rfl (lv_at hl 2 rfl) ?_
          refine lv_iload hx hb dX7_strictBits_27 (lv_at hl 4 rfl) ?_
          refine r_callI w (va_3 V.hu (fun q_ => va_runU (As := [.ref (g.2.2.1 o), .int p1, .int x4]) (rest := []) ⟨hx, hb, hml, hown, hts⟩ (c_X7_isStrict l V P S hP hT p1 x4 hp1 hx4 hf (by omega)) (va_cwU 3 hts gX7_strictBits_X7_isStrict_u79X6 rfl rfl rfl rfl (by decide +kernel) ⟨Nat.le_of_ble_eq_true rfl, Nat.le_of_ble_eq_true rfl⟩) (r_preV w (by have := V.hN; omega) (V.ob (by subst q_; rfl)) rfl) rfl rfl hl.1 rfl (lv_room (Nat.le_of_ble_eq_true rfl)) dX7_strictBits_29 ⟨Nat.zero_le _, Nat.zero_le _⟩) (fun q_ => va_runU (As := [.ref (g.2.2.1 o), .int p1, .int x4]) (rest := []) ⟨hx, hb, hml, hown, hts⟩ (c_X7_isStrict l V P S hP hT p1 x4 hp1 hx4 hf (by omega)) (va_cwU 3 hts gX7_strictBits_X7_isStrict_u79X4 rfl rfl rfl rfl (by decide +kernel) ⟨Nat.le_of_ble_eq_true rfl, Nat.le_of_ble_eq_true rfl⟩) (r_preV w (by have := V.hN; omega) (V.ob (by subst q_; rfl)) rfl) rfl rfl hl.1 rfl (lv_room (Nat.le_of_ble_eq_true rfl)) dX7_strictBits_29 ⟨Nat.zero_le _, Nat.zero_le _⟩) (fun q_ => va_runU (As := [.ref (g.2.2.1 o), .int p1, .int x4]) (rest := []) ⟨hx, hb, hml, hown, hts⟩ (c_X7_isStrict l V P S hP hT p1 x4 hp1 hx4 hf (by omega)) (va_cwU 3 hts gX7_strictBits_X7_isStrict_u79X0 rfl rfl rfl rfl (by decide +kernel) ⟨Nat.le_of_ble_eq_true rfl, Nat.le_of_ble_eq_true rfl⟩) (r_preV w (by have := V.hN; omega) (V.ob (by subst q_; rfl)) rfl) rfl rfl hl.1 rfl (lv_room (Nat.le_of_ble_eq_true rfl)) dX7_strictBits_29 ⟨Nat.zero_le _, Nat.zero_le _⟩)) (fun r3 h2 H locs hp w => ?_)
          obtain ⟨eh_, qq4⟩ := hp
          have eh_ := eh_.symm
          subst eh_
          refine lv_if_eq (tgt := 42) hx hb dX7_strictBits_32 (by decide) (fun c5 => ?_) (fun c5 => ?_)
          · have c5 := qq4.eq c5
            obtain ⟨y6, ey6⟩ : ∃ y : Int32, y = x4 + (1) := ⟨_, rfl⟩
            have ty6 : y6.toInt = (((i + 1) : Nat) : Int) := i_addN ey6 hx4 (by decide : (1 : Int32).toInt = ((1 : Nat) : Int)) (by omega)
            refine lv_iinc (v := y6) (lv' := [(4, .int y6), (0, .ref (g.2.2.1 v)), (1, .ref (g.2.2.1 o)), (2, .int p1), (3, .int x3)]) hx hb dX7_strictBits_42 hl (k := 4) rfl (by rw [ey6]; rfl) (by decide) rfl (fun ls hl => ?_)
            refine lv_goto (tgt := 5) hx hb dX7_strictBits_45 (by decide) ?_
            refine lv_aload_n hx hb dX7_strictBits_5 rfl (lv_at hl 2 rfl) ?_
            refine lv_iload_n hx hb dX7_strictBits_6 rfl (lv_at hl 3 rfl) ?_
            refine r_callI w (va_runV (As := [.int p1]) (rest := []) ⟨hx, hb, hml, hown, hts⟩ (c_X3_has l P p1) (cwV 1 hts gX7_strictBits_X3_has rfl rfl rfl (by decide +kernel) ⟨Nat.le_of_ble_eq_true rfl, Nat.le_of_ble_eq_true rfl⟩) (r_preV w (by have := P.1; omega) P.c0 rfl) rfl rfl hl.1 rfl (lv_room (Nat.le_of_ble_eq_true rfl)) dX7_strictBits_7 ⟨Nat.zero_le _, Nat.zero_le _⟩) (fun r8 h7 H locs hp w => ?_)
            obtain ⟨eh_, qq9⟩ := hp
            have eh_ := eh_.symm
            subst eh_
            have b10 : Bq r8 (0 ≤ ((f : Nat) : Int) ∧ ((f : Nat) : Int) < (((pN M) : Nat) : Int)) := qq9.iff (by rw [(hp1 : p1.toInt = _), (S.1 : n.toInt = _)])
            refine lv_if_eq (tgt := 48) hx hb dX7_strictBits_10 (by decide) (fun c11 => ?_) (fun c11 => ?_)
            · have c11 := b10.eq c11
              exfalso; omega
            · have c11 := b10.ne c11
              exact ih13 (i + 1) x3 y6 hc _ _ _ w (lv_sub hl [1, 2, 3, 4, 0] rfl) (by omega) (hx3.trans (by rw [mBits_f c5])) ty6 V P hh (by omega)
          · have c5 := qq4.ne c5
            refine lv_iload_n hx hb dX7_strictBits_35 rfl (lv_at hl 3 rfl) ?_
            refine lv_iconst (v := 1) hx hb dX7_strictBits_36 (by decide) ?_
            refine lv_iload hx hb dX7_strictBits_37 (lv_at hl 4 rfl) ?_
            refine lv_ishl hx hb dX7_strictBits_39 ?_
            refine lv_topi (fun y12 ey12 => ?_)
            refine lv_ior hx hb dX7_strictBits_40 ?_
            refine lv_topi (fun y13 ey13 => ?_)
            have ty13 : y13.toInt = (((mBits (mStrict u M T f) i) + 2 ^ i : Nat) : Int) := or_bit hx3 (mBits_lt _ _) (by omega) hx4 (by rw [ey13, ey12])
            refine lv_istore_n (lv' := [(3, .int y13), (0, .ref (g.2.2.1 v)), (1, .ref (g.2.2.1 o)), (2, .int p1), (4, .int x4)]) hx hb dX7_strictBits_41 rfl hl (by decide) rfl (fun ls hl => ?_)
            obtain ⟨y14, ey14⟩ : ∃ y : Int32, y = x4 + (1) := ⟨_, rfl⟩
            have ty14 : y14.toInt = (((i + 1) : Nat) : Int) := i_addN ey14 hx4 (by decide : (1 : Int32).toInt = ((1 : Nat) : Int)) (by omega)
            refine lv_iinc (v := y14) (lv' := [(4, .int y14), (3, .int y13), (0, .ref (g.2.2.1 v)), (1, .ref (g.2.2.1 o)), (2, .int p1)]) hx hb dX7_strictBits_42 hl (k := 4) rfl (by rw [ey14]; rfl) (by decide) rfl (fun ls hl => ?_)
            refine lv_goto (tgt := 5) hx hb dX7_strictBits_45 (by decide) ?_
            refine lv_aload_n hx hb dX7_strictBits_5 rfl (lv_at hl 3 rfl) ?_
            refine lv_iload_n hx hb dX7_strictBits_6 rfl (lv_at hl 4 rfl) ?_
            refine r_callI w (va_runV (As := [.int p1]) (rest := []) ⟨hx, hb, hml, hown, hts⟩ (c_X3_has l P p1) (cwV 1 hts gX7_strictBits_X3_has rfl rfl rfl (by decide +kernel) ⟨Nat.le_of_ble_eq_true rfl, Nat.le_of_ble_eq_true rfl⟩) (r_preV w (by have := P.1; omega) P.c0 rfl) rfl rfl hl.1 rfl (lv_room (Nat.le_of_ble_eq_true rfl)) dX7_strictBits_7 ⟨Nat.zero_le _, Nat.zero_le _⟩) (fun r16 h15 H locs hp w => ?_)
            obtain ⟨eh_, qq17⟩ := hp
            have eh_ := eh_.symm
            subst eh_
            have b18 : Bq r16 (0 ≤ ((f : Nat) : Int) ∧ ((f : Nat) : Int) < (((pN M) : Nat) : Int)) := qq17.iff (by rw [(hp1 : p1.toInt = _), (S.1 : n.toInt = _)])
            refine lv_if_eq (tgt := 48) hx hb dX7_strictBits_10 (by decide) (fun c19 => ?_) (fun c19 => ?_)
            · have c19 := b18.eq c19
              exfalso; omega
            · have c19 := b18.ne c19
              exact ih13 (i + 1) y13 y14 hc _ _ _ w (lv_sub hl [2, 3, 4, 1, 0] rfl) (by omega) (ty13.trans (by rw [mBits_t c5])) ty14 V P hh (by omega)
  have ih13 := cuts (pA M f + 1)
  refine lv_iconst (v := 0) hx hb dX7_strictBits_0 (by decide) ?_
  refine lv_istore_n (lv' := [(3, .int 0), (0, .ref (g.2.2.1 v)), (1, .ref (g.2.2.1 o)), (2, .int p1)]) hx hb dX7_strictBits_1 rfl hl (by decide) rfl (fun ls hl => ?_)
  refine lv_iconst (v := 0) hx hb dX7_strictBits_2 (by decide) ?_
  refine lv_istore (lv' := [(4, .int 0), (3, .int 0), (0, .ref (g.2.2.1 v)), (1, .ref (g.2.2.1 o)), (2, .int p1)]) hx hb dX7_strictBits_3 hl (by decide) rfl (fun ls hl => ?_)
  refine lv_aload_n hx hb dX7_strictBits_5 rfl (lv_at hl 3 rfl) ?_
  refine lv_iload_n hx hb dX7_strictBits_6 rfl (lv_at hl 4 rfl) ?_
  refine r_callI w (va_runV (As := [.int p1]) (rest := []) ⟨hx, hb, hml, hown, hts⟩ (c_X3_has l P p1) (cwV 1 hts gX7_strictBits_X3_has rfl rfl rfl (by decide +kernel) ⟨Nat.le_of_ble_eq_true rfl, Nat.le_of_ble_eq_true rfl⟩) (r_preV w (by have := P.1; omega) P.c0 rfl) rfl rfl hl.1 rfl (lv_room (Nat.le_of_ble_eq_true rfl)) dX7_strictBits_7 ⟨Nat.zero_le _, Nat.zero_le _⟩) (fun r21 h20 H locs hp w => ?_)
  obtain ⟨eh_, qq22⟩ := hp
  have eh_ := eh_.symm
  subst eh_
  have b23 : Bq r21 (0 ≤ ((f : Nat) : Int) ∧ ((f : Nat) : Int) < (((pN M) : Nat) : Int)) := qq22.iff (by rw [(hp1 : p1.toInt = _), (S.1 : n.toInt = _)])
  refine lv_if_eq (tgt := 48) hx hb dX7_strictBits_10 (by decide) (fun c24 => ?_) (fun c24 => ?_)
  · have c24 := b23.eq c24
    exfalso; omega
  · have c24 := b23.ne c24
    exact ih13 0 0 0 h _ _ _ w (lv_sub hl [2, 3, 4, 1, 0] rfl) (Nat.zero_le _) rfl ((by decide : (0 : Int32).toInt = ((0 : Nat) : Int))) V P rfl (by omega)

theorem inX7_solve_X0 : ∀ w ∈ wsX00, w ∈ wsX7_solve := by decide +kernel
theorem inX7_solve_X4 : ∀ w ∈ wsX40, w ∈ wsX7_solve := by decide +kernel
theorem inX7_solve_X6 : ∀ w ∈ wsX60, w ∈ wsX7_solve := by decide +kernel
abbrev rm_X7_solve : Room := { frames := 5, cells := 0, slots := 0, locals := 113 }
set_option maxHeartbeats 4000000 in
set_option maxRecDepth 100000 in
theorem c_X7_solve (l : Launch) {g : GE} {h : Nat → va_E} {v u kk kc : Nat} {tk fz dp : Int32} {gp gg gs : Nat → Int32} {gd gt gc : Nat → Nat → Int32} (V : VwA g h v u kk kc tk fz dp gp gg gs gd gt gc) {o : Nat} {n : Int32} {ga gk gl : Nat → Int32} {gb : Nat → Nat → Int32} (P : PrA g h o n ga gk gl gb) {M : PRG} (S : PrS M n ga gk gl gb) (hP : PV M) (hdis : o + 9 ≤ v ∨ v + 18 ≤ o) : MV l yX7_solve wsX7_solve rm_X7_solve [.ref (g.2.2.1 v), .ref (g.2.2.1 o)] g h (fun h2 => (∀ k, ¬ (v ≤ k ∧ k < v + 18) → h2 k = h k) ∧ ∃ (kk2 : Nat) (kc2 : Nat) (tk2 : Int32) (dp2 : Int32) (gg2 : Nat → Int32) (gs2 : Nat → Int32) (gt2 : Nat → Nat → Int32) (gc2 : Nat → Nat → Int32) (K : Nat), VwA g h2 v u kk2 kc2 tk2 1 dp2 gp gg2 gs2 gd gt2 gc2 ∧ IsK u M K ∧ tk2.toInt = (K : Int) ∧ TbS u M gt2 (mTab u M K)) := by
  refine Met.ofW (cc := cX7_solve) (maxL := 4) (ret := none) (by decide) rfl ?_
  intro p e s m args below meth c s₁ B hml hv
  obtain ⟨rfl, w0⟩ := hv
  have hx := B.exec
  have hb := B.bytes
  have hr := B.returns
  have hts := atoms_spec (ws := wsX7_solve) B.pre
  have hown : s.vm.findClass RX7 = some m.cls := findClass_of_methodNamed B.named
  have hlocks := B.notSynchronized
  have w := w0.start
  clear w0
  have hl := lv_entry ([.ref (g.2.2.1 v), .ref (g.2.2.1 o)]) (n := 4) (Nat.le_of_ble_eq_true rfl)
  rw [lg_entry_eq]
  generalize (lg_sl ([.ref (g.2.2.1 v), .ref (g.2.2.1 o)]) ++ List.replicate (4 - (lg_sl ([.ref (g.2.2.1 v), .ref (g.2.2.1 o)])).length) Slot.unset).toArray = ls at hl ⊢
  have hl : lv_has ls 4 [(0, .ref (g.2.2.1 v)), (1, .ref (g.2.2.1 o))] := hl
  have hn4 := hP.2.1
  have hNv := V.hN
  have cuts : ∀ N : Nat, (∀ (r : Nat) (x2 : Int32) (x3 : Int32) (tk1 : Int32) (kk1 : Nat) (kc1 : Nat) (dp1 : Int32) (gg1 : Nat → Int32) (gs1 : Nat → Int32) (gt1 : Nat → Nat → Int32) (gc1 : Nat → Nat → Int32) (hc : Nat → va_E) (H : Heap) (locs : List Loc) (ls : Array Slot), WD g (inW g) s hc H locs → lv_has ls 4 [(0, .ref (g.2.2.1 v)), (1, .ref (g.2.2.1 o)), (2, .int x2), (3, .int x3)] → (r ≤ 513) → (x3.toInt = ((r : Nat) : Int)) → ((x2 = 1 ∧ ∀ j_, j_ < r → ¬ Stable u M j_) ∨ (x2 = 0 ∧ 1 ≤ r ∧ IsK u M (r - 1) ∧ tk1.toInt = ((r - 1 : Nat) : Int))) → (TbS u M gt1 (mTab u M r)) → (VwA g hc v u kk1 kc1 tk1 fz dp1 gp gg1 gs1 gd gt1 gc1) → (PrA g hc o n ga gk gl gb) → (∀ k, ¬ (v ≤ k ∧ k < v + 18) → hc k = h k) → 514 - r < N → W p l e (headSpec wsX7_solve rm_X7_solve).room s m ([.ref (g.2.2.1 v), .ref (g.2.2.1 o)] : List Value).toArray below meth c H locs 0 0 (MQ below (va_Qv (fun h2 => (∀ k, ¬ (v ≤ k ∧ k < v + 18) → h2 k = h k) ∧ ∃ (kk2 : Nat) (kc2 : Nat) (tk2 : Int32) (dp2 : Int32) (gg2 : Nat → Int32) (gs2 : Nat → Int32) (gt2 : Nat → Nat → Int32) (gc2 : Nat → Nat → Int32) (K : Nat), VwA g h2 v u kk2 kc2 tk2 1 dp2 gp gg2 gs2 gd gt2 gc2 ∧ IsK u M K ∧ tk2.toInt = (K : Int) ∧ TbS u M gt2 (mTab u M K)) (Wd g) (inW g)) ([.ref (g.2.2.1 v), .ref (g.2.2.1 o)] : List Value).toArray s 0 0 (inW g)) (F0 m 8 ls [])) := by
    intro N
    induction N with
    | zero => exact by intros; omega
    | succ N ih =>
      have ih8 := ih
      · intro r x2 x3 tk1 kk1 kc1 dp1 gg1 gs1 gt1 gc1 hc H locs ls w hl hr5 hx3 hsb hT V P hfr hN_
        have hNw := V.hN
        refine lv_iload_n hx hb dX7_solve_8 rfl (lv_at hl 2 rfl) ?_
        refine lv_if_eq (tgt := 36) hx hb dX7_solve_9 (by decide) (fun c1 => ?_) (fun c1 => ?_)
        · obtain ⟨r1_, hK_, htk_⟩ : 1 ≤ r ∧ IsK u M (r - 1) ∧ tk1.toInt = ((r - 1 : Nat) : Int) := by
            rcases hsb with ⟨q_, _⟩ | ⟨_, q_⟩
            · rw [q_] at c1; exact absurd c1 (by decide)
            · exact q_
          refine lv_aload_n hx hb dX7_solve_36 rfl (lv_at hl 0 rfl) ?_
          refine lv_iconst (v := 1) hx hb dX7_solve_37 (by decide) ?_
          refine r_putV (ty := .boolean) hx hb hts ⟨inX7_solve_X0, inX7_solve_X4, inX7_solve_X6⟩ hown w V.hu (by have := V.hN; omega) V.c0 9 (by decide) (hts (Cond.fieldLink RX7 75 "EarlyValues$View" "fresh" "Z") (List.mem_of_getElem? (i := 2) (by decide +kernel))) rfl rfl (by decide +kernel) rfl rfl (Nat.le_of_ble_eq_true rfl) dX7_solve_38 (fun h2 H locs eh2 w => ?_)
          have hfr : ∀ k_, ¬ (v ≤ k_ ∧ k_ < v + 18) → h2 k_ = h k_ := fun k_ hk_ => by rw [eh2, va_up_ne _ _ (by omega)]; exact hfr k_ hk_
          have P := P.fr (h' := h2) (fun k_ h1_ h2_ => by rw [eh2, va_up_ne _ _ (by omega)])
          have V := V.s0 eh2
          refine r_vret hx hb hr hlocks w dX7_solve_41 ?_
          exact ⟨hfr, _, _, _, _, _, _, _, _, _, V, hK_, htk_, stb hT r1_ hK_⟩
        · have hns : ∀ j_, j_ < r → ¬ Stable u M j_ := by
            rcases hsb with ⟨_, q_⟩ | ⟨q_, _⟩
            · exact q_
            · exact absurd q_ c1
          have h512 := noStable_512 V.hu hP hns
          refine lv_iload_n hx hb dX7_solve_12 rfl (lv_at hl 3 rfl) ?_
          refine lv_sipush (v := 1000) hx hb dX7_solve_13 (by decide) ?_
          refine lv_icmp_ge (tgt := 36) hx hb dX7_solve_16 (by decide) (fun c3 => ?_) (fun c3 => ?_)
          · have c3 : ((1000 : Nat) : Int) ≤ ((r : Nat) : Int) := (i_le (by decide : (1000 : Int32).toInt = ((1000 : Nat) : Int)) hx3).mp c3
            exfalso; omega
          · have c3 : ¬ (((1000 : Nat) : Int) ≤ ((r : Nat) : Int)) := fun q => c3 ((i_le (by decide : (1000 : Int32).toInt = ((1000 : Nat) : Int)) hx3).mpr q)
            refine lv_aload_n hx hb dX7_solve_19 rfl (lv_at hl 0 rfl) ?_
            refine lv_iload_n hx hb dX7_solve_20 rfl (lv_at hl 3 rfl) ?_
            refine r_putV (ty := .int) hx hb hts ⟨inX7_solve_X0, inX7_solve_X4, inX7_solve_X6⟩ hown w V.hu (by have := V.hN; omega) V.c0 8 (by decide) (hts (Cond.fieldLink RX7 68 "EarlyValues$View" "taken" "I") (List.mem_of_getElem? (i := 1) (by decide +kernel))) rfl rfl (by decide +kernel) rfl rfl (Nat.le_of_ble_eq_true rfl) dX7_solve_21 (fun h4 H locs eh4 w => ?_)
            have hfr : ∀ k_, ¬ (v ≤ k_ ∧ k_ < v + 18) → h4 k_ = h k_ := fun k_ hk_ => by rw [eh4, va_up_ne _ _ (by omega)]; exact hfr k_ hk_
            have P := P.fr (h' := h4) (fun k_ h1_ h2_ => by rw [eh4, va_up_ne _ _ (by omega)])
            have V := V.s0 eh4
            refine lv_aload_n hx hb dX7_solve_24 rfl (lv_at hl 0 rfl) ?_
            refine lv_aload_n hx hb dX7_solve_25 rfl (lv_at hl 1 rfl) ?_
            refine r_callI w (va_3 V.hu (fun q_ => va_runU (As := [.ref (g.2.2.1 o)]) (rest := []) ⟨hx, hb, hml, hown, hts⟩ (c_X7_advance l V P S hP hT hdis) (va_cwU 1 hts gX7_solve_X7_advance_u71X6 rfl rfl rfl rfl (by decide +kernel) ⟨Nat.le_of_ble_eq_true rfl, Nat.le_of_ble_eq_true rfl⟩) (r_preV w (by have := V.hN; omega) (V.ob (by subst q_; rfl)) rfl) rfl rfl hl.1 rfl (lv_room (Nat.le_of_ble_eq_true rfl)) dX7_solve_26 ⟨Nat.zero_le _, Nat.zero_le _⟩) (fun q_ => va_runU (As := [.ref (g.2.2.1 o)]) (rest := []) ⟨hx, hb, hml, hown, hts⟩ (c_X7_advance l V P S hP hT hdis) (va_cwU 1 hts gX7_solve_X7_advance_u71X4 rfl rfl rfl rfl (by decide +kernel) ⟨Nat.le_of_ble_eq_true rfl, Nat.le_of_ble_eq_true rfl⟩) (r_preV w (by have := V.hN; omega) (V.ob (by subst q_; rfl)) rfl) rfl rfl hl.1 rfl (lv_room (Nat.le_of_ble_eq_true rfl)) dX7_solve_26 ⟨Nat.zero_le _, Nat.zero_le _⟩) (fun q_ => va_runU (As := [.ref (g.2.2.1 o)]) (rest := []) ⟨hx, hb, hml, hown, hts⟩ (c_X7_advance l V P S hP hT hdis) (va_cwU 1 hts gX7_solve_X7_advance_u71X0 rfl rfl rfl rfl (by decide +kernel) ⟨Nat.le_of_ble_eq_true rfl, Nat.le_of_ble_eq_true rfl⟩) (r_preV w (by have := V.hN; omega) (V.ob (by subst q_; rfl)) rfl) rfl rfl hl.1 rfl (lv_room (Nat.le_of_ble_eq_true rfl)) dX7_solve_26 ⟨Nat.zero_le _, Nat.zero_le _⟩)) (fun r6 h5 H locs hp w => ?_)
            obtain ⟨hfk7, hbk7, dpk7, ggk7, gsk7, gck7, V, hTk7⟩ := hp
            have P := P.fr (h' := h5) (fun k_ h1_ h2_ => hfk7 k_ (by omega))
            have hfr : ∀ k_, ¬ (v ≤ k_ ∧ k_ < v + 18) → h5 k_ = h k_ := fun k_ hk_ => (hfk7 k_ (by omega)).trans (hfr k_ hk_)
            refine lv_istore_n (lv' := [(2, .int r6), (0, .ref (g.2.2.1 v)), (1, .ref (g.2.2.1 o)), (3, .int x3)]) hx hb dX7_solve_29 rfl hl (by decide) rfl (fun ls hl => ?_)
            obtain ⟨y8, ey8⟩ : ∃ y : Int32, y = x3 + (1) := ⟨_, rfl⟩
            have ty8 : y8.toInt = (((r + 1) : Nat) : Int) := i_addN ey8 hx3 (by decide : (1 : Int32).toInt = ((1 : Nat) : Int)) (by omega)
            refine lv_iinc (v := y8) (lv' := [(3, .int y8), (2, .int r6), (0, .ref (g.2.2.1 v)), (1, .ref (g.2.2.1 o))]) hx hb dX7_solve_30 hl (k := 3) rfl (by rw [ey8]; rfl) (by decide) rfl (fun ls hl => ?_)
            refine lv_goto (tgt := 8) hx hb dX7_solve_33 (by decide) ?_
            exact ih8 (r + 1) r6 y8 x3 kc1 kk1 dpk7 ggk7 gsk7 gck7 gt1 h5 _ _ _ w (lv_sub hl [2, 3, 1, 0] rfl) (by omega) ty8 (by rcases hbk7 with ⟨q1_, q2_⟩ | ⟨q1_, q2_⟩; exact Or.inl ⟨q1_, fun j_ hj_ => by rcases Nat.lt_succ_iff_lt_or_eq.mp hj_ with z_ | z_; exact hns j_ z_; rw [z_]; exact q2_⟩; exact Or.inr ⟨q1_, by omega, ⟨Classical.not_not.mp q2_, hns⟩, hx3⟩) hTk7 V P hfr (by omega)
  have ih8 := cuts (600)
  refine lv_aload_n hx hb dX7_solve_0 rfl (lv_at hl 0 rfl) ?_
  refine r_callV w (va_3 V.hu (fun q_ => va_runU (As := []) (rest := []) ⟨hx, hb, hml, hown, hts⟩ (c_X7_begin l V) (va_cwU 0 hts gX7_solve_X7_begin_u65X6 rfl rfl rfl rfl (by decide +kernel) ⟨Nat.le_of_ble_eq_true rfl, Nat.le_of_ble_eq_true rfl⟩) (r_preV w (by have := V.hN; omega) (V.ob (by subst q_; rfl)) rfl) rfl rfl hl.1 rfl (lv_room (Nat.le_of_ble_eq_true rfl)) dX7_solve_1 ⟨Nat.zero_le _, Nat.zero_le _⟩) (fun q_ => va_runU (As := []) (rest := []) ⟨hx, hb, hml, hown, hts⟩ (c_X7_begin l V) (va_cwU 0 hts gX7_solve_X7_begin_u65X4 rfl rfl rfl rfl (by decide +kernel) ⟨Nat.le_of_ble_eq_true rfl, Nat.le_of_ble_eq_true rfl⟩) (r_preV w (by have := V.hN; omega) (V.ob (by subst q_; rfl)) rfl) rfl rfl hl.1 rfl (lv_room (Nat.le_of_ble_eq_true rfl)) dX7_solve_1 ⟨Nat.zero_le _, Nat.zero_le _⟩) (fun q_ => va_runU (As := []) (rest := []) ⟨hx, hb, hml, hown, hts⟩ (c_X7_begin l V) (va_cwU 0 hts gX7_solve_X7_begin_u65X0 rfl rfl rfl rfl (by decide +kernel) ⟨Nat.le_of_ble_eq_true rfl, Nat.le_of_ble_eq_true rfl⟩) (r_preV w (by have := V.hN; omega) (V.ob (by subst q_; rfl)) rfl) rfl rfl hl.1 rfl (lv_room (Nat.le_of_ble_eq_true rfl)) dX7_solve_1 ⟨Nat.zero_le _, Nat.zero_le _⟩)) (fun h9 H locs hp w => ?_)
  obtain ⟨hfk10, gtk10, V, hzk10⟩ := hp
  have P := P.fr (h' := h9) (fun k_ h1_ h2_ => hfk10 k_ (by omega))
  have hfr : ∀ k_, ¬ (v ≤ k_ ∧ k_ < v + 18) → h9 k_ = h k_ := fun k_ hk_ => (hfk10 k_ (by omega))
  refine lv_iconst (v := 1) hx hb dX7_solve_4 (by decide) ?_
  refine lv_istore_n (lv' := [(2, .int 1), (0, .ref (g.2.2.1 v)), (1, .ref (g.2.2.1 o))]) hx hb dX7_solve_5 rfl hl (by decide) rfl (fun ls hl => ?_)
  refine lv_iconst (v := 0) hx hb dX7_solve_6 (by decide) ?_
  refine lv_istore_n (lv' := [(3, .int 0), (2, .int 1), (0, .ref (g.2.2.1 v)), (1, .ref (g.2.2.1 o))]) hx hb dX7_solve_7 rfl hl (by decide) rfl (fun ls hl => ?_)
  exact ih8 0 1 0 tk kk kc dp gg gs gtk10 gc h9 _ _ _ w (lv_sub hl [2, 3, 1, 0] rfl) (by omega) ((by decide : (0 : Int32).toInt = ((0 : Nat) : Int))) (Or.inl ⟨rfl, fun j_ hj_ => absurd hj_ (Nat.not_lt_zero _)⟩) (fun f_ row_ a_ b_ => hzk10 f_ row_ (by omega) (Nat.lt_of_lt_of_le b_ (mRw_mR V.hu hP a_))) V P hfr (by omega)

abbrev rm_X7_staysStrict : Room := { frames := 5, cells := 0, slots := 0, locals := 113 }
set_option maxHeartbeats 4000000 in
set_option maxRecDepth 100000 in
theorem c_X7_staysStrict (l : Launch) {g : GE} {h : Nat → va_E} {v u kk kc : Nat} {tk fz dp : Int32} {gp gg gs : Nat → Int32} {gd gt gc : Nat → Nat → Int32} (V : VwA g h v u kk kc tk fz dp gp gg gs gd gt gc) {o : Nat} {n : Int32} {ga gk gl : Nat → Int32} {gb : Nat → Nat → Int32} (P : PrA g h o n ga gk gl gb) {M : PRG} (S : PrS M n ga gk gl gb) (hP : PV M) (p1 p2 : Int32) {f a : Nat} (hp1 : p1.toInt = (f : Int)) (hp2 : p2.toInt = (a : Int)) (hf : f < pN M) (ha : a < 3) (hdis : o + 9 ≤ v ∨ v + 18 ≤ o) : MI l yX7_staysStrict wsX7_staysStrict rm_X7_staysStrict [.ref (g.2.2.1 v), .ref (g.2.2.1 o), .int p1, .int p2] g h (fun r h2 => (∀ k, ¬ (v ≤ k ∧ k < v + 18) → h2 k = h k) ∧ Bq r (mStrictF u M f a) ∧ ∃ (kk2 : Nat) (kc2 : Nat) (dp2 : Int32) (gg2 : Nat → Int32) (gs2 : Nat → Int32) (gt2 : Nat → Nat → Int32) (gc2 : Nat → Nat → Int32), VwA g h2 v u kk2 kc2 tk fz dp2 gp gg2 gs2 gd gt2 gc2) := by
  refine Met.ofW (cc := cX7_staysStrict) (maxL := 7) (ret := (some .boolean)) (by decide) rfl ?_
  intro p e s m args below meth c s₁ B hml hv
  obtain ⟨rfl, w0⟩ := hv
  have hx := B.exec
  have hb := B.bytes
  have hr := B.returns
  have hts := atoms_spec (ws := wsX7_staysStrict) B.pre
  have hown : s.vm.findClass RX7 = some m.cls := findClass_of_methodNamed B.named
  have hlocks := B.notSynchronized
  have w := w0.start
  clear w0
  have hl := lv_entry ([.ref (g.2.2.1 v), .ref (g.2.2.1 o), .int p1, .int p2]) (n := 7) (Nat.le_of_ble_eq_true rfl)
  rw [lg_entry_eq]
  generalize (lg_sl ([.ref (g.2.2.1 v), .ref (g.2.2.1 o), .int p1, .int p2]) ++ List.replicate (7 - (lg_sl ([.ref (g.2.2.1 v), .ref (g.2.2.1 o), .int p1, .int p2])).length) Slot.unset).toArray = ls at hl ⊢
  have hl : lv_has ls 7 [(0, .ref (g.2.2.1 v)), (1, .ref (g.2.2.1 o)), (2, .int p1), (3, .int p2)] := hl
  have hn4 := hP.2.1
  have hNv := V.hN
  have cuts : ∀ N : Nat, (∀ (r : Nat) (x4 : Int32) (x5 : Int32) (x6 : Int32) (kk1 : Nat) (kc1 : Nat) (dp1 : Int32) (gg1 : Nat → Int32) (gs1 : Nat → Int32) (gt1 : Nat → Nat → Int32) (gc1 : Nat → Nat → Int32) (hc : Nat → va_E) (H : Heap) (locs : List Loc) (ls : Array Slot), WD g (inW g) s hc H locs → lv_has ls 7 [(0, .ref (g.2.2.1 v)), (1, .ref (g.2.2.1 o)), (2, .int p1), (3, .int p2), (4, .int x4), (5, .int x5), (6, .int x6)] → (r ≤ 513) → (x6.toInt = ((r : Nat) : Int)) → ((x4 = 1 ∧ x5 = 1 ∧ ∀ j_, j_ < r → ¬ Stable u M j_) ∨ (x5 = 0 ∧ ¬ mStrict u M (mTab u M r) f a) ∨ (x4 = 0 ∧ x5 = 1 ∧ 1 ≤ r ∧ IsK u M (r - 1) ∧ mStrict u M (mTab u M r) f a)) → (TbS u M gt1 (mTab u M r)) → (VwA g hc v u kk1 kc1 tk fz dp1 gp gg1 gs1 gd gt1 gc1) → (PrA g hc o n ga gk gl gb) → (∀ k, ¬ (v ≤ k ∧ k < v + 18) → hc k = h k) → 514 - r < N → W p l e (headSpec wsX7_staysStrict rm_X7_staysStrict).room s m ([.ref (g.2.2.1 v), .ref (g.2.2.1 o), .int p1, .int p2] : List Value).toArray below meth c H locs 0 0 (MQ below (va_Qi (fun r h2 => (∀ k, ¬ (v ≤ k ∧ k < v + 18) → h2 k = h k) ∧ Bq r (mStrictF u M f a) ∧ ∃ (kk2 : Nat) (kc2 : Nat) (dp2 : Int32) (gg2 : Nat → Int32) (gs2 : Nat → Int32) (gt2 : Nat → Nat → Int32) (gc2 : Nat → Nat → Int32), VwA g h2 v u kk2 kc2 tk fz dp2 gp gg2 gs2 gd gt2 gc2) (Wd g) (inW g)) ([.ref (g.2.2.1 v), .ref (g.2.2.1 o), .int p1, .int p2] : List Value).toArray s 0 0 (inW g)) (F0 m 13 ls [])) := by
    intro N
    induction N with
    | zero => exact by intros; omega
    | succ N ih =>
      have ih13 := ih
      · intro r x4 x5 x6 kk1 kc1 dp1 gg1 gs1 gt1 gc1 hc H locs ls w hl hr5 hx6 hsb hT V P hfr hN_
        have hNw := V.hN
        refine lv_iload hx hb dX7_staysStrict_13 (lv_at hl 4 rfl) ?_
        refine lv_if_eq (tgt := 53) hx hb dX7_staysStrict_15 (by decide) (fun c1 => ?_) (fun c1 => ?_)
        · refine lv_iload hx hb dX7_staysStrict_53 (lv_at hl 5 rfl) ?_
          refine r_zret (v := x5) hx hb hr (by rcases hsb with a_ | a_ | a_; rw [a_.2.1]; rfl; rw [a_.1]; rfl; rw [a_.2.1]; rfl) hlocks w dX7_staysStrict_55 ?_
          refine ⟨hfr, ?_, _, _, _, _, _, _, _, V⟩
          rcases hsb with ⟨a1, a2, a3⟩ | ⟨a1, a2⟩ | ⟨a1, a2, a3, a4, a5⟩
          · rw [a1] at c1; exact absurd c1 (by decide)
          · rw [a1]; exact Bq.f (fun q_ => a2 (q_.at V.hu hP hf r))
          · rw [a2]; exact Bq.t ⟨r - 1, a4, mStrict.cg a3 a4 hf a5⟩
        · refine lv_iload hx hb dX7_staysStrict_18 (lv_at hl 5 rfl) ?_
          refine lv_if_eq (tgt := 53) hx hb dX7_staysStrict_20 (by decide) (fun c2 => ?_) (fun c2 => ?_)
          · refine lv_iload hx hb dX7_staysStrict_53 (lv_at hl 5 rfl) ?_
            refine r_zret (v := x5) hx hb hr (by rcases hsb with a_ | a_ | a_; rw [a_.2.1]; rfl; rw [a_.1]; rfl; rw [a_.2.1]; rfl) hlocks w dX7_staysStrict_55 ?_
            refine ⟨hfr, ?_, _, _, _, _, _, _, _, V⟩
            rcases hsb with ⟨a1, a2, a3⟩ | ⟨a1, a2⟩ | ⟨a1, a2, a3, a4, a5⟩
            · rw [a2] at c2; exact absurd c2 (by decide)
            · rw [a1]; exact Bq.f (fun q_ => a2 (q_.at V.hu hP hf r))
            · rw [a2]; exact Bq.t ⟨r - 1, a4, mStrict.cg a3 a4 hf a5⟩
          · have hns : ∀ j_, j_ < r → ¬ Stable u M j_ := by
              rcases hsb with ⟨_, _, q_⟩ | ⟨q_, _⟩ | ⟨q_, _⟩
              · exact q_
              · exact absurd q_ c2
              · exact absurd q_ c1
            have h512 := noStable_512 V.hu hP hns
            refine lv_iload hx hb dX7_staysStrict_23 (lv_at hl 6 rfl) ?_
            refine lv_sipush (v := 1000) hx hb dX7_staysStrict_25 (by decide) ?_
            refine lv_icmp_ge (tgt := 53) hx hb dX7_staysStrict_28 (by decide) (fun c3 => ?_) (fun c3 => ?_)
            · have c3 : ((1000 : Nat) : Int) ≤ ((r : Nat) : Int) := (i_le (by decide : (1000 : Int32).toInt = ((1000 : Nat) : Int)) hx6).mp c3
              exfalso; omega
            · have c3 : ¬ (((1000 : Nat) : Int) ≤ ((r : Nat) : Int)) := fun q => c3 ((i_le (by decide : (1000 : Int32).toInt = ((1000 : Nat) : Int)) hx6).mpr q)
              refine lv_aload_n hx hb dX7_staysStrict_31 rfl (lv_at hl 0 rfl) ?_
              refine lv_aload_n hx hb dX7_staysStrict_32 rfl (lv_at hl 1 rfl) ?_
              refine r_callI w (va_3 V.hu (fun q_ => va_runU (As := [.ref (g.2.2.1 o)]) (rest := []) ⟨hx, hb, hml, hown, hts⟩ (c_X7_advance l V P S hP hT hdis) (va_cwU 1 hts gX7_staysStrict_X7_advance_u71X6 rfl rfl rfl rfl (by decide +kernel) ⟨Nat.le_of_ble_eq_true rfl, Nat.le_of_ble_eq_true rfl⟩) (r_preV w (by have := V.hN; omega) (V.ob (by subst q_; rfl)) rfl) rfl rfl hl.1 rfl (lv_room (Nat.le_of_ble_eq_true rfl)) dX7_staysStrict_33 ⟨Nat.zero_le _, Nat.zero_le _⟩) (fun q_ => va_runU (As := [.ref (g.2.2.1 o)]) (rest := []) ⟨hx, hb, hml, hown, hts⟩ (c_X7_advance l V P S hP hT hdis) (va_cwU 1 hts gX7_staysStrict_X7_advance_u71X4 rfl rfl rfl rfl (by decide +kernel) ⟨Nat.le_of_ble_eq_true rfl, Nat.le_of_ble_eq_true rfl⟩) (r_preV w (by have := V.hN; omega) (V.ob (by subst q_; rfl)) rfl) rfl rfl hl.1 rfl (lv_room (Nat.le_of_ble_eq_true rfl)) dX7_staysStrict_33 ⟨Nat.zero_le _, Nat.zero_le _⟩) (fun q_ => va_runU (As := [.ref (g.2.2.1 o)]) (rest := []) ⟨hx, hb, hml, hown, hts⟩ (c_X7_advance l V P S hP hT hdis) (va_cwU 1 hts gX7_staysStrict_X7_advance_u71X0 rfl rfl rfl rfl (by decide +kernel) ⟨Nat.le_of_ble_eq_true rfl, Nat.le_of_ble_eq_true rfl⟩) (r_preV w (by have := V.hN; omega) (V.ob (by subst q_; rfl)) rfl) rfl rfl hl.1 rfl (lv_room (Nat.le_of_ble_eq_true rfl)) dX7_staysStrict_33 ⟨Nat.zero_le _, Nat.zero_le _⟩)) (fun r5 h4 H locs hp w => ?_)
              obtain ⟨hfk6, hbk6, dpk6, ggk6, gsk6, gck6, V, hTk6⟩ := hp
              have P := P.fr (h' := h4) (fun k_ h1_ h2_ => hfk6 k_ (by omega))
              have hfr : ∀ k_, ¬ (v ≤ k_ ∧ k_ < v + 18) → h4 k_ = h k_ := fun k_ hk_ => (hfk6 k_ (by omega)).trans (hfr k_ hk_)
              refine lv_istore (lv' := [(4, .int r5), (0, .ref (g.2.2.1 v)), (1, .ref (g.2.2.1 o)), (2, .int p1), (3, .int p2), (5, .int x5), (6, .int x6)]) hx hb dX7_staysStrict_36 hl (by decide) rfl (fun ls hl => ?_)
              have hT := hTk6
              refine lv_aload_n hx hb dX7_staysStrict_38 rfl (lv_at hl 1 rfl) ?_
              refine lv_aload_n hx hb dX7_staysStrict_39 rfl (lv_at hl 2 rfl) ?_
              refine lv_iload_n hx hb dX7_staysStrict_40 rfl (lv_at hl 3 rfl) ?_
              refine lv_iload_n hx hb dX7_staysStrict_41 rfl (lv_at hl 4 rfl) ?_
              refine r_callI w (va_3 V.hu (fun q_ => va_runU (As := [.ref (g.2.2.1 o), .int p1, .int p2]) (rest := []) ⟨hx, hb, hml, hown, hts⟩ (c_X7_isStrict l V P S hP hT p1 p2 hp1 hp2 hf (by omega)) (va_cwU 3 hts gX7_staysStrict_X7_isStrict_u79X6 rfl rfl rfl rfl (by decide +kernel) ⟨Nat.le_of_ble_eq_true rfl, Nat.le_of_ble_eq_true rfl⟩) (r_preV w (by have := V.hN; omega) (V.ob (by subst q_; rfl)) rfl) rfl rfl hl.1 rfl (lv_room (Nat.le_of_ble_eq_true rfl)) dX7_staysStrict_42 ⟨Nat.zero_le _, Nat.zero_le _⟩) (fun q_ => va_runU (As := [.ref (g.2.2.1 o), .int p1, .int p2]) (rest := []) ⟨hx, hb, hml, hown, hts⟩ (c_X7_isStrict l V P S hP hT p1 p2 hp1 hp2 hf (by omega)) (va_cwU 3 hts gX7_staysStrict_X7_isStrict_u79X4 rfl rfl rfl rfl (by decide +kernel) ⟨Nat.le_of_ble_eq_true rfl, Nat.le_of_ble_eq_true rfl⟩) (r_preV w (by have := V.hN; omega) (V.ob (by subst q_; rfl)) rfl) rfl rfl hl.1 rfl (lv_room (Nat.le_of_ble_eq_true rfl)) dX7_staysStrict_42 ⟨Nat.zero_le _, Nat.zero_le _⟩) (fun q_ => va_runU (As := [.ref (g.2.2.1 o), .int p1, .int p2]) (rest := []) ⟨hx, hb, hml, hown, hts⟩ (c_X7_isStrict l V P S hP hT p1 p2 hp1 hp2 hf (by omega)) (va_cwU 3 hts gX7_staysStrict_X7_isStrict_u79X0 rfl rfl rfl rfl (by decide +kernel) ⟨Nat.le_of_ble_eq_true rfl, Nat.le_of_ble_eq_true rfl⟩) (r_preV w (by have := V.hN; omega) (V.ob (by subst q_; rfl)) rfl) rfl rfl hl.1 rfl (lv_room (Nat.le_of_ble_eq_true rfl)) dX7_staysStrict_42 ⟨Nat.zero_le _, Nat.zero_le _⟩)) (fun r8 h7 H locs hp w => ?_)
              obtain ⟨eh_, qq9⟩ := hp
              have eh_ := eh_.symm
              subst eh_
              refine lv_istore (lv' := [(5, .int r8), (4, .int r5), (0, .ref (g.2.2.1 v)), (1, .ref (g.2.2.1 o)), (2, .int p1), (3, .int p2), (6, .int x6)]) hx hb dX7_staysStrict_45 hl (by decide) rfl (fun ls hl => ?_)
              obtain ⟨y10, ey10⟩ : ∃ y : Int32, y = x6 + (1) := ⟨_, rfl⟩
              have ty10 : y10.toInt = (((r + 1) : Nat) : Int) := i_addN ey10 hx6 (by decide : (1 : Int32).toInt = ((1 : Nat) : Int)) (by omega)
              refine lv_iinc (v := y10) (lv' := [(6, .int y10), (5, .int r8), (4, .int r5), (0, .ref (g.2.2.1 v)), (1, .ref (g.2.2.1 o)), (2, .int p1), (3, .int p2)]) hx hb dX7_staysStrict_47 hl (k := 6) rfl (by rw [ey10]; rfl) (by decide) rfl (fun ls hl => ?_)
              refine lv_goto (tgt := 13) hx hb dX7_staysStrict_50 (by decide) ?_
              exact ih13 (r + 1) r5 r8 y10 kc1 kk1 dpk6 ggk6 gsk6 gck6 gt1 h4 _ _ _ w (lv_sub hl [3, 4, 5, 6, 2, 1, 0] rfl) (by omega) ty10 (stays_next hns hbk6 qq9) hTk6 V P hfr (by omega)
  have ih13 := cuts (600)
  refine lv_aload_n hx hb dX7_staysStrict_0 rfl (lv_at hl 0 rfl) ?_
  refine r_callV w (va_3 V.hu (fun q_ => va_runU (As := []) (rest := []) ⟨hx, hb, hml, hown, hts⟩ (c_X7_begin l V) (va_cwU 0 hts gX7_staysStrict_X7_begin_u65X6 rfl rfl rfl rfl (by decide +kernel) ⟨Nat.le_of_ble_eq_true rfl, Nat.le_of_ble_eq_true rfl⟩) (r_preV w (by have := V.hN; omega) (V.ob (by subst q_; rfl)) rfl) rfl rfl hl.1 rfl (lv_room (Nat.le_of_ble_eq_true rfl)) dX7_staysStrict_1 ⟨Nat.zero_le _, Nat.zero_le _⟩) (fun q_ => va_runU (As := []) (rest := []) ⟨hx, hb, hml, hown, hts⟩ (c_X7_begin l V) (va_cwU 0 hts gX7_staysStrict_X7_begin_u65X4 rfl rfl rfl rfl (by decide +kernel) ⟨Nat.le_of_ble_eq_true rfl, Nat.le_of_ble_eq_true rfl⟩) (r_preV w (by have := V.hN; omega) (V.ob (by subst q_; rfl)) rfl) rfl rfl hl.1 rfl (lv_room (Nat.le_of_ble_eq_true rfl)) dX7_staysStrict_1 ⟨Nat.zero_le _, Nat.zero_le _⟩) (fun q_ => va_runU (As := []) (rest := []) ⟨hx, hb, hml, hown, hts⟩ (c_X7_begin l V) (va_cwU 0 hts gX7_staysStrict_X7_begin_u65X0 rfl rfl rfl rfl (by decide +kernel) ⟨Nat.le_of_ble_eq_true rfl, Nat.le_of_ble_eq_true rfl⟩) (r_preV w (by have := V.hN; omega) (V.ob (by subst q_; rfl)) rfl) rfl rfl hl.1 rfl (lv_room (Nat.le_of_ble_eq_true rfl)) dX7_staysStrict_1 ⟨Nat.zero_le _, Nat.zero_le _⟩)) (fun h11 H locs hp w => ?_)
  obtain ⟨hfk12, gtk12, V, hzk12⟩ := hp
  have P := P.fr (h' := h11) (fun k_ h1_ h2_ => hfk12 k_ (by omega))
  have hfr : ∀ k_, ¬ (v ≤ k_ ∧ k_ < v + 18) → h11 k_ = h k_ := fun k_ hk_ => (hfk12 k_ (by omega))
  refine lv_iconst (v := 1) hx hb dX7_staysStrict_4 (by decide) ?_
  refine lv_istore (lv' := [(4, .int 1), (0, .ref (g.2.2.1 v)), (1, .ref (g.2.2.1 o)), (2, .int p1), (3, .int p2)]) hx hb dX7_staysStrict_5 hl (by decide) rfl (fun ls hl => ?_)
  refine lv_iconst (v := 1) hx hb dX7_staysStrict_7 (by decide) ?_
  refine lv_istore (lv' := [(5, .int 1), (4, .int 1), (0, .ref (g.2.2.1 v)), (1, .ref (g.2.2.1 o)), (2, .int p1), (3, .int p2)]) hx hb dX7_staysStrict_8 hl (by decide) rfl (fun ls hl => ?_)
  refine lv_iconst (v := 0) hx hb dX7_staysStrict_10 (by decide) ?_
  refine lv_istore (lv' := [(6, .int 0), (5, .int 1), (4, .int 1), (0, .ref (g.2.2.1 v)), (1, .ref (g.2.2.1 o)), (2, .int p1), (3, .int p2)]) hx hb dX7_staysStrict_11 hl (by decide) rfl (fun ls hl => ?_)
  exact ih13 0 1 1 0 kk kc dp gg gs gtk12 gc h11 _ _ _ w (lv_sub hl [3, 4, 5, 6, 2, 1, 0] rfl) (by omega) ((by decide : (0 : Int32).toInt = ((0 : Nat) : Int))) (Or.inl ⟨rfl, rfl, fun j_ hj_ => absurd hj_ (Nat.not_lt_zero _)⟩) (fun f_ row_ a_ b_ => hzk12 f_ row_ (by omega) (Nat.lt_of_lt_of_le b_ (mRw_mR V.hu hP a_))) V P hfr (by omega)

