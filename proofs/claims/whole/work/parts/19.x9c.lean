theorem mLet_arg {u k q0 q1 q2 : Nat} {T : Nat → Nat → Nat} {xs : Nat → Nat} (h1 : 3 ≤ k) (h2 : k < 6) : mLet u T xs k q0 q1 q2 = xs (k - 3) := by
  unfold mLet
  rw [if_neg (by omega), if_neg (by omega), if_neg (by omega), if_pos h2]
theorem mLet_call {u k q0 q1 q2 : Nat} {T : Nat → Nat → Nat} {xs : Nat → Nat} (h1 : 10 ≤ k) : mLet u T xs k q0 q1 q2 = T (k - 10) (q0 + mB u * q1 + mB u * mB u * q2) := by
  unfold mLet
  repeat rw [if_neg (by omega)]
theorem inX9_partsOf_X9 : ∀ w ∈ wsX90, w ∈ wsX9_partsOf := by decide +kernel
abbrev rm_X9_partsOf : Room := { frames := 1, cells := 0, slots := 0, locals := 22 }
set_option maxHeartbeats 4000000 in
set_option maxRecDepth 100000 in
theorem c_X9_partsOf (l : Launch) {g : GE} {h : Nat → va_E} {r : Nat} {nm kn um sv sz ra rm : Int32} {ga gk gl gB gt gn gr gp gh gv gs gx gf : Nat → Int32} (D : MdA g h r nm kn um sv sz ra rm ga gk gl gB gt gn gr gp gh gv gs gx gf) {pn : Nat} {pa : Nat → Nat} (hn : nm.toInt = (pn : Int)) (hn4 : pn ≤ 4) (ha : ∀ i, i < pn → (ga i).toInt = (pa i : Int) ∧ pa i ≤ 3) {f : Nat} (p0 p1 : Int32) (hf : f < pn) (hp1 : p1.toInt = (pa f : Int)) : MI l yX9_partsOf wsX9_partsOf rm_X9_partsOf [.ref (g.2.2.1 r), .int p0, .int p1] g h (fun r h2 => h2 = h ∧ ((mNum p0.toInt < 14 ∧ mMay pn pa f (mNum p0.toInt) ∧ r.toInt = ((mParts pn pa (mNum p0.toInt) : Nat) : Int)) ∨ (¬ (mNum p0.toInt < 14 ∧ mMay pn pa f (mNum p0.toInt)) ∧ r.toInt = -4))) := by
  refine Met.ofW (cc := cX9_partsOf) (maxL := 3) (ret := (some .int)) (by decide) rfl ?_
  intro p e s m args below meth c s₁ B hml hv
  obtain ⟨rfl, w0⟩ := hv
  have hx := B.exec
  have hb := B.bytes
  have hr := B.returns
  have hts := atoms_spec (ws := wsX9_partsOf) B.pre
  have hown : s.vm.findClass RX9 = some m.cls := findClass_of_methodNamed B.named
  have hlocks := B.notSynchronized
  have w := w0.start
  clear w0
  have hl := lv_entry ([.ref (g.2.2.1 r), .int p0, .int p1]) (n := 3) (Nat.le_of_ble_eq_true rfl)
  rw [lg_entry_eq]
  generalize (lg_sl ([.ref (g.2.2.1 r), .int p0, .int p1]) ++ List.replicate (3 - (lg_sl ([.ref (g.2.2.1 r), .int p0, .int p1])).length) Slot.unset).toArray = ls at hl ⊢
  have hl : lv_has ls 3 [(0, .ref (g.2.2.1 r)), (1, .int p0), (2, .int p1)] := hl
  have hm_ := mNum_c p0.toInt
  have haf_ := (ha f hf).2
  refine lv_iload_n hx hb dX9_partsOf_0 rfl (lv_at hl 1 rfl) ?_
  refine lv_bipush (v := 111) hx hb dX9_partsOf_1 (by decide) ?_
  refine lv_icmp_eq (tgt := 18) hx hb dX9_partsOf_3 (by decide) (fun c1 => ?_) (fun c1 => ?_)
  · have c1 : p0.toInt = ((111 : Nat) : Int) := (i_eq (rfl : p0.toInt = p0.toInt) (by decide : (111 : Int32).toInt = ((111 : Nat) : Int))).mp c1
    refine lv_iconst (v := 0) hx hb dX9_partsOf_18 (by decide) ?_
    refine r_iret (v := 0) hx hb hr hlocks w dX9_partsOf_19 ?_
    refine ⟨rfl, ?_⟩
    rw [((by decide : (0 : Int32).toInt = ((0 : Nat) : Int)) : (0 : Int32).toInt = _)]
    generalize mNum p0.toInt = m_ at *
    refine Or.inl ⟨by omega, by unfold mMay; omega, ?_⟩
    unfold mParts
    split <;> (try split) <;> (try split) <;> (try split) <;> first | rfl | omega | (congr 2; omega) | (exfalso; omega)
  · have c1 : ¬ (p0.toInt = ((111 : Nat) : Int)) := fun q => c1 ((i_eq (rfl : p0.toInt = p0.toInt) (by decide : (111 : Int32).toInt = ((111 : Nat) : Int))).mpr q)
    refine lv_iload_n hx hb dX9_partsOf_6 rfl (lv_at hl 1 rfl) ?_
    refine lv_bipush (v := 105) hx hb dX9_partsOf_7 (by decide) ?_
    refine lv_icmp_eq (tgt := 18) hx hb dX9_partsOf_9 (by decide) (fun c2 => ?_) (fun c2 => ?_)
    · have c2 : p0.toInt = ((105 : Nat) : Int) := (i_eq (rfl : p0.toInt = p0.toInt) (by decide : (105 : Int32).toInt = ((105 : Nat) : Int))).mp c2
      refine lv_iconst (v := 0) hx hb dX9_partsOf_18 (by decide) ?_
      refine r_iret (v := 0) hx hb hr hlocks w dX9_partsOf_19 ?_
      refine ⟨rfl, ?_⟩
      rw [((by decide : (0 : Int32).toInt = ((0 : Nat) : Int)) : (0 : Int32).toInt = _)]
      generalize mNum p0.toInt = m_ at *
      refine Or.inl ⟨by omega, by unfold mMay; omega, ?_⟩
      unfold mParts
      split <;> (try split) <;> (try split) <;> (try split) <;> first | rfl | omega | (congr 2; omega) | (exfalso; omega)
    · have c2 : ¬ (p0.toInt = ((105 : Nat) : Int)) := fun q => c2 ((i_eq (rfl : p0.toInt = p0.toInt) (by decide : (105 : Int32).toInt = ((105 : Nat) : Int))).mpr q)
      refine lv_iload_n hx hb dX9_partsOf_12 rfl (lv_at hl 1 rfl) ?_
      refine lv_bipush (v := 119) hx hb dX9_partsOf_13 (by decide) ?_
      refine lv_icmp_ne (tgt := 20) hx hb dX9_partsOf_15 (by decide) (fun c3 => ?_) (fun c3 => ?_)
      · have c3 : ¬ (p0.toInt = ((119 : Nat) : Int)) := fun q => c3 ((i_eq (rfl : p0.toInt = p0.toInt) (by decide : (119 : Int32).toInt = ((119 : Nat) : Int))).mpr q)
        refine lv_iload_n hx hb dX9_partsOf_20 rfl (lv_at hl 1 rfl) ?_
        refine lv_bipush (v := 97) hx hb dX9_partsOf_21 (by decide) ?_
        refine lv_bipush (v := 99) hx hb dX9_partsOf_23 (by decide) ?_
        refine r_callI w (va_runS (As := [.int p0, .int 97, .int 99]) (rest := []) ⟨hx, hb, hml, hown, hts⟩ (c_X9_in l p0 97 99) (va_cwS 3 hts gX9_partsOf_X9_in rfl rfl rfl (by decide +kernel) ⟨Nat.le_of_ble_eq_true rfl, Nat.le_of_ble_eq_true rfl⟩) (r_preS w) rfl rfl hl.1 rfl (lv_room (Nat.le_of_ble_eq_true rfl)) dX9_partsOf_25 ⟨Nat.zero_le _, Nat.zero_le _⟩) (fun r5 h4 H locs hp w => ?_)
        obtain ⟨eh_, qq6⟩ := hp
        have eh_ := eh_.symm
        subst eh_
        have b7 : Bq r5 (((97 : Nat) : Int) ≤ p0.toInt ∧ p0.toInt ≤ ((99 : Nat) : Int)) := qq6.iff (by rw [((rfl : p0.toInt = p0.toInt) : (p0 : Int32).toInt = _), ((by decide : (97 : Int32).toInt = ((97 : Nat) : Int)) : (97 : Int32).toInt = _), ((by decide : (99 : Int32).toInt = ((99 : Nat) : Int)) : (99 : Int32).toInt = _)])
        refine lv_if_eq (tgt := 46) hx hb dX9_partsOf_28 (by decide) (fun c8 => ?_) (fun c8 => ?_)
        · have c8 := b7.eq c8
          refine lv_iload_n hx hb dX9_partsOf_46 rfl (lv_at hl 1 rfl) ?_
          refine lv_bipush (v := 48) hx hb dX9_partsOf_47 (by decide) ?_
          refine lv_bipush (v := 51) hx hb dX9_partsOf_49 (by decide) ?_
          refine r_callI w (va_runS (As := [.int p0, .int 48, .int 51]) (rest := []) ⟨hx, hb, hml, hown, hts⟩ (c_X9_in l p0 48 51) (va_cwS 3 hts gX9_partsOf_X9_in rfl rfl rfl (by decide +kernel) ⟨Nat.le_of_ble_eq_true rfl, Nat.le_of_ble_eq_true rfl⟩) (r_preS w) rfl rfl hl.1 rfl (lv_room (Nat.le_of_ble_eq_true rfl)) dX9_partsOf_51 ⟨Nat.zero_le _, Nat.zero_le _⟩) (fun r10 h9 H locs hp w => ?_)
          obtain ⟨eh_, qq11⟩ := hp
          have eh_ := eh_.symm
          subst eh_
          have b12 : Bq r10 (((48 : Nat) : Int) ≤ p0.toInt ∧ p0.toInt ≤ ((51 : Nat) : Int)) := qq11.iff (by rw [((rfl : p0.toInt = p0.toInt) : (p0 : Int32).toInt = _), ((by decide : (48 : Int32).toInt = ((48 : Nat) : Int)) : (48 : Int32).toInt = _), ((by decide : (51 : Int32).toInt = ((51 : Nat) : Int)) : (51 : Int32).toInt = _)])
          refine lv_if_eq (tgt := 83) hx hb dX9_partsOf_54 (by decide) (fun c13 => ?_) (fun c13 => ?_)
          · have c13 := b12.eq c13
            refine lv_iload_n hx hb dX9_partsOf_83 rfl (lv_at hl 1 rfl) ?_
            refine lv_bipush (v := 109) hx hb dX9_partsOf_84 (by decide) ?_
            refine lv_icmp_ne (tgt := 93) hx hb dX9_partsOf_86 (by decide) (fun c14 => ?_) (fun c14 => ?_)
            · have c14 : ¬ (p0.toInt = ((109 : Nat) : Int)) := fun q => c14 ((i_eq (rfl : p0.toInt = p0.toInt) (by decide : (109 : Int32).toInt = ((109 : Nat) : Int))).mpr q)
              refine lv_iload_n hx hb dX9_partsOf_93 rfl (lv_at hl 1 rfl) ?_
              refine lv_bipush (v := 43) hx hb dX9_partsOf_94 (by decide) ?_
              refine lv_icmp_eq (tgt := 105) hx hb dX9_partsOf_96 (by decide) (fun c15 => ?_) (fun c15 => ?_)
              · have c15 : p0.toInt = ((43 : Nat) : Int) := (i_eq (rfl : p0.toInt = p0.toInt) (by decide : (43 : Int32).toInt = ((43 : Nat) : Int))).mp c15
                refine lv_iconst (v := 2) hx hb dX9_partsOf_105 (by decide) ?_
                refine lv_goto (tgt := 121) hx hb dX9_partsOf_106 (by decide) ?_
                refine r_iret (v := 2) hx hb hr hlocks w dX9_partsOf_121 ?_
                refine ⟨rfl, ?_⟩
                rw [((by decide : (2 : Int32).toInt = ((2 : Nat) : Int)) : (2 : Int32).toInt = _)]
                generalize mNum p0.toInt = m_ at *
                refine Or.inl ⟨by omega, by unfold mMay; omega, ?_⟩
                unfold mParts
                split <;> (try split) <;> (try split) <;> (try split) <;> first | rfl | omega | (congr 2; omega) | (exfalso; omega)
              · have c15 : ¬ (p0.toInt = ((43 : Nat) : Int)) := fun q => c15 ((i_eq (rfl : p0.toInt = p0.toInt) (by decide : (43 : Int32).toInt = ((43 : Nat) : Int))).mpr q)
                refine lv_iload_n hx hb dX9_partsOf_99 rfl (lv_at hl 1 rfl) ?_
                refine lv_bipush (v := 38) hx hb dX9_partsOf_100 (by decide) ?_
                refine lv_icmp_ne (tgt := 109) hx hb dX9_partsOf_102 (by decide) (fun c16 => ?_) (fun c16 => ?_)
                · have c16 : ¬ (p0.toInt = ((38 : Nat) : Int)) := fun q => c16 ((i_eq (rfl : p0.toInt = p0.toInt) (by decide : (38 : Int32).toInt = ((38 : Nat) : Int))).mpr q)
                  refine lv_iload_n hx hb dX9_partsOf_109 rfl (lv_at hl 1 rfl) ?_
                  refine lv_bipush (v := 63) hx hb dX9_partsOf_110 (by decide) ?_
                  refine lv_icmp_ne (tgt := 119) hx hb dX9_partsOf_112 (by decide) (fun c17 => ?_) (fun c17 => ?_)
                  · have c17 : ¬ (p0.toInt = ((63 : Nat) : Int)) := fun q => c17 ((i_eq (rfl : p0.toInt = p0.toInt) (by decide : (63 : Int32).toInt = ((63 : Nat) : Int))).mpr q)
                    refine lv_bipush (v := (-4)) hx hb dX9_partsOf_119 (by decide) ?_
                    refine r_iret (v := (-4)) hx hb hr hlocks w dX9_partsOf_121 ?_
                    refine ⟨rfl, ?_⟩
                    rw [((by decide : (-4 : Int32).toInt = (-4 : Int)) : ((-4) : Int32).toInt = _)]
                    generalize mNum p0.toInt = m_ at *
                    exact Or.inr ⟨by unfold mMay; omega, rfl⟩
                  · have c17 : p0.toInt = ((63 : Nat) : Int) := (i_eq (rfl : p0.toInt = p0.toInt) (by decide : (63 : Int32).toInt = ((63 : Nat) : Int))).mp c17
                    refine lv_iconst (v := 3) hx hb dX9_partsOf_115 (by decide) ?_
                    refine lv_goto (tgt := 121) hx hb dX9_partsOf_116 (by decide) ?_
                    refine r_iret (v := 3) hx hb hr hlocks w dX9_partsOf_121 ?_
                    refine ⟨rfl, ?_⟩
                    rw [((by decide : (3 : Int32).toInt = ((3 : Nat) : Int)) : (3 : Int32).toInt = _)]
                    generalize mNum p0.toInt = m_ at *
                    refine Or.inl ⟨by omega, by unfold mMay; omega, ?_⟩
                    unfold mParts
                    split <;> (try split) <;> (try split) <;> (try split) <;> first | rfl | omega | (congr 2; omega) | (exfalso; omega)
                · have c16 : p0.toInt = ((38 : Nat) : Int) := (i_eq (rfl : p0.toInt = p0.toInt) (by decide : (38 : Int32).toInt = ((38 : Nat) : Int))).mp c16
                  refine lv_iconst (v := 2) hx hb dX9_partsOf_105 (by decide) ?_
                  refine lv_goto (tgt := 121) hx hb dX9_partsOf_106 (by decide) ?_
                  refine r_iret (v := 2) hx hb hr hlocks w dX9_partsOf_121 ?_
                  refine ⟨rfl, ?_⟩
                  rw [((by decide : (2 : Int32).toInt = ((2 : Nat) : Int)) : (2 : Int32).toInt = _)]
                  generalize mNum p0.toInt = m_ at *
                  refine Or.inl ⟨by omega, by unfold mMay; omega, ?_⟩
                  unfold mParts
                  split <;> (try split) <;> (try split) <;> (try split) <;> first | rfl | omega | (congr 2; omega) | (exfalso; omega)
            · have c14 : p0.toInt = ((109 : Nat) : Int) := (i_eq (rfl : p0.toInt = p0.toInt) (by decide : (109 : Int32).toInt = ((109 : Nat) : Int))).mp c14
              refine lv_iconst (v := 1) hx hb dX9_partsOf_89 (by decide) ?_
              refine lv_goto (tgt := 121) hx hb dX9_partsOf_90 (by decide) ?_
              refine r_iret (v := 1) hx hb hr hlocks w dX9_partsOf_121 ?_
              refine ⟨rfl, ?_⟩
              rw [((by decide : (1 : Int32).toInt = ((1 : Nat) : Int)) : (1 : Int32).toInt = _)]
              generalize mNum p0.toInt = m_ at *
              refine Or.inl ⟨by omega, by unfold mMay; omega, ?_⟩
              unfold mParts
              split <;> (try split) <;> (try split) <;> (try split) <;> first | rfl | omega | (congr 2; omega) | (exfalso; omega)
          · have c13 := b12.ne c13
            refine lv_iload_n hx hb dX9_partsOf_57 rfl (lv_at hl 1 rfl) ?_
            refine lv_bipush (v := 48) hx hb dX9_partsOf_58 (by decide) ?_
            refine lv_isub hx hb dX9_partsOf_60 ?_
            refine lv_topi (fun y18 ey18 => ?_)
            have ty18 : y18.toInt = p0.toInt - ((48 : Nat) : Int) := i_sub ey18 (rfl : p0.toInt = p0.toInt) (by decide : (48 : Int32).toInt = ((48 : Nat) : Int)) (by omega)
            refine lv_aload_n hx hb dX9_partsOf_61 rfl (lv_at hl 0 rfl) ?_
            refine r_get (C := RX9) (T := TX9) (N := 20) (ci := 7) hx hb hts inX9_partsOf_X9 hown w (by have := D.1; omega) D.c0 rfl 0 (by decide) (hts (Cond.fieldLink RX9 49 "EarlyValuesModel" "many" "I") (List.mem_of_getElem? (i := 1) (by decide +kernel))) rfl rfl dX9_partsOf_62 ?_
            refine lv_icmp_ge (tgt := 80) hx hb dX9_partsOf_65 (by decide) (fun c19 => ?_) (fun c19 => ?_)
            · have c19 : ((pn : Nat) : Int) ≤ (p0.toInt - ((48 : Nat) : Int)) := (i_le hn ty18).mp c19
              refine lv_bipush (v := (-4)) hx hb dX9_partsOf_80 (by decide) ?_
              refine r_iret (v := (-4)) hx hb hr hlocks w dX9_partsOf_82 ?_
              refine ⟨rfl, ?_⟩
              rw [((by decide : (-4 : Int32).toInt = (-4 : Int)) : ((-4) : Int32).toInt = _)]
              generalize mNum p0.toInt = m_ at *
              exact Or.inr ⟨by unfold mMay; omega, rfl⟩
            · have c19 : ¬ (((pn : Nat) : Int) ≤ (p0.toInt - ((48 : Nat) : Int))) := fun q => c19 ((i_le hn ty18).mpr q)
              have haj_ := (ha (p0.toInt - 48).toNat (by omega)).2
              refine lv_aload_n hx hb dX9_partsOf_68 rfl (lv_at hl 0 rfl) ?_
              refine r_get (C := RX9) (T := TX9) (N := 20) (ci := 7) hx hb hts inX9_partsOf_X9 hown w (by have := D.1; omega) D.c0 rfl 1 (by decide) (hts (Cond.fieldLink RX9 7 "EarlyValuesModel" "argsOf" "[I") (List.mem_of_getElem? (i := 2) (by decide +kernel))) rfl rfl dX9_partsOf_69 ?_
              refine lv_iload_n hx hb dX9_partsOf_72 rfl (lv_at hl 1 rfl) ?_
              refine lv_bipush (v := 48) hx hb dX9_partsOf_73 (by decide) ?_
              refine lv_isub hx hb dX9_partsOf_75 ?_
              refine lv_topi (fun y20 ey20 => ?_)
              have ty20 : y20.toInt = p0.toInt - ((48 : Nat) : Int) := i_sub ey20 (rfl : p0.toInt = p0.toInt) (by decide : (48 : Int32).toInt = ((48 : Nat) : Int)) (by omega)
              refine r_iald (j := ((p0.toInt - 48).toNat)) hx hb w (by have := D.1; omega) D.c1 (ty20.trans (by omega)) (by omega) dX9_partsOf_76 ?_
              refine lv_goto (tgt := 82) hx hb dX9_partsOf_77 (by decide) ?_
              refine r_iret (v := ga (((p0.toInt - 48).toNat))) hx hb hr hlocks w dX9_partsOf_82 ?_
              refine ⟨rfl, ?_⟩
              rw [((ha (((p0.toInt - 48).toNat)) (by omega)).1 : (ga (((p0.toInt - 48).toNat)) : Int32).toInt = _)]
              generalize mNum p0.toInt = m_ at *
              refine Or.inl ⟨by omega, by unfold mMay; omega, ?_⟩
              unfold mParts
              split <;> (try split) <;> (try split) <;> (try split) <;> first | rfl | omega | (congr 2; omega) | (exfalso; omega)
        · have c8 := b7.ne c8
          refine lv_iload_n hx hb dX9_partsOf_31 rfl (lv_at hl 1 rfl) ?_
          refine lv_bipush (v := 97) hx hb dX9_partsOf_32 (by decide) ?_
          refine lv_isub hx hb dX9_partsOf_34 ?_
          refine lv_topi (fun y21 ey21 => ?_)
          have ty21 : y21.toInt = p0.toInt - ((97 : Nat) : Int) := i_sub ey21 (rfl : p0.toInt = p0.toInt) (by decide : (97 : Int32).toInt = ((97 : Nat) : Int)) (by omega)
          refine lv_iload_n hx hb dX9_partsOf_35 rfl (lv_at hl 2 rfl) ?_
          refine lv_icmp_ge (tgt := 43) hx hb dX9_partsOf_36 (by decide) (fun c22 => ?_) (fun c22 => ?_)
          · have c22 : (((pa f) : Nat) : Int) ≤ (p0.toInt - ((97 : Nat) : Int)) := (i_le hp1 ty21).mp c22
            refine lv_bipush (v := (-4)) hx hb dX9_partsOf_43 (by decide) ?_
            refine r_iret (v := (-4)) hx hb hr hlocks w dX9_partsOf_45 ?_
            refine ⟨rfl, ?_⟩
            rw [((by decide : (-4 : Int32).toInt = (-4 : Int)) : ((-4) : Int32).toInt = _)]
            generalize mNum p0.toInt = m_ at *
            exact Or.inr ⟨by unfold mMay; omega, rfl⟩
          · have c22 : ¬ ((((pa f) : Nat) : Int) ≤ (p0.toInt - ((97 : Nat) : Int))) := fun q => c22 ((i_le hp1 ty21).mpr q)
            refine lv_iconst (v := 0) hx hb dX9_partsOf_39 (by decide) ?_
            refine lv_goto (tgt := 45) hx hb dX9_partsOf_40 (by decide) ?_
            refine r_iret (v := 0) hx hb hr hlocks w dX9_partsOf_45 ?_
            refine ⟨rfl, ?_⟩
            rw [((by decide : (0 : Int32).toInt = ((0 : Nat) : Int)) : (0 : Int32).toInt = _)]
            generalize mNum p0.toInt = m_ at *
            refine Or.inl ⟨by omega, by unfold mMay; omega, ?_⟩
            unfold mParts
            split <;> (try split) <;> (try split) <;> (try split) <;> first | rfl | omega | (congr 2; omega) | (exfalso; omega)
      · have c3 : p0.toInt = ((119 : Nat) : Int) := (i_eq (rfl : p0.toInt = p0.toInt) (by decide : (119 : Int32).toInt = ((119 : Nat) : Int))).mp c3
        refine lv_iconst (v := 0) hx hb dX9_partsOf_18 (by decide) ?_
        refine r_iret (v := 0) hx hb hr hlocks w dX9_partsOf_19 ?_
        refine ⟨rfl, ?_⟩
        rw [((by decide : (0 : Int32).toInt = ((0 : Nat) : Int)) : (0 : Int32).toInt = _)]
        generalize mNum p0.toInt = m_ at *
        refine Or.inl ⟨by omega, by unfold mMay; omega, ?_⟩
        unfold mParts
        split <;> (try split) <;> (try split) <;> (try split) <;> first | rfl | omega | (congr 2; omega) | (exfalso; omega)

abbrev rm_X9_madeBy : Room := { frames := 1, cells := 0, slots := 0, locals := 24 }
set_option maxHeartbeats 4000000 in
set_option maxRecDepth 100000 in
theorem c_X9_madeBy (l : Launch) {g : GE} {h : Nat → va_E} {r : Nat} {nm kn um sv sz ra rm : Int32} {ga gk gl gB gt gn gr gp gh gv gs gx gf : Nat → Int32} (D : MdA g h r nm kn um sv sz ra rm ga gk gl gB gt gn gr gp gh gv gs gx gf) {M : PRG} (hP : PV M) {u : Nat} (hu : u < 3) {T : Nat → Nat → Nat} {xs : Nat → Nat} (hT : RT u M gt T) {f0 k q0 q1 q2 : Nat} (p0 p1 p2 p3 p4 : Int32) (hp0 : p0.toInt = (u : Int)) (hp1 : p1.toInt = ((mCode k : Nat) : Int)) (hp2 : p2.toInt = (q0 : Int)) (hp3 : p3.toInt = (q1 : Int)) (hp4 : p4.toInt = (q2 : Int)) (hk : 6 ≤ k ∧ k < 14) (hm : mMay (pN M) (pA M) f0 k) (hq0 : q0 < mB u) (hq1 : q1 < mB u) (hq2 : q2 < mB u) (z0 : mParts (pN M) (pA M) k ≤ 0 → q0 = 0) (z1 : mParts (pN M) (pA M) k ≤ 1 → q1 = 0) (z2 : mParts (pN M) (pA M) k ≤ 2 → q2 = 0) : MI l yX9_madeBy wsX9_madeBy rm_X9_madeBy [.ref (g.2.2.1 r), .int p0, .int p1, .int p2, .int p3, .int p4] g h (fun r h2 => h2 = h ∧ r.toInt = ((mLet u T xs k q0 q1 q2 : Nat) : Int)) := by
  refine Met.ofW (cc := cX9_madeBy) (maxL := 6) (ret := (some .int)) (by decide) rfl ?_
  intro p e s m args below meth c s₁ B hml hv
  obtain ⟨rfl, w0⟩ := hv
  have hx := B.exec
  have hb := B.bytes
  have hr := B.returns
  have hts := atoms_spec (ws := wsX9_madeBy) B.pre
  have hown : s.vm.findClass RX9 = some m.cls := findClass_of_methodNamed B.named
  have hlocks := B.notSynchronized
  have w := w0.start
  clear w0
  have hl := lv_entry ([.ref (g.2.2.1 r), .int p0, .int p1, .int p2, .int p3, .int p4]) (n := 6) (Nat.le_of_ble_eq_true rfl)
  rw [lg_entry_eq]
  generalize (lg_sl ([.ref (g.2.2.1 r), .int p0, .int p1, .int p2, .int p3, .int p4]) ++ List.replicate (6 - (lg_sl ([.ref (g.2.2.1 r), .int p0, .int p1, .int p2, .int p3, .int p4])).length) Slot.unset).toArray = ls at hl ⊢
  have hl : lv_has ls 6 [(0, .ref (g.2.2.1 r)), (1, .int p0), (2, .int p1), (3, .int p2), (4, .int p3), (5, .int p4)] := hl
  have hn4 := hP.2.1
  have hB_ := mB_c hu
  have hc_ := mCode_c (k := k) (by omega)
  refine lv_iload_n hx hb dX9_madeBy_0 rfl (lv_at hl 2 rfl) ?_
  refine lv_bipush (v := 48) hx hb dX9_madeBy_1 (by decide) ?_
  refine lv_bipush (v := 51) hx hb dX9_madeBy_3 (by decide) ?_
  refine r_callI w (va_runS (As := [.int p1, .int 48, .int 51]) (rest := []) ⟨hx, hb, hml, hown, hts⟩ (c_X9_in l p1 48 51) (va_cwS 3 hts gX9_madeBy_X9_in rfl rfl rfl (by decide +kernel) ⟨Nat.le_of_ble_eq_true rfl, Nat.le_of_ble_eq_true rfl⟩) (r_preS w) rfl rfl hl.1 rfl (lv_room (Nat.le_of_ble_eq_true rfl)) dX9_madeBy_5 ⟨Nat.zero_le _, Nat.zero_le _⟩) (fun r2 h1 H locs hp w => ?_)
  obtain ⟨eh_, qq3⟩ := hp
  have eh_ := eh_.symm
  subst eh_
  have b4 : Bq r2 (((48 : Nat) : Int) ≤ (((mCode k) : Nat) : Int) ∧ (((mCode k) : Nat) : Int) ≤ ((51 : Nat) : Int)) := qq3.iff (by rw [(hp1 : (p1 : Int32).toInt = _), ((by decide : (48 : Int32).toInt = ((48 : Nat) : Int)) : (48 : Int32).toInt = _), ((by decide : (51 : Int32).toInt = ((51 : Nat) : Int)) : (51 : Int32).toInt = _)])
  refine lv_if_eq (tgt := 29) hx hb dX9_madeBy_8 (by decide) (fun c5 => ?_) (fun c5 => ?_)
  · have c5 := b4.eq c5
    refine lv_iload_n hx hb dX9_madeBy_29 rfl (lv_at hl 1 rfl) ?_
    refine lv_if_ne (tgt := 45) hx hb dX9_madeBy_30 (by decide) (fun c6 => ?_) (fun c6 => ?_)
    · have c6 : ¬ (((u : Nat) : Int) = (0 : Int)) := fun q => c6 ((i_eq hp0 (rfl : (0 : Int32).toInt = 0)).mpr q)
      refine lv_iload_n hx hb dX9_madeBy_45 rfl (lv_at hl 1 rfl) ?_
      refine lv_iconst (v := 1) hx hb dX9_madeBy_46 (by decide) ?_
      refine lv_icmp_ne (tgt := 62) hx hb dX9_madeBy_47 (by decide) (fun c7 => ?_) (fun c7 => ?_)
      · have c7 : ¬ (((u : Nat) : Int) = ((1 : Nat) : Int)) := fun q => c7 ((i_eq hp0 (by decide : (1 : Int32).toInt = ((1 : Nat) : Int))).mpr q)
        refine lv_iload_n hx hb dX9_madeBy_62 rfl (lv_at hl 2 rfl) ?_
        refine lv_iload_n hx hb dX9_madeBy_63 rfl (lv_at hl 3 rfl) ?_
        refine lv_iload hx hb dX9_madeBy_64 (lv_at hl 4 rfl) ?_
        refine lv_iload hx hb dX9_madeBy_66 (lv_at hl 5 rfl) ?_
        refine r_callI w (va_runS (As := [.int p1, .int p2, .int p3, .int p4]) (rest := []) ⟨hx, hb, hml, hown, hts⟩ (c_X9_fineBy l (T := T) (xs := xs) p1 p2 p3 p4 hp1 hp2 hp3 hp4 (by omega) (by omega) (by omega) (by omega)) (va_cwS 4 hts gX9_madeBy_X9_fineBy rfl rfl rfl (by decide +kernel) ⟨Nat.le_of_ble_eq_true rfl, Nat.le_of_ble_eq_true rfl⟩) (r_preS w) rfl rfl hl.1 rfl (lv_room (Nat.le_of_ble_eq_true rfl)) dX9_madeBy_68 ⟨Nat.zero_le _, Nat.zero_le _⟩) (fun r9 h8 H locs hp w => ?_)
        obtain ⟨eh_, qq10⟩ := hp
        have eh_ := eh_.symm
        subst eh_
        refine r_iret (v := r9) hx hb hr hlocks w dX9_madeBy_71 ?_
        obtain rfl : u = 2 := by omega
        exact ⟨rfl, qq10⟩
      · have c7 : ((u : Nat) : Int) = ((1 : Nat) : Int) := (i_eq hp0 (by decide : (1 : Int32).toInt = ((1 : Nat) : Int))).mp c7
        refine lv_iload_n hx hb dX9_madeBy_50 rfl (lv_at hl 2 rfl) ?_
        refine lv_iload_n hx hb dX9_madeBy_51 rfl (lv_at hl 3 rfl) ?_
        refine lv_iload hx hb dX9_madeBy_52 (lv_at hl 4 rfl) ?_
        refine lv_iload hx hb dX9_madeBy_54 (lv_at hl 5 rfl) ?_
        refine r_callI w (va_runS (As := [.int p1, .int p2, .int p3, .int p4]) (rest := []) ⟨hx, hb, hml, hown, hts⟩ (c_X9_roughBy l (T := T) (xs := xs) p1 p2 p3 p4 hp1 hp2 hp3 hp4 (by omega) (by omega) (by omega) (by omega)) (va_cwS 4 hts gX9_madeBy_X9_roughBy rfl rfl rfl (by decide +kernel) ⟨Nat.le_of_ble_eq_true rfl, Nat.le_of_ble_eq_true rfl⟩) (r_preS w) rfl rfl hl.1 rfl (lv_room (Nat.le_of_ble_eq_true rfl)) dX9_madeBy_56 ⟨Nat.zero_le _, Nat.zero_le _⟩) (fun r12 h11 H locs hp w => ?_)
        obtain ⟨eh_, qq13⟩ := hp
        have eh_ := eh_.symm
        subst eh_
        refine lv_goto (tgt := 71) hx hb dX9_madeBy_59 (by decide) ?_
        refine r_iret (v := r12) hx hb hr hlocks w dX9_madeBy_71 ?_
        obtain rfl : u = 1 := by omega
        exact ⟨rfl, qq13⟩
    · have c6 : ((u : Nat) : Int) = (0 : Int) := (i_eq hp0 (rfl : (0 : Int32).toInt = 0)).mp c6
      refine lv_iload_n hx hb dX9_madeBy_33 rfl (lv_at hl 2 rfl) ?_
      refine lv_iload_n hx hb dX9_madeBy_34 rfl (lv_at hl 3 rfl) ?_
      refine lv_iload hx hb dX9_madeBy_35 (lv_at hl 4 rfl) ?_
      refine lv_iload hx hb dX9_madeBy_37 (lv_at hl 5 rfl) ?_
      refine r_callI w (va_runS (As := [.int p1, .int p2, .int p3, .int p4]) (rest := []) ⟨hx, hb, hml, hown, hts⟩ (c_X9_valueBy l (T := T) (xs := xs) p1 p2 p3 p4 hp1 hp2 hp3 hp4 (by omega) (by omega) (by omega) (by omega)) (va_cwS 4 hts gX9_madeBy_X9_valueBy rfl rfl rfl (by decide +kernel) ⟨Nat.le_of_ble_eq_true rfl, Nat.le_of_ble_eq_true rfl⟩) (r_preS w) rfl rfl hl.1 rfl (lv_room (Nat.le_of_ble_eq_true rfl)) dX9_madeBy_39 ⟨Nat.zero_le _, Nat.zero_le _⟩) (fun r15 h14 H locs hp w => ?_)
      obtain ⟨eh_, qq16⟩ := hp
      have eh_ := eh_.symm
      subst eh_
      refine lv_goto (tgt := 71) hx hb dX9_madeBy_42 (by decide) ?_
      refine r_iret (v := r15) hx hb hr hlocks w dX9_madeBy_71 ?_
      obtain rfl : u = 0 := by omega
      exact ⟨rfl, qq16⟩
  · have c5 := b4.ne c5
    have hcall := hm.call (by omega)
    refine lv_aload_n hx hb dX9_madeBy_11 rfl (lv_at hl 0 rfl) ?_
    refine lv_iload_n hx hb dX9_madeBy_12 rfl (lv_at hl 1 rfl) ?_
    refine lv_iload_n hx hb dX9_madeBy_13 rfl (lv_at hl 2 rfl) ?_
    refine lv_bipush (v := 48) hx hb dX9_madeBy_14 (by decide) ?_
    refine lv_isub hx hb dX9_madeBy_16 ?_
    refine lv_topi (fun y17 ey17 => ?_)
    have ty17 : y17.toInt = ((k - 10 : Nat) : Int) := (i_sub ey17 hp1 (by decide : (48 : Int32).toInt = ((48 : Nat) : Int)) (by omega)).trans (by omega)
    refine lv_iload_n hx hb dX9_madeBy_17 rfl (lv_at hl 3 rfl) ?_
    refine lv_iload hx hb dX9_madeBy_18 (lv_at hl 4 rfl) ?_
    refine lv_iload hx hb dX9_madeBy_20 (lv_at hl 5 rfl) ?_
    refine r_callI w (va_runS (As := [.int p2, .int p3, .int p4]) (rest := [.int y17, .int p0, .ref (g.2.2.1 r)]) ⟨hx, hb, hml, hown, hts⟩ (c_X9_rowOf l p2 p3 p4 hp2 hp3 hp4 (by omega) (by omega) (by omega)) (va_cwS 3 hts gX9_madeBy_X9_rowOf rfl rfl rfl (by decide +kernel) ⟨Nat.le_of_ble_eq_true rfl, Nat.le_of_ble_eq_true rfl⟩) (r_preS w) rfl rfl hl.1 rfl (lv_room (Nat.le_of_ble_eq_true rfl)) dX9_madeBy_22 ⟨Nat.zero_le _, Nat.zero_le _⟩) (fun r19 h18 H locs hp w => ?_)
    obtain ⟨eh_, qq20⟩ := hp
    have eh_ := eh_.symm
    subst eh_
    refine r_callI w (va_runV (As := [.int p0, .int y17, .int r19]) (rest := []) ⟨hx, hb, hml, hown, hts⟩ (c_X9_tableAt l D (u := u) (by omega) p0 y17 r19 hp0 ty17 qq20 (by omega) (by omega)) (cwV 3 hts gX9_madeBy_X9_tableAt rfl rfl rfl (by decide +kernel) ⟨Nat.le_of_ble_eq_true rfl, Nat.le_of_ble_eq_true rfl⟩) (r_preV w (by have := D.1; omega) D.c0 rfl) rfl rfl hl.1 rfl (lv_room (Nat.le_of_ble_eq_true rfl)) dX9_madeBy_25 ⟨Nat.zero_le _, Nat.zero_le _⟩) (fun r22 h21 H locs hp w => ?_)
    obtain ⟨eh_, qq23⟩ := hp
    have eh_ := eh_.symm
    subst eh_
    subst qq23
    refine r_iret (v := gt (500 * u + 125 * (k - 10) + (25 * q0 + 5 * q1 + q2))) hx hb hr hlocks w dX9_madeBy_28 ?_
    refine ⟨rfl, ?_⟩
    rw [mParts_call (a := pA M) (n := pN M) (by omega) hcall] at z0 z1 z2
    rw [mLet_call (by omega)]
    exact hT.at hcall (mIs_of (by omega) (by omega) (by omega) z0 z1 z2)

theorem inX9_bodyBy_X9 : ∀ w ∈ wsX90, w ∈ wsX9_bodyBy := by decide +kernel
abbrev rm_X9_bodyBy : Room := { frames := 2, cells := 0, slots := 0, locals := 49 }
set_option maxHeartbeats 4000000 in
set_option maxRecDepth 100000 in
theorem c_X9_bodyBy (l : Launch) {g : GE} {h : Nat → va_E} {r : Nat} {nm kn um sv sz ra rm : Int32} {ga gk gl gB gt gn gr gp gh gv gs gx gf : Nat → Int32} (D : MdA g h r nm kn um sv sz ra rm ga gk gl gB gt gn gr gp gh gv gs gx gf) {M : PRG} (S : RS M nm ga gk gl gB) (hP : PV M) {u : Nat} (hu : u < 3) {T : Nat → Nat → Nat} {xs : Nat → Nat} (hL : TLt u M T) (hT : RT u M gt T) {f : Nat} (p0 p1 p2 p3 p4 : Int32) (hp0 : p0.toInt = (u : Int)) (hp1 : p1.toInt = (f : Int)) (hf : f < pN M) (hx0 : 0 < pA M f → p2.toInt = (xs 0 : Int)) (hx1 : 1 < pA M f → p3.toInt = (xs 1 : Int)) (hx2 : 2 < pA M f → p4.toInt = (xs 2 : Int)) (hxl : ∀ i, xs i < mB u) : MI l yX9_bodyBy wsX9_bodyBy rm_X9_bodyBy [.ref (g.2.2.1 r), .int p0, .int p1, .int p2, .int p3, .int p4] g h (fun r_ h2 => (∀ k, ¬ (r ≤ k ∧ k < r + 14) → h2 k = h k) ∧ r_.toInt = ((mBody u M T xs f : Nat) : Int) ∧ ∃ gp2 : Nat → Int32, MdA g h2 r nm kn um sv sz ra rm ga gk gl gB gt gn gr gp2 gh gv gs gx gf) := by
  refine Met.ofW (cc := cX9_bodyBy) (maxL := 11) (ret := (some .int)) (by decide) rfl ?_
  intro p e s m args below meth c s₁ B hml hv
  obtain ⟨rfl, w0⟩ := hv
  have hx := B.exec
  have hb := B.bytes
  have hr := B.returns
  have hts := atoms_spec (ws := wsX9_bodyBy) B.pre
  have hown : s.vm.findClass RX9 = some m.cls := findClass_of_methodNamed B.named
  have hlocks := B.notSynchronized
  have w := w0.start
  clear w0
  have hl := lv_entry ([.ref (g.2.2.1 r), .int p0, .int p1, .int p2, .int p3, .int p4]) (n := 11) (Nat.le_of_ble_eq_true rfl)
  rw [lg_entry_eq]
  generalize (lg_sl ([.ref (g.2.2.1 r), .int p0, .int p1, .int p2, .int p3, .int p4]) ++ List.replicate (11 - (lg_sl ([.ref (g.2.2.1 r), .int p0, .int p1, .int p2, .int p3, .int p4])).length) Slot.unset).toArray = ls at hl ⊢
  have hl : lv_has ls 11 [(0, .ref (g.2.2.1 r)), (1, .int p0), (2, .int p1), (3, .int p2), (4, .int p3), (5, .int p4)] := hl
  have hn4 := hP.2.1
  obtain ⟨ha3, hk3, hl1, hl24, hpl, hd0⟩ := hP.2.2 f hf
  have cuts : ∀ N : Nat, (∀ (j : Nat) (x6 : Int32) (x7 : Int32) (gp1 : Nat → Int32) (hc : Nat → va_E) (H : Heap) (locs : List Loc) (ls : Array Slot), WD g (inW g) s hc H locs → lv_has ls 11 [(0, .ref (g.2.2.1 r)), (1, .int p0), (2, .int p1), (3, .int p2), (4, .int p3), (5, .int p4), (6, .int x6), (7, .int x7)] → (j ≤ pL M f) → (x6.toInt = (((mStk u M T xs f j).length : Nat) : Int)) → (x7.toInt = (pL M f : Int) - 1 - (j : Int)) → (StkR gp1 (mStk u M T xs f j)) → (MdA g hc r nm kn um sv sz ra rm ga gk gl gB gt gn gr gp1 gh gv gs gx gf) → (∀ k, ¬ (r ≤ k ∧ k < r + 14) → hc k = h k) → (pL M f - j) * 2 + 1 < N → W p l e (headSpec wsX9_bodyBy rm_X9_bodyBy).room s m ([.ref (g.2.2.1 r), .int p0, .int p1, .int p2, .int p3, .int p4] : List Value).toArray below meth c H locs 0 0 (MQ below (va_Qi (fun r_ h2 => (∀ k, ¬ (r ≤ k ∧ k < r + 14) → h2 k = h k) ∧ r_.toInt = ((mBody u M T xs f : Nat) : Int) ∧ ∃ gp2 : Nat → Int32, MdA g h2 r nm kn um sv sz ra rm ga gk gl gB gt gn gr gp2 gh gv gs gx gf) (Wd g) (inW g)) ([.ref (g.2.2.1 r), .int p0, .int p1, .int p2, .int p3, .int p4] : List Value).toArray s 0 0 (inW g)) (F0 m 13 ls [])) ∧ (∀ (j : Nat) (x6 : Int32) (x7 : Int32) (gp1 : Nat → Int32) (x9 : Int32) (x10 : Int32) (hc : Nat → va_E) (H : Heap) (locs : List Loc) (ls : Array Slot), WD g (inW g) s hc H locs → lv_has ls 11 [(0, .ref (g.2.2.1 r)), (1, .int p0), (2, .int p1), (3, .int p2), (4, .int p3), (5, .int p4), (6, .int x6), (7, .int x7), (9, .int x9), (10, .int x10)] → (j ≤ pL M f) → (j < pL M f) → (x6.toInt = (((mStk u M T xs f j).length : Nat) : Int)) → (x7.toInt = (pL M f : Int) - 1 - (j : Int)) → (x9.toInt = ((mParts (pN M) (pA M) (pB M f (pL M f - 1 - j))) : Int)) → (x10.toInt = ((mLet u T xs (pB M f (pL M f - 1 - j)) (mPt (mParts (pN M) (pA M) (pB M f (pL M f - 1 - j))) 0 (mStk u M T xs f j)) (mPt (mParts (pN M) (pA M) (pB M f (pL M f - 1 - j))) 1 (mStk u M T xs f j)) (mPt (mParts (pN M) (pA M) (pB M f (pL M f - 1 - j))) 2 (mStk u M T xs f j)) : Nat) : Int)) → (StkR gp1 (mStk u M T xs f j)) → ((mParts (pN M) (pA M) (pB M f (pL M f - 1 - j))) ≤ (mStk u M T xs f j).length) → (MdA g hc r nm kn um sv sz ra rm ga gk gl gB gt gn gr gp1 gh gv gs gx gf) → (∀ k, ¬ (r ≤ k ∧ k < r + 14) → hc k = h k) → (pL M f - j) * 2 < N → W p l e (headSpec wsX9_bodyBy rm_X9_bodyBy).room s m ([.ref (g.2.2.1 r), .int p0, .int p1, .int p2, .int p3, .int p4] : List Value).toArray below meth c H locs 0 0 (MQ below (va_Qi (fun r_ h2 => (∀ k, ¬ (r ≤ k ∧ k < r + 14) → h2 k = h k) ∧ r_.toInt = ((mBody u M T xs f : Nat) : Int) ∧ ∃ gp2 : Nat → Int32, MdA g h2 r nm kn um sv sz ra rm ga gk gl gB gt gn gr gp2 gh gv gs gx gf) (Wd g) (inW g)) ([.ref (g.2.2.1 r), .int p0, .int p1, .int p2, .int p3, .int p4] : List Value).toArray s 0 0 (inW g)) (F0 m 188 ls [])) := by
    intro N
    induction N with
    | zero => exact ⟨by intros; omega, by intros; omega⟩
    | succ N ih =>
      obtain ⟨ih13, ih188⟩ := ih
      refine ⟨?_, ?_⟩
      · intro j x6 x7 gp1 hc H locs ls w hl hj hx6 hx7 hst D hfr hN_
        have hlen := mStk_len (u := u) (T := T) (xs := xs) hP hf j hj
        have hLj := mStk_le (u := u) (P := M) (T := T) (xs := xs) (f := f) j
        refine lv_iload hx hb dX9_bodyBy_13 (lv_at hl 7 rfl) ?_
        refine lv_if_lt (tgt := 213) hx hb dX9_bodyBy_15 (by decide) (fun c1 => ?_) (fun c1 => ?_)
        · have c1 : ((pL M f : Int) - 1 - (j : Int)) < (0 : Int) := (i_lt hx7 (rfl : (0 : Int32).toInt = 0)).mp c1
          have hjl : j = pL M f := by omega
          have hlen : (mStk u M T xs f j).length = 1 := by rw [hlen, hjl, Nat.sub_self]; rfl
          refine lv_aload_n hx hb dX9_bodyBy_213 rfl (lv_at hl 0 rfl) ?_
          refine r_get (C := RX9) (T := TX9) (N := 20) (ci := 7) hx hb hts inX9_bodyBy_X9 hown w (by have := D.1; omega) D.c0 rfl 9 (by decide) (hts (Cond.fieldLink RX9 31 "EarlyValuesModel" "parts" "[I") (List.mem_of_getElem? (i := 4) (by decide +kernel))) rfl rfl dX9_bodyBy_214 ?_
          refine lv_iconst (v := 0) hx hb dX9_bodyBy_217 (by decide) ?_
          refine r_iald (j := 0) hx hb w (by have := D.1; omega) D.c8 (by decide : (0 : Int32).toInt = ((0 : Nat) : Int)) (by omega) dX9_bodyBy_218 ?_
          refine r_iret (v := gp1 0) hx hb hr hlocks w dX9_bodyBy_219 ?_
          refine ⟨hfr, ?_, _, D⟩
          have hz := hst 0 (by omega)
          rw [show gp1 0 = gp1 ((mStk u M T xs f j).length - 1 - 0) by rw [hlen], hz, hjl]
          rfl
        · have c1 : ¬ (((pL M f : Int) - 1 - (j : Int)) < (0 : Int)) := fun q => c1 ((i_lt hx7 (rfl : (0 : Int32).toInt = 0)).mpr q)
          have hjl : j < pL M f := by omega
          have hle := mStk_enough (u := u) (T := T) (xs := xs) hP hf hjl
          have hb_ := hpl (pL M f - 1 - j) (by omega)
          have hp3 : (mParts (pN M) (pA M) (pB M f (pL M f - 1 - j))) ≤ 3 := mParts_le (fun i_ hi_ => (hP.2.2 i_ hi_).1)
          have hsl := mStk_lt hu hP hf hL hxl j hj
          have hcc := mCode_c hb_.1
          have ha_ := fun q1 q2 => hb_.2.1.arg q1 q2
          refine lv_aload_n hx hb dX9_bodyBy_18 rfl (lv_at hl 0 rfl) ?_
          refine r_get (C := RX9) (T := TX9) (N := 20) (ci := 7) hx hb hts inX9_bodyBy_X9 hown w (by have := D.1; omega) D.c0 rfl 4 (by decide) (hts (Cond.fieldLink RX9 19 "EarlyValuesModel" "body" "[I") (List.mem_of_getElem? (i := 2) (by decide +kernel))) rfl rfl dX9_bodyBy_19 ?_
          refine lv_bipush (v := 24) hx hb dX9_bodyBy_22 (by decide) ?_
          refine lv_iload_n hx hb dX9_bodyBy_24 rfl (lv_at hl 2 rfl) ?_
          refine lv_imul hx hb dX9_bodyBy_25 ?_
          refine lv_topi (fun y2 ey2 => ?_)
          have ty2 : y2.toInt = (((24 * f) : Nat) : Int) := i_mulN ey2 (by decide : (24 : Int32).toInt = ((24 : Nat) : Int)) hp1 (by omega)
          refine lv_iload hx hb dX9_bodyBy_26 (lv_at hl 7 rfl) ?_
          refine lv_iadd hx hb dX9_bodyBy_28 ?_
          refine lv_topi (fun y3 ey3 => ?_)
          have ty3 : y3.toInt = (((24 * f) : Nat) : Int) + ((pL M f : Int) - 1 - (j : Int)) := i_add ey3 ty2 hx7 (by omega)
          refine r_iald (j := (24 * f + (pL M f - 1 - j))) hx hb w (by have := D.1; omega) D.c4 (ty3.trans (by omega)) (by omega) dX9_bodyBy_29 ?_
          refine lv_istore (lv' := [(8, .int (gB ((24 * f + (pL M f - 1 - j))))), (0, .ref (g.2.2.1 r)), (1, .int p0), (2, .int p1), (3, .int p2), (4, .int p3), (5, .int p4), (6, .int x6), (7, .int x7)]) hx hb dX9_bodyBy_30 hl (by decide) rfl (fun ls hl => ?_)
          refine lv_aload_n hx hb dX9_bodyBy_32 rfl (lv_at hl 1 rfl) ?_
          refine lv_iload hx hb dX9_bodyBy_33 (lv_at hl 0 rfl) ?_
          refine lv_aload_n hx hb dX9_bodyBy_35 rfl (lv_at hl 1 rfl) ?_
          refine r_get (C := RX9) (T := TX9) (N := 20) (ci := 7) hx hb hts inX9_bodyBy_X9 hown w (by have := D.1; omega) D.c0 rfl 1 (by decide) (hts (Cond.fieldLink RX9 7 "EarlyValuesModel" "argsOf" "[I") (List.mem_of_getElem? (i := 3) (by decide +kernel))) rfl rfl dX9_bodyBy_36 ?_
          refine lv_iload_n hx hb dX9_bodyBy_39 rfl (lv_at hl 3 rfl) ?_
          refine r_iald (j := f) hx hb w (by have := D.1; omega) D.c1 hp1 (by omega) dX9_bodyBy_40 ?_
          refine r_callI w (va_runV (As := [.int (gB ((24 * f + (pL M f - 1 - j)))), .int (ga f)]) (rest := []) ⟨hx, hb, hml, hown, hts⟩ (c_X9_partsOf l D S.1 hn4 (S.ha hP) (gB ((24 * f + (pL M f - 1 - j)))) (ga f) hf (S.2.1 f (by omega))) (cwV 2 hts gX9_bodyBy_X9_partsOf rfl rfl rfl (by decide +kernel) ⟨Nat.le_of_ble_eq_true rfl, Nat.le_of_ble_eq_true rfl⟩) (r_preV w (by have := D.1; omega) D.c0 rfl) rfl rfl hl.1 rfl (lv_room (Nat.le_of_ble_eq_true rfl)) dX9_bodyBy_41 ⟨Nat.zero_le _, Nat.zero_le _⟩) (fun r5 h4 H locs hp w => ?_)
          obtain ⟨eh_, qq6⟩ := hp
          have eh_ := eh_.symm
          subst eh_
          have b7 : r5.toInt = (((mParts (pN M) (pA M) (pB M f (pL M f - 1 - j))) : Nat) : Int) := by rw [((S.2.2.2.2 f hf (pL M f - 1 - j) (by omega)) : (gB ((24 * f + (pL M f - 1 - j)))).toInt = _), mNum_code hb_.1] at qq6; exact qq6.elim (fun q_ => q_.2.2) (fun q_ => absurd ⟨hb_.1, hb_.2.1⟩ q_.1)
          refine lv_istore (lv' := [(9, .int r5), (8, .int (gB ((24 * f + (pL M f - 1 - j))))), (0, .ref (g.2.2.1 r)), (1, .int p0), (2, .int p1), (3, .int p2), (4, .int p3), (5, .int p4), (6, .int x6), (7, .int x7)]) hx hb dX9_bodyBy_44 hl (by decide) rfl (fun ls hl => ?_)
          refine lv_iconst (v := 0) hx hb dX9_bodyBy_46 (by decide) ?_
          refine lv_istore (lv' := [(10, .int 0), (9, .int r5), (8, .int (gB ((24 * f + (pL M f - 1 - j))))), (0, .ref (g.2.2.1 r)), (1, .int p0), (2, .int p1), (3, .int p2), (4, .int p3), (5, .int p4), (6, .int x6), (7, .int x7)]) hx hb dX9_bodyBy_47 hl (by decide) rfl (fun ls hl => ?_)
          refine lv_iload hx hb dX9_bodyBy_49 (lv_at hl 2 rfl) ?_
          refine lv_bipush (v := 111) hx hb dX9_bodyBy_51 (by decide) ?_
          refine lv_icmp_eq (tgt := 70) hx hb dX9_bodyBy_53 (by decide) (fun c8 => ?_) (fun c8 => ?_)
          · have c8 : (((mCode (pB M f (pL M f - 1 - j))) : Nat) : Int) = ((111 : Nat) : Int) := (i_eq (S.2.2.2.2 f hf (pL M f - 1 - j) (by omega)) (by decide : (111 : Int32).toInt = ((111 : Nat) : Int))).mp c8
            refine lv_iload_n hx hb dX9_bodyBy_70 rfl (lv_at hl 4 rfl) ?_
            refine lv_iload hx hb dX9_bodyBy_71 (lv_at hl 2 rfl) ?_
            refine r_callI w (va_runS (As := [.int p0, .int (gB ((24 * f + (pL M f - 1 - j))))]) (rest := []) ⟨hx, hb, hml, hown, hts⟩ (c_X9_constantBy l hu p0 (gB ((24 * f + (pL M f - 1 - j)))) hp0 (S.2.2.2.2 f hf (pL M f - 1 - j) (by omega)) (by omega)) (va_cwS 2 hts gX9_bodyBy_X9_constantBy rfl rfl rfl (by decide +kernel) ⟨Nat.le_of_ble_eq_true rfl, Nat.le_of_ble_eq_true rfl⟩) (r_preS w) rfl rfl hl.1 rfl (lv_room (Nat.le_of_ble_eq_true rfl)) dX9_bodyBy_73 ⟨Nat.zero_le _, Nat.zero_le _⟩) (fun r10 h9 H locs hp w => ?_)
            obtain ⟨eh_, qq11⟩ := hp
            have eh_ := eh_.symm
            subst eh_
            refine lv_istore (lv' := [(10, .int r10), (9, .int r5), (8, .int (gB ((24 * f + (pL M f - 1 - j))))), (0, .ref (g.2.2.1 r)), (1, .int p0), (2, .int p1), (3, .int p2), (4, .int p3), (5, .int p4), (6, .int x6), (7, .int x7)]) hx hb dX9_bodyBy_76 hl (by decide) rfl (fun ls hl => ?_)
            refine lv_goto (tgt := 188) hx hb dX9_bodyBy_78 (by decide) ?_
            exact ih188 j x6 x7 gp1 r5 r10 hc _ _ _ w (lv_sub hl [3, 4, 5, 6, 7, 8, 9, 10, 1, 0] rfl) hj hjl hx6 hx7 b7 ((qq11 T xs _ _ _)) hst hle D hfr (by omega)
          · have c8 : ¬ ((((mCode (pB M f (pL M f - 1 - j))) : Nat) : Int) = ((111 : Nat) : Int)) := fun q => c8 ((i_eq (S.2.2.2.2 f hf (pL M f - 1 - j) (by omega)) (by decide : (111 : Int32).toInt = ((111 : Nat) : Int))).mpr q)
            refine lv_iload hx hb dX9_bodyBy_56 (lv_at hl 2 rfl) ?_
            refine lv_bipush (v := 105) hx hb dX9_bodyBy_58 (by decide) ?_
            refine lv_icmp_eq (tgt := 70) hx hb dX9_bodyBy_60 (by decide) (fun c12 => ?_) (fun c12 => ?_)
            · have c12 : (((mCode (pB M f (pL M f - 1 - j))) : Nat) : Int) = ((105 : Nat) : Int) := (i_eq (S.2.2.2.2 f hf (pL M f - 1 - j) (by omega)) (by decide : (105 : Int32).toInt = ((105 : Nat) : Int))).mp c12
              refine lv_iload_n hx hb dX9_bodyBy_70 rfl (lv_at hl 4 rfl) ?_
              refine lv_iload hx hb dX9_bodyBy_71 (lv_at hl 2 rfl) ?_
              refine r_callI w (va_runS (As := [.int p0, .int (gB ((24 * f + (pL M f - 1 - j))))]) (rest := []) ⟨hx, hb, hml, hown, hts⟩ (c_X9_constantBy l hu p0 (gB ((24 * f + (pL M f - 1 - j)))) hp0 (S.2.2.2.2 f hf (pL M f - 1 - j) (by omega)) (by omega)) (va_cwS 2 hts gX9_bodyBy_X9_constantBy rfl rfl rfl (by decide +kernel) ⟨Nat.le_of_ble_eq_true rfl, Nat.le_of_ble_eq_true rfl⟩) (r_preS w) rfl rfl hl.1 rfl (lv_room (Nat.le_of_ble_eq_true rfl)) dX9_bodyBy_73 ⟨Nat.zero_le _, Nat.zero_le _⟩) (fun r14 h13 H locs hp w => ?_)
              obtain ⟨eh_, qq15⟩ := hp
              have eh_ := eh_.symm
              subst eh_
              refine lv_istore (lv' := [(10, .int r14), (9, .int r5), (8, .int (gB ((24 * f + (pL M f - 1 - j))))), (0, .ref (g.2.2.1 r)), (1, .int p0), (2, .int p1), (3, .int p2), (4, .int p3), (5, .int p4), (6, .int x6), (7, .int x7)]) hx hb dX9_bodyBy_76 hl (by decide) rfl (fun ls hl => ?_)
              refine lv_goto (tgt := 188) hx hb dX9_bodyBy_78 (by decide) ?_
              exact ih188 j x6 x7 gp1 r5 r14 hc _ _ _ w (lv_sub hl [3, 4, 5, 6, 7, 8, 9, 10, 1, 0] rfl) hj hjl hx6 hx7 b7 ((qq15 T xs _ _ _)) hst hle D hfr (by omega)
            · have c12 : ¬ ((((mCode (pB M f (pL M f - 1 - j))) : Nat) : Int) = ((105 : Nat) : Int)) := fun q => c12 ((i_eq (S.2.2.2.2 f hf (pL M f - 1 - j) (by omega)) (by decide : (105 : Int32).toInt = ((105 : Nat) : Int))).mpr q)
              refine lv_iload hx hb dX9_bodyBy_63 (lv_at hl 2 rfl) ?_
              refine lv_bipush (v := 119) hx hb dX9_bodyBy_65 (by decide) ?_
              refine lv_icmp_ne (tgt := 81) hx hb dX9_bodyBy_67 (by decide) (fun c16 => ?_) (fun c16 => ?_)
              · have c16 : ¬ ((((mCode (pB M f (pL M f - 1 - j))) : Nat) : Int) = ((119 : Nat) : Int)) := fun q => c16 ((i_eq (S.2.2.2.2 f hf (pL M f - 1 - j) (by omega)) (by decide : (119 : Int32).toInt = ((119 : Nat) : Int))).mpr q)
                refine lv_iload hx hb dX9_bodyBy_81 (lv_at hl 2 rfl) ?_
                refine lv_bipush (v := 97) hx hb dX9_bodyBy_83 (by decide) ?_
                refine lv_bipush (v := 99) hx hb dX9_bodyBy_85 (by decide) ?_
                refine r_callI w (va_runS (As := [.int (gB ((24 * f + (pL M f - 1 - j)))), .int 97, .int 99]) (rest := []) ⟨hx, hb, hml, hown, hts⟩ (c_X9_in l (gB ((24 * f + (pL M f - 1 - j)))) 97 99) (va_cwS 3 hts gX9_bodyBy_X9_in rfl rfl rfl (by decide +kernel) ⟨Nat.le_of_ble_eq_true rfl, Nat.le_of_ble_eq_true rfl⟩) (r_preS w) rfl rfl hl.1 rfl (lv_room (Nat.le_of_ble_eq_true rfl)) dX9_bodyBy_87 ⟨Nat.zero_le _, Nat.zero_le _⟩) (fun r18 h17 H locs hp w => ?_)
                obtain ⟨eh_, qq19⟩ := hp
                have eh_ := eh_.symm
                subst eh_
                have b20 : Bq r18 (((97 : Nat) : Int) ≤ (((mCode (pB M f (pL M f - 1 - j))) : Nat) : Int) ∧ (((mCode (pB M f (pL M f - 1 - j))) : Nat) : Int) ≤ ((99 : Nat) : Int)) := qq19.iff (by rw [((S.2.2.2.2 f hf (pL M f - 1 - j) (by omega)) : (gB ((24 * f + (pL M f - 1 - j))) : Int32).toInt = _), ((by decide : (97 : Int32).toInt = ((97 : Nat) : Int)) : (97 : Int32).toInt = _), ((by decide : (99 : Int32).toInt = ((99 : Nat) : Int)) : (99 : Int32).toInt = _)])
                refine lv_if_eq (tgt := 123) hx hb dX9_bodyBy_90 (by decide) (fun c21 => ?_) (fun c21 => ?_)
                · have c21 := b20.eq c21
                  refine lv_aload_n hx hb dX9_bodyBy_123 rfl (lv_at hl 3 rfl) ?_
                  refine lv_iload_n hx hb dX9_bodyBy_124 rfl (lv_at hl 4 rfl) ?_
                  refine lv_iload hx hb dX9_bodyBy_125 (lv_at hl 2 rfl) ?_
                  refine lv_iload hx hb dX9_bodyBy_127 (lv_at hl 1 rfl) ?_
                  refine lv_if_le (tgt := 144) hx hb dX9_bodyBy_129 (by decide) (fun c22 => ?_) (fun c22 => ?_)
                  · have c22 : (((mParts (pN M) (pA M) (pB M f (pL M f - 1 - j))) : Nat) : Int) ≤ (0 : Int) := (i_le b7 (rfl : (0 : Int32).toInt = 0)).mp c22
                    refine lv_iconst (v := 0) hx hb dX9_bodyBy_144 (by decide) ?_
                    refine lv_iload hx hb dX9_bodyBy_145 (lv_at hl 1 rfl) ?_
                    refine lv_iconst (v := 1) hx hb dX9_bodyBy_147 (by decide) ?_
                    refine lv_icmp_le (tgt := 163) hx hb dX9_bodyBy_148 (by decide) (fun c23 => ?_) (fun c23 => ?_)
                    · have c23 : (((mParts (pN M) (pA M) (pB M f (pL M f - 1 - j))) : Nat) : Int) ≤ ((1 : Nat) : Int) := (i_le b7 (by decide : (1 : Int32).toInt = ((1 : Nat) : Int))).mp c23
                      refine lv_iconst (v := 0) hx hb dX9_bodyBy_163 (by decide) ?_
                      refine lv_iload hx hb dX9_bodyBy_164 (lv_at hl 1 rfl) ?_
                      refine lv_iconst (v := 2) hx hb dX9_bodyBy_166 (by decide) ?_
                      refine lv_icmp_le (tgt := 182) hx hb dX9_bodyBy_167 (by decide) (fun c24 => ?_) (fun c24 => ?_)
                      · have c24 : (((mParts (pN M) (pA M) (pB M f (pL M f - 1 - j))) : Nat) : Int) ≤ ((2 : Nat) : Int) := (i_le b7 (by decide : (2 : Int32).toInt = ((2 : Nat) : Int))).mp c24
                        refine lv_iconst (v := 0) hx hb dX9_bodyBy_182 (by decide) ?_
                        refine r_callI w (va_runV (As := [.int p0, .int (gB ((24 * f + (pL M f - 1 - j)))), .int 0, .int 0, .int 0]) (rest := []) ⟨hx, hb, hml, hown, hts⟩ (c_X9_madeBy l D hP hu (xs := xs) hT (f0 := f) p0 (gB ((24 * f + (pL M f - 1 - j)))) 0 0 0 hp0 (S.2.2.2.2 f hf (pL M f - 1 - j) (by omega)) (by rw [mPt_0 (by omega)]; rfl) (by rw [mPt_0 (by omega)]; rfl) (by rw [mPt_0 (by omega)]; rfl) ⟨by omega, by omega⟩ hb_.2.1 (mPt_lt (mB_pos u) hsl) (mPt_lt (mB_pos u) hsl) (mPt_lt (mB_pos u) hsl) (fun q => mPt_0 q) (fun q => mPt_0 q) (fun q => mPt_0 q)) (cwV 5 hts gX9_bodyBy_X9_madeBy rfl rfl rfl (by decide +kernel) ⟨Nat.le_of_ble_eq_true rfl, Nat.le_of_ble_eq_true rfl⟩) (r_preV w (by have := D.1; omega) D.c0 rfl) rfl rfl hl.1 rfl (lv_room (Nat.le_of_ble_eq_true rfl)) dX9_bodyBy_183 ⟨Nat.zero_le _, Nat.zero_le _⟩) (fun r26 h25 H locs hp w => ?_)
                        obtain ⟨eh_, qq27⟩ := hp
                        have eh_ := eh_.symm
                        subst eh_
                        refine lv_istore (lv' := [(10, .int r26), (9, .int r5), (8, .int (gB ((24 * f + (pL M f - 1 - j))))), (0, .ref (g.2.2.1 r)), (1, .int p0), (2, .int p1), (3, .int p2), (4, .int p3), (5, .int p4), (6, .int x6), (7, .int x7)]) hx hb dX9_bodyBy_186 hl (by decide) rfl (fun ls hl => ?_)
                        exact ih188 j x6 x7 gp1 r5 r26 hc _ _ _ w (lv_sub hl [3, 4, 5, 6, 7, 8, 9, 10, 1, 0] rfl) hj hjl hx6 hx7 b7 qq27 hst hle D hfr (by omega)
                      · have c24 : ¬ ((((mParts (pN M) (pA M) (pB M f (pL M f - 1 - j))) : Nat) : Int) ≤ ((2 : Nat) : Int)) := fun q => c24 ((i_le b7 (by decide : (2 : Int32).toInt = ((2 : Nat) : Int))).mpr q)
                        exfalso; omega
                    · have c23 : ¬ ((((mParts (pN M) (pA M) (pB M f (pL M f - 1 - j))) : Nat) : Int) ≤ ((1 : Nat) : Int)) := fun q => c23 ((i_le b7 (by decide : (1 : Int32).toInt = ((1 : Nat) : Int))).mpr q)
                      exfalso; omega
                  · have c22 : ¬ ((((mParts (pN M) (pA M) (pB M f (pL M f - 1 - j))) : Nat) : Int) ≤ (0 : Int)) := fun q => c22 ((i_le b7 (rfl : (0 : Int32).toInt = 0)).mpr q)
                    refine lv_aload_n hx hb dX9_bodyBy_132 rfl (lv_at hl 3 rfl) ?_
                    refine r_get (C := RX9) (T := TX9) (N := 20) (ci := 7) hx hb hts inX9_bodyBy_X9 hown w (by have := D.1; omega) D.c0 rfl 9 (by decide) (hts (Cond.fieldLink RX9 31 "EarlyValuesModel" "parts" "[I") (List.mem_of_getElem? (i := 4) (by decide +kernel))) rfl rfl dX9_bodyBy_133 ?_
                    refine lv_iload hx hb dX9_bodyBy_136 (lv_at hl 9 rfl) ?_
                    refine lv_iconst (v := 1) hx hb dX9_bodyBy_138 (by decide) ?_
                    refine lv_isub hx hb dX9_bodyBy_139 ?_
                    refine lv_topi (fun y28 ey28 => ?_)
                    have ty28 : y28.toInt = (((mStk u M T xs f j).length : Nat) : Int) - ((1 : Nat) : Int) := i_sub ey28 hx6 (by decide : (1 : Int32).toInt = ((1 : Nat) : Int)) (by omega)
                    refine r_iald (j := ((mStk u M T xs f j).length - 1)) hx hb w (by have := D.1; omega) D.c8 (ty28.trans (by omega)) (by omega) dX9_bodyBy_140 ?_
                    refine lv_goto (tgt := 145) hx hb dX9_bodyBy_141 (by decide) ?_
                    refine lv_iload hx hb dX9_bodyBy_145 (lv_at hl 1 rfl) ?_
                    refine lv_iconst (v := 1) hx hb dX9_bodyBy_147 (by decide) ?_
                    refine lv_icmp_le (tgt := 163) hx hb dX9_bodyBy_148 (by decide) (fun c29 => ?_) (fun c29 => ?_)
                    · have c29 : (((mParts (pN M) (pA M) (pB M f (pL M f - 1 - j))) : Nat) : Int) ≤ ((1 : Nat) : Int) := (i_le b7 (by decide : (1 : Int32).toInt = ((1 : Nat) : Int))).mp c29
                      refine lv_iconst (v := 0) hx hb dX9_bodyBy_163 (by decide) ?_
                      refine lv_iload hx hb dX9_bodyBy_164 (lv_at hl 1 rfl) ?_
                      refine lv_iconst (v := 2) hx hb dX9_bodyBy_166 (by decide) ?_
                      refine lv_icmp_le (tgt := 182) hx hb dX9_bodyBy_167 (by decide) (fun c30 => ?_) (fun c30 => ?_)
                      · have c30 : (((mParts (pN M) (pA M) (pB M f (pL M f - 1 - j))) : Nat) : Int) ≤ ((2 : Nat) : Int) := (i_le b7 (by decide : (2 : Int32).toInt = ((2 : Nat) : Int))).mp c30
                        refine lv_iconst (v := 0) hx hb dX9_bodyBy_182 (by decide) ?_
                        refine r_callI w (va_runV (As := [.int p0, .int (gB ((24 * f + (pL M f - 1 - j)))), .int (gp1 (((mStk u M T xs f j).length - 1))), .int 0, .int 0]) (rest := []) ⟨hx, hb, hml, hown, hts⟩ (c_X9_madeBy l D hP hu (xs := xs) hT (f0 := f) p0 (gB ((24 * f + (pL M f - 1 - j)))) (gp1 (((mStk u M T xs f j).length - 1))) 0 0 hp0 (S.2.2.2.2 f hf (pL M f - 1 - j) (by omega)) (hst.at (i := 0) (by omega) hle (by omega)) (by rw [mPt_0 (by omega)]; rfl) (by rw [mPt_0 (by omega)]; rfl) ⟨by omega, by omega⟩ hb_.2.1 (mPt_lt (mB_pos u) hsl) (mPt_lt (mB_pos u) hsl) (mPt_lt (mB_pos u) hsl) (fun q => mPt_0 q) (fun q => mPt_0 q) (fun q => mPt_0 q)) (cwV 5 hts gX9_bodyBy_X9_madeBy rfl rfl rfl (by decide +kernel) ⟨Nat.le_of_ble_eq_true rfl, Nat.le_of_ble_eq_true rfl⟩) (r_preV w (by have := D.1; omega) D.c0 rfl) rfl rfl hl.1 rfl (lv_room (Nat.le_of_ble_eq_true rfl)) dX9_bodyBy_183 ⟨Nat.zero_le _, Nat.zero_le _⟩) (fun r32 h31 H locs hp w => ?_)
                        obtain ⟨eh_, qq33⟩ := hp
                        have eh_ := eh_.symm
                        subst eh_
                        refine lv_istore (lv' := [(10, .int r32), (9, .int r5), (8, .int (gB ((24 * f + (pL M f - 1 - j))))), (0, .ref (g.2.2.1 r)), (1, .int p0), (2, .int p1), (3, .int p2), (4, .int p3), (5, .int p4), (6, .int x6), (7, .int x7)]) hx hb dX9_bodyBy_186 hl (by decide) rfl (fun ls hl => ?_)
                        exact ih188 j x6 x7 gp1 r5 r32 hc _ _ _ w (lv_sub hl [3, 4, 5, 6, 7, 8, 9, 10, 1, 0] rfl) hj hjl hx6 hx7 b7 qq33 hst hle D hfr (by omega)
                      · have c30 : ¬ ((((mParts (pN M) (pA M) (pB M f (pL M f - 1 - j))) : Nat) : Int) ≤ ((2 : Nat) : Int)) := fun q => c30 ((i_le b7 (by decide : (2 : Int32).toInt = ((2 : Nat) : Int))).mpr q)
                        exfalso; omega
                    · have c29 : ¬ ((((mParts (pN M) (pA M) (pB M f (pL M f - 1 - j))) : Nat) : Int) ≤ ((1 : Nat) : Int)) := fun q => c29 ((i_le b7 (by decide : (1 : Int32).toInt = ((1 : Nat) : Int))).mpr q)
                      refine lv_aload_n hx hb dX9_bodyBy_151 rfl (lv_at hl 3 rfl) ?_
                      refine r_get (C := RX9) (T := TX9) (N := 20) (ci := 7) hx hb hts inX9_bodyBy_X9 hown w (by have := D.1; omega) D.c0 rfl 9 (by decide) (hts (Cond.fieldLink RX9 31 "EarlyValuesModel" "parts" "[I") (List.mem_of_getElem? (i := 4) (by decide +kernel))) rfl rfl dX9_bodyBy_152 ?_
                      refine lv_iload hx hb dX9_bodyBy_155 (lv_at hl 9 rfl) ?_
                      refine lv_iconst (v := 2) hx hb dX9_bodyBy_157 (by decide) ?_
                      refine lv_isub hx hb dX9_bodyBy_158 ?_
                      refine lv_topi (fun y34 ey34 => ?_)
                      have ty34 : y34.toInt = (((mStk u M T xs f j).length : Nat) : Int) - ((2 : Nat) : Int) := i_sub ey34 hx6 (by decide : (2 : Int32).toInt = ((2 : Nat) : Int)) (by omega)
                      refine r_iald (j := ((mStk u M T xs f j).length - 2)) hx hb w (by have := D.1; omega) D.c8 (ty34.trans (by omega)) (by omega) dX9_bodyBy_159 ?_
                      refine lv_goto (tgt := 164) hx hb dX9_bodyBy_160 (by decide) ?_
                      refine lv_iload hx hb dX9_bodyBy_164 (lv_at hl 1 rfl) ?_
                      refine lv_iconst (v := 2) hx hb dX9_bodyBy_166 (by decide) ?_
                      refine lv_icmp_le (tgt := 182) hx hb dX9_bodyBy_167 (by decide) (fun c35 => ?_) (fun c35 => ?_)
                      · have c35 : (((mParts (pN M) (pA M) (pB M f (pL M f - 1 - j))) : Nat) : Int) ≤ ((2 : Nat) : Int) := (i_le b7 (by decide : (2 : Int32).toInt = ((2 : Nat) : Int))).mp c35
                        refine lv_iconst (v := 0) hx hb dX9_bodyBy_182 (by decide) ?_
                        refine r_callI w (va_runV (As := [.int p0, .int (gB ((24 * f + (pL M f - 1 - j)))), .int (gp1 (((mStk u M T xs f j).length - 1))), .int (gp1 (((mStk u M T xs f j).length - 2))), .int 0]) (rest := []) ⟨hx, hb, hml, hown, hts⟩ (c_X9_madeBy l D hP hu (xs := xs) hT (f0 := f) p0 (gB ((24 * f + (pL M f - 1 - j)))) (gp1 (((mStk u M T xs f j).length - 1))) (gp1 (((mStk u M T xs f j).length - 2))) 0 hp0 (S.2.2.2.2 f hf (pL M f - 1 - j) (by omega)) (hst.at (i := 0) (by omega) hle (by omega)) (hst.at (i := 1) (by omega) hle (by omega)) (by rw [mPt_0 (by omega)]; rfl) ⟨by omega, by omega⟩ hb_.2.1 (mPt_lt (mB_pos u) hsl) (mPt_lt (mB_pos u) hsl) (mPt_lt (mB_pos u) hsl) (fun q => mPt_0 q) (fun q => mPt_0 q) (fun q => mPt_0 q)) (cwV 5 hts gX9_bodyBy_X9_madeBy rfl rfl rfl (by decide +kernel) ⟨Nat.le_of_ble_eq_true rfl, Nat.le_of_ble_eq_true rfl⟩) (r_preV w (by have := D.1; omega) D.c0 rfl) rfl rfl hl.1 rfl (lv_room (Nat.le_of_ble_eq_true rfl)) dX9_bodyBy_183 ⟨Nat.zero_le _, Nat.zero_le _⟩) (fun r37 h36 H locs hp w => ?_)
                        obtain ⟨eh_, qq38⟩ := hp
                        have eh_ := eh_.symm
                        subst eh_
                        refine lv_istore (lv' := [(10, .int r37), (9, .int r5), (8, .int (gB ((24 * f + (pL M f - 1 - j))))), (0, .ref (g.2.2.1 r)), (1, .int p0), (2, .int p1), (3, .int p2), (4, .int p3), (5, .int p4), (6, .int x6), (7, .int x7)]) hx hb dX9_bodyBy_186 hl (by decide) rfl (fun ls hl => ?_)
                        exact ih188 j x6 x7 gp1 r5 r37 hc _ _ _ w (lv_sub hl [3, 4, 5, 6, 7, 8, 9, 10, 1, 0] rfl) hj hjl hx6 hx7 b7 qq38 hst hle D hfr (by omega)
                      · have c35 : ¬ ((((mParts (pN M) (pA M) (pB M f (pL M f - 1 - j))) : Nat) : Int) ≤ ((2 : Nat) : Int)) := fun q => c35 ((i_le b7 (by decide : (2 : Int32).toInt = ((2 : Nat) : Int))).mpr q)
                        refine lv_aload_n hx hb dX9_bodyBy_170 rfl (lv_at hl 3 rfl) ?_
                        refine r_get (C := RX9) (T := TX9) (N := 20) (ci := 7) hx hb hts inX9_bodyBy_X9 hown w (by have := D.1; omega) D.c0 rfl 9 (by decide) (hts (Cond.fieldLink RX9 31 "EarlyValuesModel" "parts" "[I") (List.mem_of_getElem? (i := 4) (by decide +kernel))) rfl rfl dX9_bodyBy_171 ?_
                        refine lv_iload hx hb dX9_bodyBy_174 (lv_at hl 9 rfl) ?_
                        refine lv_iconst (v := 3) hx hb dX9_bodyBy_176 (by decide) ?_
                        refine lv_isub hx hb dX9_bodyBy_177 ?_
                        refine lv_topi (fun y39 ey39 => ?_)
                        have ty39 : y39.toInt = (((mStk u M T xs f j).length : Nat) : Int) - ((3 : Nat) : Int) := i_sub ey39 hx6 (by decide : (3 : Int32).toInt = ((3 : Nat) : Int)) (by omega)
                        refine r_iald (j := ((mStk u M T xs f j).length - 3)) hx hb w (by have := D.1; omega) D.c8 (ty39.trans (by omega)) (by omega) dX9_bodyBy_178 ?_
                        refine lv_goto (tgt := 183) hx hb dX9_bodyBy_179 (by decide) ?_
                        refine r_callI w (va_runV (As := [.int p0, .int (gB ((24 * f + (pL M f - 1 - j)))), .int (gp1 (((mStk u M T xs f j).length - 1))), .int (gp1 (((mStk u M T xs f j).length - 2))), .int (gp1 (((mStk u M T xs f j).length - 3)))]) (rest := []) ⟨hx, hb, hml, hown, hts⟩ (c_X9_madeBy l D hP hu (xs := xs) hT (f0 := f) p0 (gB ((24 * f + (pL M f - 1 - j)))) (gp1 (((mStk u M T xs f j).length - 1))) (gp1 (((mStk u M T xs f j).length - 2))) (gp1 (((mStk u M T xs f j).length - 3))) hp0 (S.2.2.2.2 f hf (pL M f - 1 - j) (by omega)) (hst.at (i := 0) (by omega) hle (by omega)) (hst.at (i := 1) (by omega) hle (by omega)) (hst.at (i := 2) (by omega) hle (by omega)) ⟨by omega, by omega⟩ hb_.2.1 (mPt_lt (mB_pos u) hsl) (mPt_lt (mB_pos u) hsl) (mPt_lt (mB_pos u) hsl) (fun q => mPt_0 q) (fun q => mPt_0 q) (fun q => mPt_0 q)) (cwV 5 hts gX9_bodyBy_X9_madeBy rfl rfl rfl (by decide +kernel) ⟨Nat.le_of_ble_eq_true rfl, Nat.le_of_ble_eq_true rfl⟩) (r_preV w (by have := D.1; omega) D.c0 rfl) rfl rfl hl.1 rfl (lv_room (Nat.le_of_ble_eq_true rfl)) dX9_bodyBy_183 ⟨Nat.zero_le _, Nat.zero_le _⟩) (fun r41 h40 H locs hp w => ?_)
                        obtain ⟨eh_, qq42⟩ := hp
                        have eh_ := eh_.symm
                        subst eh_
                        refine lv_istore (lv' := [(10, .int r41), (9, .int r5), (8, .int (gB ((24 * f + (pL M f - 1 - j))))), (0, .ref (g.2.2.1 r)), (1, .int p0), (2, .int p1), (3, .int p2), (4, .int p3), (5, .int p4), (6, .int x6), (7, .int x7)]) hx hb dX9_bodyBy_186 hl (by decide) rfl (fun ls hl => ?_)
                        exact ih188 j x6 x7 gp1 r5 r41 hc _ _ _ w (lv_sub hl [3, 4, 5, 6, 7, 8, 9, 10, 1, 0] rfl) hj hjl hx6 hx7 b7 qq42 hst hle D hfr (by omega)
                · have c21 := b20.ne c21
                  refine lv_iload hx hb dX9_bodyBy_93 (lv_at hl 2 rfl) ?_
                  refine lv_bipush (v := 97) hx hb dX9_bodyBy_95 (by decide) ?_
                  refine lv_icmp_ne (tgt := 104) hx hb dX9_bodyBy_97 (by decide) (fun c43 => ?_) (fun c43 => ?_)
                  · have c43 : ¬ ((((mCode (pB M f (pL M f - 1 - j))) : Nat) : Int) = ((97 : Nat) : Int)) := fun q => c43 ((i_eq (S.2.2.2.2 f hf (pL M f - 1 - j) (by omega)) (by decide : (97 : Int32).toInt = ((97 : Nat) : Int))).mpr q)
                    refine lv_iload hx hb dX9_bodyBy_104 (lv_at hl 2 rfl) ?_
                    refine lv_bipush (v := 98) hx hb dX9_bodyBy_106 (by decide) ?_
                    refine lv_icmp_ne (tgt := 116) hx hb dX9_bodyBy_108 (by decide) (fun c44 => ?_) (fun c44 => ?_)
                    · have c44 : ¬ ((((mCode (pB M f (pL M f - 1 - j))) : Nat) : Int) = ((98 : Nat) : Int)) := fun q => c44 ((i_eq (S.2.2.2.2 f hf (pL M f - 1 - j) (by omega)) (by decide : (98 : Int32).toInt = ((98 : Nat) : Int))).mpr q)
                      refine lv_iload hx hb dX9_bodyBy_116 (lv_at hl 8 rfl) ?_
                      refine lv_istore (lv' := [(10, .int p4), (9, .int r5), (8, .int (gB ((24 * f + (pL M f - 1 - j))))), (0, .ref (g.2.2.1 r)), (1, .int p0), (2, .int p1), (3, .int p2), (4, .int p3), (5, .int p4), (6, .int x6), (7, .int x7)]) hx hb dX9_bodyBy_118 hl (by decide) rfl (fun ls hl => ?_)
                      refine lv_goto (tgt := 188) hx hb dX9_bodyBy_120 (by decide) ?_
                      exact ih188 j x6 x7 gp1 r5 p4 hc _ _ _ w (lv_sub hl [3, 4, 5, 6, 7, 8, 9, 10, 1, 0] rfl) hj hjl hx6 hx7 b7 (((hx2 (by omega)).trans (by rw [mLet_arg (k := (pB M f (pL M f - 1 - j))) (by omega) (by omega), show (pB M f (pL M f - 1 - j)) - 3 = 2 by omega]))) hst hle D hfr (by omega)
                    · have c44 : (((mCode (pB M f (pL M f - 1 - j))) : Nat) : Int) = ((98 : Nat) : Int) := (i_eq (S.2.2.2.2 f hf (pL M f - 1 - j) (by omega)) (by decide : (98 : Int32).toInt = ((98 : Nat) : Int))).mp c44
                      refine lv_iload hx hb dX9_bodyBy_111 (lv_at hl 7 rfl) ?_
                      refine lv_goto (tgt := 118) hx hb dX9_bodyBy_113 (by decide) ?_
                      refine lv_istore (lv' := [(10, .int p3), (9, .int r5), (8, .int (gB ((24 * f + (pL M f - 1 - j))))), (0, .ref (g.2.2.1 r)), (1, .int p0), (2, .int p1), (3, .int p2), (4, .int p3), (5, .int p4), (6, .int x6), (7, .int x7)]) hx hb dX9_bodyBy_118 hl (by decide) rfl (fun ls hl => ?_)
                      refine lv_goto (tgt := 188) hx hb dX9_bodyBy_120 (by decide) ?_
                      exact ih188 j x6 x7 gp1 r5 p3 hc _ _ _ w (lv_sub hl [3, 4, 5, 6, 7, 8, 9, 10, 1, 0] rfl) hj hjl hx6 hx7 b7 (((hx1 (by omega)).trans (by rw [mLet_arg (k := (pB M f (pL M f - 1 - j))) (by omega) (by omega), show (pB M f (pL M f - 1 - j)) - 3 = 1 by omega]))) hst hle D hfr (by omega)
                  · have c43 : (((mCode (pB M f (pL M f - 1 - j))) : Nat) : Int) = ((97 : Nat) : Int) := (i_eq (S.2.2.2.2 f hf (pL M f - 1 - j) (by omega)) (by decide : (97 : Int32).toInt = ((97 : Nat) : Int))).mp c43
                    refine lv_iload_n hx hb dX9_bodyBy_100 rfl (lv_at hl 6 rfl) ?_
                    refine lv_goto (tgt := 118) hx hb dX9_bodyBy_101 (by decide) ?_
                    refine lv_istore (lv' := [(10, .int p2), (9, .int r5), (8, .int (gB ((24 * f + (pL M f - 1 - j))))), (0, .ref (g.2.2.1 r)), (1, .int p0), (2, .int p1), (3, .int p2), (4, .int p3), (5, .int p4), (6, .int x6), (7, .int x7)]) hx hb dX9_bodyBy_118 hl (by decide) rfl (fun ls hl => ?_)
                    refine lv_goto (tgt := 188) hx hb dX9_bodyBy_120 (by decide) ?_
                    exact ih188 j x6 x7 gp1 r5 p2 hc _ _ _ w (lv_sub hl [3, 4, 5, 6, 7, 8, 9, 10, 1, 0] rfl) hj hjl hx6 hx7 b7 (((hx0 (by omega)).trans (by rw [mLet_arg (k := (pB M f (pL M f - 1 - j))) (by omega) (by omega), show (pB M f (pL M f - 1 - j)) - 3 = 0 by omega]))) hst hle D hfr (by omega)
              · have c16 : (((mCode (pB M f (pL M f - 1 - j))) : Nat) : Int) = ((119 : Nat) : Int) := (i_eq (S.2.2.2.2 f hf (pL M f - 1 - j) (by omega)) (by decide : (119 : Int32).toInt = ((119 : Nat) : Int))).mp c16
                refine lv_iload_n hx hb dX9_bodyBy_70 rfl (lv_at hl 4 rfl) ?_
                refine lv_iload hx hb dX9_bodyBy_71 (lv_at hl 2 rfl) ?_
                refine r_callI w (va_runS (As := [.int p0, .int (gB ((24 * f + (pL M f - 1 - j))))]) (rest := []) ⟨hx, hb, hml, hown, hts⟩ (c_X9_constantBy l hu p0 (gB ((24 * f + (pL M f - 1 - j)))) hp0 (S.2.2.2.2 f hf (pL M f - 1 - j) (by omega)) (by omega)) (va_cwS 2 hts gX9_bodyBy_X9_constantBy rfl rfl rfl (by decide +kernel) ⟨Nat.le_of_ble_eq_true rfl, Nat.le_of_ble_eq_true rfl⟩) (r_preS w) rfl rfl hl.1 rfl (lv_room (Nat.le_of_ble_eq_true rfl)) dX9_bodyBy_73 ⟨Nat.zero_le _, Nat.zero_le _⟩) (fun r46 h45 H locs hp w => ?_)
                obtain ⟨eh_, qq47⟩ := hp
                have eh_ := eh_.symm
                subst eh_
                refine lv_istore (lv' := [(10, .int r46), (9, .int r5), (8, .int (gB ((24 * f + (pL M f - 1 - j))))), (0, .ref (g.2.2.1 r)), (1, .int p0), (2, .int p1), (3, .int p2), (4, .int p3), (5, .int p4), (6, .int x6), (7, .int x7)]) hx hb dX9_bodyBy_76 hl (by decide) rfl (fun ls hl => ?_)
                refine lv_goto (tgt := 188) hx hb dX9_bodyBy_78 (by decide) ?_
                exact ih188 j x6 x7 gp1 r5 r46 hc _ _ _ w (lv_sub hl [3, 4, 5, 6, 7, 8, 9, 10, 1, 0] rfl) hj hjl hx6 hx7 b7 ((qq47 T xs _ _ _)) hst hle D hfr (by omega)
      · intro j x6 x7 gp1 x9 x10 hc H locs ls w hl hj hjl hx6 hx7 hx9 hx10 hst hle D hfr hN_
        have hlen := mStk_len (u := u) (T := T) (xs := xs) hP hf j hj
        have hLj := mStk_le (u := u) (P := M) (T := T) (xs := xs) (f := f) j
        refine lv_iload hx hb dX9_bodyBy_188 (lv_at hl 6 rfl) ?_
        refine lv_iload hx hb dX9_bodyBy_190 (lv_at hl 8 rfl) ?_
        refine lv_isub hx hb dX9_bodyBy_192 ?_
        refine lv_topi (fun y48 ey48 => ?_)
        have ty48 : y48.toInt = ((((mStk u M T xs f j).length - (mParts (pN M) (pA M) (pB M f (pL M f - 1 - j)))) : Nat) : Int) := i_subN ey48 hx6 hx9 (by omega)
        refine lv_istore (lv' := [(6, .int y48), (0, .ref (g.2.2.1 r)), (1, .int p0), (2, .int p1), (3, .int p2), (4, .int p3), (5, .int p4), (7, .int x7), (9, .int x9), (10, .int x10)]) hx hb dX9_bodyBy_193 hl (by decide) rfl (fun ls hl => ?_)
        refine lv_aload_n hx hb dX9_bodyBy_195 rfl (lv_at hl 1 rfl) ?_
        refine r_get (C := RX9) (T := TX9) (N := 20) (ci := 7) hx hb hts inX9_bodyBy_X9 hown w (by have := D.1; omega) D.c0 rfl 9 (by decide) (hts (Cond.fieldLink RX9 31 "EarlyValuesModel" "parts" "[I") (List.mem_of_getElem? (i := 4) (by decide +kernel))) rfl rfl dX9_bodyBy_196 ?_
        refine lv_iload hx hb dX9_bodyBy_199 (lv_at hl 0 rfl) ?_
        refine lv_iload hx hb dX9_bodyBy_201 (lv_at hl 9 rfl) ?_
        refine r_iast (j := ((mStk u M T xs f j).length - (mParts (pN M) (pA M) (pB M f (pL M f - 1 - j))))) hx hb w (by have := D.1; omega) D.c8 ty48 (by omega) dX9_bodyBy_203 (fun h49 H locs eh49 w => ?_)
        have D := D.s8 eh49
        generalize egz50 : upd gp1 (((mStk u M T xs f j).length - (mParts (pN M) (pA M) (pB M f (pL M f - 1 - j))))) x10 = gz50 at D
        have hfr : ∀ k_, ¬ (r ≤ k_ ∧ k_ < r + 14) → h49 k_ = h k_ := fun k_ hk_ => by rw [eh49, va_up_ne _ _ (by omega)]; exact hfr k_ hk_
        obtain ⟨y51, ey51⟩ : ∃ y : Int32, y = y48 + (1) := ⟨_, rfl⟩
        have ty51 : y51.toInt = (((((mStk u M T xs f j).length - (mParts (pN M) (pA M) (pB M f (pL M f - 1 - j)))) + 1) : Nat) : Int) := i_addN ey51 ty48 (by decide : (1 : Int32).toInt = ((1 : Nat) : Int)) (by omega)
        refine lv_iinc (v := y51) (lv' := [(6, .int y51), (0, .ref (g.2.2.1 r)), (1, .int p0), (2, .int p1), (3, .int p2), (4, .int p3), (5, .int p4), (7, .int x7), (9, .int x9), (10, .int x10)]) hx hb dX9_bodyBy_204 hl (k := 0) rfl (by rw [ey51]; rfl) (by decide) rfl (fun ls hl => ?_)
        obtain ⟨y52, ey52⟩ : ∃ y : Int32, y = x7 + (-1) := ⟨_, rfl⟩
        have ty52 : y52.toInt = ((pL M f : Int) - 1 - (j : Int)) + (-1 : Int) := i_add ey52 hx7 (by decide : (-1 : Int32).toInt = (-1 : Int)) (by omega)
        refine lv_iinc (v := y52) (lv' := [(7, .int y52), (6, .int y51), (0, .ref (g.2.2.1 r)), (1, .int p0), (2, .int p1), (3, .int p2), (4, .int p3), (5, .int p4), (9, .int x9), (10, .int x10)]) hx hb dX9_bodyBy_207 hl (k := 7) rfl (by rw [ey52]; rfl) (by decide) rfl (fun ls hl => ?_)
        refine lv_goto (tgt := 13) hx hb dX9_bodyBy_210 (by decide) ?_
        exact ih13 (j + 1) y51 y52 gz50 h49 _ _ _ w (lv_sub hl [2, 3, 4, 5, 6, 7, 1, 0] rfl) (by omega) (ty51.trans (by rw [mStk_succ_len])) (ty52.trans (by omega)) (by rw [← egz50]; exact hst.push hle hx10) D hfr (by omega)
  have cut0 := cuts ((pL M f) * 2 + 2)
  obtain ⟨ih13, ih188⟩ := cut0
  refine lv_iconst (v := 0) hx hb dX9_bodyBy_0 (by decide) ?_
  refine lv_istore (lv' := [(6, .int 0), (0, .ref (g.2.2.1 r)), (1, .int p0), (2, .int p1), (3, .int p2), (4, .int p3), (5, .int p4)]) hx hb dX9_bodyBy_1 hl (by decide) rfl (fun ls hl => ?_)
  refine lv_aload_n hx hb dX9_bodyBy_3 rfl (lv_at hl 1 rfl) ?_
  refine r_get (C := RX9) (T := TX9) (N := 20) (ci := 7) hx hb hts inX9_bodyBy_X9 hown w (by have := D.1; omega) D.c0 rfl 3 (by decide) (hts (Cond.fieldLink RX9 16 "EarlyValuesModel" "longOf" "[I") (List.mem_of_getElem? (i := 1) (by decide +kernel))) rfl rfl dX9_bodyBy_4 ?_
  refine lv_iload_n hx hb dX9_bodyBy_7 rfl (lv_at hl 3 rfl) ?_
  refine r_iald (j := f) hx hb w (by have := D.1; omega) D.c3 hp1 (by omega) dX9_bodyBy_8 ?_
  refine lv_iconst (v := 1) hx hb dX9_bodyBy_9 (by decide) ?_
  refine lv_isub hx hb dX9_bodyBy_10 ?_
  refine lv_topi (fun y53 ey53 => ?_)
  have ty53 : y53.toInt = (((pL M f) : Nat) : Int) - ((1 : Nat) : Int) := i_sub ey53 (S.2.2.2.1 f (by omega)) (by decide : (1 : Int32).toInt = ((1 : Nat) : Int)) (by omega)
  refine lv_istore (lv' := [(7, .int y53), (6, .int 0), (0, .ref (g.2.2.1 r)), (1, .int p0), (2, .int p1), (3, .int p2), (4, .int p3), (5, .int p4)]) hx hb dX9_bodyBy_11 hl (by decide) rfl (fun ls hl => ?_)
  exact ih13 0 0 y53 gp h _ _ _ w (lv_sub hl [2, 3, 4, 5, 6, 7, 1, 0] rfl) (Nat.zero_le _) ((by decide : (0 : Int32).toInt = ((0 : Nat) : Int))) (ty53.trans (by omega)) (fun i hi => absurd hi (Nat.not_lt_zero _)) D (fun k_ _ => rfl) (by omega)

