theorem sCode_le {j : Nat} (h : j < 41) : sCode j < 128 := by have := sCode_in h; omega
abbrev rm_J3_checkIndex_8e157 : Room := { frames := 0, cells := 0, slots := 0, locals := 0 }
set_option maxHeartbeats 4000000 in
set_option maxRecDepth 100000 in
theorem c_J3_checkIndex_8e157 (l : Launch) {g : GE} {h : Nat → va_E} {i ln : Nat} (p0 p1 : Int32) (hp0 : p0.toInt = (i : Int)) (hp1 : p1.toInt = ((ln : Nat) : Int)) (hi : i < ln) : MI l yJ3_checkIndex_8e157 wsJ3_checkIndex_8e157 rm_J3_checkIndex_8e157 [.int p0, .int p1, .null] g h (fun r h2 => h2 = h ∧ r = p0) := by
  refine Met.ofW (cc := cJ3_checkIndex_8e157) (maxL := 3) (ret := (some .int)) (by decide) rfl ?_
  intro p e s m args below meth c s₁ B hml hv
  obtain ⟨rfl, w0⟩ := hv
  have hx := B.exec
  have hb := B.bytes
  have hr := B.returns
  have hts := atoms_spec (ws := wsJ3_checkIndex_8e157) B.pre
  have hown : s.vm.findClass RJ3 = some m.cls := findClass_of_methodNamed B.named
  have hlocks := B.notSynchronized
  have w := w0.start
  clear w0
  have hl := lv_entry ([.int p0, .int p1, .null]) (n := 3) (Nat.le_of_ble_eq_true rfl)
  rw [lg_entry_eq]
  generalize (lg_sl ([.int p0, .int p1, .null]) ++ List.replicate (3 - (lg_sl ([.int p0, .int p1, .null])).length) Slot.unset).toArray = ls at hl ⊢
  have hl : lv_has ls 3 [(0, .int p0), (1, .int p1), (2, .null)] := hl
  refine lv_iload_n hx hb dJ3_checkIndex_8e157_0 rfl (lv_at hl 0 rfl) ?_
  refine lv_if_lt (tgt := 9) hx hb dJ3_checkIndex_8e157_1 (by decide) (fun c1 => ?_) (fun c1 => ?_)
  · have c1 : ((i : Nat) : Int) < (0 : Int) := (i_lt hp0 (rfl : (0 : Int32).toInt = 0)).mp c1
    exfalso; omega
  · have c1 : ¬ (((i : Nat) : Int) < (0 : Int)) := fun q => c1 ((i_lt hp0 (rfl : (0 : Int32).toInt = 0)).mpr q)
    refine lv_iload_n hx hb dJ3_checkIndex_8e157_4 rfl (lv_at hl 0 rfl) ?_
    refine lv_iload_n hx hb dJ3_checkIndex_8e157_5 rfl (lv_at hl 1 rfl) ?_
    refine lv_icmp_lt (tgt := 16) hx hb dJ3_checkIndex_8e157_6 (by decide) (fun c2 => ?_) (fun c2 => ?_)
    · have c2 : ((i : Nat) : Int) < ((ln : Nat) : Int) := (i_lt hp0 hp1).mp c2
      refine lv_iload_n hx hb dJ3_checkIndex_8e157_16 rfl (lv_at hl 0 rfl) ?_
      refine r_iret (v := p0) hx hb hr hlocks w dJ3_checkIndex_8e157_17 ?_
      exact ⟨rfl, rfl⟩
    · have c2 : ¬ (((i : Nat) : Int) < ((ln : Nat) : Int)) := fun q => c2 ((i_lt hp0 hp1).mpr q)
      exfalso; omega

set_option maxHeartbeats 4000000 in
set_option maxRecDepth 100000 in
theorem c_J3_checkIndex_8e157_q (l : Launch) {g : GE} {h : Nat → va_E} {i ln : Nat} {t9 : Nat} (p0 p1 : Int32) (hp0 : p0.toInt = (i : Int)) (hp1 : p1.toInt = ((ln : Nat) : Int)) (hi : i < ln) : MI l yJ3_checkIndex_8e157 wsJ3_checkIndex_8e157 rm_J3_checkIndex_8e157 [.int p0, .int p1, .ref t9] g h (fun r h2 => h2 = h ∧ r = p0) := by
  refine Met.ofW (cc := cJ3_checkIndex_8e157) (maxL := 3) (ret := (some .int)) (by decide) rfl ?_
  intro p e s m args below meth c s₁ B hml hv
  obtain ⟨rfl, w0⟩ := hv
  have hx := B.exec
  have hb := B.bytes
  have hr := B.returns
  have hts := atoms_spec (ws := wsJ3_checkIndex_8e157) B.pre
  have hown : s.vm.findClass RJ3 = some m.cls := findClass_of_methodNamed B.named
  have hlocks := B.notSynchronized
  have w := w0.start
  clear w0
  have hl := lv_entry ([.int p0, .int p1, .ref t9]) (n := 3) (Nat.le_of_ble_eq_true rfl)
  rw [lg_entry_eq]
  generalize (lg_sl ([.int p0, .int p1, .ref t9]) ++ List.replicate (3 - (lg_sl ([.int p0, .int p1, .ref t9])).length) Slot.unset).toArray = ls at hl ⊢
  have hl : lv_has ls 3 [(0, .int p0), (1, .int p1), (2, .ref t9)] := hl
  refine lv_iload_n hx hb dJ3_checkIndex_8e157_0 rfl (lv_at hl 0 rfl) ?_
  refine lv_if_lt (tgt := 9) hx hb dJ3_checkIndex_8e157_1 (by decide) (fun c1 => ?_) (fun c1 => ?_)
  · have c1 : ((i : Nat) : Int) < (0 : Int) := (i_lt hp0 (rfl : (0 : Int32).toInt = 0)).mp c1
    exfalso; omega
  · have c1 : ¬ (((i : Nat) : Int) < (0 : Int)) := fun q => c1 ((i_lt hp0 (rfl : (0 : Int32).toInt = 0)).mpr q)
    refine lv_iload_n hx hb dJ3_checkIndex_8e157_4 rfl (lv_at hl 0 rfl) ?_
    refine lv_iload_n hx hb dJ3_checkIndex_8e157_5 rfl (lv_at hl 1 rfl) ?_
    refine lv_icmp_lt (tgt := 16) hx hb dJ3_checkIndex_8e157_6 (by decide) (fun c2 => ?_) (fun c2 => ?_)
    · have c2 : ((i : Nat) : Int) < ((ln : Nat) : Int) := (i_lt hp0 hp1).mp c2
      refine lv_iload_n hx hb dJ3_checkIndex_8e157_16 rfl (lv_at hl 0 rfl) ?_
      refine r_iret (v := p0) hx hb hr hlocks w dJ3_checkIndex_8e157_17 ?_
      exact ⟨rfl, rfl⟩
    · have c2 : ¬ (((i : Nat) : Int) < ((ln : Nat) : Int)) := fun q => c2 ((i_lt hp0 hp1).mpr q)
      exfalso; omega

abbrev rm_J0_checkIndex_df160 : Room := { frames := 1, cells := 0, slots := 0, locals := 22 }
set_option maxHeartbeats 4000000 in
set_option maxRecDepth 100000 in
theorem c_J0_checkIndex_df160 (l : Launch) {g : GE} {h : Nat → va_E} {i ln : Nat} (p0 p1 : Int32) (hp0 : p0.toInt = (i : Int)) (hp1 : p1.toInt = ((ln : Nat) : Int)) (hi : i < ln) : MV l yJ0_checkIndex_df160 wsJ0_checkIndex_df160 rm_J0_checkIndex_df160 [.int p0, .int p1] g h (fun h2 => h2 = h) := by
  refine Met.ofW (cc := cJ0_checkIndex_df160) (maxL := 2) (ret := none) (by decide) rfl ?_
  intro p e s m args below meth c s₁ B hml hv
  obtain ⟨rfl, w0⟩ := hv
  have hx := B.exec
  have hb := B.bytes
  have hr := B.returns
  have hts := atoms_spec (ws := wsJ0_checkIndex_df160) B.pre
  have hown : s.vm.findClass RJ0 = some m.cls := findClass_of_methodNamed B.named
  have hlocks := B.notSynchronized
  have w := w0.start
  clear w0
  have hl := lv_entry ([.int p0, .int p1]) (n := 2) (Nat.le_of_ble_eq_true rfl)
  rw [lg_entry_eq]
  generalize (lg_sl ([.int p0, .int p1]) ++ List.replicate (2 - (lg_sl ([.int p0, .int p1])).length) Slot.unset).toArray = ls at hl ⊢
  have hl : lv_has ls 2 [(0, .int p0), (1, .int p1)] := hl
  refine lv_iload_n hx hb dJ0_checkIndex_df160_0 rfl (lv_at hl 0 rfl) ?_
  refine lv_iload_n hx hb dJ0_checkIndex_df160_1 rfl (lv_at hl 1 rfl) ?_
  rcases w.zs with hvz | ⟨t9, hvz⟩
  · refine va_gets hx hb hvz w.2.2.2.1 hown (hts (Cond.fieldLink RJ0 1053 "jdk/internal/util/Preconditions" "SIOOBE_FORMATTER" "Ljava/util/function/BiFunction;") (List.mem_of_getElem? (i := 1) (by decide +kernel))) (fun _ q => q) dJ0_checkIndex_df160_2 ?_
    refine r_callI w (va_runS (As := [.int p0, .int p1, .null]) (rest := []) ⟨hx, hb, hml, hown, hts⟩ (c_J3_checkIndex_8e157 l p0 p1 hp0 hp1 (by omega)) (va_cwS 3 hts gJ0_checkIndex_df160_J3_checkIndex_8e157 rfl rfl rfl (by decide +kernel) ⟨Nat.le_of_ble_eq_true rfl, Nat.le_of_ble_eq_true rfl⟩) (r_preS w) rfl rfl hl.1 rfl (lv_room (Nat.le_of_ble_eq_true rfl)) dJ0_checkIndex_df160_5 ⟨Nat.zero_le _, Nat.zero_le _⟩) (fun r2 h1 H locs hp w => ?_)
    obtain ⟨eh_, qq3⟩ := hp
    have eh_ := eh_.symm
    subst eh_
    refine lv_pop hx hb dJ0_checkIndex_df160_8 rfl ?_
    refine r_vret hx hb hr hlocks w dJ0_checkIndex_df160_9 ?_
    exact rfl
  · refine va_gets hx hb hvz w.2.2.2.1 hown (hts (Cond.fieldLink RJ0 1053 "jdk/internal/util/Preconditions" "SIOOBE_FORMATTER" "Ljava/util/function/BiFunction;") (List.mem_of_getElem? (i := 1) (by decide +kernel))) (fun _ q => q) dJ0_checkIndex_df160_2 ?_
    refine r_callI w (va_runS (As := [.int p0, .int p1, .ref t9]) (rest := []) ⟨hx, hb, hml, hown, hts⟩ (c_J3_checkIndex_8e157_q l p0 p1 hp0 hp1 (by omega)) (va_cwS 3 hts gJ0_checkIndex_df160_J3_checkIndex_8e157 rfl rfl rfl (by decide +kernel) ⟨Nat.le_of_ble_eq_true rfl, Nat.le_of_ble_eq_true rfl⟩) (r_preS w) rfl rfl hl.1 rfl (lv_room (Nat.le_of_ble_eq_true rfl)) dJ0_checkIndex_df160_5 ⟨Nat.zero_le _, Nat.zero_le _⟩) (fun r5 h4 H locs hp w => ?_)
    obtain ⟨eh_, qq6⟩ := hp
    have eh_ := eh_.symm
    subst eh_
    refine lv_pop hx hb dJ0_checkIndex_df160_8 rfl ?_
    refine r_vret hx hb hr hlocks w dJ0_checkIndex_df160_9 ?_
    exact rfl

abbrev rm_J1_charAt_3b067 : Room := { frames := 2, cells := 0, slots := 0, locals := 43 }
set_option maxHeartbeats 4000000 in
set_option maxRecDepth 100000 in
theorem c_J1_charAt_3b067 (l : Launch) {g : GE} {h : Nat → va_E} {i : Nat} (p1 : Int32) (hp1 : p1.toInt = (i : Int)) (hi : i < 14) : MI l yJ1_charAt_3b067 wsJ1_charAt_3b067 rm_J1_charAt_3b067 [.ref (g.2.2.1 (g.2.2.2 + 3)), .int p1] g h (fun r h2 => h2 = h ∧ r.toInt = ((mCode i : Nat) : Int)) := by
  refine Met.ofW (cc := cJ1_charAt_3b067) (maxL := 2) (ret := (some .char)) (by decide) rfl ?_
  intro p e s m args below meth c s₁ B hml hv
  obtain ⟨rfl, w0⟩ := hv
  have hx := B.exec
  have hb := B.bytes
  have hr := B.returns
  have hts := atoms_spec (ws := wsJ1_charAt_3b067) B.pre
  have hown : s.vm.findClass RJ1 = some m.cls := findClass_of_methodNamed B.named
  have hlocks := B.notSynchronized
  have w := w0.start
  clear w0
  have hl := lv_entry ([.ref (g.2.2.1 (g.2.2.2 + 3)), .int p1]) (n := 2) (Nat.le_of_ble_eq_true rfl)
  rw [lg_entry_eq]
  generalize (lg_sl ([.ref (g.2.2.1 (g.2.2.2 + 3)), .int p1]) ++ List.replicate (2 - (lg_sl ([.ref (g.2.2.1 (g.2.2.2 + 3)), .int p1])).length) Slot.unset).toArray = ls at hl ⊢
  have hl : lv_has ls 2 [(0, .ref (g.2.2.1 (g.2.2.2 + 3))), (1, .int p1)] := hl
  refine lv_iload_n hx hb dJ1_charAt_3b067_0 rfl (lv_at hl 1 rfl) ?_
  refine lv_aload_n hx hb dJ1_charAt_3b067_1 rfl (lv_at hl 0 rfl) ?_
  refine va_tlen (v := 14) hx hb w.k1.2.2 w.2.2.2.1 (by decide) dJ1_charAt_3b067_2 ?_
  refine r_callV w (va_runS (As := [.int p1, .int 14]) (rest := []) ⟨hx, hb, hml, hown, hts⟩ (c_J0_checkIndex_df160 l p1 14 hp1 (by decide : (14 : Int32).toInt = ((14 : Nat) : Int)) (by omega)) (va_cwS 2 hts gJ1_charAt_3b067_J0_checkIndex_df160 rfl rfl rfl (by decide +kernel) ⟨Nat.le_of_ble_eq_true rfl, Nat.le_of_ble_eq_true rfl⟩) (r_preS w) rfl rfl hl.1 rfl (lv_room (Nat.le_of_ble_eq_true rfl)) dJ1_charAt_3b067_3 ⟨Nat.zero_le _, Nat.zero_le _⟩) (fun h1 H locs hp w => ?_)
  have eh_ := hp.symm
  subst eh_
  refine lv_aload_n hx hb dJ1_charAt_3b067_6 rfl (lv_at hl 0 rfl) ?_
  refine lv_iload_n hx hb dJ1_charAt_3b067_7 rfl (lv_at hl 1 rfl) ?_
  refine va_tb (v := .int (nI (mCode i))) hx hb w.k1.2.2 w.2.2.2.1 (i_in hp1 (by omega)) (by rw [i_nat hp1]; exact congrArg Value.int (tb1 (by omega))) dJ1_charAt_3b067_8 ?_
  have hml_ := mCode_le (j := i) (by omega)
  refine lv_sipush (v := 255) hx hb dJ1_charAt_3b067_9 (by decide) ?_
  refine lv_iand hx hb dJ1_charAt_3b067_12 ?_
  refine lv_topi (fun y2 ey2 => ?_)
  have ty2 : y2.toInt = ((mCode i : Nat) : Int) := i255 (nI_toInt (by have := mCode_le (j := i) (by omega); omega)) hml_ ey2
  refine lv_i2c (v := y2) hx hb dJ1_charAt_3b067_13 (i2c_id ty2 (by omega)) ?_
  refine r_zret (v := y2) hx hb hr (nar_C ty2 (mCode_le (by omega))) hlocks w dJ1_charAt_3b067_14 ?_
  exact ⟨rfl, ty2⟩

abbrev rm_J0_charAt_5068e : Room := { frames := 3, cells := 0, slots := 0, locals := 64 }
set_option maxHeartbeats 4000000 in
set_option maxRecDepth 100000 in
theorem c_J0_charAt_5068e (l : Launch) {g : GE} {h : Nat → va_E} {i : Nat} (p1 : Int32) (hp1 : p1.toInt = (i : Int)) (hi : i < 14) : MI l yJ0_charAt_5068e wsJ0_charAt_5068e rm_J0_charAt_5068e [.ref (g.2.2.1 (g.2.2.2 + 1)), .int p1] g h (fun r h2 => h2 = h ∧ r.toInt = ((mCode i : Nat) : Int)) := by
  refine Met.ofW (cc := cJ0_charAt_5068e) (maxL := 2) (ret := (some .char)) (by decide) rfl ?_
  intro p e s m args below meth c s₁ B hml hv
  obtain ⟨rfl, w0⟩ := hv
  have hx := B.exec
  have hb := B.bytes
  have hr := B.returns
  have hts := atoms_spec (ws := wsJ0_charAt_5068e) B.pre
  have hown : s.vm.findClass RJ0 = some m.cls := findClass_of_methodNamed B.named
  have hlocks := B.notSynchronized
  have w := w0.start
  clear w0
  have hl := lv_entry ([.ref (g.2.2.1 (g.2.2.2 + 1)), .int p1]) (n := 2) (Nat.le_of_ble_eq_true rfl)
  rw [lg_entry_eq]
  generalize (lg_sl ([.ref (g.2.2.1 (g.2.2.2 + 1)), .int p1]) ++ List.replicate (2 - (lg_sl ([.ref (g.2.2.1 (g.2.2.2 + 1)), .int p1])).length) Slot.unset).toArray = ls at hl ⊢
  have hl : lv_has ls 2 [(0, .ref (g.2.2.1 (g.2.2.2 + 1))), (1, .int p1)] := hl
  refine lv_aload_n hx hb dJ0_charAt_5068e_0 rfl (lv_at hl 0 rfl) ?_
  refine r_callI w (va_runV (As := []) (rest := []) ⟨hx, hb, hml, hown, hts⟩ (c_J0_isLatin1_aae02 l) (cwV 0 hts gJ0_charAt_5068e_J0_isLatin1_aae02 rfl rfl rfl (by decide +kernel) ⟨Nat.le_of_ble_eq_true rfl, Nat.le_of_ble_eq_true rfl⟩) (r_preK w) rfl rfl hl.1 rfl (lv_room (Nat.le_of_ble_eq_true rfl)) dJ0_charAt_5068e_1 ⟨Nat.zero_le _, Nat.zero_le _⟩) (fun r2 h1 H locs hp w => ?_)
  obtain ⟨eh_, qq3⟩ := hp
  have eh_ := eh_.symm
  subst eh_
  subst qq3
  refine lv_if_eq (tgt := 16) hx hb dJ0_charAt_5068e_4 (by decide) (fun c4 => ?_) (fun c4 => ?_)
  · have c4 : ((1 : Nat) : Int) = (0 : Int) := (i_eq (by decide : (1 : Int32).toInt = ((1 : Nat) : Int)) (rfl : (0 : Int32).toInt = 0)).mp c4
    exfalso; omega
  · have c4 : ¬ (((1 : Nat) : Int) = (0 : Int)) := fun q => c4 ((i_eq (by decide : (1 : Int32).toInt = ((1 : Nat) : Int)) (rfl : (0 : Int32).toInt = 0)).mpr q)
    refine lv_aload_n hx hb dJ0_charAt_5068e_7 rfl (lv_at hl 0 rfl) ?_
    refine vk_getf hx hb w.k1.2.1 w.2.2.2.1 hown (hts (Cond.fieldLink RJ0 9 "java/lang/String" "value" "[B") (List.mem_of_getElem? (i := 1) (by decide +kernel))) (fun _ q => q) dJ0_charAt_5068e_8 ?_
    refine lv_iload_n hx hb dJ0_charAt_5068e_11 rfl (lv_at hl 1 rfl) ?_
    refine r_callI w (va_runS (As := [.ref (g.2.2.1 (g.2.2.2 + 3)), .int p1]) (rest := []) ⟨hx, hb, hml, hown, hts⟩ (c_J1_charAt_3b067 l p1 hp1 (by omega)) (va_cwS 2 hts gJ0_charAt_5068e_J1_charAt_3b067 rfl rfl rfl (by decide +kernel) ⟨Nat.le_of_ble_eq_true rfl, Nat.le_of_ble_eq_true rfl⟩) (r_preS w) rfl rfl hl.1 rfl (lv_room (Nat.le_of_ble_eq_true rfl)) dJ0_charAt_5068e_12 ⟨Nat.zero_le _, Nat.zero_le _⟩) (fun r6 h5 H locs hp w => ?_)
    obtain ⟨eh_, qq7⟩ := hp
    have eh_ := eh_.symm
    subst eh_
    refine r_zret (v := r6) hx hb hr (nar_C qq7 (mCode_le (by omega))) hlocks w dJ0_charAt_5068e_15 ?_
    exact ⟨rfl, qq7⟩

set_option maxHeartbeats 4000000 in
set_option maxRecDepth 100000 in
theorem c_J0_isLatin1_aae02_0 (l : Launch) {g : GE} {h : Nat → va_E} : MI l yJ0_isLatin1_aae02 wsJ0_isLatin1_aae02 rm_J0_isLatin1_aae02 [.ref (g.2.2.1 (g.2.2.2 + 0))] g h (fun r h2 => h2 = h ∧ r = 1) := by
  refine Met.ofW (cc := cJ0_isLatin1_aae02) (maxL := 1) (ret := (some .boolean)) (by decide) rfl ?_
  intro p e s m args below meth c s₁ B hml hv
  obtain ⟨rfl, w0⟩ := hv
  have hx := B.exec
  have hb := B.bytes
  have hr := B.returns
  have hts := atoms_spec (ws := wsJ0_isLatin1_aae02) B.pre
  have hown : s.vm.findClass RJ0 = some m.cls := findClass_of_methodNamed B.named
  have hlocks := B.notSynchronized
  have w := w0.start
  clear w0
  have hl := lv_entry ([.ref (g.2.2.1 (g.2.2.2 + 0))]) (n := 1) (Nat.le_of_ble_eq_true rfl)
  rw [lg_entry_eq]
  generalize (lg_sl ([.ref (g.2.2.1 (g.2.2.2 + 0))]) ++ List.replicate (1 - (lg_sl ([.ref (g.2.2.1 (g.2.2.2 + 0))])).length) Slot.unset).toArray = ls at hl ⊢
  have hl : lv_has ls 1 [(0, .ref (g.2.2.1 (g.2.2.2 + 0)))] := hl
  refine va_gets hx hb w.zc w.2.2.2.1 hown (hts (Cond.fieldLink RJ0 38 "java/lang/String" "COMPACT_STRINGS" "Z") (List.mem_of_getElem? (i := 1) (by decide +kernel))) (fun _ q => q) dJ0_isLatin1_aae02_0 ?_
  refine lv_if_eq (tgt := 17) hx hb dJ0_isLatin1_aae02_3 (by decide) (fun c1 => ?_) (fun c1 => ?_)
  · have c1 : ((1 : Nat) : Int) = (0 : Int) := (i_eq (by decide : (1 : Int32).toInt = ((1 : Nat) : Int)) (rfl : (0 : Int32).toInt = 0)).mp c1
    exfalso; omega
  · have c1 : ¬ (((1 : Nat) : Int) = (0 : Int)) := fun q => c1 ((i_eq (by decide : (1 : Int32).toInt = ((1 : Nat) : Int)) (rfl : (0 : Int32).toInt = 0)).mpr q)
    refine lv_aload_n hx hb dJ0_isLatin1_aae02_6 rfl (lv_at hl 0 rfl) ?_
    refine vk_getf hx hb w.k0.1 w.2.2.2.1 hown (hts (Cond.fieldLink RJ0 15 "java/lang/String" "coder" "B") (List.mem_of_getElem? (i := 2) (by decide +kernel))) (fun _ q => q) dJ0_isLatin1_aae02_7 ?_
    refine lv_if_ne (tgt := 17) hx hb dJ0_isLatin1_aae02_10 (by decide) (fun c2 => ?_) (fun c2 => ?_)
    · have c2 : ¬ (((0 : Nat) : Int) = (0 : Int)) := fun q => c2 ((i_eq (by decide : (0 : Int32).toInt = ((0 : Nat) : Int)) (rfl : (0 : Int32).toInt = 0)).mpr q)
      exfalso; omega
    · have c2 : ((0 : Nat) : Int) = (0 : Int) := (i_eq (by decide : (0 : Int32).toInt = ((0 : Nat) : Int)) (rfl : (0 : Int32).toInt = 0)).mp c2
      refine lv_iconst (v := 1) hx hb dJ0_isLatin1_aae02_13 (by decide) ?_
      refine lv_goto (tgt := 18) hx hb dJ0_isLatin1_aae02_14 (by decide) ?_
      refine r_zret (v := 1) hx hb hr rfl hlocks w dJ0_isLatin1_aae02_18 ?_
      exact ⟨rfl, rfl⟩

set_option maxHeartbeats 4000000 in
set_option maxRecDepth 100000 in
theorem c_J0_coder_7d493_0 (l : Launch) {g : GE} {h : Nat → va_E} : MI l yJ0_coder_7d493 wsJ0_coder_7d493 rm_J0_coder_7d493 [.ref (g.2.2.1 (g.2.2.2 + 0))] g h (fun r h2 => h2 = h ∧ r = 0) := by
  refine Met.ofW (cc := cJ0_coder_7d493) (maxL := 1) (ret := (some .byte)) (by decide) rfl ?_
  intro p e s m args below meth c s₁ B hml hv
  obtain ⟨rfl, w0⟩ := hv
  have hx := B.exec
  have hb := B.bytes
  have hr := B.returns
  have hts := atoms_spec (ws := wsJ0_coder_7d493) B.pre
  have hown : s.vm.findClass RJ0 = some m.cls := findClass_of_methodNamed B.named
  have hlocks := B.notSynchronized
  have w := w0.start
  clear w0
  have hl := lv_entry ([.ref (g.2.2.1 (g.2.2.2 + 0))]) (n := 1) (Nat.le_of_ble_eq_true rfl)
  rw [lg_entry_eq]
  generalize (lg_sl ([.ref (g.2.2.1 (g.2.2.2 + 0))]) ++ List.replicate (1 - (lg_sl ([.ref (g.2.2.1 (g.2.2.2 + 0))])).length) Slot.unset).toArray = ls at hl ⊢
  have hl : lv_has ls 1 [(0, .ref (g.2.2.1 (g.2.2.2 + 0)))] := hl
  refine va_gets hx hb w.zc w.2.2.2.1 hown (hts (Cond.fieldLink RJ0 38 "java/lang/String" "COMPACT_STRINGS" "Z") (List.mem_of_getElem? (i := 1) (by decide +kernel))) (fun _ q => q) dJ0_coder_7d493_0 ?_
  refine lv_if_eq (tgt := 13) hx hb dJ0_coder_7d493_3 (by decide) (fun c1 => ?_) (fun c1 => ?_)
  · have c1 : ((1 : Nat) : Int) = (0 : Int) := (i_eq (by decide : (1 : Int32).toInt = ((1 : Nat) : Int)) (rfl : (0 : Int32).toInt = 0)).mp c1
    exfalso; omega
  · have c1 : ¬ (((1 : Nat) : Int) = (0 : Int)) := fun q => c1 ((i_eq (by decide : (1 : Int32).toInt = ((1 : Nat) : Int)) (rfl : (0 : Int32).toInt = 0)).mpr q)
    refine lv_aload_n hx hb dJ0_coder_7d493_6 rfl (lv_at hl 0 rfl) ?_
    refine vk_getf hx hb w.k0.1 w.2.2.2.1 hown (hts (Cond.fieldLink RJ0 15 "java/lang/String" "coder" "B") (List.mem_of_getElem? (i := 2) (by decide +kernel))) (fun _ q => q) dJ0_coder_7d493_7 ?_
    refine lv_goto (tgt := 14) hx hb dJ0_coder_7d493_10 (by decide) ?_
    refine r_zret (v := 0) hx hb hr rfl hlocks w dJ0_coder_7d493_14 ?_
    exact ⟨rfl, rfl⟩

set_option maxHeartbeats 4000000 in
set_option maxRecDepth 100000 in
theorem c_J0_length_8abf5_0 (l : Launch) {g : GE} {h : Nat → va_E} : MI l yJ0_length_8abf5 wsJ0_length_8abf5 rm_J0_length_8abf5 [.ref (g.2.2.1 (g.2.2.2 + 0))] g h (fun r h2 => h2 = h ∧ r = 41) := by
  refine Met.ofW (cc := cJ0_length_8abf5) (maxL := 1) (ret := (some .int)) (by decide) rfl ?_
  intro p e s m args below meth c s₁ B hml hv
  obtain ⟨rfl, w0⟩ := hv
  have hx := B.exec
  have hb := B.bytes
  have hr := B.returns
  have hts := atoms_spec (ws := wsJ0_length_8abf5) B.pre
  have hown : s.vm.findClass RJ0 = some m.cls := findClass_of_methodNamed B.named
  have hlocks := B.notSynchronized
  have w := w0.start
  clear w0
  have hl := lv_entry ([.ref (g.2.2.1 (g.2.2.2 + 0))]) (n := 1) (Nat.le_of_ble_eq_true rfl)
  rw [lg_entry_eq]
  generalize (lg_sl ([.ref (g.2.2.1 (g.2.2.2 + 0))]) ++ List.replicate (1 - (lg_sl ([.ref (g.2.2.1 (g.2.2.2 + 0))])).length) Slot.unset).toArray = ls at hl ⊢
  have hl : lv_has ls 1 [(0, .ref (g.2.2.1 (g.2.2.2 + 0)))] := hl
  refine lv_aload_n hx hb dJ0_length_8abf5_0 rfl (lv_at hl 0 rfl) ?_
  refine vk_getf hx hb w.k0.2.1 w.2.2.2.1 hown (hts (Cond.fieldLink RJ0 9 "java/lang/String" "value" "[B") (List.mem_of_getElem? (i := 1) (by decide +kernel))) (fun _ q => q) dJ0_length_8abf5_1 ?_
  refine va_tlen (v := 41) hx hb w.k0.2.2 w.2.2.2.1 (by decide) dJ0_length_8abf5_4 ?_
  refine lv_aload_n hx hb dJ0_length_8abf5_5 rfl (lv_at hl 0 rfl) ?_
  refine r_callI w (va_runV (As := []) (rest := [.int 41]) ⟨hx, hb, hml, hown, hts⟩ (c_J0_coder_7d493_0 l) (cwV 0 hts gJ0_length_8abf5_J0_coder_7d493 rfl rfl rfl (by decide +kernel) ⟨Nat.le_of_ble_eq_true rfl, Nat.le_of_ble_eq_true rfl⟩) (r_preK0 w) rfl rfl hl.1 rfl (lv_room (Nat.le_of_ble_eq_true rfl)) dJ0_length_8abf5_6 ⟨Nat.zero_le _, Nat.zero_le _⟩) (fun r2 h1 H locs hp w => ?_)
  obtain ⟨eh_, qq3⟩ := hp
  have eh_ := eh_.symm
  subst eh_
  subst qq3
  refine lv_ishr hx hb dJ0_length_8abf5_9 ?_
  refine lv_topi (fun y4 ey4 => ?_)
  refine r_iret (v := y4) hx hb hr hlocks w dJ0_length_8abf5_10 ?_
  exact ⟨rfl, by rw [ey4]; decide⟩

set_option maxHeartbeats 4000000 in
set_option maxRecDepth 100000 in
theorem c_J1_charAt_3b067_0 (l : Launch) {g : GE} {h : Nat → va_E} {i : Nat} (p1 : Int32) (hp1 : p1.toInt = (i : Int)) (hi : i < 41) : MI l yJ1_charAt_3b067 wsJ1_charAt_3b067 rm_J1_charAt_3b067 [.ref (g.2.2.1 (g.2.2.2 + 2)), .int p1] g h (fun r h2 => h2 = h ∧ r.toInt = ((sCode i : Nat) : Int)) := by
  refine Met.ofW (cc := cJ1_charAt_3b067) (maxL := 2) (ret := (some .char)) (by decide) rfl ?_
  intro p e s m args below meth c s₁ B hml hv
  obtain ⟨rfl, w0⟩ := hv
  have hx := B.exec
  have hb := B.bytes
  have hr := B.returns
  have hts := atoms_spec (ws := wsJ1_charAt_3b067) B.pre
  have hown : s.vm.findClass RJ1 = some m.cls := findClass_of_methodNamed B.named
  have hlocks := B.notSynchronized
  have w := w0.start
  clear w0
  have hl := lv_entry ([.ref (g.2.2.1 (g.2.2.2 + 2)), .int p1]) (n := 2) (Nat.le_of_ble_eq_true rfl)
  rw [lg_entry_eq]
  generalize (lg_sl ([.ref (g.2.2.1 (g.2.2.2 + 2)), .int p1]) ++ List.replicate (2 - (lg_sl ([.ref (g.2.2.1 (g.2.2.2 + 2)), .int p1])).length) Slot.unset).toArray = ls at hl ⊢
  have hl : lv_has ls 2 [(0, .ref (g.2.2.1 (g.2.2.2 + 2))), (1, .int p1)] := hl
  refine lv_iload_n hx hb dJ1_charAt_3b067_0 rfl (lv_at hl 1 rfl) ?_
  refine lv_aload_n hx hb dJ1_charAt_3b067_1 rfl (lv_at hl 0 rfl) ?_
  refine va_tlen (v := 41) hx hb w.k0.2.2 w.2.2.2.1 (by decide) dJ1_charAt_3b067_2 ?_
  refine r_callV w (va_runS (As := [.int p1, .int 41]) (rest := []) ⟨hx, hb, hml, hown, hts⟩ (c_J0_checkIndex_df160 l p1 41 hp1 (by decide : (41 : Int32).toInt = ((41 : Nat) : Int)) (by omega)) (va_cwS 2 hts gJ1_charAt_3b067_J0_checkIndex_df160 rfl rfl rfl (by decide +kernel) ⟨Nat.le_of_ble_eq_true rfl, Nat.le_of_ble_eq_true rfl⟩) (r_preS w) rfl rfl hl.1 rfl (lv_room (Nat.le_of_ble_eq_true rfl)) dJ1_charAt_3b067_3 ⟨Nat.zero_le _, Nat.zero_le _⟩) (fun h1 H locs hp w => ?_)
  have eh_ := hp.symm
  subst eh_
  refine lv_aload_n hx hb dJ1_charAt_3b067_6 rfl (lv_at hl 0 rfl) ?_
  refine lv_iload_n hx hb dJ1_charAt_3b067_7 rfl (lv_at hl 1 rfl) ?_
  refine va_tb (v := .int (nI (sCode i))) hx hb w.k0.2.2 w.2.2.2.1 (i_in hp1 (by omega)) (by rw [i_nat hp1]; exact congrArg Value.int (tb0 (by omega))) dJ1_charAt_3b067_8 ?_
  have hml_ := sCode_le (j := i) (by omega)
  refine lv_sipush (v := 255) hx hb dJ1_charAt_3b067_9 (by decide) ?_
  refine lv_iand hx hb dJ1_charAt_3b067_12 ?_
  refine lv_topi (fun y2 ey2 => ?_)
  have ty2 : y2.toInt = ((sCode i : Nat) : Int) := i255 (nI_toInt (by have := sCode_in (j := i) (by omega); omega)) hml_ ey2
  refine lv_i2c (v := y2) hx hb dJ1_charAt_3b067_13 (i2c_id ty2 (by omega)) ?_
  refine r_zret (v := y2) hx hb hr (nar_C ty2 (sCode_le (by omega))) hlocks w dJ1_charAt_3b067_14 ?_
  exact ⟨rfl, ty2⟩

set_option maxHeartbeats 4000000 in
set_option maxRecDepth 100000 in
theorem c_J0_charAt_5068e_0 (l : Launch) {g : GE} {h : Nat → va_E} {i : Nat} (p1 : Int32) (hp1 : p1.toInt = (i : Int)) (hi : i < 41) : MI l yJ0_charAt_5068e wsJ0_charAt_5068e rm_J0_charAt_5068e [.ref (g.2.2.1 (g.2.2.2 + 0)), .int p1] g h (fun r h2 => h2 = h ∧ r.toInt = ((sCode i : Nat) : Int)) := by
  refine Met.ofW (cc := cJ0_charAt_5068e) (maxL := 2) (ret := (some .char)) (by decide) rfl ?_
  intro p e s m args below meth c s₁ B hml hv
  obtain ⟨rfl, w0⟩ := hv
  have hx := B.exec
  have hb := B.bytes
  have hr := B.returns
  have hts := atoms_spec (ws := wsJ0_charAt_5068e) B.pre
  have hown : s.vm.findClass RJ0 = some m.cls := findClass_of_methodNamed B.named
  have hlocks := B.notSynchronized
  have w := w0.start
  clear w0
  have hl := lv_entry ([.ref (g.2.2.1 (g.2.2.2 + 0)), .int p1]) (n := 2) (Nat.le_of_ble_eq_true rfl)
  rw [lg_entry_eq]
  generalize (lg_sl ([.ref (g.2.2.1 (g.2.2.2 + 0)), .int p1]) ++ List.replicate (2 - (lg_sl ([.ref (g.2.2.1 (g.2.2.2 + 0)), .int p1])).length) Slot.unset).toArray = ls at hl ⊢
  have hl : lv_has ls 2 [(0, .ref (g.2.2.1 (g.2.2.2 + 0))), (1, .int p1)] := hl
  refine lv_aload_n hx hb dJ0_charAt_5068e_0 rfl (lv_at hl 0 rfl) ?_
  refine r_callI w (va_runV (As := []) (rest := []) ⟨hx, hb, hml, hown, hts⟩ (c_J0_isLatin1_aae02_0 l) (cwV 0 hts gJ0_charAt_5068e_J0_isLatin1_aae02 rfl rfl rfl (by decide +kernel) ⟨Nat.le_of_ble_eq_true rfl, Nat.le_of_ble_eq_true rfl⟩) (r_preK0 w) rfl rfl hl.1 rfl (lv_room (Nat.le_of_ble_eq_true rfl)) dJ0_charAt_5068e_1 ⟨Nat.zero_le _, Nat.zero_le _⟩) (fun r2 h1 H locs hp w => ?_)
  obtain ⟨eh_, qq3⟩ := hp
  have eh_ := eh_.symm
  subst eh_
  subst qq3
  refine lv_if_eq (tgt := 16) hx hb dJ0_charAt_5068e_4 (by decide) (fun c4 => ?_) (fun c4 => ?_)
  · have c4 : ((1 : Nat) : Int) = (0 : Int) := (i_eq (by decide : (1 : Int32).toInt = ((1 : Nat) : Int)) (rfl : (0 : Int32).toInt = 0)).mp c4
    exfalso; omega
  · have c4 : ¬ (((1 : Nat) : Int) = (0 : Int)) := fun q => c4 ((i_eq (by decide : (1 : Int32).toInt = ((1 : Nat) : Int)) (rfl : (0 : Int32).toInt = 0)).mpr q)
    refine lv_aload_n hx hb dJ0_charAt_5068e_7 rfl (lv_at hl 0 rfl) ?_
    refine vk_getf hx hb w.k0.2.1 w.2.2.2.1 hown (hts (Cond.fieldLink RJ0 9 "java/lang/String" "value" "[B") (List.mem_of_getElem? (i := 1) (by decide +kernel))) (fun _ q => q) dJ0_charAt_5068e_8 ?_
    refine lv_iload_n hx hb dJ0_charAt_5068e_11 rfl (lv_at hl 1 rfl) ?_
    refine r_callI w (va_runS (As := [.ref (g.2.2.1 (g.2.2.2 + 2)), .int p1]) (rest := []) ⟨hx, hb, hml, hown, hts⟩ (c_J1_charAt_3b067_0 l p1 hp1 (by omega)) (va_cwS 2 hts gJ0_charAt_5068e_J1_charAt_3b067 rfl rfl rfl (by decide +kernel) ⟨Nat.le_of_ble_eq_true rfl, Nat.le_of_ble_eq_true rfl⟩) (r_preS w) rfl rfl hl.1 rfl (lv_room (Nat.le_of_ble_eq_true rfl)) dJ0_charAt_5068e_12 ⟨Nat.zero_le _, Nat.zero_le _⟩) (fun r6 h5 H locs hp w => ?_)
    obtain ⟨eh_, qq7⟩ := hp
    have eh_ := eh_.symm
    subst eh_
    refine r_zret (v := r6) hx hb hr (nar_C qq7 (sCode_le (by omega))) hlocks w dJ0_charAt_5068e_15 ?_
    exact ⟨rfl, qq7⟩

abbrev rm_X2_signOf : Room := { frames := 4, cells := 0, slots := 0, locals := 85 }
set_option maxHeartbeats 4000000 in
set_option maxRecDepth 100000 in
theorem c_X2_signOf (l : Launch) {g : GE} {h : Nat → va_E} {i : Nat} (p0 : Int32) (hp0 : p0.toInt = (i : Int)) (hi : i < 14) : MI l yX2_signOf wsX2_signOf rm_X2_signOf [.int p0] g h (fun r h2 => h2 = h ∧ r.toInt = ((mCode i : Nat) : Int)) := by
  refine Met.ofW (cc := cX2_signOf) (maxL := 1) (ret := (some .int)) (by decide) rfl ?_
  intro p e s m args below meth c s₁ B hml hv
  obtain ⟨rfl, w0⟩ := hv
  have hx := B.exec
  have hb := B.bytes
  have hr := B.returns
  have hts := atoms_spec (ws := wsX2_signOf) B.pre
  have hown : s.vm.findClass RX2 = some m.cls := findClass_of_methodNamed B.named
  have hlocks := B.notSynchronized
  have w := w0.start
  clear w0
  have hl := lv_entry ([.int p0]) (n := 1) (Nat.le_of_ble_eq_true rfl)
  rw [lg_entry_eq]
  generalize (lg_sl ([.int p0]) ++ List.replicate (1 - (lg_sl ([.int p0])).length) Slot.unset).toArray = ls at hl ⊢
  have hl : lv_has ls 1 [(0, .int p0)] := hl
  refine lv_iload_n hx hb dX2_signOf_0 rfl (lv_at hl 0 rfl) ?_
  refine lv_if_lt (tgt := 10) hx hb dX2_signOf_1 (by decide) (fun c1 => ?_) (fun c1 => ?_)
  · have c1 : ((i : Nat) : Int) < (0 : Int) := (i_lt hp0 (rfl : (0 : Int32).toInt = 0)).mp c1
    exfalso; omega
  · have c1 : ¬ (((i : Nat) : Int) < (0 : Int)) := fun q => c1 ((i_lt hp0 (rfl : (0 : Int32).toInt = 0)).mpr q)
    refine lv_iload_n hx hb dX2_signOf_4 rfl (lv_at hl 0 rfl) ?_
    refine lv_bipush (v := 14) hx hb dX2_signOf_5 (by decide) ?_
    refine lv_icmp_lt (tgt := 14) hx hb dX2_signOf_7 (by decide) (fun c2 => ?_) (fun c2 => ?_)
    · have c2 : ((i : Nat) : Int) < ((14 : Nat) : Int) := (i_lt hp0 (by decide : (14 : Int32).toInt = ((14 : Nat) : Int))).mp c2
      refine va_ldcS hx hb hown w.r1 dX2_signOf_14 ?_
      refine lv_iload_n hx hb dX2_signOf_16 rfl (lv_at hl 0 rfl) ?_
      refine r_callI w (va_runV (As := [.int p0]) (rest := []) ⟨hx, hb, hml, hown, hts⟩ (c_J0_charAt_5068e l p0 hp0 (by omega)) (cwV 1 hts gX2_signOf_J0_charAt_5068e rfl rfl rfl (by decide +kernel) ⟨Nat.le_of_ble_eq_true rfl, Nat.le_of_ble_eq_true rfl⟩) (r_preK w) rfl rfl hl.1 rfl (lv_room (Nat.le_of_ble_eq_true rfl)) dX2_signOf_17 ⟨Nat.zero_le _, Nat.zero_le _⟩) (fun r4 h3 H locs hp w => ?_)
      obtain ⟨eh_, qq5⟩ := hp
      have eh_ := eh_.symm
      subst eh_
      refine r_iret (v := r4) hx hb hr hlocks w dX2_signOf_20 ?_
      exact ⟨rfl, qq5⟩
    · have c2 : ¬ (((i : Nat) : Int) < ((14 : Nat) : Int)) := fun q => c2 ((i_lt hp0 (by decide : (14 : Int32).toInt = ((14 : Nat) : Int))).mpr q)
      exfalso; omega

