-- ===== the text of the letters, as a String of the JDK =====
section STRW
variable {p : Program} {l : Launch} {e : Env} {R : Room} {s : State} {m : MethodId} {args : Array Value} {below : List Frame} {meth : Method} {c : Code} {H : Heap} {locs : List Loc} {g : GE} {A : Nat → Prop} {h : Nat → va_E}
theorem WD.zc (w : WD g A s h H locs) : va_Z "java/lang/String" "COMPACT_STRINGS" "Z" (.int 1) A s s.heap := w.2.2.2.2.2.2.2.2.1
theorem WD.ks (w : WD g A s h H locs) : vk_S 2 tlen tbyt (fun i => g.2.2.1 (g.2.2.2 + i)) (fun i => g.2.2.1 (g.2.2.2 + 2 + i)) A s s.heap := w.2.2.2.2.2.2.2.2.2.1
theorem WD.k1 (w : WD g A s h H locs) : va_OF "java/lang/String" "coder" "B" (.int 0) (g.2.2.1 (g.2.2.2 + 1)) A s s.heap ∧ va_OF "java/lang/String" "value" "[B" (.ref (g.2.2.1 (g.2.2.2 + 3))) (g.2.2.1 (g.2.2.2 + 1)) A s s.heap ∧ va_T .byte (g.2.2.1 (g.2.2.2 + 3)) 14 (fun j => .int ((tbyt.getD 1 []).getD j 0)) A s s.heap := (w.ks.1 1 (by decide)).2
theorem WD.r1 (w : WD g A s h H locs) : vk_R "EarlyValues$Letters" 11 tx1 (g.2.2.1 (g.2.2.2 + 1)) s := w.2.2.2.2.2.2.2.2.2.2.2.1
theorem WD.zs (w : WD g A s h H locs) : va_Zq "jdk/internal/util/Preconditions" "SIOOBE_FORMATTER" "Ljava/util/function/BiFunction;" A s s.heap := w.2.2.2.2.2.2.2.2.2.2.2.2
theorem WD.k0 (w : WD g A s h H locs) : va_OF "java/lang/String" "coder" "B" (.int 0) (g.2.2.1 (g.2.2.2 + 0)) A s s.heap ∧ va_OF "java/lang/String" "value" "[B" (.ref (g.2.2.1 (g.2.2.2 + 2))) (g.2.2.1 (g.2.2.2 + 0)) A s s.heap ∧ va_T .byte (g.2.2.1 (g.2.2.2 + 2)) 41 (fun j => .int ((tbyt.getD 0 []).getD j 0)) A s s.heap := (w.ks.1 0 (by decide)).2
theorem WD.r0 (w : WD g A s h H locs) : vk_R "EarlyValues" 65 tx0 (g.2.2.1 (g.2.2.2 + 0)) s := w.2.2.2.2.2.2.2.2.2.2.1
theorem r_preK0 {As : List Value} (w : WD g A s h H locs) : PreV s H "java/lang/String" (g.2.2.1 (g.2.2.2 + 0)) (va_Pc (.ref (g.2.2.1 (g.2.2.2 + 0)) :: As) (Wd g h)) As :=
  ⟨fun a U g' mk z => ⟨z.1, z.2.1, va_K.moved (u := U) (U := U.calling g' mk a) (Vm.Alike.refl U.vm) z.2.2.1, z.2.2.2.1, EV.same (u := U) (U := U.calling g' mk a) rfl z.2.2.2.2⟩, vk_recv w.ks (i := 0) (by decide) w.2.2.2.1, fun U hU hW => ⟨rfl, by rw [hU]; exact w.2.1, va_K.moved hW.alike w.1, w.2.2.1.weaken (fun _ _ _ _ => trivial), w.2.2.2.2.step w.2.2.2.1 hU hW w.sub⟩⟩
theorem r_preK {As : List Value} (w : WD g A s h H locs) : PreV s H "java/lang/String" (g.2.2.1 (g.2.2.2 + 1)) (va_Pc (.ref (g.2.2.1 (g.2.2.2 + 1)) :: As) (Wd g h)) As :=
  ⟨fun a U g' mk z => ⟨z.1, z.2.1, va_K.moved (u := U) (U := U.calling g' mk a) (Vm.Alike.refl U.vm) z.2.2.1, z.2.2.2.1, EV.same (u := U) (U := U.calling g' mk a) rfl z.2.2.2.2⟩, vk_recv w.ks (i := 1) (by decide) w.2.2.2.1, fun U hU hW => ⟨rfl, by rw [hU]; exact w.2.1, va_K.moved hW.alike w.1, w.2.2.1.weaken (fun _ _ _ _ => trivial), w.2.2.2.2.step w.2.2.2.1 hU hW w.sub⟩⟩
end STRW
theorem tb1_all : (List.range 14).all (fun j => (tbyt.getD 1 []).getD j 0 == nI (mCode j)) = true := by decide +kernel
theorem tb1 {j : Nat} (h : j < 14) : (tbyt.getD 1 []).getD j 0 = nI (mCode j) := eq_of_beq (all_range tb1_all h)
/-- the signs of the start's text -/
def sCode (j : Nat) : Nat := [110, 50, 49, 50, 59, 102, 48, 44, 63, 97, 48, 109, 97, 98, 111, 59, 102, 48, 44, 43, 97, 63, 97, 49, 109, 97, 111, 59, 102, 49, 44, 63, 97, 98, 50, 109, 98, 43, 97, 98, 59].getD j 0
theorem tb0_all : (List.range 41).all (fun j => (tbyt.getD 0 []).getD j 0 == nI (sCode j)) = true := by decide +kernel
theorem tb0 {j : Nat} (h : j < 41) : (tbyt.getD 0 []).getD j 0 = nI (sCode j) := eq_of_beq (all_range tb0_all h)
theorem sCode_all : (List.range 41).all (fun j => decide (32 ≤ sCode j) && decide (sCode j ≤ 126)) = true := by decide +kernel
theorem sCode_in {j : Nat} (h : j < 41) : 32 ≤ sCode j ∧ sCode j ≤ 126 := by
  have := all_range sCode_all h
  simp only [Bool.and_eq_true, decide_eq_true_eq] at this
  exact this
theorem mCode_le {j : Nat} (h : j < 14) : mCode j < 128 := by have := mCode_c h; omega
theorem i2c_all : (List.range 128).all (fun k => ((nI k).toUInt32 % 65536).toInt32 == nI k) = true := by decide +kernel
theorem i2c_id {x : Int32} {a : Nat} (h : x.toInt = ((a : Nat) : Int)) (ha : a < 128) : (x.toUInt32 % 65536).toInt32 = x := by
  rw [i_ofN h]
  exact eq_of_beq (all_range i2c_all ha)
theorem i255 {x y : Int32} {a : Nat} (h : x.toInt = ((a : Nat) : Int)) (ha : a < 128) (e : y = x &&& 255) : y.toInt = ((a : Nat) : Int) := by
  have q : (List.range 128).all (fun k => (nI k &&& 255) == nI k) = true := by decide +kernel
  rw [e, i_ofN h, eq_of_beq (all_range q ha), nI_toInt (by omega)]
theorem mNum_no {c : Int} (h : ∀ j, j < 14 → ((mCode j : Nat) : Int) ≠ c) : mNum c = 14 := by
  have h1 := mNum_c c
  rcases Nat.lt_or_ge (mNum c) 14 with q | q
  · exact absurd (mCode_num q) (h _ q)
  · omega
theorem i_min {x y z : Int32} {a b : Int} (ez : z = if y < x then y else x) (hx : x.toInt = a) (hy : y.toInt = b) : z.toInt = min a b := by
  subst ez hx hy
  by_cases h : y < x
  · rw [if_pos h]
    have := Int32.lt_iff_toInt_lt.mp h
    omega
  · rw [if_neg h]
    have : ¬ y.toInt < x.toInt := fun q => h (Int32.lt_iff_toInt_lt.mpr q)
    omega
abbrev rm_J0_isLatin1_aae02 : Room := { frames := 0, cells := 0, slots := 0, locals := 0 }
set_option maxHeartbeats 4000000 in
set_option maxRecDepth 100000 in
theorem c_J0_isLatin1_aae02 (l : Launch) {g : GE} {h : Nat → va_E} : MI l yJ0_isLatin1_aae02 wsJ0_isLatin1_aae02 rm_J0_isLatin1_aae02 [.ref (g.2.2.1 (g.2.2.2 + 1))] g h (fun r h2 => h2 = h ∧ r = 1) := by
  refine Met.ofW (cc := cJ0_isLatin1_aae02) (maxL := 1) (ret := (some .boolean)) (by decide) rfl ?_
  intro p e s m args below meth c s₁ B hml hv
  obtain ⟨rfl, w0⟩ := hv
  have hx := B.exec
  have hb := B.bytes
  have hr := B.returns
  have hts := atoms_spec (ws := wsJ0_isLatin1_aae02) B.pre
  have hown : s.vm.findClass RJ0 = some m.cls := findClass_of_methodNamed B.named
  have hlocks := B.notSynchronized
  have w := w0.start
  clear w0
  have hl := lv_entry ([.ref (g.2.2.1 (g.2.2.2 + 1))]) (n := 1) (Nat.le_of_ble_eq_true rfl)
  rw [lg_entry_eq]
  generalize (lg_sl ([.ref (g.2.2.1 (g.2.2.2 + 1))]) ++ List.replicate (1 - (lg_sl ([.ref (g.2.2.1 (g.2.2.2 + 1))])).length) Slot.unset).toArray = ls at hl ⊢
  have hl : lv_has ls 1 [(0, .ref (g.2.2.1 (g.2.2.2 + 1)))] := hl
  refine va_gets hx hb w.zc w.2.2.2.1 hown (hts (Cond.fieldLink RJ0 38 "java/lang/String" "COMPACT_STRINGS" "Z") (List.mem_of_getElem? (i := 1) (by decide +kernel))) (fun _ q => q) dJ0_isLatin1_aae02_0 ?_
  refine lv_if_eq (tgt := 17) hx hb dJ0_isLatin1_aae02_3 (by decide) (fun c1 => ?_) (fun c1 => ?_)
  · have c1 : ((1 : Nat) : Int) = (0 : Int) := (i_eq (by decide : (1 : Int32).toInt = ((1 : Nat) : Int)) (rfl : (0 : Int32).toInt = 0)).mp c1
    exfalso; omega
  · have c1 : ¬ (((1 : Nat) : Int) = (0 : Int)) := fun q => c1 ((i_eq (by decide : (1 : Int32).toInt = ((1 : Nat) : Int)) (rfl : (0 : Int32).toInt = 0)).mpr q)
    refine lv_aload_n hx hb dJ0_isLatin1_aae02_6 rfl (lv_at hl 0 rfl) ?_
    refine vk_getf hx hb w.k1.1 w.2.2.2.1 hown (hts (Cond.fieldLink RJ0 15 "java/lang/String" "coder" "B") (List.mem_of_getElem? (i := 2) (by decide +kernel))) (fun _ q => q) dJ0_isLatin1_aae02_7 ?_
    refine lv_if_ne (tgt := 17) hx hb dJ0_isLatin1_aae02_10 (by decide) (fun c2 => ?_) (fun c2 => ?_)
    · have c2 : ¬ (((0 : Nat) : Int) = (0 : Int)) := fun q => c2 ((i_eq (by decide : (0 : Int32).toInt = ((0 : Nat) : Int)) (rfl : (0 : Int32).toInt = 0)).mpr q)
      exfalso; omega
    · have c2 : ((0 : Nat) : Int) = (0 : Int) := (i_eq (by decide : (0 : Int32).toInt = ((0 : Nat) : Int)) (rfl : (0 : Int32).toInt = 0)).mp c2
      refine lv_iconst (v := 1) hx hb dJ0_isLatin1_aae02_13 (by decide) ?_
      refine lv_goto (tgt := 18) hx hb dJ0_isLatin1_aae02_14 (by decide) ?_
      refine r_zret (v := 1) hx hb hr rfl hlocks w dJ0_isLatin1_aae02_18 ?_
      exact ⟨rfl, rfl⟩

abbrev rm_J0_coder_7d493 : Room := { frames := 0, cells := 0, slots := 0, locals := 0 }
set_option maxHeartbeats 4000000 in
set_option maxRecDepth 100000 in
theorem c_J0_coder_7d493 (l : Launch) {g : GE} {h : Nat → va_E} : MI l yJ0_coder_7d493 wsJ0_coder_7d493 rm_J0_coder_7d493 [.ref (g.2.2.1 (g.2.2.2 + 1))] g h (fun r h2 => h2 = h ∧ r = 0) := by
  refine Met.ofW (cc := cJ0_coder_7d493) (maxL := 1) (ret := (some .byte)) (by decide) rfl ?_
  intro p e s m args below meth c s₁ B hml hv
  obtain ⟨rfl, w0⟩ := hv
  have hx := B.exec
  have hb := B.bytes
  have hr := B.returns
  have hts := atoms_spec (ws := wsJ0_coder_7d493) B.pre
  have hown : s.vm.findClass RJ0 = some m.cls := findClass_of_methodNamed B.named
  have hlocks := B.notSynchronized
  have w := w0.start
  clear w0
  have hl := lv_entry ([.ref (g.2.2.1 (g.2.2.2 + 1))]) (n := 1) (Nat.le_of_ble_eq_true rfl)
  rw [lg_entry_eq]
  generalize (lg_sl ([.ref (g.2.2.1 (g.2.2.2 + 1))]) ++ List.replicate (1 - (lg_sl ([.ref (g.2.2.1 (g.2.2.2 + 1))])).length) Slot.unset).toArray = ls at hl ⊢
  have hl : lv_has ls 1 [(0, .ref (g.2.2.1 (g.2.2.2 + 1)))] := hl
  refine va_gets hx hb w.zc w.2.2.2.1 hown (hts (Cond.fieldLink RJ0 38 "java/lang/String" "COMPACT_STRINGS" "Z") (List.mem_of_getElem? (i := 1) (by decide +kernel))) (fun _ q => q) dJ0_coder_7d493_0 ?_
  refine lv_if_eq (tgt := 13) hx hb dJ0_coder_7d493_3 (by decide) (fun c1 => ?_) (fun c1 => ?_)
  · have c1 : ((1 : Nat) : Int) = (0 : Int) := (i_eq (by decide : (1 : Int32).toInt = ((1 : Nat) : Int)) (rfl : (0 : Int32).toInt = 0)).mp c1
    exfalso; omega
  · have c1 : ¬ (((1 : Nat) : Int) = (0 : Int)) := fun q => c1 ((i_eq (by decide : (1 : Int32).toInt = ((1 : Nat) : Int)) (rfl : (0 : Int32).toInt = 0)).mpr q)
    refine lv_aload_n hx hb dJ0_coder_7d493_6 rfl (lv_at hl 0 rfl) ?_
    refine vk_getf hx hb w.k1.1 w.2.2.2.1 hown (hts (Cond.fieldLink RJ0 15 "java/lang/String" "coder" "B") (List.mem_of_getElem? (i := 2) (by decide +kernel))) (fun _ q => q) dJ0_coder_7d493_7 ?_
    refine lv_goto (tgt := 14) hx hb dJ0_coder_7d493_10 (by decide) ?_
    refine r_zret (v := 0) hx hb hr rfl hlocks w dJ0_coder_7d493_14 ?_
    exact ⟨rfl, rfl⟩

abbrev rm_J0_length_8abf5 : Room := { frames := 1, cells := 0, slots := 0, locals := 20 }
set_option maxHeartbeats 4000000 in
set_option maxRecDepth 100000 in
theorem c_J0_length_8abf5 (l : Launch) {g : GE} {h : Nat → va_E} : MI l yJ0_length_8abf5 wsJ0_length_8abf5 rm_J0_length_8abf5 [.ref (g.2.2.1 (g.2.2.2 + 1))] g h (fun r h2 => h2 = h ∧ r = 14) := by
  refine Met.ofW (cc := cJ0_length_8abf5) (maxL := 1) (ret := (some .int)) (by decide) rfl ?_
  intro p e s m args below meth c s₁ B hml hv
  obtain ⟨rfl, w0⟩ := hv
  have hx := B.exec
  have hb := B.bytes
  have hr := B.returns
  have hts := atoms_spec (ws := wsJ0_length_8abf5) B.pre
  have hown : s.vm.findClass RJ0 = some m.cls := findClass_of_methodNamed B.named
  have hlocks := B.notSynchronized
  have w := w0.start
  clear w0
  have hl := lv_entry ([.ref (g.2.2.1 (g.2.2.2 + 1))]) (n := 1) (Nat.le_of_ble_eq_true rfl)
  rw [lg_entry_eq]
  generalize (lg_sl ([.ref (g.2.2.1 (g.2.2.2 + 1))]) ++ List.replicate (1 - (lg_sl ([.ref (g.2.2.1 (g.2.2.2 + 1))])).length) Slot.unset).toArray = ls at hl ⊢
  have hl : lv_has ls 1 [(0, .ref (g.2.2.1 (g.2.2.2 + 1)))] := hl
  refine lv_aload_n hx hb dJ0_length_8abf5_0 rfl (lv_at hl 0 rfl) ?_
  refine vk_getf hx hb w.k1.2.1 w.2.2.2.1 hown (hts (Cond.fieldLink RJ0 9 "java/lang/String" "value" "[B") (List.mem_of_getElem? (i := 1) (by decide +kernel))) (fun _ q => q) dJ0_length_8abf5_1 ?_
  refine va_tlen (v := 14) hx hb w.k1.2.2 w.2.2.2.1 (by decide) dJ0_length_8abf5_4 ?_
  refine lv_aload_n hx hb dJ0_length_8abf5_5 rfl (lv_at hl 0 rfl) ?_
  refine r_callI w (va_runV (As := []) (rest := [.int 14]) ⟨hx, hb, hml, hown, hts⟩ (c_J0_coder_7d493 l) (cwV 0 hts gJ0_length_8abf5_J0_coder_7d493 rfl rfl rfl (by decide +kernel) ⟨Nat.le_of_ble_eq_true rfl, Nat.le_of_ble_eq_true rfl⟩) (r_preK w) rfl rfl hl.1 rfl (lv_room (Nat.le_of_ble_eq_true rfl)) dJ0_length_8abf5_6 ⟨Nat.zero_le _, Nat.zero_le _⟩) (fun r2 h1 H locs hp w => ?_)
  obtain ⟨eh_, qq3⟩ := hp
  have eh_ := eh_.symm
  subst eh_
  subst qq3
  refine lv_ishr hx hb dJ0_length_8abf5_9 ?_
  refine lv_topi (fun y4 ey4 => ?_)
  refine r_iret (v := y4) hx hb hr hlocks w dJ0_length_8abf5_10 ?_
  exact ⟨rfl, by rw [ey4]; decide⟩

abbrev rm_J1_canEncode_9a6ad : Room := { frames := 0, cells := 0, slots := 0, locals := 0 }
set_option maxHeartbeats 4000000 in
set_option maxRecDepth 100000 in
theorem c_J1_canEncode_9a6ad (l : Launch) {g : GE} {h : Nat → va_E} {ch : Nat} (p0 : Int32) (hp0 : p0.toInt = (ch : Int)) (hc : ch < 128) : MI l yJ1_canEncode_9a6ad wsJ1_canEncode_9a6ad rm_J1_canEncode_9a6ad [.int p0] g h (fun r h2 => h2 = h ∧ r = 1) := by
  refine Met.ofW (cc := cJ1_canEncode_9a6ad) (maxL := 1) (ret := (some .boolean)) (by decide) rfl ?_
  intro p e s m args below meth c s₁ B hml hv
  obtain ⟨rfl, w0⟩ := hv
  have hx := B.exec
  have hb := B.bytes
  have hr := B.returns
  have hts := atoms_spec (ws := wsJ1_canEncode_9a6ad) B.pre
  have hown : s.vm.findClass RJ1 = some m.cls := findClass_of_methodNamed B.named
  have hlocks := B.notSynchronized
  have w := w0.start
  clear w0
  have hl := lv_entry ([.int p0]) (n := 1) (Nat.le_of_ble_eq_true rfl)
  rw [lg_entry_eq]
  generalize (lg_sl ([.int p0]) ++ List.replicate (1 - (lg_sl ([.int p0])).length) Slot.unset).toArray = ls at hl ⊢
  have hl : lv_has ls 1 [(0, .int p0)] := hl
  refine lv_iload_n hx hb dJ1_canEncode_9a6ad_0 rfl (lv_at hl 0 rfl) ?_
  refine lv_if_lt (tgt := 15) hx hb dJ1_canEncode_9a6ad_1 (by decide) (fun c1 => ?_) (fun c1 => ?_)
  · have c1 : ((ch : Nat) : Int) < (0 : Int) := (i_lt hp0 (rfl : (0 : Int32).toInt = 0)).mp c1
    exfalso; omega
  · have c1 : ¬ (((ch : Nat) : Int) < (0 : Int)) := fun q => c1 ((i_lt hp0 (rfl : (0 : Int32).toInt = 0)).mpr q)
    refine lv_iload_n hx hb dJ1_canEncode_9a6ad_4 rfl (lv_at hl 0 rfl) ?_
    refine lv_sipush (v := 255) hx hb dJ1_canEncode_9a6ad_5 (by decide) ?_
    refine lv_icmp_gt (tgt := 15) hx hb dJ1_canEncode_9a6ad_8 (by decide) (fun c2 => ?_) (fun c2 => ?_)
    · have c2 : ((255 : Nat) : Int) < ((ch : Nat) : Int) := (i_lt (by decide : (255 : Int32).toInt = ((255 : Nat) : Int)) hp0).mp c2
      exfalso; omega
    · have c2 : ¬ (((255 : Nat) : Int) < ((ch : Nat) : Int)) := fun q => c2 ((i_lt (by decide : (255 : Int32).toInt = ((255 : Nat) : Int)) hp0).mpr q)
      refine lv_iconst (v := 1) hx hb dJ1_canEncode_9a6ad_11 (by decide) ?_
      refine lv_goto (tgt := 16) hx hb dJ1_canEncode_9a6ad_12 (by decide) ?_
      refine r_zret (v := 1) hx hb hr rfl hlocks w dJ1_canEncode_9a6ad_16 ?_
      exact ⟨rfl, rfl⟩

abbrev rm_J1_indexOfChar_4cfef : Room := { frames := 0, cells := 0, slots := 0, locals := 0 }
set_option maxHeartbeats 4000000 in
set_option maxRecDepth 100000 in
theorem c_J1_indexOfChar_4cfef (l : Launch) {g : GE} {h : Nat → va_E} {ch : Nat} (p1 : Int32) (hp1 : p1.toInt = (ch : Int)) (hch : ch < 128) (p2 p3 : Int32) (hp2 : p2.toInt = ((0 : Nat) : Int)) (hp3 : p3.toInt = ((14 : Nat) : Int)) : MI l yJ1_indexOfChar_4cfef wsJ1_indexOfChar_4cfef rm_J1_indexOfChar_4cfef [.ref (g.2.2.1 (g.2.2.2 + 3)), .int p1, .int p2, .int p3] g h (fun r h2 => h2 = h ∧ ((mNum ((ch : Nat) : Int) < 14 ∧ r.toInt = ((mNum ((ch : Nat) : Int) : Nat) : Int)) ∨ (mNum ((ch : Nat) : Int) = 14 ∧ r.toInt = -1))) := by
  refine Met.ofW (cc := cJ1_indexOfChar_4cfef) (maxL := 6) (ret := (some .int)) (by decide) rfl ?_
  intro p e s m args below meth c s₁ B hml hv
  obtain ⟨rfl, w0⟩ := hv
  have hx := B.exec
  have hb := B.bytes
  have hr := B.returns
  have hts := atoms_spec (ws := wsJ1_indexOfChar_4cfef) B.pre
  have hown : s.vm.findClass RJ1 = some m.cls := findClass_of_methodNamed B.named
  have hlocks := B.notSynchronized
  have w := w0.start
  clear w0
  have hl := lv_entry ([.ref (g.2.2.1 (g.2.2.2 + 3)), .int p1, .int p2, .int p3]) (n := 6) (Nat.le_of_ble_eq_true rfl)
  rw [lg_entry_eq]
  generalize (lg_sl ([.ref (g.2.2.1 (g.2.2.2 + 3)), .int p1, .int p2, .int p3]) ++ List.replicate (6 - (lg_sl ([.ref (g.2.2.1 (g.2.2.2 + 3)), .int p1, .int p2, .int p3])).length) Slot.unset).toArray = ls at hl ⊢
  have hl : lv_has ls 6 [(0, .ref (g.2.2.1 (g.2.2.2 + 3))), (1, .int p1), (2, .int p2), (3, .int p3)] := hl
  have cuts : ∀ N : Nat, (∀ (i : Nat) (x5 : Int32) (hc : Nat → va_E) (H : Heap) (locs : List Loc) (ls : Array Slot), WD g (inW g) s hc H locs → lv_has ls 6 [(0, .ref (g.2.2.1 (g.2.2.2 + 3))), (1, .int p1), (3, .int p3), (4, .int p1), (5, .int x5)] → (i ≤ 14) → (x5.toInt = ((i : Nat) : Int)) → (∀ j, j < i → mCode j ≠ ch) → (hc = h) → 15 - i < N → W p l e (headSpec wsJ1_indexOfChar_4cfef rm_J1_indexOfChar_4cfef).room s m ([.ref (g.2.2.1 (g.2.2.2 + 3)), .int p1, .int p2, .int p3] : List Value).toArray below meth c H locs 0 0 (MQ below (va_Qi (fun r h2 => h2 = h ∧ ((mNum ((ch : Nat) : Int) < 14 ∧ r.toInt = ((mNum ((ch : Nat) : Int) : Nat) : Int)) ∨ (mNum ((ch : Nat) : Int) = 14 ∧ r.toInt = -1))) (Wd g) (inW g)) ([.ref (g.2.2.1 (g.2.2.2 + 3)), .int p1, .int p2, .int p3] : List Value).toArray s 0 0 (inW g)) (F0 m 7 ls [])) := by
    intro N
    induction N with
    | zero => exact by intros; omega
    | succ N ih =>
      have ih7 := ih
      · intro i x5 hc H locs ls w hl hi hx5 hno hh hN_
        refine lv_iload hx hb dJ1_indexOfChar_4cfef_7 (lv_at hl 4 rfl) ?_
        refine lv_iload_n hx hb dJ1_indexOfChar_4cfef_9 rfl (lv_at hl 2 rfl) ?_
        refine lv_icmp_ge (tgt := 31) hx hb dJ1_indexOfChar_4cfef_10 (by decide) (fun c1 => ?_) (fun c1 => ?_)
        · have c1 : ((14 : Nat) : Int) ≤ ((i : Nat) : Int) := (i_le hp3 hx5).mp c1
          refine lv_iconst (v := (-1)) hx hb dJ1_indexOfChar_4cfef_31 (by decide) ?_
          refine r_iret (v := (-1)) hx hb hr hlocks w dJ1_indexOfChar_4cfef_32 ?_
          exact ⟨hh, Or.inr ⟨mNum_no (fun j_ hj_ => by have := hno j_ (by omega); omega), rfl⟩⟩
        · have c1 : ¬ (((14 : Nat) : Int) ≤ ((i : Nat) : Int)) := fun q => c1 ((i_le hp3 hx5).mpr q)
          refine lv_aload_n hx hb dJ1_indexOfChar_4cfef_13 rfl (lv_at hl 0 rfl) ?_
          refine lv_iload hx hb dJ1_indexOfChar_4cfef_14 (lv_at hl 4 rfl) ?_
          refine va_tb (v := .int (nI (mCode i))) hx hb w.k1.2.2 w.2.2.2.1 (i_in hx5 (by omega)) (by rw [i_nat hx5]; exact congrArg Value.int (tb1 (by omega))) dJ1_indexOfChar_4cfef_16 ?_
          refine lv_iload hx hb dJ1_indexOfChar_4cfef_17 (lv_at hl 3 rfl) ?_
          refine lv_icmp_ne (tgt := 25) hx hb dJ1_indexOfChar_4cfef_19 (by decide) (fun c2 => ?_) (fun c2 => ?_)
          · have c2 : ¬ ((((mCode i) : Nat) : Int) = ((ch : Nat) : Int)) := fun q => c2 ((i_eq (nI_toInt (by have := mCode_le (j := i) (by omega); omega)) hp1).mpr q)
            obtain ⟨y3, ey3⟩ : ∃ y : Int32, y = x5 + (1) := ⟨_, rfl⟩
            have ty3 : y3.toInt = (((i + 1) : Nat) : Int) := i_addN ey3 hx5 (by decide : (1 : Int32).toInt = ((1 : Nat) : Int)) (by omega)
            refine lv_iinc (v := y3) (lv' := [(5, .int y3), (0, .ref (g.2.2.1 (g.2.2.2 + 3))), (1, .int p1), (3, .int p3), (4, .int p1)]) hx hb dJ1_indexOfChar_4cfef_25 hl (k := 4) rfl (by rw [ey3]; rfl) (by decide) rfl (fun ls hl => ?_)
            refine lv_goto (tgt := 7) hx hb dJ1_indexOfChar_4cfef_28 (by decide) ?_
            exact ih7 (i + 1) y3 hc _ _ _ w (lv_sub hl [1, 2, 3, 4, 0] rfl) (by omega) ty3 (fun j_ hj_ => by rcases Nat.lt_succ_iff_lt_or_eq.mp hj_ with z_ | z_; exact hno j_ z_; rw [z_]; omega) hh (by omega)
          · have c2 : (((mCode i) : Nat) : Int) = ((ch : Nat) : Int) := (i_eq (nI_toInt (by have := mCode_le (j := i) (by omega); omega)) hp1).mp c2
            refine lv_iload hx hb dJ1_indexOfChar_4cfef_22 (lv_at hl 4 rfl) ?_
            refine r_iret (v := x5) hx hb hr hlocks w dJ1_indexOfChar_4cfef_24 ?_
            have hm_ := mNum_code (k := i) (by omega)
            rw [show ((mCode i : Nat) : Int) = ((ch : Nat) : Int) by omega] at hm_
            exact ⟨hh, Or.inl ⟨by omega, hx5.trans (by omega)⟩⟩
  have ih7 := cuts (20)
  refine lv_iload_n hx hb dJ1_indexOfChar_4cfef_0 rfl (lv_at hl 1 rfl) ?_
  refine lv_i2b (v := p1) hx hb dJ1_indexOfChar_4cfef_1 (i2b_id hp1 (by omega)) ?_
  refine lv_istore (lv' := [(4, .int p1), (0, .ref (g.2.2.1 (g.2.2.2 + 3))), (1, .int p1), (2, .int p2), (3, .int p3)]) hx hb dJ1_indexOfChar_4cfef_2 hl (by decide) rfl (fun ls hl => ?_)
  refine lv_iload_n hx hb dJ1_indexOfChar_4cfef_4 rfl (lv_at hl 3 rfl) ?_
  refine lv_istore (lv' := [(5, .int p2), (4, .int p1), (0, .ref (g.2.2.1 (g.2.2.2 + 3))), (1, .int p1), (2, .int p2), (3, .int p3)]) hx hb dJ1_indexOfChar_4cfef_5 hl (by decide) rfl (fun ls hl => ?_)
  exact ih7 0 p2 h _ _ _ w (lv_sub hl [2, 3, 5, 1, 0] rfl) (Nat.zero_le _) hp2 (fun j_ hj_ => absurd hj_ (Nat.not_lt_zero _)) rfl (by omega)

abbrev rm_J1_indexOf_4cfef : Room := { frames := 1, cells := 0, slots := 0, locals := 25 }
set_option maxHeartbeats 4000000 in
set_option maxRecDepth 100000 in
theorem c_J1_indexOf_4cfef (l : Launch) {g : GE} {h : Nat → va_E} {ch : Nat} (p1 : Int32) (hp1 : p1.toInt = (ch : Int)) (hch : ch < 128) : MI l yJ1_indexOf_4cfef wsJ1_indexOf_4cfef rm_J1_indexOf_4cfef [.ref (g.2.2.1 (g.2.2.2 + 3)), .int p1, .int 0, .int 14] g h (fun r h2 => h2 = h ∧ ((mNum ((ch : Nat) : Int) < 14 ∧ r.toInt = ((mNum ((ch : Nat) : Int) : Nat) : Int)) ∨ (mNum ((ch : Nat) : Int) = 14 ∧ r.toInt = -1))) := by
  refine Met.ofW (cc := cJ1_indexOf_4cfef) (maxL := 4) (ret := (some .int)) (by decide) rfl ?_
  intro p e s m args below meth c s₁ B hml hv
  obtain ⟨rfl, w0⟩ := hv
  have hx := B.exec
  have hb := B.bytes
  have hr := B.returns
  have hts := atoms_spec (ws := wsJ1_indexOf_4cfef) B.pre
  have hown : s.vm.findClass RJ1 = some m.cls := findClass_of_methodNamed B.named
  have hlocks := B.notSynchronized
  have w := w0.start
  clear w0
  have hl := lv_entry ([.ref (g.2.2.1 (g.2.2.2 + 3)), .int p1, .int 0, .int 14]) (n := 4) (Nat.le_of_ble_eq_true rfl)
  rw [lg_entry_eq]
  generalize (lg_sl ([.ref (g.2.2.1 (g.2.2.2 + 3)), .int p1, .int 0, .int 14]) ++ List.replicate (4 - (lg_sl ([.ref (g.2.2.1 (g.2.2.2 + 3)), .int p1, .int 0, .int 14])).length) Slot.unset).toArray = ls at hl ⊢
  have hl : lv_has ls 4 [(0, .ref (g.2.2.1 (g.2.2.2 + 3))), (1, .int p1), (2, .int 0), (3, .int 14)] := hl
  refine lv_iload_n hx hb dJ1_indexOf_4cfef_0 rfl (lv_at hl 1 rfl) ?_
  refine r_callI w (va_runS (As := [.int p1]) (rest := []) ⟨hx, hb, hml, hown, hts⟩ (c_J1_canEncode_9a6ad l p1 hp1 (by omega)) (va_cwS 1 hts gJ1_indexOf_4cfef_J1_canEncode_9a6ad rfl rfl rfl (by decide +kernel) ⟨Nat.le_of_ble_eq_true rfl, Nat.le_of_ble_eq_true rfl⟩) (r_preS w) rfl rfl hl.1 rfl (lv_room (Nat.le_of_ble_eq_true rfl)) dJ1_indexOf_4cfef_1 ⟨Nat.zero_le _, Nat.zero_le _⟩) (fun r2 h1 H locs hp w => ?_)
  obtain ⟨eh_, qq3⟩ := hp
  have eh_ := eh_.symm
  subst eh_
  subst qq3
  refine lv_if_ne (tgt := 9) hx hb dJ1_indexOf_4cfef_4 (by decide) (fun c4 => ?_) (fun c4 => ?_)
  · have c4 : ¬ (((1 : Nat) : Int) = (0 : Int)) := fun q => c4 ((i_eq (by decide : (1 : Int32).toInt = ((1 : Nat) : Int)) (rfl : (0 : Int32).toInt = 0)).mpr q)
    refine lv_iload_n hx hb dJ1_indexOf_4cfef_9 rfl (lv_at hl 2 rfl) ?_
    refine lv_iconst (v := 0) hx hb dJ1_indexOf_4cfef_10 (by decide) ?_
    refine va_mmax hx hb (hml.trans hl.1.symm) hown (hts (Cond.methodLink RJ1 92 Lib.Math.max.name) (List.mem_of_getElem? (i := 1) (by decide +kernel))) (hts (Cond.static Lib.Math.max.name) (List.mem_of_getElem? (i := 2) (by decide +kernel))) (hts (Cond.initialized "java/lang/Math") (List.mem_of_getElem? (i := 3) (by decide +kernel))) (hts (Cond.code Lib.Math.max.name Lib.Math.max.code 2 (some .int)) (List.mem_of_getElem? (i := 4) (by decide +kernel))) (Nat.le_of_ble_eq_true rfl) (Nat.le_of_ble_eq_true rfl) (Nat.zero_le _) (Nat.zero_le _) dJ1_indexOf_4cfef_11 ?_
    refine lv_topi (fun y5 ey5 => ?_)
    have ty5 : y5.toInt = max (((0 : Nat) : Int)) (((0 : Nat) : Int)) := i_max ey5 (by decide : (0 : Int32).toInt = ((0 : Nat) : Int)) (by decide : (0 : Int32).toInt = ((0 : Nat) : Int))
    refine lv_istore_n (lv' := [(2, .int y5), (0, .ref (g.2.2.1 (g.2.2.2 + 3))), (1, .int p1), (3, .int 14)]) hx hb dJ1_indexOf_4cfef_14 rfl hl (by decide) rfl (fun ls hl => ?_)
    refine lv_iload_n hx hb dJ1_indexOf_4cfef_15 rfl (lv_at hl 3 rfl) ?_
    refine lv_aload_n hx hb dJ1_indexOf_4cfef_16 rfl (lv_at hl 1 rfl) ?_
    refine va_tlen (v := 14) hx hb w.k1.2.2 w.2.2.2.1 (by decide) dJ1_indexOf_4cfef_17 ?_
    refine va_mmin hx hb (hml.trans hl.1.symm) hown (hts (Cond.methodLink RJ1 38 Lib.Math.min.name) (List.mem_of_getElem? (i := 5) (by decide +kernel))) (hts (Cond.static Lib.Math.min.name) (List.mem_of_getElem? (i := 6) (by decide +kernel))) (hts (Cond.initialized "java/lang/Math") (List.mem_of_getElem? (i := 3) (by decide +kernel))) (hts (Cond.code Lib.Math.min.name Lib.Math.min.code 2 (some .int)) (List.mem_of_getElem? (i := 7) (by decide +kernel))) (Nat.le_of_ble_eq_true rfl) (Nat.le_of_ble_eq_true rfl) (Nat.zero_le _) (Nat.zero_le _) dJ1_indexOf_4cfef_18 ?_
    refine lv_topi (fun y6 ey6 => ?_)
    have ty6 : y6.toInt = min (((14 : Nat) : Int)) (((14 : Nat) : Int)) := i_min ey6 (by decide : (14 : Int32).toInt = ((14 : Nat) : Int)) (by decide : (14 : Int32).toInt = ((14 : Nat) : Int))
    refine lv_istore_n (lv' := [(3, .int y6), (2, .int y5), (0, .ref (g.2.2.1 (g.2.2.2 + 3))), (1, .int p1)]) hx hb dJ1_indexOf_4cfef_21 rfl hl (by decide) rfl (fun ls hl => ?_)
    refine lv_iload_n hx hb dJ1_indexOf_4cfef_22 rfl (lv_at hl 1 rfl) ?_
    refine lv_iload_n hx hb dJ1_indexOf_4cfef_23 rfl (lv_at hl 0 rfl) ?_
    refine lv_icmp_lt (tgt := 29) hx hb dJ1_indexOf_4cfef_24 (by decide) (fun c7 => ?_) (fun c7 => ?_)
    · have c7 : (max (((0 : Nat) : Int)) (((0 : Nat) : Int))) < (min (((14 : Nat) : Int)) (((14 : Nat) : Int))) := (i_lt ty5 ty6).mp c7
      refine lv_aload_n hx hb dJ1_indexOf_4cfef_29 rfl (lv_at hl 2 rfl) ?_
      refine lv_iload_n hx hb dJ1_indexOf_4cfef_30 rfl (lv_at hl 3 rfl) ?_
      refine lv_iload_n hx hb dJ1_indexOf_4cfef_31 rfl (lv_at hl 1 rfl) ?_
      refine lv_iload_n hx hb dJ1_indexOf_4cfef_32 rfl (lv_at hl 0 rfl) ?_
      refine r_callI w (va_runS (As := [.ref (g.2.2.1 (g.2.2.2 + 3)), .int p1, .int y5, .int y6]) (rest := []) ⟨hx, hb, hml, hown, hts⟩ (c_J1_indexOfChar_4cfef l p1 hp1 (by omega) y5 y6 (ty5.trans (by omega)) (ty6.trans (by omega))) (va_cwS 4 hts gJ1_indexOf_4cfef_J1_indexOfChar_4cfef rfl rfl rfl (by decide +kernel) ⟨Nat.le_of_ble_eq_true rfl, Nat.le_of_ble_eq_true rfl⟩) (r_preS w) rfl rfl hl.1 rfl (lv_room (Nat.le_of_ble_eq_true rfl)) dJ1_indexOf_4cfef_33 ⟨Nat.zero_le _, Nat.zero_le _⟩) (fun r9 h8 H locs hp w => ?_)
      obtain ⟨eh_, qq10⟩ := hp
      have eh_ := eh_.symm
      subst eh_
      refine r_iret (v := r9) hx hb hr hlocks w dJ1_indexOf_4cfef_36 ?_
      exact ⟨rfl, qq10⟩
    · have c7 : ¬ ((max (((0 : Nat) : Int)) (((0 : Nat) : Int))) < (min (((14 : Nat) : Int)) (((14 : Nat) : Int)))) := fun q => c7 ((i_lt ty5 ty6).mpr q)
      exfalso; omega
  · have c4 : ((1 : Nat) : Int) = (0 : Int) := (i_eq (by decide : (1 : Int32).toInt = ((1 : Nat) : Int)) (rfl : (0 : Int32).toInt = 0)).mp c4
    exfalso; omega

abbrev rm_J0_indexOf_7cf53 : Room := { frames := 2, cells := 0, slots := 0, locals := 48 }
set_option maxHeartbeats 4000000 in
set_option maxRecDepth 100000 in
theorem c_J0_indexOf_7cf53 (l : Launch) {g : GE} {h : Nat → va_E} {ch : Nat} (p1 : Int32) (hp1 : p1.toInt = (ch : Int)) (hch : ch < 128) : MI l yJ0_indexOf_7cf53 wsJ0_indexOf_7cf53 rm_J0_indexOf_7cf53 [.ref (g.2.2.1 (g.2.2.2 + 1)), .int p1, .int 0] g h (fun r h2 => h2 = h ∧ ((mNum ((ch : Nat) : Int) < 14 ∧ r.toInt = ((mNum ((ch : Nat) : Int) : Nat) : Int)) ∨ (mNum ((ch : Nat) : Int) = 14 ∧ r.toInt = -1))) := by
  refine Met.ofW (cc := cJ0_indexOf_7cf53) (maxL := 3) (ret := (some .int)) (by decide) rfl ?_
  intro p e s m args below meth c s₁ B hml hv
  obtain ⟨rfl, w0⟩ := hv
  have hx := B.exec
  have hb := B.bytes
  have hr := B.returns
  have hts := atoms_spec (ws := wsJ0_indexOf_7cf53) B.pre
  have hown : s.vm.findClass RJ0 = some m.cls := findClass_of_methodNamed B.named
  have hlocks := B.notSynchronized
  have w := w0.start
  clear w0
  have hl := lv_entry ([.ref (g.2.2.1 (g.2.2.2 + 1)), .int p1, .int 0]) (n := 3) (Nat.le_of_ble_eq_true rfl)
  rw [lg_entry_eq]
  generalize (lg_sl ([.ref (g.2.2.1 (g.2.2.2 + 1)), .int p1, .int 0]) ++ List.replicate (3 - (lg_sl ([.ref (g.2.2.1 (g.2.2.2 + 1)), .int p1, .int 0])).length) Slot.unset).toArray = ls at hl ⊢
  have hl : lv_has ls 3 [(0, .ref (g.2.2.1 (g.2.2.2 + 1))), (1, .int p1), (2, .int 0)] := hl
  refine lv_aload_n hx hb dJ0_indexOf_7cf53_0 rfl (lv_at hl 0 rfl) ?_
  refine r_callI w (va_runV (As := []) (rest := []) ⟨hx, hb, hml, hown, hts⟩ (c_J0_isLatin1_aae02 l) (cwV 0 hts gJ0_indexOf_7cf53_J0_isLatin1_aae02 rfl rfl rfl (by decide +kernel) ⟨Nat.le_of_ble_eq_true rfl, Nat.le_of_ble_eq_true rfl⟩) (r_preK w) rfl rfl hl.1 rfl (lv_room (Nat.le_of_ble_eq_true rfl)) dJ0_indexOf_7cf53_1 ⟨Nat.zero_le _, Nat.zero_le _⟩) (fun r2 h1 H locs hp w => ?_)
  obtain ⟨eh_, qq3⟩ := hp
  have eh_ := eh_.symm
  subst eh_
  subst qq3
  refine lv_if_eq (tgt := 23) hx hb dJ0_indexOf_7cf53_4 (by decide) (fun c4 => ?_) (fun c4 => ?_)
  · have c4 : ((1 : Nat) : Int) = (0 : Int) := (i_eq (by decide : (1 : Int32).toInt = ((1 : Nat) : Int)) (rfl : (0 : Int32).toInt = 0)).mp c4
    exfalso; omega
  · have c4 : ¬ (((1 : Nat) : Int) = (0 : Int)) := fun q => c4 ((i_eq (by decide : (1 : Int32).toInt = ((1 : Nat) : Int)) (rfl : (0 : Int32).toInt = 0)).mpr q)
    refine lv_aload_n hx hb dJ0_indexOf_7cf53_7 rfl (lv_at hl 0 rfl) ?_
    refine vk_getf hx hb w.k1.2.1 w.2.2.2.1 hown (hts (Cond.fieldLink RJ0 9 "java/lang/String" "value" "[B") (List.mem_of_getElem? (i := 1) (by decide +kernel))) (fun _ q => q) dJ0_indexOf_7cf53_8 ?_
    refine lv_iload_n hx hb dJ0_indexOf_7cf53_11 rfl (lv_at hl 1 rfl) ?_
    refine lv_iload_n hx hb dJ0_indexOf_7cf53_12 rfl (lv_at hl 2 rfl) ?_
    refine lv_aload_n hx hb dJ0_indexOf_7cf53_13 rfl (lv_at hl 0 rfl) ?_
    refine r_callI w (va_runV (As := []) (rest := [.int 0, .int p1, .ref (g.2.2.1 (g.2.2.2 + 3))]) ⟨hx, hb, hml, hown, hts⟩ (c_J0_length_8abf5 l) (cwV 0 hts gJ0_indexOf_7cf53_J0_length_8abf5 rfl rfl rfl (by decide +kernel) ⟨Nat.le_of_ble_eq_true rfl, Nat.le_of_ble_eq_true rfl⟩) (r_preK w) rfl rfl hl.1 rfl (lv_room (Nat.le_of_ble_eq_true rfl)) dJ0_indexOf_7cf53_14 ⟨Nat.zero_le _, Nat.zero_le _⟩) (fun r6 h5 H locs hp w => ?_)
    obtain ⟨eh_, qq7⟩ := hp
    have eh_ := eh_.symm
    subst eh_
    subst qq7
    refine r_callI w (va_runS (As := [.ref (g.2.2.1 (g.2.2.2 + 3)), .int p1, .int 0, .int 14]) (rest := []) ⟨hx, hb, hml, hown, hts⟩ (c_J1_indexOf_4cfef l p1 hp1 (by omega)) (va_cwS 4 hts gJ0_indexOf_7cf53_J1_indexOf_4cfef rfl rfl rfl (by decide +kernel) ⟨Nat.le_of_ble_eq_true rfl, Nat.le_of_ble_eq_true rfl⟩) (r_preS w) rfl rfl hl.1 rfl (lv_room (Nat.le_of_ble_eq_true rfl)) dJ0_indexOf_7cf53_17 ⟨Nat.zero_le _, Nat.zero_le _⟩) (fun r9 h8 H locs hp w => ?_)
    obtain ⟨eh_, qq10⟩ := hp
    have eh_ := eh_.symm
    subst eh_
    refine lv_goto (tgt := 36) hx hb dJ0_indexOf_7cf53_20 (by decide) ?_
    refine r_iret (v := r9) hx hb hr hlocks w dJ0_indexOf_7cf53_36 ?_
    exact ⟨rfl, qq10⟩

abbrev rm_J0_indexOf_0f7a4 : Room := { frames := 3, cells := 0, slots := 0, locals := 70 }
set_option maxHeartbeats 4000000 in
set_option maxRecDepth 100000 in
theorem c_J0_indexOf_0f7a4 (l : Launch) {g : GE} {h : Nat → va_E} {ch : Nat} (p1 : Int32) (hp1 : p1.toInt = (ch : Int)) (hch : ch < 128) : MI l yJ0_indexOf_0f7a4 wsJ0_indexOf_0f7a4 rm_J0_indexOf_0f7a4 [.ref (g.2.2.1 (g.2.2.2 + 1)), .int p1] g h (fun r h2 => h2 = h ∧ ((mNum ((ch : Nat) : Int) < 14 ∧ r.toInt = ((mNum ((ch : Nat) : Int) : Nat) : Int)) ∨ (mNum ((ch : Nat) : Int) = 14 ∧ r.toInt = -1))) := by
  refine Met.ofW (cc := cJ0_indexOf_0f7a4) (maxL := 2) (ret := (some .int)) (by decide) rfl ?_
  intro p e s m args below meth c s₁ B hml hv
  obtain ⟨rfl, w0⟩ := hv
  have hx := B.exec
  have hb := B.bytes
  have hr := B.returns
  have hts := atoms_spec (ws := wsJ0_indexOf_0f7a4) B.pre
  have hown : s.vm.findClass RJ0 = some m.cls := findClass_of_methodNamed B.named
  have hlocks := B.notSynchronized
  have w := w0.start
  clear w0
  have hl := lv_entry ([.ref (g.2.2.1 (g.2.2.2 + 1)), .int p1]) (n := 2) (Nat.le_of_ble_eq_true rfl)
  rw [lg_entry_eq]
  generalize (lg_sl ([.ref (g.2.2.1 (g.2.2.2 + 1)), .int p1]) ++ List.replicate (2 - (lg_sl ([.ref (g.2.2.1 (g.2.2.2 + 1)), .int p1])).length) Slot.unset).toArray = ls at hl ⊢
  have hl : lv_has ls 2 [(0, .ref (g.2.2.1 (g.2.2.2 + 1))), (1, .int p1)] := hl
  refine lv_aload_n hx hb dJ0_indexOf_0f7a4_0 rfl (lv_at hl 0 rfl) ?_
  refine lv_iload_n hx hb dJ0_indexOf_0f7a4_1 rfl (lv_at hl 1 rfl) ?_
  refine lv_iconst (v := 0) hx hb dJ0_indexOf_0f7a4_2 (by decide) ?_
  refine r_callI w (va_runV (As := [.int p1, .int 0]) (rest := []) ⟨hx, hb, hml, hown, hts⟩ (c_J0_indexOf_7cf53 l p1 hp1 (by omega)) (cwV 2 hts gJ0_indexOf_0f7a4_J0_indexOf_7cf53 rfl rfl rfl (by decide +kernel) ⟨Nat.le_of_ble_eq_true rfl, Nat.le_of_ble_eq_true rfl⟩) (r_preK w) rfl rfl hl.1 rfl (lv_room (Nat.le_of_ble_eq_true rfl)) dJ0_indexOf_0f7a4_3 ⟨Nat.zero_le _, Nat.zero_le _⟩) (fun r2 h1 H locs hp w => ?_)
  obtain ⟨eh_, qq3⟩ := hp
  have eh_ := eh_.symm
  subst eh_
  refine r_iret (v := r2) hx hb hr hlocks w dJ0_indexOf_0f7a4_6 ?_
  exact ⟨rfl, qq3⟩

abbrev rm_X2_numberOf : Room := { frames := 4, cells := 0, slots := 0, locals := 91 }
set_option maxHeartbeats 4000000 in
set_option maxRecDepth 100000 in
theorem c_X2_numberOf (l : Launch) {g : GE} {h : Nat → va_E} (p0 : Int32) : MI l yX2_numberOf wsX2_numberOf rm_X2_numberOf [.int p0] g h (fun r h2 => h2 = h ∧ ((mNum p0.toInt < 14 ∧ r.toInt = ((mNum p0.toInt : Nat) : Int)) ∨ (mNum p0.toInt = 14 ∧ r.toInt = -1))) := by
  refine Met.ofW (cc := cX2_numberOf) (maxL := 1) (ret := (some .int)) (by decide) rfl ?_
  intro p e s m args below meth c s₁ B hml hv
  obtain ⟨rfl, w0⟩ := hv
  have hx := B.exec
  have hb := B.bytes
  have hr := B.returns
  have hts := atoms_spec (ws := wsX2_numberOf) B.pre
  have hown : s.vm.findClass RX2 = some m.cls := findClass_of_methodNamed B.named
  have hlocks := B.notSynchronized
  have w := w0.start
  clear w0
  have hl := lv_entry ([.int p0]) (n := 1) (Nat.le_of_ble_eq_true rfl)
  rw [lg_entry_eq]
  generalize (lg_sl ([.int p0]) ++ List.replicate (1 - (lg_sl ([.int p0])).length) Slot.unset).toArray = ls at hl ⊢
  have hl : lv_has ls 1 [(0, .int p0)] := hl
  refine lv_iload_n hx hb dX2_numberOf_0 rfl (lv_at hl 0 rfl) ?_
  refine lv_bipush (v := 32) hx hb dX2_numberOf_1 (by decide) ?_
  refine lv_icmp_lt (tgt := 12) hx hb dX2_numberOf_3 (by decide) (fun c1 => ?_) (fun c1 => ?_)
  · have c1 : p0.toInt < ((32 : Nat) : Int) := (i_lt (rfl : p0.toInt = p0.toInt) (by decide : (32 : Int32).toInt = ((32 : Nat) : Int))).mp c1
    refine lv_iconst (v := (-1)) hx hb dX2_numberOf_12 (by decide) ?_
    refine lv_goto (tgt := 23) hx hb dX2_numberOf_13 (by decide) ?_
    refine r_iret (v := (-1)) hx hb hr hlocks w dX2_numberOf_23 ?_
    have hm_ := mNum_c p0.toInt
    exact ⟨rfl, Or.inr ⟨by omega, rfl⟩⟩
  · have c1 : ¬ (p0.toInt < ((32 : Nat) : Int)) := fun q => c1 ((i_lt (rfl : p0.toInt = p0.toInt) (by decide : (32 : Int32).toInt = ((32 : Nat) : Int))).mpr q)
    refine lv_iload_n hx hb dX2_numberOf_6 rfl (lv_at hl 0 rfl) ?_
    refine lv_bipush (v := 126) hx hb dX2_numberOf_7 (by decide) ?_
    refine lv_icmp_le (tgt := 16) hx hb dX2_numberOf_9 (by decide) (fun c2 => ?_) (fun c2 => ?_)
    · have c2 : p0.toInt ≤ ((126 : Nat) : Int) := (i_le (rfl : p0.toInt = p0.toInt) (by decide : (126 : Int32).toInt = ((126 : Nat) : Int))).mp c2
      obtain ⟨ch, hp1⟩ : ∃ q : Nat, p0.toInt = (q : Int) := ⟨p0.toInt.toNat, by omega⟩
      refine va_ldcS hx hb hown w.r1 dX2_numberOf_16 ?_
      refine lv_iload_n hx hb dX2_numberOf_18 rfl (lv_at hl 0 rfl) ?_
      refine lv_i2c (v := p0) hx hb dX2_numberOf_19 (i2c_id hp1 (by omega)) ?_
      refine r_callI w (va_runV (As := [.int p0]) (rest := []) ⟨hx, hb, hml, hown, hts⟩ (c_J0_indexOf_0f7a4 l p0 hp1 (by omega)) (cwV 1 hts gX2_numberOf_J0_indexOf_0f7a4 rfl rfl rfl (by decide +kernel) ⟨Nat.le_of_ble_eq_true rfl, Nat.le_of_ble_eq_true rfl⟩) (r_preK w) rfl rfl hl.1 rfl (lv_room (Nat.le_of_ble_eq_true rfl)) dX2_numberOf_20 ⟨Nat.zero_le _, Nat.zero_le _⟩) (fun r4 h3 H locs hp w => ?_)
      obtain ⟨eh_, qq5⟩ := hp
      have eh_ := eh_.symm
      subst eh_
      refine r_iret (v := r4) hx hb hr hlocks w dX2_numberOf_23 ?_
      rw [hp1]
      exact ⟨rfl, qq5⟩
    · have c2 : ¬ (p0.toInt ≤ ((126 : Nat) : Int)) := fun q => c2 ((i_le (rfl : p0.toInt = p0.toInt) (by decide : (126 : Int32).toInt = ((126 : Nat) : Int))).mpr q)
      refine lv_iconst (v := (-1)) hx hb dX2_numberOf_12 (by decide) ?_
      refine lv_goto (tgt := 23) hx hb dX2_numberOf_13 (by decide) ?_
      refine r_iret (v := (-1)) hx hb hr hlocks w dX2_numberOf_23 ?_
      have hm_ := mNum_c p0.toInt
      exact ⟨rfl, Or.inr ⟨by omega, rfl⟩⟩

