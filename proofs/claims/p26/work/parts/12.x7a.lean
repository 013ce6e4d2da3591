def mGrow (u k : Nat) : Prop := if u = 0 then k = 4 else if u = 1 then k = 0 else k ≠ 3
theorem i_max {x y z : Int32} {a b : Int} (ez : z = if x < y then y else x) (hx : x.toInt = a) (hy : y.toInt = b) : z.toInt = max a b := by
  subst ez hx hy
  by_cases h : x < y
  · rw [if_pos h]
    have := Int32.lt_iff_toInt_lt.mp h
    omega
  · rw [if_neg h]
    have : ¬ x.toInt < y.toInt := fun q => h (Int32.lt_iff_toInt_lt.mpr q)
    omega

abbrev rm_X6_less : Room := { frames := 1, cells := 0, slots := 0, locals := 13 }
set_option maxHeartbeats 4000000 in
set_option maxRecDepth 100000 in
theorem c_X6_less (l : Launch) {g : GE} {h : Nat → va_E} {v : Nat} {k0 : Nat} (p0 : Int32) (hp0 : p0.toInt = (k0 : Int)) (hk0 : k0 < 5) : MI l yX6_less wsX6_less rm_X6_less [.ref (g.2.2.1 v), .int p0] g h (fun r h2 => h2 = h ∧ r.toInt = (mLess 0 k0 : Int)) := by
  refine Met.ofW (cc := cX6_less) (maxL := 2) (ret := (some .int)) (by decide) rfl ?_
  intro p e s m args below meth c s₁ B hml hv
  obtain ⟨rfl, w0⟩ := hv
  have hx := B.exec
  have hb := B.bytes
  have hr := B.returns
  have hts := atoms_spec (ws := wsX6_less) B.pre
  have hown : s.vm.findClass RX6 = some m.cls := findClass_of_methodNamed B.named
  have hlocks := B.notSynchronized
  have w := w0.start
  clear w0
  have hl := lv_entry ([.ref (g.2.2.1 v), .int p0]) (n := 2) (Nat.le_of_ble_eq_true rfl)
  rw [lg_entry_eq]
  generalize (lg_sl ([.ref (g.2.2.1 v), .int p0]) ++ List.replicate (2 - (lg_sl ([.ref (g.2.2.1 v), .int p0])).length) Slot.unset).toArray = ls at hl ⊢
  have hl : lv_has ls 2 [(0, .ref (g.2.2.1 v)), (1, .int p0)] := hl
  refine lv_iload_n hx hb dX6_less_0 rfl (lv_at hl 1 rfl) ?_
  refine lv_iconst (v := 1) hx hb dX6_less_1 (by decide) ?_
  refine lv_isub hx hb dX6_less_2 ?_
  refine lv_topi (fun y1 ey1 => ?_)
  have ty1 : y1.toInt = ((k0 : Nat) : Int) - ((1 : Nat) : Int) := i_sub ey1 hp0 (by decide : (1 : Int32).toInt = ((1 : Nat) : Int)) (by omega)
  refine lv_iconst (v := 0) hx hb dX6_less_3 (by decide) ?_
  refine va_mmax hx hb (hml.trans hl.1.symm) hown (hts (Cond.methodLink RX6 9 Lib.Math.max.name) (List.mem_of_getElem? (i := 1) (by decide +kernel))) (hts (Cond.static Lib.Math.max.name) (List.mem_of_getElem? (i := 2) (by decide +kernel))) (hts (Cond.initialized "java/lang/Math") (List.mem_of_getElem? (i := 3) (by decide +kernel))) (hts (Cond.code Lib.Math.max.name Lib.Math.max.code 2 (some .int)) (List.mem_of_getElem? (i := 4) (by decide +kernel))) (Nat.le_of_ble_eq_true rfl) (Nat.le_of_ble_eq_true rfl) (Nat.zero_le _) (Nat.zero_le _) dX6_less_4 ?_
  refine lv_topi (fun y2 ey2 => ?_)
  have ty2 : y2.toInt = max ((((k0 : Nat) : Int) - ((1 : Nat) : Int))) (((0 : Nat) : Int)) := i_max ey2 ty1 (by decide : (0 : Int32).toInt = ((0 : Nat) : Int))
  refine r_iret (v := y2) hx hb hr hlocks w dX6_less_7 ?_
  refine ⟨rfl, ?_⟩
  rw [ty2]
  simp only [mLess, if_pos]
  omega

abbrev rm_X6_sum : Room := { frames := 0, cells := 0, slots := 0, locals := 0 }
set_option maxHeartbeats 4000000 in
set_option maxRecDepth 100000 in
theorem c_X6_sum (l : Launch) {g : GE} {h : Nat → va_E} {v : Nat} {k0 k1 : Nat} (p0 p1 : Int32) (hp0 : p0.toInt = (k0 : Int)) (hp1 : p1.toInt = (k1 : Int)) (hk0 : k0 < 5) (hk1 : k1 < 5) : MI l yX6_sum wsX6_sum rm_X6_sum [.ref (g.2.2.1 v), .int p0, .int p1] g h (fun r h2 => h2 = h ∧ r.toInt = (mSum 0 k0 k1 : Int)) := by
  refine Met.ofW (cc := cX6_sum) (maxL := 3) (ret := (some .int)) (by decide) rfl ?_
  intro p e s m args below meth c s₁ B hml hv
  obtain ⟨rfl, w0⟩ := hv
  have hx := B.exec
  have hb := B.bytes
  have hr := B.returns
  have hts := atoms_spec (ws := wsX6_sum) B.pre
  have hown : s.vm.findClass RX6 = some m.cls := findClass_of_methodNamed B.named
  have hlocks := B.notSynchronized
  have w := w0.start
  clear w0
  have hl := lv_entry ([.ref (g.2.2.1 v), .int p0, .int p1]) (n := 3) (Nat.le_of_ble_eq_true rfl)
  rw [lg_entry_eq]
  generalize (lg_sl ([.ref (g.2.2.1 v), .int p0, .int p1]) ++ List.replicate (3 - (lg_sl ([.ref (g.2.2.1 v), .int p0, .int p1])).length) Slot.unset).toArray = ls at hl ⊢
  have hl : lv_has ls 3 [(0, .ref (g.2.2.1 v)), (1, .int p0), (2, .int p1)] := hl
  refine lv_iload_n hx hb dX6_sum_0 rfl (lv_at hl 1 rfl) ?_
  refine lv_iload_n hx hb dX6_sum_1 rfl (lv_at hl 2 rfl) ?_
  refine lv_iadd hx hb dX6_sum_2 ?_
  refine lv_topi (fun y1 ey1 => ?_)
  have ty1 : y1.toInt = (((k0 + k1) : Nat) : Int) := i_addN ey1 hp0 hp1 (by omega)
  refine lv_iconst (v := 3) hx hb dX6_sum_3 (by decide) ?_
  refine lv_iand hx hb dX6_sum_4 ?_
  refine lv_topi (fun y2 ey2 => ?_)
  refine r_iret (v := y2) hx hb hr hlocks w dX6_sum_5 ?_
  refine ⟨rfl, ?_⟩
  simp only [mSum, if_pos]
  rw [ey2, i_ofN ty1, pk_andN (by omega) 2 (by decide), nI_toInt (by omega)]

abbrev rm_X6_chosen : Room := { frames := 0, cells := 0, slots := 0, locals := 0 }
set_option maxHeartbeats 4000000 in
set_option maxRecDepth 100000 in
theorem c_X6_chosen (l : Launch) {g : GE} {h : Nat → va_E} {v : Nat} {k0 k1 k2 : Nat} (p0 p1 p2 : Int32) (hp0 : p0.toInt = (k0 : Int)) (hp1 : p1.toInt = (k1 : Int)) (hp2 : p2.toInt = (k2 : Int)) (hk0 : k0 < 5) (hk1 : k1 < 5) (hk2 : k2 < 5) : MI l yX6_chosen wsX6_chosen rm_X6_chosen [.ref (g.2.2.1 v), .int p0, .int p1, .int p2] g h (fun r h2 => h2 = h ∧ r.toInt = (mCh 0 k0 k1 k2 : Int)) := by
  refine Met.ofW (cc := cX6_chosen) (maxL := 4) (ret := (some .int)) (by decide) rfl ?_
  intro p e s m args below meth c s₁ B hml hv
  obtain ⟨rfl, w0⟩ := hv
  have hx := B.exec
  have hb := B.bytes
  have hr := B.returns
  have hts := atoms_spec (ws := wsX6_chosen) B.pre
  have hown : s.vm.findClass RX6 = some m.cls := findClass_of_methodNamed B.named
  have hlocks := B.notSynchronized
  have w := w0.start
  clear w0
  have hl := lv_entry ([.ref (g.2.2.1 v), .int p0, .int p1, .int p2]) (n := 4) (Nat.le_of_ble_eq_true rfl)
  rw [lg_entry_eq]
  generalize (lg_sl ([.ref (g.2.2.1 v), .int p0, .int p1, .int p2]) ++ List.replicate (4 - (lg_sl ([.ref (g.2.2.1 v), .int p0, .int p1, .int p2])).length) Slot.unset).toArray = ls at hl ⊢
  have hl : lv_has ls 4 [(0, .ref (g.2.2.1 v)), (1, .int p0), (2, .int p1), (3, .int p2)] := hl
  refine lv_iload_n hx hb dX6_chosen_0 rfl (lv_at hl 1 rfl) ?_
  refine lv_if_ne (tgt := 8) hx hb dX6_chosen_1 (by decide) (fun c1 => ?_) (fun c1 => ?_)
  · have c1 : ¬ (((k0 : Nat) : Int) = (0 : Int)) := fun q => c1 ((i_eq hp0 (rfl : (0 : Int32).toInt = 0)).mpr q)
    refine lv_iload_n hx hb dX6_chosen_8 rfl (lv_at hl 2 rfl) ?_
    refine r_iret (v := p1) hx hb hr hlocks w dX6_chosen_9 ?_
    refine ⟨rfl, ?_⟩
    simp only [mCh, if_pos]
    first | (rw [if_pos (by omega)]; assumption) | (rw [if_neg (by omega)]; assumption)
  · have c1 : ((k0 : Nat) : Int) = (0 : Int) := (i_eq hp0 (rfl : (0 : Int32).toInt = 0)).mp c1
    refine lv_iload_n hx hb dX6_chosen_4 rfl (lv_at hl 3 rfl) ?_
    refine lv_goto (tgt := 9) hx hb dX6_chosen_5 (by decide) ?_
    refine r_iret (v := p2) hx hb hr hlocks w dX6_chosen_9 ?_
    refine ⟨rfl, ?_⟩
    simp only [mCh, if_pos]
    first | (rw [if_pos (by omega)]; assumption) | (rw [if_neg (by omega)]; assumption)

abbrev rm_X6_mayGrow : Room := { frames := 0, cells := 0, slots := 0, locals := 0 }
set_option maxHeartbeats 4000000 in
set_option maxRecDepth 100000 in
theorem c_X6_mayGrow (l : Launch) {g : GE} {h : Nat → va_E} {v : Nat} {k0 : Nat} (p0 : Int32) (hp0 : p0.toInt = (k0 : Int)) (hk0 : k0 < 5) : MI l yX6_mayGrow wsX6_mayGrow rm_X6_mayGrow [.ref (g.2.2.1 v), .int p0] g h (fun r h2 => h2 = h ∧ Bq r (mGrow 0 k0)) := by
  refine Met.ofW (cc := cX6_mayGrow) (maxL := 2) (ret := (some .boolean)) (by decide) rfl ?_
  intro p e s m args below meth c s₁ B hml hv
  obtain ⟨rfl, w0⟩ := hv
  have hx := B.exec
  have hb := B.bytes
  have hr := B.returns
  have hts := atoms_spec (ws := wsX6_mayGrow) B.pre
  have hown : s.vm.findClass RX6 = some m.cls := findClass_of_methodNamed B.named
  have hlocks := B.notSynchronized
  have w := w0.start
  clear w0
  have hl := lv_entry ([.ref (g.2.2.1 v), .int p0]) (n := 2) (Nat.le_of_ble_eq_true rfl)
  rw [lg_entry_eq]
  generalize (lg_sl ([.ref (g.2.2.1 v), .int p0]) ++ List.replicate (2 - (lg_sl ([.ref (g.2.2.1 v), .int p0])).length) Slot.unset).toArray = ls at hl ⊢
  have hl : lv_has ls 2 [(0, .ref (g.2.2.1 v)), (1, .int p0)] := hl
  refine lv_iload_n hx hb dX6_mayGrow_0 rfl (lv_at hl 1 rfl) ?_
  refine lv_iconst (v := 4) hx hb dX6_mayGrow_1 (by decide) ?_
  refine lv_icmp_ne (tgt := 9) hx hb dX6_mayGrow_2 (by decide) (fun c1 => ?_) (fun c1 => ?_)
  · have c1 : ¬ (((k0 : Nat) : Int) = ((4 : Nat) : Int)) := fun q => c1 ((i_eq hp0 (by decide : (4 : Int32).toInt = ((4 : Nat) : Int))).mpr q)
    refine lv_iconst (v := 0) hx hb dX6_mayGrow_9 (by decide) ?_
    refine r_zret (v := 0) hx hb hr rfl hlocks w dX6_mayGrow_10 ?_
    refine ⟨rfl, ?_⟩
    unfold mGrow
    first | exact Bq.t (by simp; omega) | exact Bq.f (by simp; omega)
  · have c1 : ((k0 : Nat) : Int) = ((4 : Nat) : Int) := (i_eq hp0 (by decide : (4 : Int32).toInt = ((4 : Nat) : Int))).mp c1
    refine lv_iconst (v := 1) hx hb dX6_mayGrow_5 (by decide) ?_
    refine lv_goto (tgt := 10) hx hb dX6_mayGrow_6 (by decide) ?_
    refine r_zret (v := 1) hx hb hr rfl hlocks w dX6_mayGrow_10 ?_
    refine ⟨rfl, ?_⟩
    unfold mGrow
    first | exact Bq.t (by simp; omega) | exact Bq.f (by simp; omega)

abbrev rm_X4_less : Room := { frames := 0, cells := 0, slots := 0, locals := 0 }
set_option maxHeartbeats 4000000 in
set_option maxRecDepth 100000 in
theorem c_X4_less (l : Launch) {g : GE} {h : Nat → va_E} {v : Nat} {k0 : Nat} (p0 : Int32) (hp0 : p0.toInt = (k0 : Int)) (hk0 : k0 < 2) : MI l yX4_less wsX4_less rm_X4_less [.ref (g.2.2.1 v), .int p0] g h (fun r h2 => h2 = h ∧ r.toInt = (mLess 1 k0 : Int)) := by
  refine Met.ofW (cc := cX4_less) (maxL := 2) (ret := (some .int)) (by decide) rfl ?_
  intro p e s m args below meth c s₁ B hml hv
  obtain ⟨rfl, w0⟩ := hv
  have hx := B.exec
  have hb := B.bytes
  have hr := B.returns
  have hts := atoms_spec (ws := wsX4_less) B.pre
  have hown : s.vm.findClass RX4 = some m.cls := findClass_of_methodNamed B.named
  have hlocks := B.notSynchronized
  have w := w0.start
  clear w0
  have hl := lv_entry ([.ref (g.2.2.1 v), .int p0]) (n := 2) (Nat.le_of_ble_eq_true rfl)
  rw [lg_entry_eq]
  generalize (lg_sl ([.ref (g.2.2.1 v), .int p0]) ++ List.replicate (2 - (lg_sl ([.ref (g.2.2.1 v), .int p0])).length) Slot.unset).toArray = ls at hl ⊢
  have hl : lv_has ls 2 [(0, .ref (g.2.2.1 v)), (1, .int p0)] := hl
  refine lv_iload_n hx hb dX4_less_0 rfl (lv_at hl 1 rfl) ?_
  refine r_iret (v := p0) hx hb hr hlocks w dX4_less_1 ?_
  exact ⟨rfl, hp0⟩

abbrev rm_X4_sum : Room := { frames := 0, cells := 0, slots := 0, locals := 0 }
set_option maxHeartbeats 4000000 in
set_option maxRecDepth 100000 in
theorem c_X4_sum (l : Launch) {g : GE} {h : Nat → va_E} {v : Nat} {k0 k1 : Nat} (p0 p1 : Int32) (hp0 : p0.toInt = (k0 : Int)) (hp1 : p1.toInt = (k1 : Int)) (hk0 : k0 < 2) (hk1 : k1 < 2) : MI l yX4_sum wsX4_sum rm_X4_sum [.ref (g.2.2.1 v), .int p0, .int p1] g h (fun r h2 => h2 = h ∧ r.toInt = (mSum 1 k0 k1 : Int)) := by
  refine Met.ofW (cc := cX4_sum) (maxL := 3) (ret := (some .int)) (by decide) rfl ?_
  intro p e s m args below meth c s₁ B hml hv
  obtain ⟨rfl, w0⟩ := hv
  have hx := B.exec
  have hb := B.bytes
  have hr := B.returns
  have hts := atoms_spec (ws := wsX4_sum) B.pre
  have hown : s.vm.findClass RX4 = some m.cls := findClass_of_methodNamed B.named
  have hlocks := B.notSynchronized
  have w := w0.start
  clear w0
  have hl := lv_entry ([.ref (g.2.2.1 v), .int p0, .int p1]) (n := 3) (Nat.le_of_ble_eq_true rfl)
  rw [lg_entry_eq]
  generalize (lg_sl ([.ref (g.2.2.1 v), .int p0, .int p1]) ++ List.replicate (3 - (lg_sl ([.ref (g.2.2.1 v), .int p0, .int p1])).length) Slot.unset).toArray = ls at hl ⊢
  have hl : lv_has ls 3 [(0, .ref (g.2.2.1 v)), (1, .int p0), (2, .int p1)] := hl
  refine lv_iconst (v := 1) hx hb dX4_sum_0 (by decide) ?_
  refine r_iret (v := 1) hx hb hr hlocks w dX4_sum_1 ?_
  exact ⟨rfl, rfl⟩

abbrev rm_X4_chosen : Room := { frames := 0, cells := 0, slots := 0, locals := 0 }
set_option maxHeartbeats 4000000 in
set_option maxRecDepth 100000 in
theorem c_X4_chosen (l : Launch) {g : GE} {h : Nat → va_E} {v : Nat} {k0 k1 k2 : Nat} (p0 p1 p2 : Int32) (hp0 : p0.toInt = (k0 : Int)) (hp1 : p1.toInt = (k1 : Int)) (hp2 : p2.toInt = (k2 : Int)) (hk0 : k0 < 2) (hk1 : k1 < 2) (hk2 : k2 < 2) : MI l yX4_chosen wsX4_chosen rm_X4_chosen [.ref (g.2.2.1 v), .int p0, .int p1, .int p2] g h (fun r h2 => h2 = h ∧ r.toInt = (mCh 1 k0 k1 k2 : Int)) := by
  refine Met.ofW (cc := cX4_chosen) (maxL := 4) (ret := (some .int)) (by decide) rfl ?_
  intro p e s m args below meth c s₁ B hml hv
  obtain ⟨rfl, w0⟩ := hv
  have hx := B.exec
  have hb := B.bytes
  have hr := B.returns
  have hts := atoms_spec (ws := wsX4_chosen) B.pre
  have hown : s.vm.findClass RX4 = some m.cls := findClass_of_methodNamed B.named
  have hlocks := B.notSynchronized
  have w := w0.start
  clear w0
  have hl := lv_entry ([.ref (g.2.2.1 v), .int p0, .int p1, .int p2]) (n := 4) (Nat.le_of_ble_eq_true rfl)
  rw [lg_entry_eq]
  generalize (lg_sl ([.ref (g.2.2.1 v), .int p0, .int p1, .int p2]) ++ List.replicate (4 - (lg_sl ([.ref (g.2.2.1 v), .int p0, .int p1, .int p2])).length) Slot.unset).toArray = ls at hl ⊢
  have hl : lv_has ls 4 [(0, .ref (g.2.2.1 v)), (1, .int p0), (2, .int p1), (3, .int p2)] := hl
  refine lv_iload_n hx hb dX4_chosen_0 rfl (lv_at hl 2 rfl) ?_
  refine lv_iload_n hx hb dX4_chosen_1 rfl (lv_at hl 3 rfl) ?_
  refine lv_ior hx hb dX4_chosen_2 ?_
  refine lv_topi (fun y1 ey1 => ?_)
  refine r_iret (v := y1) hx hb hr hlocks w dX4_chosen_3 ?_
  refine ⟨rfl, ?_⟩
  rw [ey1, i_ofN hp1, i_ofN hp2]
  rcases (show k1 = 0 ∨ k1 = 1 by omega) with rfl | rfl <;> rcases (show k2 = 0 ∨ k2 = 1 by omega) with rfl | rfl <;> rfl

abbrev rm_X4_mayGrow : Room := { frames := 0, cells := 0, slots := 0, locals := 0 }
set_option maxHeartbeats 4000000 in
set_option maxRecDepth 100000 in
theorem c_X4_mayGrow (l : Launch) {g : GE} {h : Nat → va_E} {v : Nat} {k0 : Nat} (p0 : Int32) (hp0 : p0.toInt = (k0 : Int)) (hk0 : k0 < 2) : MI l yX4_mayGrow wsX4_mayGrow rm_X4_mayGrow [.ref (g.2.2.1 v), .int p0] g h (fun r h2 => h2 = h ∧ Bq r (mGrow 1 k0)) := by
  refine Met.ofW (cc := cX4_mayGrow) (maxL := 2) (ret := (some .boolean)) (by decide) rfl ?_
  intro p e s m args below meth c s₁ B hml hv
  obtain ⟨rfl, w0⟩ := hv
  have hx := B.exec
  have hb := B.bytes
  have hr := B.returns
  have hts := atoms_spec (ws := wsX4_mayGrow) B.pre
  have hown : s.vm.findClass RX4 = some m.cls := findClass_of_methodNamed B.named
  have hlocks := B.notSynchronized
  have w := w0.start
  clear w0
  have hl := lv_entry ([.ref (g.2.2.1 v), .int p0]) (n := 2) (Nat.le_of_ble_eq_true rfl)
  rw [lg_entry_eq]
  generalize (lg_sl ([.ref (g.2.2.1 v), .int p0]) ++ List.replicate (2 - (lg_sl ([.ref (g.2.2.1 v), .int p0])).length) Slot.unset).toArray = ls at hl ⊢
  have hl : lv_has ls 2 [(0, .ref (g.2.2.1 v)), (1, .int p0)] := hl
  refine lv_iload_n hx hb dX4_mayGrow_0 rfl (lv_at hl 1 rfl) ?_
  refine lv_if_ne (tgt := 8) hx hb dX4_mayGrow_1 (by decide) (fun c1 => ?_) (fun c1 => ?_)
  · have c1 : ¬ (((k0 : Nat) : Int) = (0 : Int)) := fun q => c1 ((i_eq hp0 (rfl : (0 : Int32).toInt = 0)).mpr q)
    refine lv_iconst (v := 0) hx hb dX4_mayGrow_8 (by decide) ?_
    refine r_zret (v := 0) hx hb hr rfl hlocks w dX4_mayGrow_9 ?_
    refine ⟨rfl, ?_⟩
    unfold mGrow
    first | exact Bq.t (by simp; omega) | exact Bq.f (by simp; omega)
  · have c1 : ((k0 : Nat) : Int) = (0 : Int) := (i_eq hp0 (rfl : (0 : Int32).toInt = 0)).mp c1
    refine lv_iconst (v := 1) hx hb dX4_mayGrow_4 (by decide) ?_
    refine lv_goto (tgt := 9) hx hb dX4_mayGrow_5 (by decide) ?_
    refine r_zret (v := 1) hx hb hr rfl hlocks w dX4_mayGrow_9 ?_
    refine ⟨rfl, ?_⟩
    unfold mGrow
    first | exact Bq.t (by simp; omega) | exact Bq.f (by simp; omega)

abbrev rm_X0_less : Room := { frames := 0, cells := 0, slots := 0, locals := 0 }
set_option maxHeartbeats 4000000 in
set_option maxRecDepth 100000 in
theorem c_X0_less (l : Launch) {g : GE} {h : Nat → va_E} {v : Nat} {k0 : Nat} (p0 : Int32) (hp0 : p0.toInt = (k0 : Int)) (hk0 : k0 < 4) : MI l yX0_less wsX0_less rm_X0_less [.ref (g.2.2.1 v), .int p0] g h (fun r h2 => h2 = h ∧ r.toInt = (mLess 2 k0 : Int)) := by
  refine Met.ofW (cc := cX0_less) (maxL := 2) (ret := (some .int)) (by decide) rfl ?_
  intro p e s m args below meth c s₁ B hml hv
  obtain ⟨rfl, w0⟩ := hv
  have hx := B.exec
  have hb := B.bytes
  have hr := B.returns
  have hts := atoms_spec (ws := wsX0_less) B.pre
  have hown : s.vm.findClass RX0 = some m.cls := findClass_of_methodNamed B.named
  have hlocks := B.notSynchronized
  have w := w0.start
  clear w0
  have hl := lv_entry ([.ref (g.2.2.1 v), .int p0]) (n := 2) (Nat.le_of_ble_eq_true rfl)
  rw [lg_entry_eq]
  generalize (lg_sl ([.ref (g.2.2.1 v), .int p0]) ++ List.replicate (2 - (lg_sl ([.ref (g.2.2.1 v), .int p0])).length) Slot.unset).toArray = ls at hl ⊢
  have hl : lv_has ls 2 [(0, .ref (g.2.2.1 v)), (1, .int p0)] := hl
  refine lv_iload_n hx hb dX0_less_0 rfl (lv_at hl 1 rfl) ?_
  refine lv_iconst (v := 2) hx hb dX0_less_1 (by decide) ?_
  refine lv_iand hx hb dX0_less_2 ?_
  refine lv_topi (fun y1 ey1 => ?_)
  refine lv_if_eq (tgt := 10) hx hb dX0_less_3 (by decide) (fun c2 => ?_) (fun c2 => ?_)
  · refine lv_iload_n hx hb dX0_less_10 rfl (lv_at hl 1 rfl) ?_
    refine r_iret (v := p0) hx hb hr hlocks w dX0_less_11 ?_
    refine ⟨rfl, ?_⟩
    have f0_ := i_ofN hp0
    subst f0_
    clear w hl
    subst ey1
    rcases lt4 hk0 with rfl | rfl | rfl | rfl <;> first | rfl | decide +kernel | (exfalso; revert c2; decide +kernel)
  · refine lv_iconst (v := 3) hx hb dX0_less_6 (by decide) ?_
    refine lv_goto (tgt := 11) hx hb dX0_less_7 (by decide) ?_
    refine r_iret (v := 3) hx hb hr hlocks w dX0_less_11 ?_
    refine ⟨rfl, ?_⟩
    have f0_ := i_ofN hp0
    subst f0_
    clear w hl
    subst ey1
    rcases lt4 hk0 with rfl | rfl | rfl | rfl <;> first | rfl | decide +kernel | (exfalso; revert c2; decide +kernel)

abbrev rm_X0_sum : Room := { frames := 0, cells := 0, slots := 0, locals := 0 }
set_option maxHeartbeats 4000000 in
set_option maxRecDepth 100000 in
theorem c_X0_sum (l : Launch) {g : GE} {h : Nat → va_E} {v : Nat} {k0 k1 : Nat} (p0 p1 : Int32) (hp0 : p0.toInt = (k0 : Int)) (hp1 : p1.toInt = (k1 : Int)) (hk0 : k0 < 4) (hk1 : k1 < 4) : MI l yX0_sum wsX0_sum rm_X0_sum [.ref (g.2.2.1 v), .int p0, .int p1] g h (fun r h2 => h2 = h ∧ r.toInt = (mSum 2 k0 k1 : Int)) := by
  refine Met.ofW (cc := cX0_sum) (maxL := 5) (ret := (some .int)) (by decide) rfl ?_
  intro p e s m args below meth c s₁ B hml hv
  obtain ⟨rfl, w0⟩ := hv
  have hx := B.exec
  have hb := B.bytes
  have hr := B.returns
  have hts := atoms_spec (ws := wsX0_sum) B.pre
  have hown : s.vm.findClass RX0 = some m.cls := findClass_of_methodNamed B.named
  have hlocks := B.notSynchronized
  have w := w0.start
  clear w0
  have hl := lv_entry ([.ref (g.2.2.1 v), .int p0, .int p1]) (n := 5) (Nat.le_of_ble_eq_true rfl)
  rw [lg_entry_eq]
  generalize (lg_sl ([.ref (g.2.2.1 v), .int p0, .int p1]) ++ List.replicate (5 - (lg_sl ([.ref (g.2.2.1 v), .int p0, .int p1])).length) Slot.unset).toArray = ls at hl ⊢
  have hl : lv_has ls 5 [(0, .ref (g.2.2.1 v)), (1, .int p0), (2, .int p1)] := hl
  refine lv_iload_n hx hb dX0_sum_0 rfl (lv_at hl 1 rfl) ?_
  refine lv_iload_n hx hb dX0_sum_1 rfl (lv_at hl 2 rfl) ?_
  refine lv_iand hx hb dX0_sum_2 ?_
  refine lv_topi (fun y1 ey1 => ?_)
  refine lv_iconst (v := 2) hx hb dX0_sum_3 (by decide) ?_
  refine lv_iand hx hb dX0_sum_4 ?_
  refine lv_topi (fun y2 ey2 => ?_)
  refine lv_if_eq (tgt := 10) hx hb dX0_sum_5 (by decide) (fun c3 => ?_) (fun c3 => ?_)
  · refine lv_iload_n hx hb dX0_sum_10 rfl (lv_at hl 1 rfl) ?_
    refine lv_iload_n hx hb dX0_sum_11 rfl (lv_at hl 2 rfl) ?_
    refine lv_iand hx hb dX0_sum_12 ?_
    refine lv_topi (fun y4 ey4 => ?_)
    refine lv_iconst (v := 1) hx hb dX0_sum_13 (by decide) ?_
    refine lv_iand hx hb dX0_sum_14 ?_
    refine lv_topi (fun y5 ey5 => ?_)
    refine lv_istore_n (lv' := [(3, .int y5), (0, .ref (g.2.2.1 v)), (1, .int p0), (2, .int p1)]) hx hb dX0_sum_15 rfl hl (by decide) rfl (fun ls hl => ?_)
    refine lv_iload_n hx hb dX0_sum_16 rfl (lv_at hl 2 rfl) ?_
    refine lv_iload_n hx hb dX0_sum_17 rfl (lv_at hl 3 rfl) ?_
    refine lv_ior hx hb dX0_sum_18 ?_
    refine lv_topi (fun y6 ey6 => ?_)
    refine lv_iconst (v := 2) hx hb dX0_sum_19 (by decide) ?_
    refine lv_iand hx hb dX0_sum_20 ?_
    refine lv_topi (fun y7 ey7 => ?_)
    refine lv_istore (lv' := [(4, .int y7), (3, .int y5), (0, .ref (g.2.2.1 v)), (1, .int p0), (2, .int p1)]) hx hb dX0_sum_21 hl (by decide) rfl (fun ls hl => ?_)
    refine lv_iload_n hx hb dX0_sum_23 rfl (lv_at hl 1 rfl) ?_
    refine lv_iload hx hb dX0_sum_24 (lv_at hl 0 rfl) ?_
    refine lv_ior hx hb dX0_sum_26 ?_
    refine lv_topi (fun y8 ey8 => ?_)
    refine r_iret (v := y8) hx hb hr hlocks w dX0_sum_27 ?_
    refine ⟨rfl, ?_⟩
    have f0_ := i_ofN hp0
    have f1_ := i_ofN hp1
    subst f0_ f1_
    clear w hl
    subst ey1 ey2 ey4 ey5 ey6 ey7 ey8
    rcases lt4 hk0 with rfl | rfl | rfl | rfl <;> rcases lt4 hk1 with rfl | rfl | rfl | rfl <;> first | rfl | decide +kernel | (exfalso; revert c3; decide +kernel)
  · refine lv_iconst (v := 3) hx hb dX0_sum_8 (by decide) ?_
    refine r_iret (v := 3) hx hb hr hlocks w dX0_sum_9 ?_
    refine ⟨rfl, ?_⟩
    have f0_ := i_ofN hp0
    have f1_ := i_ofN hp1
    subst f0_ f1_
    clear w hl
    subst ey1 ey2
    rcases lt4 hk0 with rfl | rfl | rfl | rfl <;> rcases lt4 hk1 with rfl | rfl | rfl | rfl <;> first | rfl | decide +kernel | (exfalso; revert c3; decide +kernel)

abbrev rm_X0_chosen : Room := { frames := 0, cells := 0, slots := 0, locals := 0 }
set_option maxHeartbeats 4000000 in
set_option maxRecDepth 100000 in
theorem c_X0_chosen (l : Launch) {g : GE} {h : Nat → va_E} {v : Nat} {k0 k1 k2 : Nat} (p0 p1 p2 : Int32) (hp0 : p0.toInt = (k0 : Int)) (hp1 : p1.toInt = (k1 : Int)) (hp2 : p2.toInt = (k2 : Int)) (hk0 : k0 < 4) (hk1 : k1 < 4) (hk2 : k2 < 4) : MI l yX0_chosen wsX0_chosen rm_X0_chosen [.ref (g.2.2.1 v), .int p0, .int p1, .int p2] g h (fun r h2 => h2 = h ∧ r.toInt = (mCh 2 k0 k1 k2 : Int)) := by
  refine Met.ofW (cc := cX0_chosen) (maxL := 5) (ret := (some .int)) (by decide) rfl ?_
  intro p e s m args below meth c s₁ B hml hv
  obtain ⟨rfl, w0⟩ := hv
  have hx := B.exec
  have hb := B.bytes
  have hr := B.returns
  have hts := atoms_spec (ws := wsX0_chosen) B.pre
  have hown : s.vm.findClass RX0 = some m.cls := findClass_of_methodNamed B.named
  have hlocks := B.notSynchronized
  have w := w0.start
  clear w0
  have hl := lv_entry ([.ref (g.2.2.1 v), .int p0, .int p1, .int p2]) (n := 5) (Nat.le_of_ble_eq_true rfl)
  rw [lg_entry_eq]
  generalize (lg_sl ([.ref (g.2.2.1 v), .int p0, .int p1, .int p2]) ++ List.replicate (5 - (lg_sl ([.ref (g.2.2.1 v), .int p0, .int p1, .int p2])).length) Slot.unset).toArray = ls at hl ⊢
  have hl : lv_has ls 5 [(0, .ref (g.2.2.1 v)), (1, .int p0), (2, .int p1), (3, .int p2)] := hl
  refine lv_iconst (v := 0) hx hb dX0_chosen_0 (by decide) ?_
  refine lv_istore (lv' := [(4, .int 0), (0, .ref (g.2.2.1 v)), (1, .int p0), (2, .int p1), (3, .int p2)]) hx hb dX0_chosen_1 hl (by decide) rfl (fun ls hl => ?_)
  refine lv_iload_n hx hb dX0_chosen_3 rfl (lv_at hl 2 rfl) ?_
  refine lv_iconst (v := 1) hx hb dX0_chosen_4 (by decide) ?_
  refine lv_iand hx hb dX0_chosen_5 ?_
  refine lv_topi (fun y1 ey1 => ?_)
  refine lv_if_eq (tgt := 15) hx hb dX0_chosen_6 (by decide) (fun c2 => ?_) (fun c2 => ?_)
  · refine lv_iload_n hx hb dX0_chosen_15 rfl (lv_at hl 2 rfl) ?_
    refine lv_iconst (v := 2) hx hb dX0_chosen_16 (by decide) ?_
    refine lv_iand hx hb dX0_chosen_17 ?_
    refine lv_topi (fun y3 ey3 => ?_)
    refine lv_if_eq (tgt := 27) hx hb dX0_chosen_18 (by decide) (fun c4 => ?_) (fun c4 => ?_)
    · refine lv_iload hx hb dX0_chosen_27 (lv_at hl 0 rfl) ?_
      refine r_iret (v := 0) hx hb hr hlocks w dX0_chosen_29 ?_
      refine ⟨rfl, ?_⟩
      have f0_ := i_ofN hp0
      have f1_ := i_ofN hp1
      have f2_ := i_ofN hp2
      subst f0_ f1_ f2_
      clear w hl
      subst ey1 ey3
      rcases lt4 hk0 with rfl | rfl | rfl | rfl <;> rcases lt4 hk1 with rfl | rfl | rfl | rfl <;> rcases lt4 hk2 with rfl | rfl | rfl | rfl <;> first | rfl | decide +kernel | (exfalso; revert c2 c4; decide +kernel)
    · refine lv_iload hx hb dX0_chosen_21 (lv_at hl 0 rfl) ?_
      refine lv_iload_n hx hb dX0_chosen_23 rfl (lv_at hl 3 rfl) ?_
      refine lv_ior hx hb dX0_chosen_24 ?_
      refine lv_topi (fun y5 ey5 => ?_)
      refine lv_istore (lv' := [(4, .int y5), (0, .ref (g.2.2.1 v)), (1, .int p0), (2, .int p1), (3, .int p2)]) hx hb dX0_chosen_25 hl (by decide) rfl (fun ls hl => ?_)
      refine lv_iload hx hb dX0_chosen_27 (lv_at hl 0 rfl) ?_
      refine r_iret (v := y5) hx hb hr hlocks w dX0_chosen_29 ?_
      refine ⟨rfl, ?_⟩
      have f0_ := i_ofN hp0
      have f1_ := i_ofN hp1
      have f2_ := i_ofN hp2
      subst f0_ f1_ f2_
      clear w hl
      subst ey1 ey3 ey5
      rcases lt4 hk0 with rfl | rfl | rfl | rfl <;> rcases lt4 hk1 with rfl | rfl | rfl | rfl <;> rcases lt4 hk2 with rfl | rfl | rfl | rfl <;> first | rfl | decide +kernel | (exfalso; revert c2 c4; decide +kernel)
  · refine lv_iload hx hb dX0_chosen_9 (lv_at hl 0 rfl) ?_
    refine lv_iload_n hx hb dX0_chosen_11 rfl (lv_at hl 4 rfl) ?_
    refine lv_ior hx hb dX0_chosen_12 ?_
    refine lv_topi (fun y6 ey6 => ?_)
    refine lv_istore (lv' := [(4, .int y6), (0, .ref (g.2.2.1 v)), (1, .int p0), (2, .int p1), (3, .int p2)]) hx hb dX0_chosen_13 hl (by decide) rfl (fun ls hl => ?_)
    refine lv_iload_n hx hb dX0_chosen_15 rfl (lv_at hl 2 rfl) ?_
    refine lv_iconst (v := 2) hx hb dX0_chosen_16 (by decide) ?_
    refine lv_iand hx hb dX0_chosen_17 ?_
    refine lv_topi (fun y7 ey7 => ?_)
    refine lv_if_eq (tgt := 27) hx hb dX0_chosen_18 (by decide) (fun c8 => ?_) (fun c8 => ?_)
    · refine lv_iload hx hb dX0_chosen_27 (lv_at hl 0 rfl) ?_
      refine r_iret (v := y6) hx hb hr hlocks w dX0_chosen_29 ?_
      refine ⟨rfl, ?_⟩
      have f0_ := i_ofN hp0
      have f1_ := i_ofN hp1
      have f2_ := i_ofN hp2
      subst f0_ f1_ f2_
      clear w hl
      subst ey1 ey6 ey7
      rcases lt4 hk0 with rfl | rfl | rfl | rfl <;> rcases lt4 hk1 with rfl | rfl | rfl | rfl <;> rcases lt4 hk2 with rfl | rfl | rfl | rfl <;> first | rfl | decide +kernel | (exfalso; revert c2 c8; decide +kernel)
    · refine lv_iload hx hb dX0_chosen_21 (lv_at hl 0 rfl) ?_
      refine lv_iload_n hx hb dX0_chosen_23 rfl (lv_at hl 3 rfl) ?_
      refine lv_ior hx hb dX0_chosen_24 ?_
      refine lv_topi (fun y9 ey9 => ?_)
      refine lv_istore (lv' := [(4, .int y9), (0, .ref (g.2.2.1 v)), (1, .int p0), (2, .int p1), (3, .int p2)]) hx hb dX0_chosen_25 hl (by decide) rfl (fun ls hl => ?_)
      refine lv_iload hx hb dX0_chosen_27 (lv_at hl 0 rfl) ?_
      refine r_iret (v := y9) hx hb hr hlocks w dX0_chosen_29 ?_
      refine ⟨rfl, ?_⟩
      have f0_ := i_ofN hp0
      have f1_ := i_ofN hp1
      have f2_ := i_ofN hp2
      subst f0_ f1_ f2_
      clear w hl
      subst ey1 ey6 ey7 ey9
      rcases lt4 hk0 with rfl | rfl | rfl | rfl <;> rcases lt4 hk1 with rfl | rfl | rfl | rfl <;> rcases lt4 hk2 with rfl | rfl | rfl | rfl <;> first | rfl | decide +kernel | (exfalso; revert c2 c8; decide +kernel)

abbrev rm_X0_mayGrow : Room := { frames := 0, cells := 0, slots := 0, locals := 0 }
set_option maxHeartbeats 4000000 in
set_option maxRecDepth 100000 in
theorem c_X0_mayGrow (l : Launch) {g : GE} {h : Nat → va_E} {v : Nat} {k0 : Nat} (p0 : Int32) (hp0 : p0.toInt = (k0 : Int)) (hk0 : k0 < 4) : MI l yX0_mayGrow wsX0_mayGrow rm_X0_mayGrow [.ref (g.2.2.1 v), .int p0] g h (fun r h2 => h2 = h ∧ Bq r (mGrow 2 k0)) := by
  refine Met.ofW (cc := cX0_mayGrow) (maxL := 2) (ret := (some .boolean)) (by decide) rfl ?_
  intro p e s m args below meth c s₁ B hml hv
  obtain ⟨rfl, w0⟩ := hv
  have hx := B.exec
  have hb := B.bytes
  have hr := B.returns
  have hts := atoms_spec (ws := wsX0_mayGrow) B.pre
  have hown : s.vm.findClass RX0 = some m.cls := findClass_of_methodNamed B.named
  have hlocks := B.notSynchronized
  have w := w0.start
  clear w0
  have hl := lv_entry ([.ref (g.2.2.1 v), .int p0]) (n := 2) (Nat.le_of_ble_eq_true rfl)
  rw [lg_entry_eq]
  generalize (lg_sl ([.ref (g.2.2.1 v), .int p0]) ++ List.replicate (2 - (lg_sl ([.ref (g.2.2.1 v), .int p0])).length) Slot.unset).toArray = ls at hl ⊢
  have hl : lv_has ls 2 [(0, .ref (g.2.2.1 v)), (1, .int p0)] := hl
  refine lv_iload_n hx hb dX0_mayGrow_0 rfl (lv_at hl 1 rfl) ?_
  refine lv_iconst (v := 3) hx hb dX0_mayGrow_1 (by decide) ?_
  refine lv_icmp_eq (tgt := 9) hx hb dX0_mayGrow_2 (by decide) (fun c1 => ?_) (fun c1 => ?_)
  · have c1 : ((k0 : Nat) : Int) = ((3 : Nat) : Int) := (i_eq hp0 (by decide : (3 : Int32).toInt = ((3 : Nat) : Int))).mp c1
    refine lv_iconst (v := 0) hx hb dX0_mayGrow_9 (by decide) ?_
    refine r_zret (v := 0) hx hb hr rfl hlocks w dX0_mayGrow_10 ?_
    refine ⟨rfl, ?_⟩
    unfold mGrow
    first | exact Bq.t (by simp; omega) | exact Bq.f (by simp; omega)
  · have c1 : ¬ (((k0 : Nat) : Int) = ((3 : Nat) : Int)) := fun q => c1 ((i_eq hp0 (by decide : (3 : Int32).toInt = ((3 : Nat) : Int))).mpr q)
    refine lv_iconst (v := 1) hx hb dX0_mayGrow_5 (by decide) ?_
    refine lv_goto (tgt := 10) hx hb dX0_mayGrow_6 (by decide) ?_
    refine r_zret (v := 1) hx hb hr rfl hlocks w dX0_mayGrow_10 ?_
    refine ⟨rfl, ?_⟩
    unfold mGrow
    first | exact Bq.t (by simp; omega) | exact Bq.f (by simp; omega)

