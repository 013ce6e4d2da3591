theorem lt2 {p : Nat} (h : p < 2) : p = 0 ∨ p = 1 := by omega
theorem mB_c {u : Nat} (hu : u < 3) : (u = 0 ∧ mB u = 5) ∨ (u = 1 ∧ mB u = 2) ∨ (u = 2 ∧ mB u = 4) := by
  rcases (show u = 0 ∨ u = 1 ∨ u = 2 by omega) with e | e | e <;> subst e <;> decide
theorem mN_c (u : Nat) : (u = 0 ∧ mN u = 4) ∨ (1 ≤ u ∧ mN u = 0) := by
  unfold mN; split <;> omega
theorem mZ_c (u : Nat) : (u = 0 ∧ mZ u = 0) ∨ (1 ≤ u ∧ mZ u = 1) := by
  unfold mZ; split <;> omega
theorem mO_c (u : Nat) : (u = 2 ∧ mO u = 2) ∨ (u ≠ 2 ∧ mO u = 1) := by
  unfold mO; split <;> omega
/-- the functions as the reference holds them -/
def RS (M : PRG) (nm : Int32) (ga gk gl gB : Nat → Int32) : Prop :=
  nm.toInt = ((pN M : Nat) : Int) ∧ (∀ i, i < pN M → (ga i).toInt = ((pA M i : Nat) : Int)) ∧ (∀ i, i < pN M → (gk i).toInt = ((pK M i : Nat) : Int)) ∧ (∀ i, i < pN M → (gl i).toInt = ((pL M i : Nat) : Int)) ∧ ∀ i, i < pN M → ∀ j, j < pL M i → (gB (24 * i + j)).toInt = ((mCode (pB M i j) : Nat) : Int)
theorem RS.ha {M : PRG} {nm : Int32} {ga gk gl gB : Nat → Int32} (S : RS M nm ga gk gl gB) (hP : PV M) : ∀ i, i < pN M → (ga i).toInt = (pA M i : Int) ∧ pA M i ≤ 3 := fun i hi => ⟨S.2.1 i hi, (hP.2.2 i hi).1⟩
/-- a row of arguments of a function with c of them -/
def mIs (u c x y z : Nat) : Prop := x < (if 0 < c then mB u else 1) ∧ y < (if 1 < c then mB u else 1) ∧ z < (if 2 < c then mB u else 1)
def mIx (u row : Nat) : Nat := row / 25 + mB u * (row / 5 % 5) + mB u * mB u * (row % 5)
/-- the reference's table of one kind -/
def RT (u : Nat) (M : PRG) (gt : Nat → Int32) (T : Nat → Nat → Nat) : Prop := ∀ f row, f < pN M → row < 125 → (mIs u (pA M f) (row / 25) (row / 5 % 5) (row % 5) → (gt (500 * u + 125 * f + row)).toInt = ((T f (mIx u row) : Nat) : Int)) ∧ (¬ mIs u (pA M f) (row / 25) (row / 5 % 5) (row % 5) → (gt (500 * u + 125 * f + row)).toInt = ((mN u : Nat) : Int))
theorem mIs_lt {u c x y z : Nat} (h : mIs u c x y z) : x < mB u ∧ y < mB u ∧ z < mB u ∧ (c ≤ 0 → x = 0) ∧ (c ≤ 1 → y = 0) ∧ (c ≤ 2 → z = 0) := by
  have hb := mB_pos u
  obtain ⟨h1, h2, h3⟩ := h
  refine ⟨?_, ?_, ?_, fun q => ?_, fun q => ?_, fun q => ?_⟩
  · split at h1 <;> omega
  · split at h2 <;> omega
  · split at h3 <;> omega
  · rw [if_neg (by omega)] at h1; omega
  · rw [if_neg (by omega)] at h2; omega
  · rw [if_neg (by omega)] at h3; omega
theorem mIs_of {u c x y z : Nat} (h1 : x < mB u) (h2 : y < mB u) (h3 : z < mB u) (z0 : c ≤ 0 → x = 0) (z1 : c ≤ 1 → y = 0) (z2 : c ≤ 2 → z = 0) : mIs u c x y z := by
  refine ⟨?_, ?_, ?_⟩ <;> split <;> omega
theorem RT.at {u : Nat} {M : PRG} {gt : Nat → Int32} {T : Nat → Nat → Nat} (h : RT u M gt T) {f x y z : Nat} (hf : f < pN M) (hI : mIs u (pA M f) x y z) : (gt (500 * u + 125 * f + (25 * x + 5 * y + z))).toInt = ((T f (x + mB u * y + mB u * mB u * z) : Nat) : Int) := by
  have hl := mIs_lt hI
  have hb := mB_le u
  have e1 : (25 * x + 5 * y + z) / 25 = x := by omega
  have e2 : (25 * x + 5 * y + z) / 5 % 5 = y := by omega
  have e3 : (25 * x + 5 * y + z) % 5 = z := by omega
  have := (h f (25 * x + 5 * y + z) hf (by omega)).1 (by rw [e1, e2, e3]; exact hI)
  rw [this]
  unfold mIx
  rw [e1, e2, e3]
theorem mIx_lt {u c x y z : Nat} (hc : c ≤ 3) (h : mIs u c x y z) : x + mB u * y + mB u * mB u * z < mB u ^ c := by
  obtain ⟨a1, a2, a3, a4, a5, a6⟩ := mIs_lt h
  exact mIdx_lt (mB_pos u) hc a1 a2 a3 a4 a5 a6
abbrev rm_X9_sizeOf : Room := { frames := 0, cells := 0, slots := 0, locals := 0 }
set_option maxHeartbeats 4000000 in
set_option maxRecDepth 100000 in
theorem c_X9_sizeOf (l : Launch) {g : GE} {h : Nat → va_E} {u : Nat} (hu : u < 3) (p0 : Int32) (hp0 : p0.toInt = (u : Int)) : MI l yX9_sizeOf wsX9_sizeOf rm_X9_sizeOf [.int p0] g h (fun r h2 => h2 = h ∧ r.toInt = ((mB u : Nat) : Int)) := by
  refine Met.ofW (cc := cX9_sizeOf) (maxL := 1) (ret := (some .int)) (by decide) rfl ?_
  intro p e s m args below meth c s₁ B hml hv
  obtain ⟨rfl, w0⟩ := hv
  have hx := B.exec
  have hb := B.bytes
  have hr := B.returns
  have hts := atoms_spec (ws := wsX9_sizeOf) B.pre
  have hown : s.vm.findClass RX9 = some m.cls := findClass_of_methodNamed B.named
  have hlocks := B.notSynchronized
  have w := w0.start
  clear w0
  have hl := lv_entry ([.int p0]) (n := 1) (Nat.le_of_ble_eq_true rfl)
  rw [lg_entry_eq]
  generalize (lg_sl ([.int p0]) ++ List.replicate (1 - (lg_sl ([.int p0])).length) Slot.unset).toArray = ls at hl ⊢
  have hl : lv_has ls 1 [(0, .int p0)] := hl
  have hB_ := mB_c hu
  have hN_ := mN_c u
  refine lv_iload_n hx hb dX9_sizeOf_0 rfl (lv_at hl 0 rfl) ?_
  refine lv_if_ne (tgt := 8) hx hb dX9_sizeOf_1 (by decide) (fun c1 => ?_) (fun c1 => ?_)
  · have c1 : ¬ (((u : Nat) : Int) = (0 : Int)) := fun q => c1 ((i_eq hp0 (rfl : (0 : Int32).toInt = 0)).mpr q)
    refine lv_iload_n hx hb dX9_sizeOf_8 rfl (lv_at hl 0 rfl) ?_
    refine lv_iconst (v := 1) hx hb dX9_sizeOf_9 (by decide) ?_
    refine lv_icmp_ne (tgt := 17) hx hb dX9_sizeOf_10 (by decide) (fun c2 => ?_) (fun c2 => ?_)
    · have c2 : ¬ (((u : Nat) : Int) = ((1 : Nat) : Int)) := fun q => c2 ((i_eq hp0 (by decide : (1 : Int32).toInt = ((1 : Nat) : Int))).mpr q)
      refine lv_iconst (v := 4) hx hb dX9_sizeOf_17 (by decide) ?_
      refine r_iret (v := 4) hx hb hr hlocks w dX9_sizeOf_18 ?_
      exact ⟨rfl, (by decide : (4 : Int32).toInt = ((4 : Nat) : Int)).trans (by omega)⟩
    · have c2 : ((u : Nat) : Int) = ((1 : Nat) : Int) := (i_eq hp0 (by decide : (1 : Int32).toInt = ((1 : Nat) : Int))).mp c2
      refine lv_iconst (v := 2) hx hb dX9_sizeOf_13 (by decide) ?_
      refine lv_goto (tgt := 18) hx hb dX9_sizeOf_14 (by decide) ?_
      refine r_iret (v := 2) hx hb hr hlocks w dX9_sizeOf_18 ?_
      exact ⟨rfl, (by decide : (2 : Int32).toInt = ((2 : Nat) : Int)).trans (by omega)⟩
  · have c1 : ((u : Nat) : Int) = (0 : Int) := (i_eq hp0 (rfl : (0 : Int32).toInt = 0)).mp c1
    refine lv_iconst (v := 5) hx hb dX9_sizeOf_4 (by decide) ?_
    refine lv_goto (tgt := 18) hx hb dX9_sizeOf_5 (by decide) ?_
    refine r_iret (v := 5) hx hb hr hlocks w dX9_sizeOf_18 ?_
    exact ⟨rfl, (by decide : (5 : Int32).toInt = ((5 : Nat) : Int)).trans (by omega)⟩

abbrev rm_X9_neverOf : Room := { frames := 0, cells := 0, slots := 0, locals := 0 }
set_option maxHeartbeats 4000000 in
set_option maxRecDepth 100000 in
theorem c_X9_neverOf (l : Launch) {g : GE} {h : Nat → va_E} {u : Nat} (hu : u < 3) (p0 : Int32) (hp0 : p0.toInt = (u : Int)) : MI l yX9_neverOf wsX9_neverOf rm_X9_neverOf [.int p0] g h (fun r h2 => h2 = h ∧ r.toInt = ((mN u : Nat) : Int)) := by
  refine Met.ofW (cc := cX9_neverOf) (maxL := 1) (ret := (some .int)) (by decide) rfl ?_
  intro p e s m args below meth c s₁ B hml hv
  obtain ⟨rfl, w0⟩ := hv
  have hx := B.exec
  have hb := B.bytes
  have hr := B.returns
  have hts := atoms_spec (ws := wsX9_neverOf) B.pre
  have hown : s.vm.findClass RX9 = some m.cls := findClass_of_methodNamed B.named
  have hlocks := B.notSynchronized
  have w := w0.start
  clear w0
  have hl := lv_entry ([.int p0]) (n := 1) (Nat.le_of_ble_eq_true rfl)
  rw [lg_entry_eq]
  generalize (lg_sl ([.int p0]) ++ List.replicate (1 - (lg_sl ([.int p0])).length) Slot.unset).toArray = ls at hl ⊢
  have hl : lv_has ls 1 [(0, .int p0)] := hl
  have hB_ := mB_c hu
  have hN_ := mN_c u
  refine lv_iload_n hx hb dX9_neverOf_0 rfl (lv_at hl 0 rfl) ?_
  refine lv_if_ne (tgt := 8) hx hb dX9_neverOf_1 (by decide) (fun c1 => ?_) (fun c1 => ?_)
  · have c1 : ¬ (((u : Nat) : Int) = (0 : Int)) := fun q => c1 ((i_eq hp0 (rfl : (0 : Int32).toInt = 0)).mpr q)
    refine lv_iconst (v := 0) hx hb dX9_neverOf_8 (by decide) ?_
    refine r_iret (v := 0) hx hb hr hlocks w dX9_neverOf_9 ?_
    exact ⟨rfl, (by decide : (0 : Int32).toInt = ((0 : Nat) : Int)).trans (by omega)⟩
  · have c1 : ((u : Nat) : Int) = (0 : Int) := (i_eq hp0 (rfl : (0 : Int32).toInt = 0)).mp c1
    refine lv_iconst (v := 4) hx hb dX9_neverOf_4 (by decide) ?_
    refine lv_goto (tgt := 9) hx hb dX9_neverOf_5 (by decide) ?_
    refine r_iret (v := 4) hx hb hr hlocks w dX9_neverOf_9 ?_
    exact ⟨rfl, (by decide : (4 : Int32).toInt = ((4 : Nat) : Int)).trans (by omega)⟩

abbrev rm_X9_rowOf : Room := { frames := 0, cells := 0, slots := 0, locals := 0 }
set_option maxHeartbeats 4000000 in
set_option maxRecDepth 100000 in
theorem c_X9_rowOf (l : Launch) {g : GE} {h : Nat → va_E} {x y z : Nat} (p0 p1 p2 : Int32) (hp0 : p0.toInt = (x : Int)) (hp1 : p1.toInt = (y : Int)) (hp2 : p2.toInt = (z : Int)) (hx5 : x < 5) (hy5 : y < 5) (hz5 : z < 5) : MI l yX9_rowOf wsX9_rowOf rm_X9_rowOf [.int p0, .int p1, .int p2] g h (fun r h2 => h2 = h ∧ r.toInt = ((25 * x + 5 * y + z : Nat) : Int)) := by
  refine Met.ofW (cc := cX9_rowOf) (maxL := 3) (ret := (some .int)) (by decide) rfl ?_
  intro p e s m args below meth c s₁ B hml hv
  obtain ⟨rfl, w0⟩ := hv
  have hx := B.exec
  have hb := B.bytes
  have hr := B.returns
  have hts := atoms_spec (ws := wsX9_rowOf) B.pre
  have hown : s.vm.findClass RX9 = some m.cls := findClass_of_methodNamed B.named
  have hlocks := B.notSynchronized
  have w := w0.start
  clear w0
  have hl := lv_entry ([.int p0, .int p1, .int p2]) (n := 3) (Nat.le_of_ble_eq_true rfl)
  rw [lg_entry_eq]
  generalize (lg_sl ([.int p0, .int p1, .int p2]) ++ List.replicate (3 - (lg_sl ([.int p0, .int p1, .int p2])).length) Slot.unset).toArray = ls at hl ⊢
  have hl : lv_has ls 3 [(0, .int p0), (1, .int p1), (2, .int p2)] := hl
  refine lv_bipush (v := 25) hx hb dX9_rowOf_0 (by decide) ?_
  refine lv_iload_n hx hb dX9_rowOf_2 rfl (lv_at hl 0 rfl) ?_
  refine lv_imul hx hb dX9_rowOf_3 ?_
  refine lv_topi (fun y1 ey1 => ?_)
  have ty1 : y1.toInt = (((25 * x) : Nat) : Int) := i_mulN ey1 (by decide : (25 : Int32).toInt = ((25 : Nat) : Int)) hp0 (by omega)
  refine lv_iconst (v := 5) hx hb dX9_rowOf_4 (by decide) ?_
  refine lv_iload_n hx hb dX9_rowOf_5 rfl (lv_at hl 1 rfl) ?_
  refine lv_imul hx hb dX9_rowOf_6 ?_
  refine lv_topi (fun y2 ey2 => ?_)
  have ty2 : y2.toInt = (((5 * y) : Nat) : Int) := i_mulN ey2 (by decide : (5 : Int32).toInt = ((5 : Nat) : Int)) hp1 (by omega)
  refine lv_iadd hx hb dX9_rowOf_7 ?_
  refine lv_topi (fun y3 ey3 => ?_)
  have ty3 : y3.toInt = ((((25 * x) + (5 * y)) : Nat) : Int) := i_addN ey3 ty1 ty2 (by omega)
  refine lv_iload_n hx hb dX9_rowOf_8 rfl (lv_at hl 2 rfl) ?_
  refine lv_iadd hx hb dX9_rowOf_9 ?_
  refine lv_topi (fun y4 ey4 => ?_)
  have ty4 : y4.toInt = (((((25 * x) + (5 * y)) + z) : Nat) : Int) := i_addN ey4 ty3 hp2 (by omega)
  refine r_iret (v := y4) hx hb hr hlocks w dX9_rowOf_10 ?_
  exact ⟨rfl, ty4⟩

theorem inX9_tableAt_X9 : ∀ w ∈ wsX90, w ∈ wsX9_tableAt := by decide +kernel
abbrev rm_X9_tableAt : Room := { frames := 0, cells := 0, slots := 0, locals := 0 }
set_option maxHeartbeats 4000000 in
set_option maxRecDepth 100000 in
theorem c_X9_tableAt (l : Launch) {g : GE} {h : Nat → va_E} {r : Nat} {nm kn um sv sz ra rm : Int32} {ga gk gl gB gt gn gr gp gh gv gs gx gf : Nat → Int32} (D : MdA g h r nm kn um sv sz ra rm ga gk gl gB gt gn gr gp gh gv gs gx gf) {u : Nat} (hu : u < 3) {f row : Nat} (p0 p1 p2 : Int32) (hp0 : p0.toInt = (u : Int)) (hp1 : p1.toInt = (f : Int)) (hp2 : p2.toInt = (row : Int)) (hf : f < 4) (hrow : row < 125) : MI l yX9_tableAt wsX9_tableAt rm_X9_tableAt [.ref (g.2.2.1 r), .int p0, .int p1, .int p2] g h (fun r h2 => h2 = h ∧ r = gt (500 * u + 125 * f + row)) := by
  refine Met.ofW (cc := cX9_tableAt) (maxL := 4) (ret := (some .int)) (by decide) rfl ?_
  intro p e s m args below meth c s₁ B hml hv
  obtain ⟨rfl, w0⟩ := hv
  have hx := B.exec
  have hb := B.bytes
  have hr := B.returns
  have hts := atoms_spec (ws := wsX9_tableAt) B.pre
  have hown : s.vm.findClass RX9 = some m.cls := findClass_of_methodNamed B.named
  have hlocks := B.notSynchronized
  have w := w0.start
  clear w0
  have hl := lv_entry ([.ref (g.2.2.1 r), .int p0, .int p1, .int p2]) (n := 4) (Nat.le_of_ble_eq_true rfl)
  rw [lg_entry_eq]
  generalize (lg_sl ([.ref (g.2.2.1 r), .int p0, .int p1, .int p2]) ++ List.replicate (4 - (lg_sl ([.ref (g.2.2.1 r), .int p0, .int p1, .int p2])).length) Slot.unset).toArray = ls at hl ⊢
  have hl : lv_has ls 4 [(0, .ref (g.2.2.1 r)), (1, .int p0), (2, .int p1), (3, .int p2)] := hl
  refine lv_aload_n hx hb dX9_tableAt_0 rfl (lv_at hl 0 rfl) ?_
  refine r_get (C := RX9) (T := TX9) (N := 20) (ci := 7) hx hb hts inX9_tableAt_X9 hown w (by have := D.1; omega) D.c0 rfl 5 (by decide) (hts (Cond.fieldLink RX9 22 "EarlyValuesModel" "table" "[I") (List.mem_of_getElem? (i := 1) (by decide +kernel))) rfl rfl dX9_tableAt_1 ?_
  refine lv_sipush (v := 500) hx hb dX9_tableAt_4 (by decide) ?_
  refine lv_iload_n hx hb dX9_tableAt_7 rfl (lv_at hl 1 rfl) ?_
  refine lv_imul hx hb dX9_tableAt_8 ?_
  refine lv_topi (fun y1 ey1 => ?_)
  have ty1 : y1.toInt = (((500 * u) : Nat) : Int) := i_mulN ey1 (by decide : (500 : Int32).toInt = ((500 : Nat) : Int)) hp0 (by omega)
  refine lv_bipush (v := 125) hx hb dX9_tableAt_9 (by decide) ?_
  refine lv_iload_n hx hb dX9_tableAt_11 rfl (lv_at hl 2 rfl) ?_
  refine lv_imul hx hb dX9_tableAt_12 ?_
  refine lv_topi (fun y2 ey2 => ?_)
  have ty2 : y2.toInt = (((125 * f) : Nat) : Int) := i_mulN ey2 (by decide : (125 : Int32).toInt = ((125 : Nat) : Int)) hp1 (by omega)
  refine lv_iadd hx hb dX9_tableAt_13 ?_
  refine lv_topi (fun y3 ey3 => ?_)
  have ty3 : y3.toInt = ((((500 * u) + (125 * f)) : Nat) : Int) := i_addN ey3 ty1 ty2 (by omega)
  refine lv_iload_n hx hb dX9_tableAt_14 rfl (lv_at hl 3 rfl) ?_
  refine lv_iadd hx hb dX9_tableAt_15 ?_
  refine lv_topi (fun y4 ey4 => ?_)
  have ty4 : y4.toInt = (((((500 * u) + (125 * f)) + row) : Nat) : Int) := i_addN ey4 ty3 hp2 (by omega)
  refine r_iald (j := (((500 * u) + (125 * f)) + row)) hx hb w (by have := D.1; omega) D.c5 ty4 (by omega) dX9_tableAt_16 ?_
  refine r_iret (v := gt ((((500 * u) + (125 * f)) + row))) hx hb hr hlocks w dX9_tableAt_17 ?_
  exact ⟨rfl, rfl⟩

abbrev rm_X9_valueBy : Room := { frames := 0, cells := 0, slots := 0, locals := 0 }
set_option maxHeartbeats 4000000 in
set_option maxRecDepth 100000 in
theorem c_X9_valueBy (l : Launch) {g : GE} {h : Nat → va_E} {k q0 q1 q2 : Nat} {T : Nat → Nat → Nat} {xs : Nat → Nat} (p0 p1 p2 p3 : Int32) (hp0 : p0.toInt = ((mCode k : Nat) : Int)) (hp1 : p1.toInt = (q0 : Int)) (hp2 : p2.toInt = (q1 : Int)) (hp3 : p3.toInt = (q2 : Int)) (hk : 6 ≤ k ∧ k < 10) (hq0 : q0 < 5) (hq1 : q1 < 5) (hq2 : q2 < 5) : MI l yX9_valueBy wsX9_valueBy rm_X9_valueBy [.int p0, .int p1, .int p2, .int p3] g h (fun r h2 => h2 = h ∧ r.toInt = ((mLet 0 T xs k q0 q1 q2 : Nat) : Int)) := by
  refine Met.ofW (cc := cX9_valueBy) (maxL := 4) (ret := (some .int)) (by decide) rfl ?_
  intro p e s m args below meth c s₁ B hml hv
  obtain ⟨rfl, w0⟩ := hv
  have hx := B.exec
  have hb := B.bytes
  have hr := B.returns
  have hts := atoms_spec (ws := wsX9_valueBy) B.pre
  have hown : s.vm.findClass RX9 = some m.cls := findClass_of_methodNamed B.named
  have hlocks := B.notSynchronized
  have w := w0.start
  clear w0
  have hl := lv_entry ([.int p0, .int p1, .int p2, .int p3]) (n := 4) (Nat.le_of_ble_eq_true rfl)
  rw [lg_entry_eq]
  generalize (lg_sl ([.int p0, .int p1, .int p2, .int p3]) ++ List.replicate (4 - (lg_sl ([.int p0, .int p1, .int p2, .int p3])).length) Slot.unset).toArray = ls at hl ⊢
  have hl : lv_has ls 4 [(0, .int p0), (1, .int p1), (2, .int p2), (3, .int p3)] := hl
  have hc_ := mCode_c (k := k) (by omega)
  refine lv_iload_n hx hb dX9_valueBy_0 rfl (lv_at hl 0 rfl) ?_
  refine lv_bipush (v := 43) hx hb dX9_valueBy_1 (by decide) ?_
  refine lv_icmp_ne (tgt := 26) hx hb dX9_valueBy_3 (by decide) (fun c1 => ?_) (fun c1 => ?_)
  · have c1 : ¬ ((((mCode k) : Nat) : Int) = ((43 : Nat) : Int)) := fun q => c1 ((i_eq hp0 (by decide : (43 : Int32).toInt = ((43 : Nat) : Int))).mpr q)
    refine lv_iload_n hx hb dX9_valueBy_26 rfl (lv_at hl 1 rfl) ?_
    refine lv_iconst (v := 4) hx hb dX9_valueBy_27 (by decide) ?_
    refine lv_icmp_ne (tgt := 33) hx hb dX9_valueBy_28 (by decide) (fun c2 => ?_) (fun c2 => ?_)
    · have c2 : ¬ (((q0 : Nat) : Int) = ((4 : Nat) : Int)) := fun q => c2 ((i_eq hp1 (by decide : (4 : Int32).toInt = ((4 : Nat) : Int))).mpr q)
      refine lv_iload_n hx hb dX9_valueBy_33 rfl (lv_at hl 0 rfl) ?_
      refine lv_bipush (v := 109) hx hb dX9_valueBy_34 (by decide) ?_
      refine lv_icmp_ne (tgt := 53) hx hb dX9_valueBy_36 (by decide) (fun c3 => ?_) (fun c3 => ?_)
      · have c3 : ¬ ((((mCode k) : Nat) : Int) = ((109 : Nat) : Int)) := fun q => c3 ((i_eq hp0 (by decide : (109 : Int32).toInt = ((109 : Nat) : Int))).mpr q)
        refine lv_iload_n hx hb dX9_valueBy_53 rfl (lv_at hl 0 rfl) ?_
        refine lv_bipush (v := 38) hx hb dX9_valueBy_54 (by decide) ?_
        refine lv_icmp_ne (tgt := 63) hx hb dX9_valueBy_56 (by decide) (fun c4 => ?_) (fun c4 => ?_)
        · have c4 : ¬ ((((mCode k) : Nat) : Int) = ((38 : Nat) : Int)) := fun q => c4 ((i_eq hp0 (by decide : (38 : Int32).toInt = ((38 : Nat) : Int))).mpr q)
          refine lv_iload_n hx hb dX9_valueBy_63 rfl (lv_at hl 1 rfl) ?_
          refine lv_if_ne (tgt := 71) hx hb dX9_valueBy_64 (by decide) (fun c5 => ?_) (fun c5 => ?_)
          · have c5 : ¬ (((q0 : Nat) : Int) = (0 : Int)) := fun q => c5 ((i_eq hp1 (rfl : (0 : Int32).toInt = 0)).mpr q)
            refine lv_iload_n hx hb dX9_valueBy_71 rfl (lv_at hl 2 rfl) ?_
            refine r_iret (v := p2) hx hb hr hlocks w dX9_valueBy_72 ?_
            obtain hk_ : k = 9 := by omega
            · have hm_ : mLet 0 T xs k q0 q1 q2 = if q0 = 4 then 4 else if q0 = 0 then q2 else q1 := by subst hk_; rfl
              refine ⟨rfl, hp2.trans ?_⟩
              rw [hm_]
              (repeat' split) <;> omega
          · have c5 : ((q0 : Nat) : Int) = (0 : Int) := (i_eq hp1 (rfl : (0 : Int32).toInt = 0)).mp c5
            refine lv_iload_n hx hb dX9_valueBy_67 rfl (lv_at hl 3 rfl) ?_
            refine lv_goto (tgt := 72) hx hb dX9_valueBy_68 (by decide) ?_
            refine r_iret (v := p3) hx hb hr hlocks w dX9_valueBy_72 ?_
            obtain hk_ : k = 9 := by omega
            · have hm_ : mLet 0 T xs k q0 q1 q2 = if q0 = 4 then 4 else if q0 = 0 then q2 else q1 := by subst hk_; rfl
              refine ⟨rfl, hp3.trans ?_⟩
              rw [hm_]
              (repeat' split) <;> omega
        · have c4 : (((mCode k) : Nat) : Int) = ((38 : Nat) : Int) := (i_eq hp0 (by decide : (38 : Int32).toInt = ((38 : Nat) : Int))).mp c4
          refine lv_iload_n hx hb dX9_valueBy_59 rfl (lv_at hl 2 rfl) ?_
          refine lv_goto (tgt := 72) hx hb dX9_valueBy_60 (by decide) ?_
          refine r_iret (v := p2) hx hb hr hlocks w dX9_valueBy_72 ?_
          obtain hk_ : k = 8 := by omega
          · have hm_ : mLet 0 T xs k q0 q1 q2 = if q0 = 4 then 4 else q1 := by subst hk_; rfl
            refine ⟨rfl, hp2.trans ?_⟩
            rw [hm_]
            (repeat' split) <;> omega
      · have c3 : (((mCode k) : Nat) : Int) = ((109 : Nat) : Int) := (i_eq hp0 (by decide : (109 : Int32).toInt = ((109 : Nat) : Int))).mp c3
        refine lv_iload_n hx hb dX9_valueBy_39 rfl (lv_at hl 1 rfl) ?_
        refine lv_if_le (tgt := 49) hx hb dX9_valueBy_40 (by decide) (fun c6 => ?_) (fun c6 => ?_)
        · have c6 : ((q0 : Nat) : Int) ≤ (0 : Int) := (i_le hp1 (rfl : (0 : Int32).toInt = 0)).mp c6
          refine lv_iconst (v := 0) hx hb dX9_valueBy_49 (by decide) ?_
          refine lv_goto (tgt := 72) hx hb dX9_valueBy_50 (by decide) ?_
          refine r_iret (v := 0) hx hb hr hlocks w dX9_valueBy_72 ?_
          obtain hk_ : k = 6 := by omega
          · have hm_ : mLet 0 T xs k q0 q1 q2 = if q0 = 4 then 4 else q0 - 1 := by subst hk_; rfl
            refine ⟨rfl, (by decide : (0 : Int32).toInt = ((0 : Nat) : Int)).trans ?_⟩
            rw [hm_]
            (repeat' split) <;> omega
        · have c6 : ¬ (((q0 : Nat) : Int) ≤ (0 : Int)) := fun q => c6 ((i_le hp1 (rfl : (0 : Int32).toInt = 0)).mpr q)
          refine lv_iload_n hx hb dX9_valueBy_43 rfl (lv_at hl 1 rfl) ?_
          refine lv_iconst (v := 1) hx hb dX9_valueBy_44 (by decide) ?_
          refine lv_isub hx hb dX9_valueBy_45 ?_
          refine lv_topi (fun y7 ey7 => ?_)
          have ty7 : y7.toInt = ((q0 : Nat) : Int) - ((1 : Nat) : Int) := i_sub ey7 hp1 (by decide : (1 : Int32).toInt = ((1 : Nat) : Int)) (by omega)
          refine lv_goto (tgt := 72) hx hb dX9_valueBy_46 (by decide) ?_
          refine r_iret (v := y7) hx hb hr hlocks w dX9_valueBy_72 ?_
          obtain hk_ : k = 6 := by omega
          · have hm_ : mLet 0 T xs k q0 q1 q2 = if q0 = 4 then 4 else q0 - 1 := by subst hk_; rfl
            refine ⟨rfl, ty7.trans ?_⟩
            rw [hm_]
            (repeat' split) <;> omega
    · have c2 : ((q0 : Nat) : Int) = ((4 : Nat) : Int) := (i_eq hp1 (by decide : (4 : Int32).toInt = ((4 : Nat) : Int))).mp c2
      refine lv_iconst (v := 4) hx hb dX9_valueBy_31 (by decide) ?_
      refine r_iret (v := 4) hx hb hr hlocks w dX9_valueBy_32 ?_
      obtain hk_ | hk_ | hk_ : k = 6 ∨ k = 8 ∨ k = 9 := by omega
      · have hm_ : mLet 0 T xs k q0 q1 q2 = if q0 = 4 then 4 else q0 - 1 := by subst hk_; rfl
        refine ⟨rfl, (by decide : (4 : Int32).toInt = ((4 : Nat) : Int)).trans ?_⟩
        rw [hm_]
        (repeat' split) <;> omega
      · have hm_ : mLet 0 T xs k q0 q1 q2 = if q0 = 4 then 4 else q1 := by subst hk_; rfl
        refine ⟨rfl, (by decide : (4 : Int32).toInt = ((4 : Nat) : Int)).trans ?_⟩
        rw [hm_]
        (repeat' split) <;> omega
      · have hm_ : mLet 0 T xs k q0 q1 q2 = if q0 = 4 then 4 else if q0 = 0 then q2 else q1 := by subst hk_; rfl
        refine ⟨rfl, (by decide : (4 : Int32).toInt = ((4 : Nat) : Int)).trans ?_⟩
        rw [hm_]
        (repeat' split) <;> omega
  · have c1 : (((mCode k) : Nat) : Int) = ((43 : Nat) : Int) := (i_eq hp0 (by decide : (43 : Int32).toInt = ((43 : Nat) : Int))).mp c1
    refine lv_iload_n hx hb dX9_valueBy_6 rfl (lv_at hl 1 rfl) ?_
    refine lv_iconst (v := 4) hx hb dX9_valueBy_7 (by decide) ?_
    refine lv_icmp_eq (tgt := 16) hx hb dX9_valueBy_8 (by decide) (fun c8 => ?_) (fun c8 => ?_)
    · have c8 : ((q0 : Nat) : Int) = ((4 : Nat) : Int) := (i_eq hp1 (by decide : (4 : Int32).toInt = ((4 : Nat) : Int))).mp c8
      refine lv_iconst (v := 4) hx hb dX9_valueBy_16 (by decide) ?_
      refine lv_goto (tgt := 25) hx hb dX9_valueBy_17 (by decide) ?_
      refine r_iret (v := 4) hx hb hr hlocks w dX9_valueBy_25 ?_
      obtain hk_ : k = 7 := by omega
      · have hm_ : mLet 0 T xs k q0 q1 q2 = if q0 = 4 ∨ q1 = 4 then 4 else (q0 + q1) % 4 := by subst hk_; rfl
        refine ⟨rfl, (by decide : (4 : Int32).toInt = ((4 : Nat) : Int)).trans ?_⟩
        rw [hm_]
        (repeat' split) <;> omega
    · have c8 : ¬ (((q0 : Nat) : Int) = ((4 : Nat) : Int)) := fun q => c8 ((i_eq hp1 (by decide : (4 : Int32).toInt = ((4 : Nat) : Int))).mpr q)
      refine lv_iload_n hx hb dX9_valueBy_11 rfl (lv_at hl 2 rfl) ?_
      refine lv_iconst (v := 4) hx hb dX9_valueBy_12 (by decide) ?_
      refine lv_icmp_ne (tgt := 20) hx hb dX9_valueBy_13 (by decide) (fun c9 => ?_) (fun c9 => ?_)
      · have c9 : ¬ (((q1 : Nat) : Int) = ((4 : Nat) : Int)) := fun q => c9 ((i_eq hp2 (by decide : (4 : Int32).toInt = ((4 : Nat) : Int))).mpr q)
        refine lv_iload_n hx hb dX9_valueBy_20 rfl (lv_at hl 1 rfl) ?_
        refine lv_iload_n hx hb dX9_valueBy_21 rfl (lv_at hl 2 rfl) ?_
        refine lv_iadd hx hb dX9_valueBy_22 ?_
        refine lv_topi (fun y10 ey10 => ?_)
        have ty10 : y10.toInt = (((q0 + q1) : Nat) : Int) := i_addN ey10 hp1 hp2 (by omega)
        refine lv_iconst (v := 4) hx hb dX9_valueBy_23 (by decide) ?_
        refine lv_irem hx hb dX9_valueBy_24 (fun q => absurd ((i_eq (by decide : (4 : Int32).toInt = ((4 : Nat) : Int)) (by decide : (0 : Int32).toInt = (0 : Int))).mp q) (by omega)) ?_
        refine lv_topi (fun y11 ey11 => ?_)
        have ty11 : y11.toInt = ((((q0 + q1) % 4) : Nat) : Int) := i_remN ey11 ty10 (by decide : (4 : Int32).toInt = ((4 : Nat) : Int)) (by omega)
        refine r_iret (v := y11) hx hb hr hlocks w dX9_valueBy_25 ?_
        obtain hk_ : k = 7 := by omega
        · have hm_ : mLet 0 T xs k q0 q1 q2 = if q0 = 4 ∨ q1 = 4 then 4 else (q0 + q1) % 4 := by subst hk_; rfl
          refine ⟨rfl, ty11.trans ?_⟩
          rw [hm_]
          (repeat' split) <;> omega
      · have c9 : ((q1 : Nat) : Int) = ((4 : Nat) : Int) := (i_eq hp2 (by decide : (4 : Int32).toInt = ((4 : Nat) : Int))).mp c9
        refine lv_iconst (v := 4) hx hb dX9_valueBy_16 (by decide) ?_
        refine lv_goto (tgt := 25) hx hb dX9_valueBy_17 (by decide) ?_
        refine r_iret (v := 4) hx hb hr hlocks w dX9_valueBy_25 ?_
        obtain hk_ : k = 7 := by omega
        · have hm_ : mLet 0 T xs k q0 q1 q2 = if q0 = 4 ∨ q1 = 4 then 4 else (q0 + q1) % 4 := by subst hk_; rfl
          refine ⟨rfl, (by decide : (4 : Int32).toInt = ((4 : Nat) : Int)).trans ?_⟩
          rw [hm_]
          (repeat' split) <;> omega

abbrev rm_X9_roughBy : Room := { frames := 0, cells := 0, slots := 0, locals := 0 }
set_option maxHeartbeats 4000000 in
set_option maxRecDepth 100000 in
theorem c_X9_roughBy (l : Launch) {g : GE} {h : Nat → va_E} {k q0 q1 q2 : Nat} {T : Nat → Nat → Nat} {xs : Nat → Nat} (p0 p1 p2 p3 : Int32) (hp0 : p0.toInt = ((mCode k : Nat) : Int)) (hp1 : p1.toInt = (q0 : Int)) (hp2 : p2.toInt = (q1 : Int)) (hp3 : p3.toInt = (q2 : Int)) (hk : 6 ≤ k ∧ k < 10) (hq0 : q0 < 2) (hq1 : q1 < 2) (hq2 : q2 < 2) : MI l yX9_roughBy wsX9_roughBy rm_X9_roughBy [.int p0, .int p1, .int p2, .int p3] g h (fun r h2 => h2 = h ∧ r.toInt = ((mLet 1 T xs k q0 q1 q2 : Nat) : Int)) := by
  refine Met.ofW (cc := cX9_roughBy) (maxL := 4) (ret := (some .int)) (by decide) rfl ?_
  intro p e s m args below meth c s₁ B hml hv
  obtain ⟨rfl, w0⟩ := hv
  have hx := B.exec
  have hb := B.bytes
  have hr := B.returns
  have hts := atoms_spec (ws := wsX9_roughBy) B.pre
  have hown : s.vm.findClass RX9 = some m.cls := findClass_of_methodNamed B.named
  have hlocks := B.notSynchronized
  have w := w0.start
  clear w0
  have hl := lv_entry ([.int p0, .int p1, .int p2, .int p3]) (n := 4) (Nat.le_of_ble_eq_true rfl)
  rw [lg_entry_eq]
  generalize (lg_sl ([.int p0, .int p1, .int p2, .int p3]) ++ List.replicate (4 - (lg_sl ([.int p0, .int p1, .int p2, .int p3])).length) Slot.unset).toArray = ls at hl ⊢
  have hl : lv_has ls 4 [(0, .int p0), (1, .int p1), (2, .int p2), (3, .int p3)] := hl
  have hc_ := mCode_c (k := k) (by omega)
  refine lv_iload_n hx hb dX9_roughBy_0 rfl (lv_at hl 0 rfl) ?_
  refine lv_bipush (v := 109) hx hb dX9_roughBy_1 (by decide) ?_
  refine lv_icmp_ne (tgt := 10) hx hb dX9_roughBy_3 (by decide) (fun c1 => ?_) (fun c1 => ?_)
  · have c1 : ¬ ((((mCode k) : Nat) : Int) = ((109 : Nat) : Int)) := fun q => c1 ((i_eq hp0 (by decide : (109 : Int32).toInt = ((109 : Nat) : Int))).mpr q)
    refine lv_iload_n hx hb dX9_roughBy_10 rfl (lv_at hl 0 rfl) ?_
    refine lv_bipush (v := 63) hx hb dX9_roughBy_11 (by decide) ?_
    refine lv_icmp_ne (tgt := 24) hx hb dX9_roughBy_13 (by decide) (fun c2 => ?_) (fun c2 => ?_)
    · have c2 : ¬ ((((mCode k) : Nat) : Int) = ((63 : Nat) : Int)) := fun q => c2 ((i_eq hp0 (by decide : (63 : Int32).toInt = ((63 : Nat) : Int))).mpr q)
      refine lv_iload_n hx hb dX9_roughBy_24 rfl (lv_at hl 1 rfl) ?_
      refine lv_iload_n hx hb dX9_roughBy_25 rfl (lv_at hl 2 rfl) ?_
      refine lv_iand hx hb dX9_roughBy_26 ?_
      refine lv_topi (fun y3 ey3 => ?_)
      refine r_iret (v := y3) hx hb hr hlocks w dX9_roughBy_27 ?_
      refine ⟨rfl, ?_⟩
      have f1_ := i_ofN hp1
      have f2_ := i_ofN hp2
      have f3_ := i_ofN hp3
      subst f1_ f2_ f3_
      clear w hl
      subst ey3
      obtain hk_ | hk_ : k = 7 ∨ k = 8 := by omega
      clear c1
      clear c2
      all_goals (subst hk_; clear hc_ hp0 hk; rcases lt2 hq0 with rfl | rfl <;> rcases lt2 hq1 with rfl | rfl <;> first | rfl | decide +kernel)
    · have c2 : (((mCode k) : Nat) : Int) = ((63 : Nat) : Int) := (i_eq hp0 (by decide : (63 : Int32).toInt = ((63 : Nat) : Int))).mp c2
      refine lv_iload_n hx hb dX9_roughBy_16 rfl (lv_at hl 1 rfl) ?_
      refine lv_iload_n hx hb dX9_roughBy_17 rfl (lv_at hl 2 rfl) ?_
      refine lv_iload_n hx hb dX9_roughBy_18 rfl (lv_at hl 3 rfl) ?_
      refine lv_ior hx hb dX9_roughBy_19 ?_
      refine lv_topi (fun y4 ey4 => ?_)
      refine lv_iand hx hb dX9_roughBy_20 ?_
      refine lv_topi (fun y5 ey5 => ?_)
      refine lv_goto (tgt := 27) hx hb dX9_roughBy_21 (by decide) ?_
      refine r_iret (v := y5) hx hb hr hlocks w dX9_roughBy_27 ?_
      refine ⟨rfl, ?_⟩
      have f1_ := i_ofN hp1
      have f2_ := i_ofN hp2
      have f3_ := i_ofN hp3
      subst f1_ f2_ f3_
      clear w hl
      subst ey4 ey5
      obtain hk_ : k = 9 := by omega
      clear c1
      clear c2
      all_goals (subst hk_; clear hc_ hp0 hk; rcases lt2 hq0 with rfl | rfl <;> rcases lt2 hq1 with rfl | rfl <;> rcases lt2 hq2 with rfl | rfl <;> first | rfl | decide +kernel)
  · have c1 : (((mCode k) : Nat) : Int) = ((109 : Nat) : Int) := (i_eq hp0 (by decide : (109 : Int32).toInt = ((109 : Nat) : Int))).mp c1
    refine lv_iload_n hx hb dX9_roughBy_6 rfl (lv_at hl 1 rfl) ?_
    refine lv_goto (tgt := 27) hx hb dX9_roughBy_7 (by decide) ?_
    refine r_iret (v := p1) hx hb hr hlocks w dX9_roughBy_27 ?_
    refine ⟨rfl, ?_⟩
    have f1_ := i_ofN hp1
    have f2_ := i_ofN hp2
    have f3_ := i_ofN hp3
    subst f1_ f2_ f3_
    clear w hl
    obtain hk_ : k = 6 := by omega
    clear c1
    all_goals (subst hk_; clear hc_ hp0 hk; rcases lt2 hq0 with rfl | rfl <;> first | rfl | decide +kernel)

abbrev rm_X9_fineBy : Room := { frames := 0, cells := 0, slots := 0, locals := 0 }
set_option maxHeartbeats 4000000 in
set_option maxRecDepth 100000 in
theorem c_X9_fineBy (l : Launch) {g : GE} {h : Nat → va_E} {k q0 q1 q2 : Nat} {T : Nat → Nat → Nat} {xs : Nat → Nat} (p0 p1 p2 p3 : Int32) (hp0 : p0.toInt = ((mCode k : Nat) : Int)) (hp1 : p1.toInt = (q0 : Int)) (hp2 : p2.toInt = (q1 : Int)) (hp3 : p3.toInt = (q2 : Int)) (hk : 6 ≤ k ∧ k < 10) (hq0 : q0 < 4) (hq1 : q1 < 4) (hq2 : q2 < 4) : MI l yX9_fineBy wsX9_fineBy rm_X9_fineBy [.int p0, .int p1, .int p2, .int p3] g h (fun r h2 => h2 = h ∧ r.toInt = ((mLet 2 T xs k q0 q1 q2 : Nat) : Int)) := by
  refine Met.ofW (cc := cX9_fineBy) (maxL := 5) (ret := (some .int)) (by decide) rfl ?_
  intro p e s m args below meth c s₁ B hml hv
  obtain ⟨rfl, w0⟩ := hv
  have hx := B.exec
  have hb := B.bytes
  have hr := B.returns
  have hts := atoms_spec (ws := wsX9_fineBy) B.pre
  have hown : s.vm.findClass RX9 = some m.cls := findClass_of_methodNamed B.named
  have hlocks := B.notSynchronized
  have w := w0.start
  clear w0
  have hl := lv_entry ([.int p0, .int p1, .int p2, .int p3]) (n := 5) (Nat.le_of_ble_eq_true rfl)
  rw [lg_entry_eq]
  generalize (lg_sl ([.int p0, .int p1, .int p2, .int p3]) ++ List.replicate (5 - (lg_sl ([.int p0, .int p1, .int p2, .int p3])).length) Slot.unset).toArray = ls at hl ⊢
  have hl : lv_has ls 5 [(0, .int p0), (1, .int p1), (2, .int p2), (3, .int p3)] := hl
  have hc_ := mCode_c (k := k) (by omega)
  refine lv_iload_n hx hb dX9_fineBy_0 rfl (lv_at hl 0 rfl) ?_
  refine lv_bipush (v := 109) hx hb dX9_fineBy_1 (by decide) ?_
  refine lv_icmp_ne (tgt := 22) hx hb dX9_fineBy_3 (by decide) (fun c1 => ?_) (fun c1 => ?_)
  · have c1 : ¬ ((((mCode k) : Nat) : Int) = ((109 : Nat) : Int)) := fun q => c1 ((i_eq hp0 (by decide : (109 : Int32).toInt = ((109 : Nat) : Int))).mpr q)
    refine lv_iload_n hx hb dX9_fineBy_22 rfl (lv_at hl 0 rfl) ?_
    refine lv_bipush (v := 38) hx hb dX9_fineBy_23 (by decide) ?_
    refine lv_icmp_ne (tgt := 38) hx hb dX9_fineBy_25 (by decide) (fun c2 => ?_) (fun c2 => ?_)
    · have c2 : ¬ ((((mCode k) : Nat) : Int) = ((38 : Nat) : Int)) := fun q => c2 ((i_eq hp0 (by decide : (38 : Int32).toInt = ((38 : Nat) : Int))).mpr q)
      refine lv_iload_n hx hb dX9_fineBy_38 rfl (lv_at hl 0 rfl) ?_
      refine lv_bipush (v := 63) hx hb dX9_fineBy_39 (by decide) ?_
      refine lv_icmp_ne (tgt := 68) hx hb dX9_fineBy_41 (by decide) (fun c3 => ?_) (fun c3 => ?_)
      · have c3 : ¬ ((((mCode k) : Nat) : Int) = ((63 : Nat) : Int)) := fun q => c3 ((i_eq hp0 (by decide : (63 : Int32).toInt = ((63 : Nat) : Int))).mpr q)
        refine lv_iload_n hx hb dX9_fineBy_68 rfl (lv_at hl 1 rfl) ?_
        refine lv_if_eq (tgt := 76) hx hb dX9_fineBy_69 (by decide) (fun c4 => ?_) (fun c4 => ?_)
        · have c4 : ((q0 : Nat) : Int) = (0 : Int) := (i_eq hp1 (rfl : (0 : Int32).toInt = 0)).mp c4
          refine lv_iconst (v := 0) hx hb dX9_fineBy_76 (by decide) ?_
          refine r_iret (v := 0) hx hb hr hlocks w dX9_fineBy_77 ?_
          refine ⟨rfl, ?_⟩
          have f1_ := i_ofN hp1
          have f2_ := i_ofN hp2
          have f3_ := i_ofN hp3
          subst f1_ f2_ f3_
          clear w hl
          obtain hk_ : k = 7 := by omega
          clear c1
          clear c2
          clear c3
          all_goals (subst hk_; clear hc_ hp0 hk; rcases lt4 hq0 with rfl | rfl | rfl | rfl <;> rcases lt4 hq1 with rfl | rfl | rfl | rfl <;> first | rfl | decide +kernel | exact absurd c4 (by decide +kernel))
        · have c4 : ¬ (((q0 : Nat) : Int) = (0 : Int)) := fun q => c4 ((i_eq hp1 (rfl : (0 : Int32).toInt = 0)).mpr q)
          refine lv_iload_n hx hb dX9_fineBy_72 rfl (lv_at hl 2 rfl) ?_
          refine lv_if_ne (tgt := 78) hx hb dX9_fineBy_73 (by decide) (fun c5 => ?_) (fun c5 => ?_)
          · have c5 : ¬ (((q1 : Nat) : Int) = (0 : Int)) := fun q => c5 ((i_eq hp2 (rfl : (0 : Int32).toInt = 0)).mpr q)
            refine lv_iload_n hx hb dX9_fineBy_78 rfl (lv_at hl 1 rfl) ?_
            refine lv_iconst (v := 1) hx hb dX9_fineBy_79 (by decide) ?_
            refine lv_iand hx hb dX9_fineBy_80 ?_
            refine lv_topi (fun y6 ey6 => ?_)
            refine lv_if_eq (tgt := 94) hx hb dX9_fineBy_81 (by decide) (fun c7 => ?_) (fun c7 => ?_)
            · refine lv_iconst (v := 0) hx hb dX9_fineBy_94 (by decide) ?_
              refine lv_istore (lv' := [(4, .int 0), (0, .int p0), (1, .int p1), (2, .int p2), (3, .int p3)]) hx hb dX9_fineBy_95 hl (by decide) rfl (fun ls hl => ?_)
              refine lv_iload hx hb dX9_fineBy_97 (lv_at hl 0 rfl) ?_
              refine lv_iload_n hx hb dX9_fineBy_99 rfl (lv_at hl 2 rfl) ?_
              refine lv_iconst (v := 1) hx hb dX9_fineBy_100 (by decide) ?_
              refine lv_iand hx hb dX9_fineBy_101 ?_
              refine lv_topi (fun y8 ey8 => ?_)
              refine lv_if_eq (tgt := 111) hx hb dX9_fineBy_102 (by decide) (fun c9 => ?_) (fun c9 => ?_)
              · refine lv_iload_n hx hb dX9_fineBy_111 rfl (lv_at hl 2 rfl) ?_
                refine lv_iconst (v := 2) hx hb dX9_fineBy_112 (by decide) ?_
                refine lv_iand hx hb dX9_fineBy_113 ?_
                refine lv_topi (fun y10 ey10 => ?_)
                refine lv_if_eq (tgt := 127) hx hb dX9_fineBy_114 (by decide) (fun c11 => ?_) (fun c11 => ?_)
                · refine lv_iconst (v := 0) hx hb dX9_fineBy_127 (by decide) ?_
                  refine lv_ior hx hb dX9_fineBy_128 ?_
                  refine lv_topi (fun y12 ey12 => ?_)
                  refine lv_istore (lv' := [(4, .int y12), (0, .int p0), (1, .int p1), (2, .int p2), (3, .int p3)]) hx hb dX9_fineBy_129 hl (by decide) rfl (fun ls hl => ?_)
                  refine lv_iload hx hb dX9_fineBy_131 (lv_at hl 0 rfl) ?_
                  refine lv_iload_n hx hb dX9_fineBy_133 rfl (lv_at hl 2 rfl) ?_
                  refine lv_iconst (v := 2) hx hb dX9_fineBy_134 (by decide) ?_
                  refine lv_iand hx hb dX9_fineBy_135 ?_
                  refine lv_topi (fun y13 ey13 => ?_)
                  refine lv_if_eq (tgt := 149) hx hb dX9_fineBy_136 (by decide) (fun c14 => ?_) (fun c14 => ?_)
                  · refine lv_iconst (v := 0) hx hb dX9_fineBy_149 (by decide) ?_
                    refine lv_ior hx hb dX9_fineBy_150 ?_
                    refine lv_topi (fun y15 ey15 => ?_)
                    refine r_iret (v := y15) hx hb hr hlocks w dX9_fineBy_151 ?_
                    refine ⟨rfl, ?_⟩
                    have f1_ := i_ofN hp1
                    have f2_ := i_ofN hp2
                    have f3_ := i_ofN hp3
                    subst f1_ f2_ f3_
                    clear w hl
                    subst ey6 ey8 ey10 ey12 ey13 ey15
                    obtain hk_ : k = 7 := by omega
                    clear c1
                    clear c2
                    clear c3
                    all_goals (subst hk_; clear hc_ hp0 hk; rcases lt4 hq0 with rfl | rfl | rfl | rfl <;> rcases lt4 hq1 with rfl | rfl | rfl | rfl <;> first | rfl | decide +kernel | exact absurd c4 (by decide +kernel) | exact absurd c5 (by decide +kernel) | exact absurd c7 (by decide +kernel) | exact absurd c9 (by decide +kernel) | exact absurd c11 (by decide +kernel) | exact absurd c14 (by decide +kernel))
                  · refine lv_iload_n hx hb dX9_fineBy_139 rfl (lv_at hl 3 rfl) ?_
                    refine lv_iconst (v := 2) hx hb dX9_fineBy_140 (by decide) ?_
                    refine lv_iand hx hb dX9_fineBy_141 ?_
                    refine lv_topi (fun y16 ey16 => ?_)
                    refine lv_if_eq (tgt := 149) hx hb dX9_fineBy_142 (by decide) (fun c17 => ?_) (fun c17 => ?_)
                    · refine lv_iconst (v := 0) hx hb dX9_fineBy_149 (by decide) ?_
                      refine lv_ior hx hb dX9_fineBy_150 ?_
                      refine lv_topi (fun y18 ey18 => ?_)
                      refine r_iret (v := y18) hx hb hr hlocks w dX9_fineBy_151 ?_
                      refine ⟨rfl, ?_⟩
                      have f1_ := i_ofN hp1
                      have f2_ := i_ofN hp2
                      have f3_ := i_ofN hp3
                      subst f1_ f2_ f3_
                      clear w hl
                      subst ey6 ey8 ey10 ey12 ey13 ey16 ey18
                      obtain hk_ : k = 7 := by omega
                      clear c1
                      clear c2
                      clear c3
                      all_goals (subst hk_; clear hc_ hp0 hk; rcases lt4 hq0 with rfl | rfl | rfl | rfl <;> rcases lt4 hq1 with rfl | rfl | rfl | rfl <;> first | rfl | decide +kernel | exact absurd c4 (by decide +kernel) | exact absurd c5 (by decide +kernel) | exact absurd c7 (by decide +kernel) | exact absurd c9 (by decide +kernel) | exact absurd c11 (by decide +kernel) | exact absurd c14 (by decide +kernel) | exact absurd c17 (by decide +kernel))
                    · refine lv_iconst (v := 3) hx hb dX9_fineBy_145 (by decide) ?_
                      refine lv_goto (tgt := 150) hx hb dX9_fineBy_146 (by decide) ?_
                      refine lv_ior hx hb dX9_fineBy_150 ?_
                      refine lv_topi (fun y19 ey19 => ?_)
                      refine r_iret (v := y19) hx hb hr hlocks w dX9_fineBy_151 ?_
                      refine ⟨rfl, ?_⟩
                      have f1_ := i_ofN hp1
                      have f2_ := i_ofN hp2
                      have f3_ := i_ofN hp3
                      subst f1_ f2_ f3_
                      clear w hl
                      subst ey6 ey8 ey10 ey12 ey13 ey16 ey19
                      obtain hk_ : k = 7 := by omega
                      clear c1
                      clear c2
                      clear c3
                      all_goals (subst hk_; clear hc_ hp0 hk; rcases lt4 hq0 with rfl | rfl | rfl | rfl <;> rcases lt4 hq1 with rfl | rfl | rfl | rfl <;> first | rfl | decide +kernel | exact absurd c4 (by decide +kernel) | exact absurd c5 (by decide +kernel) | exact absurd c7 (by decide +kernel) | exact absurd c9 (by decide +kernel) | exact absurd c11 (by decide +kernel) | exact absurd c14 (by decide +kernel) | exact absurd c17 (by decide +kernel))
                · refine lv_iload_n hx hb dX9_fineBy_117 rfl (lv_at hl 3 rfl) ?_
                  refine lv_iconst (v := 1) hx hb dX9_fineBy_118 (by decide) ?_
                  refine lv_iand hx hb dX9_fineBy_119 ?_
                  refine lv_topi (fun y20 ey20 => ?_)
                  refine lv_if_eq (tgt := 127) hx hb dX9_fineBy_120 (by decide) (fun c21 => ?_) (fun c21 => ?_)
                  · refine lv_iconst (v := 0) hx hb dX9_fineBy_127 (by decide) ?_
                    refine lv_ior hx hb dX9_fineBy_128 ?_
                    refine lv_topi (fun y22 ey22 => ?_)
                    refine lv_istore (lv' := [(4, .int y22), (0, .int p0), (1, .int p1), (2, .int p2), (3, .int p3)]) hx hb dX9_fineBy_129 hl (by decide) rfl (fun ls hl => ?_)
                    refine lv_iload hx hb dX9_fineBy_131 (lv_at hl 0 rfl) ?_
                    refine lv_iload_n hx hb dX9_fineBy_133 rfl (lv_at hl 2 rfl) ?_
                    refine lv_iconst (v := 2) hx hb dX9_fineBy_134 (by decide) ?_
                    refine lv_iand hx hb dX9_fineBy_135 ?_
                    refine lv_topi (fun y23 ey23 => ?_)
                    refine lv_if_eq (tgt := 149) hx hb dX9_fineBy_136 (by decide) (fun c24 => ?_) (fun c24 => ?_)
                    · refine lv_iconst (v := 0) hx hb dX9_fineBy_149 (by decide) ?_
                      refine lv_ior hx hb dX9_fineBy_150 ?_
                      refine lv_topi (fun y25 ey25 => ?_)
                      refine r_iret (v := y25) hx hb hr hlocks w dX9_fineBy_151 ?_
                      refine ⟨rfl, ?_⟩
                      have f1_ := i_ofN hp1
                      have f2_ := i_ofN hp2
                      have f3_ := i_ofN hp3
                      subst f1_ f2_ f3_
                      clear w hl
                      subst ey6 ey8 ey10 ey20 ey22 ey23 ey25
                      obtain hk_ : k = 7 := by omega
                      clear c1
                      clear c2
                      clear c3
                      all_goals (subst hk_; clear hc_ hp0 hk; rcases lt4 hq0 with rfl | rfl | rfl | rfl <;> rcases lt4 hq1 with rfl | rfl | rfl | rfl <;> first | rfl | decide +kernel | exact absurd c4 (by decide +kernel) | exact absurd c5 (by decide +kernel) | exact absurd c7 (by decide +kernel) | exact absurd c9 (by decide +kernel) | exact absurd c11 (by decide +kernel) | exact absurd c21 (by decide +kernel) | exact absurd c24 (by decide +kernel))
                    · refine lv_iload_n hx hb dX9_fineBy_139 rfl (lv_at hl 3 rfl) ?_
                      refine lv_iconst (v := 2) hx hb dX9_fineBy_140 (by decide) ?_
                      refine lv_iand hx hb dX9_fineBy_141 ?_
                      refine lv_topi (fun y26 ey26 => ?_)
                      refine lv_if_eq (tgt := 149) hx hb dX9_fineBy_142 (by decide) (fun c27 => ?_) (fun c27 => ?_)
                      · refine lv_iconst (v := 0) hx hb dX9_fineBy_149 (by decide) ?_
                        refine lv_ior hx hb dX9_fineBy_150 ?_
                        refine lv_topi (fun y28 ey28 => ?_)
                        refine r_iret (v := y28) hx hb hr hlocks w dX9_fineBy_151 ?_
                        refine ⟨rfl, ?_⟩
                        have f1_ := i_ofN hp1
                        have f2_ := i_ofN hp2
                        have f3_ := i_ofN hp3
                        subst f1_ f2_ f3_
                        clear w hl
                        subst ey6 ey8 ey10 ey20 ey22 ey23 ey26 ey28
                        obtain hk_ : k = 7 := by omega
                        clear c1
                        clear c2
                        clear c3
                        all_goals (subst hk_; clear hc_ hp0 hk; rcases lt4 hq0 with rfl | rfl | rfl | rfl <;> rcases lt4 hq1 with rfl | rfl | rfl | rfl <;> first | rfl | decide +kernel | exact absurd c4 (by decide +kernel) | exact absurd c5 (by decide +kernel) | exact absurd c7 (by decide +kernel) | exact absurd c9 (by decide +kernel) | exact absurd c11 (by decide +kernel) | exact absurd c21 (by decide +kernel) | exact absurd c24 (by decide +kernel) | exact absurd c27 (by decide +kernel))
                      · refine lv_iconst (v := 3) hx hb dX9_fineBy_145 (by decide) ?_
                        refine lv_goto (tgt := 150) hx hb dX9_fineBy_146 (by decide) ?_
                        refine lv_ior hx hb dX9_fineBy_150 ?_
                        refine lv_topi (fun y29 ey29 => ?_)
                        refine r_iret (v := y29) hx hb hr hlocks w dX9_fineBy_151 ?_
                        refine ⟨rfl, ?_⟩
                        have f1_ := i_ofN hp1
                        have f2_ := i_ofN hp2
                        have f3_ := i_ofN hp3
                        subst f1_ f2_ f3_
                        clear w hl
                        subst ey6 ey8 ey10 ey20 ey22 ey23 ey26 ey29
                        obtain hk_ : k = 7 := by omega
                        clear c1
                        clear c2
                        clear c3
                        all_goals (subst hk_; clear hc_ hp0 hk; rcases lt4 hq0 with rfl | rfl | rfl | rfl <;> rcases lt4 hq1 with rfl | rfl | rfl | rfl <;> first | rfl | decide +kernel | exact absurd c4 (by decide +kernel) | exact absurd c5 (by decide +kernel) | exact absurd c7 (by decide +kernel) | exact absurd c9 (by decide +kernel) | exact absurd c11 (by decide +kernel) | exact absurd c21 (by decide +kernel) | exact absurd c24 (by decide +kernel) | exact absurd c27 (by decide +kernel))
                  · refine lv_iconst (v := 2) hx hb dX9_fineBy_123 (by decide) ?_
                    refine lv_goto (tgt := 128) hx hb dX9_fineBy_124 (by decide) ?_
                    refine lv_ior hx hb dX9_fineBy_128 ?_
                    refine lv_topi (fun y30 ey30 => ?_)
                    refine lv_istore (lv' := [(4, .int y30), (0, .int p0), (1, .int p1), (2, .int p2), (3, .int p3)]) hx hb dX9_fineBy_129 hl (by decide) rfl (fun ls hl => ?_)
                    refine lv_iload hx hb dX9_fineBy_131 (lv_at hl 0 rfl) ?_
                    refine lv_iload_n hx hb dX9_fineBy_133 rfl (lv_at hl 2 rfl) ?_
                    refine lv_iconst (v := 2) hx hb dX9_fineBy_134 (by decide) ?_
                    refine lv_iand hx hb dX9_fineBy_135 ?_
                    refine lv_topi (fun y31 ey31 => ?_)
                    refine lv_if_eq (tgt := 149) hx hb dX9_fineBy_136 (by decide) (fun c32 => ?_) (fun c32 => ?_)
                    · refine lv_iconst (v := 0) hx hb dX9_fineBy_149 (by decide) ?_
                      refine lv_ior hx hb dX9_fineBy_150 ?_
                      refine lv_topi (fun y33 ey33 => ?_)
                      refine r_iret (v := y33) hx hb hr hlocks w dX9_fineBy_151 ?_
                      refine ⟨rfl, ?_⟩
                      have f1_ := i_ofN hp1
                      have f2_ := i_ofN hp2
                      have f3_ := i_ofN hp3
                      subst f1_ f2_ f3_
                      clear w hl
                      subst ey6 ey8 ey10 ey20 ey30 ey31 ey33
                      obtain hk_ : k = 7 := by omega
                      clear c1
                      clear c2
                      clear c3
                      all_goals (subst hk_; clear hc_ hp0 hk; rcases lt4 hq0 with rfl | rfl | rfl | rfl <;> rcases lt4 hq1 with rfl | rfl | rfl | rfl <;> first | rfl | decide +kernel | exact absurd c4 (by decide +kernel) | exact absurd c5 (by decide +kernel) | exact absurd c7 (by decide +kernel) | exact absurd c9 (by decide +kernel) | exact absurd c11 (by decide +kernel) | exact absurd c21 (by decide +kernel) | exact absurd c32 (by decide +kernel))
                    · refine lv_iload_n hx hb dX9_fineBy_139 rfl (lv_at hl 3 rfl) ?_
                      refine lv_iconst (v := 2) hx hb dX9_fineBy_140 (by decide) ?_
                      refine lv_iand hx hb dX9_fineBy_141 ?_
                      refine lv_topi (fun y34 ey34 => ?_)
                      refine lv_if_eq (tgt := 149) hx hb dX9_fineBy_142 (by decide) (fun c35 => ?_) (fun c35 => ?_)
                      · refine lv_iconst (v := 0) hx hb dX9_fineBy_149 (by decide) ?_
                        refine lv_ior hx hb dX9_fineBy_150 ?_
                        refine lv_topi (fun y36 ey36 => ?_)
                        refine r_iret (v := y36) hx hb hr hlocks w dX9_fineBy_151 ?_
                        refine ⟨rfl, ?_⟩
                        have f1_ := i_ofN hp1
                        have f2_ := i_ofN hp2
                        have f3_ := i_ofN hp3
                        subst f1_ f2_ f3_
                        clear w hl
                        subst ey6 ey8 ey10 ey20 ey30 ey31 ey34 ey36
                        obtain hk_ : k = 7 := by omega
                        clear c1
                        clear c2
                        clear c3
                        all_goals (subst hk_; clear hc_ hp0 hk; rcases lt4 hq0 with rfl | rfl | rfl | rfl <;> rcases lt4 hq1 with rfl | rfl | rfl | rfl <;> first | rfl | decide +kernel | exact absurd c4 (by decide +kernel) | exact absurd c5 (by decide +kernel) | exact absurd c7 (by decide +kernel) | exact absurd c9 (by decide +kernel) | exact absurd c11 (by decide +kernel) | exact absurd c21 (by decide +kernel) | exact absurd c32 (by decide +kernel) | exact absurd c35 (by decide +kernel))
                      · refine lv_iconst (v := 3) hx hb dX9_fineBy_145 (by decide) ?_
                        refine lv_goto (tgt := 150) hx hb dX9_fineBy_146 (by decide) ?_
                        refine lv_ior hx hb dX9_fineBy_150 ?_
                        refine lv_topi (fun y37 ey37 => ?_)
                        refine r_iret (v := y37) hx hb hr hlocks w dX9_fineBy_151 ?_
                        refine ⟨rfl, ?_⟩
                        have f1_ := i_ofN hp1
                        have f2_ := i_ofN hp2
                        have f3_ := i_ofN hp3
                        subst f1_ f2_ f3_
                        clear w hl
                        subst ey6 ey8 ey10 ey20 ey30 ey31 ey34 ey37
                        obtain hk_ : k = 7 := by omega
                        clear c1
                        clear c2
                        clear c3
                        all_goals (subst hk_; clear hc_ hp0 hk; rcases lt4 hq0 with rfl | rfl | rfl | rfl <;> rcases lt4 hq1 with rfl | rfl | rfl | rfl <;> first | rfl | decide +kernel | exact absurd c4 (by decide +kernel) | exact absurd c5 (by decide +kernel) | exact absurd c7 (by decide +kernel) | exact absurd c9 (by decide +kernel) | exact absurd c11 (by decide +kernel) | exact absurd c21 (by decide +kernel) | exact absurd c32 (by decide +kernel) | exact absurd c35 (by decide +kernel))
              · refine lv_iload_n hx hb dX9_fineBy_105 rfl (lv_at hl 3 rfl) ?_
                refine lv_iconst (v := 2) hx hb dX9_fineBy_106 (by decide) ?_
                refine lv_iand hx hb dX9_fineBy_107 ?_
                refine lv_topi (fun y38 ey38 => ?_)
                refine lv_if_ne (tgt := 123) hx hb dX9_fineBy_108 (by decide) (fun c39 => ?_) (fun c39 => ?_)
                · refine lv_iconst (v := 2) hx hb dX9_fineBy_123 (by decide) ?_
                  refine lv_goto (tgt := 128) hx hb dX9_fineBy_124 (by decide) ?_
                  refine lv_ior hx hb dX9_fineBy_128 ?_
                  refine lv_topi (fun y40 ey40 => ?_)
                  refine lv_istore (lv' := [(4, .int y40), (0, .int p0), (1, .int p1), (2, .int p2), (3, .int p3)]) hx hb dX9_fineBy_129 hl (by decide) rfl (fun ls hl => ?_)
                  refine lv_iload hx hb dX9_fineBy_131 (lv_at hl 0 rfl) ?_
                  refine lv_iload_n hx hb dX9_fineBy_133 rfl (lv_at hl 2 rfl) ?_
                  refine lv_iconst (v := 2) hx hb dX9_fineBy_134 (by decide) ?_
                  refine lv_iand hx hb dX9_fineBy_135 ?_
                  refine lv_topi (fun y41 ey41 => ?_)
                  refine lv_if_eq (tgt := 149) hx hb dX9_fineBy_136 (by decide) (fun c42 => ?_) (fun c42 => ?_)
                  · refine lv_iconst (v := 0) hx hb dX9_fineBy_149 (by decide) ?_
                    refine lv_ior hx hb dX9_fineBy_150 ?_
                    refine lv_topi (fun y43 ey43 => ?_)
                    refine r_iret (v := y43) hx hb hr hlocks w dX9_fineBy_151 ?_
                    refine ⟨rfl, ?_⟩
                    have f1_ := i_ofN hp1
                    have f2_ := i_ofN hp2
                    have f3_ := i_ofN hp3
                    subst f1_ f2_ f3_
                    clear w hl
                    subst ey6 ey8 ey38 ey40 ey41 ey43
                    obtain hk_ : k = 7 := by omega
                    clear c1
                    clear c2
                    clear c3
                    all_goals (subst hk_; clear hc_ hp0 hk; rcases lt4 hq0 with rfl | rfl | rfl | rfl <;> rcases lt4 hq1 with rfl | rfl | rfl | rfl <;> first | rfl | decide +kernel | exact absurd c4 (by decide +kernel) | exact absurd c5 (by decide +kernel) | exact absurd c7 (by decide +kernel) | exact absurd c9 (by decide +kernel) | exact absurd c39 (by decide +kernel) | exact absurd c42 (by decide +kernel))
                  · refine lv_iload_n hx hb dX9_fineBy_139 rfl (lv_at hl 3 rfl) ?_
                    refine lv_iconst (v := 2) hx hb dX9_fineBy_140 (by decide) ?_
                    refine lv_iand hx hb dX9_fineBy_141 ?_
                    refine lv_topi (fun y44 ey44 => ?_)
                    refine lv_if_eq (tgt := 149) hx hb dX9_fineBy_142 (by decide) (fun c45 => ?_) (fun c45 => ?_)
                    · refine lv_iconst (v := 0) hx hb dX9_fineBy_149 (by decide) ?_
                      refine lv_ior hx hb dX9_fineBy_150 ?_
                      refine lv_topi (fun y46 ey46 => ?_)
                      refine r_iret (v := y46) hx hb hr hlocks w dX9_fineBy_151 ?_
                      refine ⟨rfl, ?_⟩
                      have f1_ := i_ofN hp1
                      have f2_ := i_ofN hp2
                      have f3_ := i_ofN hp3
                      subst f1_ f2_ f3_
                      clear w hl
                      subst ey6 ey8 ey38 ey40 ey41 ey44 ey46
                      obtain hk_ : k = 7 := by omega
                      clear c1
                      clear c2
                      clear c3
                      all_goals (subst hk_; clear hc_ hp0 hk; rcases lt4 hq0 with rfl | rfl | rfl | rfl <;> rcases lt4 hq1 with rfl | rfl | rfl | rfl <;> first | rfl | decide +kernel | exact absurd c4 (by decide +kernel) | exact absurd c5 (by decide +kernel) | exact absurd c7 (by decide +kernel) | exact absurd c9 (by decide +kernel) | exact absurd c39 (by decide +kernel) | exact absurd c42 (by decide +kernel) | exact absurd c45 (by decide +kernel))
                    · refine lv_iconst (v := 3) hx hb dX9_fineBy_145 (by decide) ?_
                      refine lv_goto (tgt := 150) hx hb dX9_fineBy_146 (by decide) ?_
                      refine lv_ior hx hb dX9_fineBy_150 ?_
                      refine lv_topi (fun y47 ey47 => ?_)
                      refine r_iret (v := y47) hx hb hr hlocks w dX9_fineBy_151 ?_
                      refine ⟨rfl, ?_⟩
                      have f1_ := i_ofN hp1
                      have f2_ := i_ofN hp2
                      have f3_ := i_ofN hp3
                      subst f1_ f2_ f3_
                      clear w hl
                      subst ey6 ey8 ey38 ey40 ey41 ey44 ey47
                      obtain hk_ : k = 7 := by omega
                      clear c1
                      clear c2
                      clear c3
                      all_goals (subst hk_; clear hc_ hp0 hk; rcases lt4 hq0 with rfl | rfl | rfl | rfl <;> rcases lt4 hq1 with rfl | rfl | rfl | rfl <;> first | rfl | decide +kernel | exact absurd c4 (by decide +kernel) | exact absurd c5 (by decide +kernel) | exact absurd c7 (by decide +kernel) | exact absurd c9 (by decide +kernel) | exact absurd c39 (by decide +kernel) | exact absurd c42 (by decide +kernel) | exact absurd c45 (by decide +kernel))
                · refine lv_iload_n hx hb dX9_fineBy_111 rfl (lv_at hl 2 rfl) ?_
                  refine lv_iconst (v := 2) hx hb dX9_fineBy_112 (by decide) ?_
                  refine lv_iand hx hb dX9_fineBy_113 ?_
                  refine lv_topi (fun y48 ey48 => ?_)
                  refine lv_if_eq (tgt := 127) hx hb dX9_fineBy_114 (by decide) (fun c49 => ?_) (fun c49 => ?_)
                  · refine lv_iconst (v := 0) hx hb dX9_fineBy_127 (by decide) ?_
                    refine lv_ior hx hb dX9_fineBy_128 ?_
                    refine lv_topi (fun y50 ey50 => ?_)
                    refine lv_istore (lv' := [(4, .int y50), (0, .int p0), (1, .int p1), (2, .int p2), (3, .int p3)]) hx hb dX9_fineBy_129 hl (by decide) rfl (fun ls hl => ?_)
                    refine lv_iload hx hb dX9_fineBy_131 (lv_at hl 0 rfl) ?_
                    refine lv_iload_n hx hb dX9_fineBy_133 rfl (lv_at hl 2 rfl) ?_
                    refine lv_iconst (v := 2) hx hb dX9_fineBy_134 (by decide) ?_
                    refine lv_iand hx hb dX9_fineBy_135 ?_
                    refine lv_topi (fun y51 ey51 => ?_)
                    refine lv_if_eq (tgt := 149) hx hb dX9_fineBy_136 (by decide) (fun c52 => ?_) (fun c52 => ?_)
                    · refine lv_iconst (v := 0) hx hb dX9_fineBy_149 (by decide) ?_
                      refine lv_ior hx hb dX9_fineBy_150 ?_
                      refine lv_topi (fun y53 ey53 => ?_)
                      refine r_iret (v := y53) hx hb hr hlocks w dX9_fineBy_151 ?_
                      refine ⟨rfl, ?_⟩
                      have f1_ := i_ofN hp1
                      have f2_ := i_ofN hp2
                      have f3_ := i_ofN hp3
                      subst f1_ f2_ f3_
                      clear w hl
                      subst ey6 ey8 ey38 ey48 ey50 ey51 ey53
                      obtain hk_ : k = 7 := by omega
                      clear c1
                      clear c2
                      clear c3
                      all_goals (subst hk_; clear hc_ hp0 hk; rcases lt4 hq0 with rfl | rfl | rfl | rfl <;> rcases lt4 hq1 with rfl | rfl | rfl | rfl <;> first | rfl | decide +kernel | exact absurd c4 (by decide +kernel) | exact absurd c5 (by decide +kernel) | exact absurd c7 (by decide +kernel) | exact absurd c9 (by decide +kernel) | exact absurd c39 (by decide +kernel) | exact absurd c49 (by decide +kernel) | exact absurd c52 (by decide +kernel))
                    · refine lv_iload_n hx hb dX9_fineBy_139 rfl (lv_at hl 3 rfl) ?_
                      refine lv_iconst (v := 2) hx hb dX9_fineBy_140 (by decide) ?_
                      refine lv_iand hx hb dX9_fineBy_141 ?_
                      refine lv_topi (fun y54 ey54 => ?_)
                      refine lv_if_eq (tgt := 149) hx hb dX9_fineBy_142 (by decide) (fun c55 => ?_) (fun c55 => ?_)
                      · refine lv_iconst (v := 0) hx hb dX9_fineBy_149 (by decide) ?_
                        refine lv_ior hx hb dX9_fineBy_150 ?_
                        refine lv_topi (fun y56 ey56 => ?_)
                        refine r_iret (v := y56) hx hb hr hlocks w dX9_fineBy_151 ?_
                        refine ⟨rfl, ?_⟩
                        have f1_ := i_ofN hp1
                        have f2_ := i_ofN hp2
                        have f3_ := i_ofN hp3
                        subst f1_ f2_ f3_
                        clear w hl
                        subst ey6 ey8 ey38 ey48 ey50 ey51 ey54 ey56
                        obtain hk_ : k = 7 := by omega
                        clear c1
                        clear c2
                        clear c3
                        all_goals (subst hk_; clear hc_ hp0 hk; rcases lt4 hq0 with rfl | rfl | rfl | rfl <;> rcases lt4 hq1 with rfl | rfl | rfl | rfl <;> first | rfl | decide +kernel | exact absurd c4 (by decide +kernel) | exact absurd c5 (by decide +kernel) | exact absurd c7 (by decide +kernel) | exact absurd c9 (by decide +kernel) | exact absurd c39 (by decide +kernel) | exact absurd c49 (by decide +kernel) | exact absurd c52 (by decide +kernel) | exact absurd c55 (by decide +kernel))
                      · refine lv_iconst (v := 3) hx hb dX9_fineBy_145 (by decide) ?_
                        refine lv_goto (tgt := 150) hx hb dX9_fineBy_146 (by decide) ?_
                        refine lv_ior hx hb dX9_fineBy_150 ?_
                        refine lv_topi (fun y57 ey57 => ?_)
                        refine r_iret (v := y57) hx hb hr hlocks w dX9_fineBy_151 ?_
                        refine ⟨rfl, ?_⟩
                        have f1_ := i_ofN hp1
                        have f2_ := i_ofN hp2
                        have f3_ := i_ofN hp3
                        subst f1_ f2_ f3_
                        clear w hl
                        subst ey6 ey8 ey38 ey48 ey50 ey51 ey54 ey57
                        obtain hk_ : k = 7 := by omega
                        clear c1
                        clear c2
                        clear c3
                        all_goals (subst hk_; clear hc_ hp0 hk; rcases lt4 hq0 with rfl | rfl | rfl | rfl <;> rcases lt4 hq1 with rfl | rfl | rfl | rfl <;> first | rfl | decide +kernel | exact absurd c4 (by decide +kernel) | exact absurd c5 (by decide +kernel) | exact absurd c7 (by decide +kernel) | exact absurd c9 (by decide +kernel) | exact absurd c39 (by decide +kernel) | exact absurd c49 (by decide +kernel) | exact absurd c52 (by decide +kernel) | exact absurd c55 (by decide +kernel))
                  · refine lv_iload_n hx hb dX9_fineBy_117 rfl (lv_at hl 3 rfl) ?_
                    refine lv_iconst (v := 1) hx hb dX9_fineBy_118 (by decide) ?_
                    refine lv_iand hx hb dX9_fineBy_119 ?_
                    refine lv_topi (fun y58 ey58 => ?_)
                    refine lv_if_eq (tgt := 127) hx hb dX9_fineBy_120 (by decide) (fun c59 => ?_) (fun c59 => ?_)
                    · refine lv_iconst (v := 0) hx hb dX9_fineBy_127 (by decide) ?_
                      refine lv_ior hx hb dX9_fineBy_128 ?_
                      refine lv_topi (fun y60 ey60 => ?_)
                      refine lv_istore (lv' := [(4, .int y60), (0, .int p0), (1, .int p1), (2, .int p2), (3, .int p3)]) hx hb dX9_fineBy_129 hl (by decide) rfl (fun ls hl => ?_)
                      refine lv_iload hx hb dX9_fineBy_131 (lv_at hl 0 rfl) ?_
                      refine lv_iload_n hx hb dX9_fineBy_133 rfl (lv_at hl 2 rfl) ?_
                      refine lv_iconst (v := 2) hx hb dX9_fineBy_134 (by decide) ?_
                      refine lv_iand hx hb dX9_fineBy_135 ?_
                      refine lv_topi (fun y61 ey61 => ?_)
                      refine lv_if_eq (tgt := 149) hx hb dX9_fineBy_136 (by decide) (fun c62 => ?_) (fun c62 => ?_)
                      · refine lv_iconst (v := 0) hx hb dX9_fineBy_149 (by decide) ?_
                        refine lv_ior hx hb dX9_fineBy_150 ?_
                        refine lv_topi (fun y63 ey63 => ?_)
                        refine r_iret (v := y63) hx hb hr hlocks w dX9_fineBy_151 ?_
                        refine ⟨rfl, ?_⟩
                        have f1_ := i_ofN hp1
                        have f2_ := i_ofN hp2
                        have f3_ := i_ofN hp3
                        subst f1_ f2_ f3_
                        clear w hl
                        subst ey6 ey8 ey38 ey48 ey58 ey60 ey61 ey63
                        obtain hk_ : k = 7 := by omega
                        clear c1
                        clear c2
                        clear c3
                        all_goals (subst hk_; clear hc_ hp0 hk; rcases lt4 hq0 with rfl | rfl | rfl | rfl <;> rcases lt4 hq1 with rfl | rfl | rfl | rfl <;> first | rfl | decide +kernel | exact absurd c4 (by decide +kernel) | exact absurd c5 (by decide +kernel) | exact absurd c7 (by decide +kernel) | exact absurd c9 (by decide +kernel) | exact absurd c39 (by decide +kernel) | exact absurd c49 (by decide +kernel) | exact absurd c59 (by decide +kernel) | exact absurd c62 (by decide +kernel))
                      · refine lv_iload_n hx hb dX9_fineBy_139 rfl (lv_at hl 3 rfl) ?_
                        refine lv_iconst (v := 2) hx hb dX9_fineBy_140 (by decide) ?_
                        refine lv_iand hx hb dX9_fineBy_141 ?_
                        refine lv_topi (fun y64 ey64 => ?_)
                        refine lv_if_eq (tgt := 149) hx hb dX9_fineBy_142 (by decide) (fun c65 => ?_) (fun c65 => ?_)
                        · refine lv_iconst (v := 0) hx hb dX9_fineBy_149 (by decide) ?_
                          refine lv_ior hx hb dX9_fineBy_150 ?_
                          refine lv_topi (fun y66 ey66 => ?_)
                          refine r_iret (v := y66) hx hb hr hlocks w dX9_fineBy_151 ?_
                          refine ⟨rfl, ?_⟩
                          have f1_ := i_ofN hp1
                          have f2_ := i_ofN hp2
                          have f3_ := i_ofN hp3
                          subst f1_ f2_ f3_
                          clear w hl
                          subst ey6 ey8 ey38 ey48 ey58 ey60 ey61 ey64 ey66
                          obtain hk_ : k = 7 := by omega
                          clear c1
                          clear c2
                          clear c3
                          all_goals (subst hk_; clear hc_ hp0 hk; rcases lt4 hq0 with rfl | rfl | rfl | rfl <;> rcases lt4 hq1 with rfl | rfl | rfl | rfl <;> first | rfl | decide +kernel | exact absurd c4 (by decide +kernel) | exact absurd c5 (by decide +kernel) | exact absurd c7 (by decide +kernel) | exact absurd c9 (by decide +kernel) | exact absurd c39 (by decide +kernel) | exact absurd c49 (by decide +kernel) | exact absurd c59 (by decide +kernel) | exact absurd c62 (by decide +kernel) | exact absurd c65 (by decide +kernel))
                        · refine lv_iconst (v := 3) hx hb dX9_fineBy_145 (by decide) ?_
                          refine lv_goto (tgt := 150) hx hb dX9_fineBy_146 (by decide) ?_
                          refine lv_ior hx hb dX9_fineBy_150 ?_
                          refine lv_topi (fun y67 ey67 => ?_)
                          refine r_iret (v := y67) hx hb hr hlocks w dX9_fineBy_151 ?_
                          refine ⟨rfl, ?_⟩
                          have f1_ := i_ofN hp1
                          have f2_ := i_ofN hp2
                          have f3_ := i_ofN hp3
                          subst f1_ f2_ f3_
                          clear w hl
                          subst ey6 ey8 ey38 ey48 ey58 ey60 ey61 ey64 ey67
                          obtain hk_ : k = 7 := by omega
                          clear c1
                          clear c2
                          clear c3
                          all_goals (subst hk_; clear hc_ hp0 hk; rcases lt4 hq0 with rfl | rfl | rfl | rfl <;> rcases lt4 hq1 with rfl | rfl | rfl | rfl <;> first | rfl | decide +kernel | exact absurd c4 (by decide +kernel) | exact absurd c5 (by decide +kernel) | exact absurd c7 (by decide +kernel) | exact absurd c9 (by decide +kernel) | exact absurd c39 (by decide +kernel) | exact absurd c49 (by decide +kernel) | exact absurd c59 (by decide +kernel) | exact absurd c62 (by decide +kernel) | exact absurd c65 (by decide +kernel))
                    · refine lv_iconst (v := 2) hx hb dX9_fineBy_123 (by decide) ?_
                      refine lv_goto (tgt := 128) hx hb dX9_fineBy_124 (by decide) ?_
                      refine lv_ior hx hb dX9_fineBy_128 ?_
                      refine lv_topi (fun y68 ey68 => ?_)
                      refine lv_istore (lv' := [(4, .int y68), (0, .int p0), (1, .int p1), (2, .int p2), (3, .int p3)]) hx hb dX9_fineBy_129 hl (by decide) rfl (fun ls hl => ?_)
                      refine lv_iload hx hb dX9_fineBy_131 (lv_at hl 0 rfl) ?_
                      refine lv_iload_n hx hb dX9_fineBy_133 rfl (lv_at hl 2 rfl) ?_
                      refine lv_iconst (v := 2) hx hb dX9_fineBy_134 (by decide) ?_
                      refine lv_iand hx hb dX9_fineBy_135 ?_
                      refine lv_topi (fun y69 ey69 => ?_)
                      refine lv_if_eq (tgt := 149) hx hb dX9_fineBy_136 (by decide) (fun c70 => ?_) (fun c70 => ?_)
                      · refine lv_iconst (v := 0) hx hb dX9_fineBy_149 (by decide) ?_
                        refine lv_ior hx hb dX9_fineBy_150 ?_
                        refine lv_topi (fun y71 ey71 => ?_)
                        refine r_iret (v := y71) hx hb hr hlocks w dX9_fineBy_151 ?_
                        refine ⟨rfl, ?_⟩
                        have f1_ := i_ofN hp1
                        have f2_ := i_ofN hp2
                        have f3_ := i_ofN hp3
                        subst f1_ f2_ f3_
                        clear w hl
                        subst ey6 ey8 ey38 ey48 ey58 ey68 ey69 ey71
                        obtain hk_ : k = 7 := by omega
                        clear c1
                        clear c2
                        clear c3
                        all_goals (subst hk_; clear hc_ hp0 hk; rcases lt4 hq0 with rfl | rfl | rfl | rfl <;> rcases lt4 hq1 with rfl | rfl | rfl | rfl <;> first | rfl | decide +kernel | exact absurd c4 (by decide +kernel) | exact absurd c5 (by decide +kernel) | exact absurd c7 (by decide +kernel) | exact absurd c9 (by decide +kernel) | exact absurd c39 (by decide +kernel) | exact absurd c49 (by decide +kernel) | exact absurd c59 (by decide +kernel) | exact absurd c70 (by decide +kernel))
                      · refine lv_iload_n hx hb dX9_fineBy_139 rfl (lv_at hl 3 rfl) ?_
                        refine lv_iconst (v := 2) hx hb dX9_fineBy_140 (by decide) ?_
                        refine lv_iand hx hb dX9_fineBy_141 ?_
                        refine lv_topi (fun y72 ey72 => ?_)
                        refine lv_if_eq (tgt := 149) hx hb dX9_fineBy_142 (by decide) (fun c73 => ?_) (fun c73 => ?_)
                        · refine lv_iconst (v := 0) hx hb dX9_fineBy_149 (by decide) ?_
                          refine lv_ior hx hb dX9_fineBy_150 ?_
                          refine lv_topi (fun y74 ey74 => ?_)
                          refine r_iret (v := y74) hx hb hr hlocks w dX9_fineBy_151 ?_
                          refine ⟨rfl, ?_⟩
                          have f1_ := i_ofN hp1
                          have f2_ := i_ofN hp2
                          have f3_ := i_ofN hp3
                          subst f1_ f2_ f3_
                          clear w hl
                          subst ey6 ey8 ey38 ey48 ey58 ey68 ey69 ey72 ey74
                          obtain hk_ : k = 7 := by omega
                          clear c1
                          clear c2
                          clear c3
                          all_goals (subst hk_; clear hc_ hp0 hk; rcases lt4 hq0 with rfl | rfl | rfl | rfl <;> rcases lt4 hq1 with rfl | rfl | rfl | rfl <;> first | rfl | decide +kernel | exact absurd c4 (by decide +kernel) | exact absurd c5 (by decide +kernel) | exact absurd c7 (by decide +kernel) | exact absurd c9 (by decide +kernel) | exact absurd c39 (by decide +kernel) | exact absurd c49 (by decide +kernel) | exact absurd c59 (by decide +kernel) | exact absurd c70 (by decide +kernel) | exact absurd c73 (by decide +kernel))
                        · refine lv_iconst (v := 3) hx hb dX9_fineBy_145 (by decide) ?_
                          refine lv_goto (tgt := 150) hx hb dX9_fineBy_146 (by decide) ?_
                          refine lv_ior hx hb dX9_fineBy_150 ?_
                          refine lv_topi (fun y75 ey75 => ?_)
                          refine r_iret (v := y75) hx hb hr hlocks w dX9_fineBy_151 ?_
                          refine ⟨rfl, ?_⟩
                          have f1_ := i_ofN hp1
                          have f2_ := i_ofN hp2
                          have f3_ := i_ofN hp3
                          subst f1_ f2_ f3_
                          clear w hl
                          subst ey6 ey8 ey38 ey48 ey58 ey68 ey69 ey72 ey75
                          obtain hk_ : k = 7 := by omega
                          clear c1
                          clear c2
                          clear c3
                          all_goals (subst hk_; clear hc_ hp0 hk; rcases lt4 hq0 with rfl | rfl | rfl | rfl <;> rcases lt4 hq1 with rfl | rfl | rfl | rfl <;> first | rfl | decide +kernel | exact absurd c4 (by decide +kernel) | exact absurd c5 (by decide +kernel) | exact absurd c7 (by decide +kernel) | exact absurd c9 (by decide +kernel) | exact absurd c39 (by decide +kernel) | exact absurd c49 (by decide +kernel) | exact absurd c59 (by decide +kernel) | exact absurd c70 (by decide +kernel) | exact absurd c73 (by decide +kernel))
            · refine lv_iload_n hx hb dX9_fineBy_84 rfl (lv_at hl 2 rfl) ?_
              refine lv_iconst (v := 1) hx hb dX9_fineBy_85 (by decide) ?_
              refine lv_iand hx hb dX9_fineBy_86 ?_
              refine lv_topi (fun y76 ey76 => ?_)
              refine lv_if_eq (tgt := 94) hx hb dX9_fineBy_87 (by decide) (fun c77 => ?_) (fun c77 => ?_)
              · refine lv_iconst (v := 0) hx hb dX9_fineBy_94 (by decide) ?_
                refine lv_istore (lv' := [(4, .int 0), (0, .int p0), (1, .int p1), (2, .int p2), (3, .int p3)]) hx hb dX9_fineBy_95 hl (by decide) rfl (fun ls hl => ?_)
                refine lv_iload hx hb dX9_fineBy_97 (lv_at hl 0 rfl) ?_
                refine lv_iload_n hx hb dX9_fineBy_99 rfl (lv_at hl 2 rfl) ?_
                refine lv_iconst (v := 1) hx hb dX9_fineBy_100 (by decide) ?_
                refine lv_iand hx hb dX9_fineBy_101 ?_
                refine lv_topi (fun y78 ey78 => ?_)
                refine lv_if_eq (tgt := 111) hx hb dX9_fineBy_102 (by decide) (fun c79 => ?_) (fun c79 => ?_)
                · refine lv_iload_n hx hb dX9_fineBy_111 rfl (lv_at hl 2 rfl) ?_
                  refine lv_iconst (v := 2) hx hb dX9_fineBy_112 (by decide) ?_
                  refine lv_iand hx hb dX9_fineBy_113 ?_
                  refine lv_topi (fun y80 ey80 => ?_)
                  refine lv_if_eq (tgt := 127) hx hb dX9_fineBy_114 (by decide) (fun c81 => ?_) (fun c81 => ?_)
                  · refine lv_iconst (v := 0) hx hb dX9_fineBy_127 (by decide) ?_
                    refine lv_ior hx hb dX9_fineBy_128 ?_
                    refine lv_topi (fun y82 ey82 => ?_)
                    refine lv_istore (lv' := [(4, .int y82), (0, .int p0), (1, .int p1), (2, .int p2), (3, .int p3)]) hx hb dX9_fineBy_129 hl (by decide) rfl (fun ls hl => ?_)
                    refine lv_iload hx hb dX9_fineBy_131 (lv_at hl 0 rfl) ?_
                    refine lv_iload_n hx hb dX9_fineBy_133 rfl (lv_at hl 2 rfl) ?_
                    refine lv_iconst (v := 2) hx hb dX9_fineBy_134 (by decide) ?_
                    refine lv_iand hx hb dX9_fineBy_135 ?_
                    refine lv_topi (fun y83 ey83 => ?_)
                    refine lv_if_eq (tgt := 149) hx hb dX9_fineBy_136 (by decide) (fun c84 => ?_) (fun c84 => ?_)
                    · refine lv_iconst (v := 0) hx hb dX9_fineBy_149 (by decide) ?_
                      refine lv_ior hx hb dX9_fineBy_150 ?_
                      refine lv_topi (fun y85 ey85 => ?_)
                      refine r_iret (v := y85) hx hb hr hlocks w dX9_fineBy_151 ?_
                      refine ⟨rfl, ?_⟩
                      have f1_ := i_ofN hp1
                      have f2_ := i_ofN hp2
                      have f3_ := i_ofN hp3
                      subst f1_ f2_ f3_
                      clear w hl
                      subst ey6 ey76 ey78 ey80 ey82 ey83 ey85
                      obtain hk_ : k = 7 := by omega
                      clear c1
                      clear c2
                      clear c3
                      all_goals (subst hk_; clear hc_ hp0 hk; rcases lt4 hq0 with rfl | rfl | rfl | rfl <;> rcases lt4 hq1 with rfl | rfl | rfl | rfl <;> first | rfl | decide +kernel | exact absurd c4 (by decide +kernel) | exact absurd c5 (by decide +kernel) | exact absurd c7 (by decide +kernel) | exact absurd c77 (by decide +kernel) | exact absurd c79 (by decide +kernel) | exact absurd c81 (by decide +kernel) | exact absurd c84 (by decide +kernel))
                    · refine lv_iload_n hx hb dX9_fineBy_139 rfl (lv_at hl 3 rfl) ?_
                      refine lv_iconst (v := 2) hx hb dX9_fineBy_140 (by decide) ?_
                      refine lv_iand hx hb dX9_fineBy_141 ?_
                      refine lv_topi (fun y86 ey86 => ?_)
                      refine lv_if_eq (tgt := 149) hx hb dX9_fineBy_142 (by decide) (fun c87 => ?_) (fun c87 => ?_)
                      · refine lv_iconst (v := 0) hx hb dX9_fineBy_149 (by decide) ?_
                        refine lv_ior hx hb dX9_fineBy_150 ?_
                        refine lv_topi (fun y88 ey88 => ?_)
                        refine r_iret (v := y88) hx hb hr hlocks w dX9_fineBy_151 ?_
                        refine ⟨rfl, ?_⟩
                        have f1_ := i_ofN hp1
                        have f2_ := i_ofN hp2
                        have f3_ := i_ofN hp3
                        subst f1_ f2_ f3_
                        clear w hl
                        subst ey6 ey76 ey78 ey80 ey82 ey83 ey86 ey88
                        obtain hk_ : k = 7 := by omega
                        clear c1
                        clear c2
                        clear c3
                        all_goals (subst hk_; clear hc_ hp0 hk; rcases lt4 hq0 with rfl | rfl | rfl | rfl <;> rcases lt4 hq1 with rfl | rfl | rfl | rfl <;> first | rfl | decide +kernel | exact absurd c4 (by decide +kernel) | exact absurd c5 (by decide +kernel) | exact absurd c7 (by decide +kernel) | exact absurd c77 (by decide +kernel) | exact absurd c79 (by decide +kernel) | exact absurd c81 (by decide +kernel) | exact absurd c84 (by decide +kernel) | exact absurd c87 (by decide +kernel))
                      · refine lv_iconst (v := 3) hx hb dX9_fineBy_145 (by decide) ?_
                        refine lv_goto (tgt := 150) hx hb dX9_fineBy_146 (by decide) ?_
                        refine lv_ior hx hb dX9_fineBy_150 ?_
                        refine lv_topi (fun y89 ey89 => ?_)
                        refine r_iret (v := y89) hx hb hr hlocks w dX9_fineBy_151 ?_
                        refine ⟨rfl, ?_⟩
                        have f1_ := i_ofN hp1
                        have f2_ := i_ofN hp2
                        have f3_ := i_ofN hp3
                        subst f1_ f2_ f3_
                        clear w hl
                        subst ey6 ey76 ey78 ey80 ey82 ey83 ey86 ey89
                        obtain hk_ : k = 7 := by omega
                        clear c1
                        clear c2
                        clear c3
                        all_goals (subst hk_; clear hc_ hp0 hk; rcases lt4 hq0 with rfl | rfl | rfl | rfl <;> rcases lt4 hq1 with rfl | rfl | rfl | rfl <;> first | rfl | decide +kernel | exact absurd c4 (by decide +kernel) | exact absurd c5 (by decide +kernel) | exact absurd c7 (by decide +kernel) | exact absurd c77 (by decide +kernel) | exact absurd c79 (by decide +kernel) | exact absurd c81 (by decide +kernel) | exact absurd c84 (by decide +kernel) | exact absurd c87 (by decide +kernel))
                  · refine lv_iload_n hx hb dX9_fineBy_117 rfl (lv_at hl 3 rfl) ?_
                    refine lv_iconst (v := 1) hx hb dX9_fineBy_118 (by decide) ?_
                    refine lv_iand hx hb dX9_fineBy_119 ?_
                    refine lv_topi (fun y90 ey90 => ?_)
                    refine lv_if_eq (tgt := 127) hx hb dX9_fineBy_120 (by decide) (fun c91 => ?_) (fun c91 => ?_)
                    · refine lv_iconst (v := 0) hx hb dX9_fineBy_127 (by decide) ?_
                      refine lv_ior hx hb dX9_fineBy_128 ?_
                      refine lv_topi (fun y92 ey92 => ?_)
                      refine lv_istore (lv' := [(4, .int y92), (0, .int p0), (1, .int p1), (2, .int p2), (3, .int p3)]) hx hb dX9_fineBy_129 hl (by decide) rfl (fun ls hl => ?_)
                      refine lv_iload hx hb dX9_fineBy_131 (lv_at hl 0 rfl) ?_
                      refine lv_iload_n hx hb dX9_fineBy_133 rfl (lv_at hl 2 rfl) ?_
                      refine lv_iconst (v := 2) hx hb dX9_fineBy_134 (by decide) ?_
                      refine lv_iand hx hb dX9_fineBy_135 ?_
                      refine lv_topi (fun y93 ey93 => ?_)
                      refine lv_if_eq (tgt := 149) hx hb dX9_fineBy_136 (by decide) (fun c94 => ?_) (fun c94 => ?_)
                      · refine lv_iconst (v := 0) hx hb dX9_fineBy_149 (by decide) ?_
                        refine lv_ior hx hb dX9_fineBy_150 ?_
                        refine lv_topi (fun y95 ey95 => ?_)
                        refine r_iret (v := y95) hx hb hr hlocks w dX9_fineBy_151 ?_
                        refine ⟨rfl, ?_⟩
                        have f1_ := i_ofN hp1
                        have f2_ := i_ofN hp2
                        have f3_ := i_ofN hp3
                        subst f1_ f2_ f3_
                        clear w hl
                        subst ey6 ey76 ey78 ey80 ey90 ey92 ey93 ey95
                        obtain hk_ : k = 7 := by omega
                        clear c1
                        clear c2
                        clear c3
                        all_goals (subst hk_; clear hc_ hp0 hk; rcases lt4 hq0 with rfl | rfl | rfl | rfl <;> rcases lt4 hq1 with rfl | rfl | rfl | rfl <;> first | rfl | decide +kernel | exact absurd c4 (by decide +kernel) | exact absurd c5 (by decide +kernel) | exact absurd c7 (by decide +kernel) | exact absurd c77 (by decide +kernel) | exact absurd c79 (by decide +kernel) | exact absurd c81 (by decide +kernel) | exact absurd c91 (by decide +kernel) | exact absurd c94 (by decide +kernel))
                      · refine lv_iload_n hx hb dX9_fineBy_139 rfl (lv_at hl 3 rfl) ?_
                        refine lv_iconst (v := 2) hx hb dX9_fineBy_140 (by decide) ?_
                        refine lv_iand hx hb dX9_fineBy_141 ?_
                        refine lv_topi (fun y96 ey96 => ?_)
                        refine lv_if_eq (tgt := 149) hx hb dX9_fineBy_142 (by decide) (fun c97 => ?_) (fun c97 => ?_)
                        · refine lv_iconst (v := 0) hx hb dX9_fineBy_149 (by decide) ?_
                          refine lv_ior hx hb dX9_fineBy_150 ?_
                          refine lv_topi (fun y98 ey98 => ?_)
                          refine r_iret (v := y98) hx hb hr hlocks w dX9_fineBy_151 ?_
                          refine ⟨rfl, ?_⟩
                          have f1_ := i_ofN hp1
                          have f2_ := i_ofN hp2
                          have f3_ := i_ofN hp3
                          subst f1_ f2_ f3_
                          clear w hl
                          subst ey6 ey76 ey78 ey80 ey90 ey92 ey93 ey96 ey98
                          obtain hk_ : k = 7 := by omega
                          clear c1
                          clear c2
                          clear c3
                          all_goals (subst hk_; clear hc_ hp0 hk; rcases lt4 hq0 with rfl | rfl | rfl | rfl <;> rcases lt4 hq1 with rfl | rfl | rfl | rfl <;> first | rfl | decide +kernel | exact absurd c4 (by decide +kernel) | exact absurd c5 (by decide +kernel) | exact absurd c7 (by decide +kernel) | exact absurd c77 (by decide +kernel) | exact absurd c79 (by decide +kernel) | exact absurd c81 (by decide +kernel) | exact absurd c91 (by decide +kernel) | exact absurd c94 (by decide +kernel) | exact absurd c97 (by decide +kernel))
                        · refine lv_iconst (v := 3) hx hb dX9_fineBy_145 (by decide) ?_
                          refine lv_goto (tgt := 150) hx hb dX9_fineBy_146 (by decide) ?_
                          refine lv_ior hx hb dX9_fineBy_150 ?_
                          refine lv_topi (fun y99 ey99 => ?_)
                          refine r_iret (v := y99) hx hb hr hlocks w dX9_fineBy_151 ?_
                          refine ⟨rfl, ?_⟩
                          have f1_ := i_ofN hp1
                          have f2_ := i_ofN hp2
                          have f3_ := i_ofN hp3
                          subst f1_ f2_ f3_
                          clear w hl
                          subst ey6 ey76 ey78 ey80 ey90 ey92 ey93 ey96 ey99
                          obtain hk_ : k = 7 := by omega
                          clear c1
                          clear c2
                          clear c3
                          all_goals (subst hk_; clear hc_ hp0 hk; rcases lt4 hq0 with rfl | rfl | rfl | rfl <;> rcases lt4 hq1 with rfl | rfl | rfl | rfl <;> first | rfl | decide +kernel | exact absurd c4 (by decide +kernel) | exact absurd c5 (by decide +kernel) | exact absurd c7 (by decide +kernel) | exact absurd c77 (by decide +kernel) | exact absurd c79 (by decide +kernel) | exact absurd c81 (by decide +kernel) | exact absurd c91 (by decide +kernel) | exact absurd c94 (by decide +kernel) | exact absurd c97 (by decide +kernel))
                    · refine lv_iconst (v := 2) hx hb dX9_fineBy_123 (by decide) ?_
                      refine lv_goto (tgt := 128) hx hb dX9_fineBy_124 (by decide) ?_
                      refine lv_ior hx hb dX9_fineBy_128 ?_
                      refine lv_topi (fun y100 ey100 => ?_)
                      refine lv_istore (lv' := [(4, .int y100), (0, .int p0), (1, .int p1), (2, .int p2), (3, .int p3)]) hx hb dX9_fineBy_129 hl (by decide) rfl (fun ls hl => ?_)
                      refine lv_iload hx hb dX9_fineBy_131 (lv_at hl 0 rfl) ?_
                      refine lv_iload_n hx hb dX9_fineBy_133 rfl (lv_at hl 2 rfl) ?_
                      refine lv_iconst (v := 2) hx hb dX9_fineBy_134 (by decide) ?_
                      refine lv_iand hx hb dX9_fineBy_135 ?_
                      refine lv_topi (fun y101 ey101 => ?_)
                      refine lv_if_eq (tgt := 149) hx hb dX9_fineBy_136 (by decide) (fun c102 => ?_) (fun c102 => ?_)
                      · refine lv_iconst (v := 0) hx hb dX9_fineBy_149 (by decide) ?_
                        refine lv_ior hx hb dX9_fineBy_150 ?_
                        refine lv_topi (fun y103 ey103 => ?_)
                        refine r_iret (v := y103) hx hb hr hlocks w dX9_fineBy_151 ?_
                        refine ⟨rfl, ?_⟩
                        have f1_ := i_ofN hp1
                        have f2_ := i_ofN hp2
                        have f3_ := i_ofN hp3
                        subst f1_ f2_ f3_
                        clear w hl
                        subst ey6 ey76 ey78 ey80 ey90 ey100 ey101 ey103
                        obtain hk_ : k = 7 := by omega
                        clear c1
                        clear c2
                        clear c3
                        all_goals (subst hk_; clear hc_ hp0 hk; rcases lt4 hq0 with rfl | rfl | rfl | rfl <;> rcases lt4 hq1 with rfl | rfl | rfl | rfl <;> first | rfl | decide +kernel | exact absurd c4 (by decide +kernel) | exact absurd c5 (by decide +kernel) | exact absurd c7 (by decide +kernel) | exact absurd c77 (by decide +kernel) | exact absurd c79 (by decide +kernel) | exact absurd c81 (by decide +kernel) | exact absurd c91 (by decide +kernel) | exact absurd c102 (by decide +kernel))
                      · refine lv_iload_n hx hb dX9_fineBy_139 rfl (lv_at hl 3 rfl) ?_
                        refine lv_iconst (v := 2) hx hb dX9_fineBy_140 (by decide) ?_
                        refine lv_iand hx hb dX9_fineBy_141 ?_
                        refine lv_topi (fun y104 ey104 => ?_)
                        refine lv_if_eq (tgt := 149) hx hb dX9_fineBy_142 (by decide) (fun c105 => ?_) (fun c105 => ?_)
                        · refine lv_iconst (v := 0) hx hb dX9_fineBy_149 (by decide) ?_
                          refine lv_ior hx hb dX9_fineBy_150 ?_
                          refine lv_topi (fun y106 ey106 => ?_)
                          refine r_iret (v := y106) hx hb hr hlocks w dX9_fineBy_151 ?_
                          refine ⟨rfl, ?_⟩
                          have f1_ := i_ofN hp1
                          have f2_ := i_ofN hp2
                          have f3_ := i_ofN hp3
                          subst f1_ f2_ f3_
                          clear w hl
                          subst ey6 ey76 ey78 ey80 ey90 ey100 ey101 ey104 ey106
                          obtain hk_ : k = 7 := by omega
                          clear c1
                          clear c2
                          clear c3
                          all_goals (subst hk_; clear hc_ hp0 hk; rcases lt4 hq0 with rfl | rfl | rfl | rfl <;> rcases lt4 hq1 with rfl | rfl | rfl | rfl <;> first | rfl | decide +kernel | exact absurd c4 (by decide +kernel) | exact absurd c5 (by decide +kernel) | exact absurd c7 (by decide +kernel) | exact absurd c77 (by decide +kernel) | exact absurd c79 (by decide +kernel) | exact absurd c81 (by decide +kernel) | exact absurd c91 (by decide +kernel) | exact absurd c102 (by decide +kernel) | exact absurd c105 (by decide +kernel))
                        · refine lv_iconst (v := 3) hx hb dX9_fineBy_145 (by decide) ?_
                          refine lv_goto (tgt := 150) hx hb dX9_fineBy_146 (by decide) ?_
                          refine lv_ior hx hb dX9_fineBy_150 ?_
                          refine lv_topi (fun y107 ey107 => ?_)
                          refine r_iret (v := y107) hx hb hr hlocks w dX9_fineBy_151 ?_
                          refine ⟨rfl, ?_⟩
                          have f1_ := i_ofN hp1
                          have f2_ := i_ofN hp2
                          have f3_ := i_ofN hp3
                          subst f1_ f2_ f3_
                          clear w hl
                          subst ey6 ey76 ey78 ey80 ey90 ey100 ey101 ey104 ey107
                          obtain hk_ : k = 7 := by omega
                          clear c1
                          clear c2
                          clear c3
                          all_goals (subst hk_; clear hc_ hp0 hk; rcases lt4 hq0 with rfl | rfl | rfl | rfl <;> rcases lt4 hq1 with rfl | rfl | rfl | rfl <;> first | rfl | decide +kernel | exact absurd c4 (by decide +kernel) | exact absurd c5 (by decide +kernel) | exact absurd c7 (by decide +kernel) | exact absurd c77 (by decide +kernel) | exact absurd c79 (by decide +kernel) | exact absurd c81 (by decide +kernel) | exact absurd c91 (by decide +kernel) | exact absurd c102 (by decide +kernel) | exact absurd c105 (by decide +kernel))
                · refine lv_iload_n hx hb dX9_fineBy_105 rfl (lv_at hl 3 rfl) ?_
                  refine lv_iconst (v := 2) hx hb dX9_fineBy_106 (by decide) ?_
                  refine lv_iand hx hb dX9_fineBy_107 ?_
                  refine lv_topi (fun y108 ey108 => ?_)
                  refine lv_if_ne (tgt := 123) hx hb dX9_fineBy_108 (by decide) (fun c109 => ?_) (fun c109 => ?_)
                  · refine lv_iconst (v := 2) hx hb dX9_fineBy_123 (by decide) ?_
                    refine lv_goto (tgt := 128) hx hb dX9_fineBy_124 (by decide) ?_
                    refine lv_ior hx hb dX9_fineBy_128 ?_
                    refine lv_topi (fun y110 ey110 => ?_)
                    refine lv_istore (lv' := [(4, .int y110), (0, .int p0), (1, .int p1), (2, .int p2), (3, .int p3)]) hx hb dX9_fineBy_129 hl (by decide) rfl (fun ls hl => ?_)
                    refine lv_iload hx hb dX9_fineBy_131 (lv_at hl 0 rfl) ?_
                    refine lv_iload_n hx hb dX9_fineBy_133 rfl (lv_at hl 2 rfl) ?_
                    refine lv_iconst (v := 2) hx hb dX9_fineBy_134 (by decide) ?_
                    refine lv_iand hx hb dX9_fineBy_135 ?_
                    refine lv_topi (fun y111 ey111 => ?_)
                    refine lv_if_eq (tgt := 149) hx hb dX9_fineBy_136 (by decide) (fun c112 => ?_) (fun c112 => ?_)
                    · refine lv_iconst (v := 0) hx hb dX9_fineBy_149 (by decide) ?_
                      refine lv_ior hx hb dX9_fineBy_150 ?_
                      refine lv_topi (fun y113 ey113 => ?_)
                      refine r_iret (v := y113) hx hb hr hlocks w dX9_fineBy_151 ?_
                      refine ⟨rfl, ?_⟩
                      have f1_ := i_ofN hp1
                      have f2_ := i_ofN hp2
                      have f3_ := i_ofN hp3
                      subst f1_ f2_ f3_
                      clear w hl
                      subst ey6 ey76 ey78 ey108 ey110 ey111 ey113
                      obtain hk_ : k = 7 := by omega
                      clear c1
                      clear c2
                      clear c3
                      all_goals (subst hk_; clear hc_ hp0 hk; rcases lt4 hq0 with rfl | rfl | rfl | rfl <;> rcases lt4 hq1 with rfl | rfl | rfl | rfl <;> first | rfl | decide +kernel | exact absurd c4 (by decide +kernel) | exact absurd c5 (by decide +kernel) | exact absurd c7 (by decide +kernel) | exact absurd c77 (by decide +kernel) | exact absurd c79 (by decide +kernel) | exact absurd c109 (by decide +kernel) | exact absurd c112 (by decide +kernel))
                    · refine lv_iload_n hx hb dX9_fineBy_139 rfl (lv_at hl 3 rfl) ?_
                      refine lv_iconst (v := 2) hx hb dX9_fineBy_140 (by decide) ?_
                      refine lv_iand hx hb dX9_fineBy_141 ?_
                      refine lv_topi (fun y114 ey114 => ?_)
                      refine lv_if_eq (tgt := 149) hx hb dX9_fineBy_142 (by decide) (fun c115 => ?_) (fun c115 => ?_)
                      · refine lv_iconst (v := 0) hx hb dX9_fineBy_149 (by decide) ?_
                        refine lv_ior hx hb dX9_fineBy_150 ?_
                        refine lv_topi (fun y116 ey116 => ?_)
                        refine r_iret (v := y116) hx hb hr hlocks w dX9_fineBy_151 ?_
                        refine ⟨rfl, ?_⟩
                        have f1_ := i_ofN hp1
                        have f2_ := i_ofN hp2
                        have f3_ := i_ofN hp3
                        subst f1_ f2_ f3_
                        clear w hl
                        subst ey6 ey76 ey78 ey108 ey110 ey111 ey114 ey116
                        obtain hk_ : k = 7 := by omega
                        clear c1
                        clear c2
                        clear c3
                        all_goals (subst hk_; clear hc_ hp0 hk; rcases lt4 hq0 with rfl | rfl | rfl | rfl <;> rcases lt4 hq1 with rfl | rfl | rfl | rfl <;> first | rfl | decide +kernel | exact absurd c4 (by decide +kernel) | exact absurd c5 (by decide +kernel) | exact absurd c7 (by decide +kernel) | exact absurd c77 (by decide +kernel) | exact absurd c79 (by decide +kernel) | exact absurd c109 (by decide +kernel) | exact absurd c112 (by decide +kernel) | exact absurd c115 (by decide +kernel))
                      · refine lv_iconst (v := 3) hx hb dX9_fineBy_145 (by decide) ?_
                        refine lv_goto (tgt := 150) hx hb dX9_fineBy_146 (by decide) ?_
                        refine lv_ior hx hb dX9_fineBy_150 ?_
                        refine lv_topi (fun y117 ey117 => ?_)
                        refine r_iret (v := y117) hx hb hr hlocks w dX9_fineBy_151 ?_
                        refine ⟨rfl, ?_⟩
                        have f1_ := i_ofN hp1
                        have f2_ := i_ofN hp2
                        have f3_ := i_ofN hp3
                        subst f1_ f2_ f3_
                        clear w hl
                        subst ey6 ey76 ey78 ey108 ey110 ey111 ey114 ey117
                        obtain hk_ : k = 7 := by omega
                        clear c1
                        clear c2
                        clear c3
                        all_goals (subst hk_; clear hc_ hp0 hk; rcases lt4 hq0 with rfl | rfl | rfl | rfl <;> rcases lt4 hq1 with rfl | rfl | rfl | rfl <;> first | rfl | decide +kernel | exact absurd c4 (by decide +kernel) | exact absurd c5 (by decide +kernel) | exact absurd c7 (by decide +kernel) | exact absurd c77 (by decide +kernel) | exact absurd c79 (by decide +kernel) | exact absurd c109 (by decide +kernel) | exact absurd c112 (by decide +kernel) | exact absurd c115 (by decide +kernel))
                  · refine lv_iload_n hx hb dX9_fineBy_111 rfl (lv_at hl 2 rfl) ?_
                    refine lv_iconst (v := 2) hx hb dX9_fineBy_112 (by decide) ?_
                    refine lv_iand hx hb dX9_fineBy_113 ?_
                    refine lv_topi (fun y118 ey118 => ?_)
                    refine lv_if_eq (tgt := 127) hx hb dX9_fineBy_114 (by decide) (fun c119 => ?_) (fun c119 => ?_)
                    · refine lv_iconst (v := 0) hx hb dX9_fineBy_127 (by decide) ?_
                      refine lv_ior hx hb dX9_fineBy_128 ?_
                      refine lv_topi (fun y120 ey120 => ?_)
                      refine lv_istore (lv' := [(4, .int y120), (0, .int p0), (1, .int p1), (2, .int p2), (3, .int p3)]) hx hb dX9_fineBy_129 hl (by decide) rfl (fun ls hl => ?_)
                      refine lv_iload hx hb dX9_fineBy_131 (lv_at hl 0 rfl) ?_
                      refine lv_iload_n hx hb dX9_fineBy_133 rfl (lv_at hl 2 rfl) ?_
                      refine lv_iconst (v := 2) hx hb dX9_fineBy_134 (by decide) ?_
                      refine lv_iand hx hb dX9_fineBy_135 ?_
                      refine lv_topi (fun y121 ey121 => ?_)
                      refine lv_if_eq (tgt := 149) hx hb dX9_fineBy_136 (by decide) (fun c122 => ?_) (fun c122 => ?_)
                      · refine lv_iconst (v := 0) hx hb dX9_fineBy_149 (by decide) ?_
                        refine lv_ior hx hb dX9_fineBy_150 ?_
                        refine lv_topi (fun y123 ey123 => ?_)
                        refine r_iret (v := y123) hx hb hr hlocks w dX9_fineBy_151 ?_
                        refine ⟨rfl, ?_⟩
                        have f1_ := i_ofN hp1
                        have f2_ := i_ofN hp2
                        have f3_ := i_ofN hp3
                        subst f1_ f2_ f3_
                        clear w hl
                        subst ey6 ey76 ey78 ey108 ey118 ey120 ey121 ey123
                        obtain hk_ : k = 7 := by omega
                        clear c1
                        clear c2
                        clear c3
                        all_goals (subst hk_; clear hc_ hp0 hk; rcases lt4 hq0 with rfl | rfl | rfl | rfl <;> rcases lt4 hq1 with rfl | rfl | rfl | rfl <;> first | rfl | decide +kernel | exact absurd c4 (by decide +kernel) | exact absurd c5 (by decide +kernel) | exact absurd c7 (by decide +kernel) | exact absurd c77 (by decide +kernel) | exact absurd c79 (by decide +kernel) | exact absurd c109 (by decide +kernel) | exact absurd c119 (by decide +kernel) | exact absurd c122 (by decide +kernel))
                      · refine lv_iload_n hx hb dX9_fineBy_139 rfl (lv_at hl 3 rfl) ?_
                        refine lv_iconst (v := 2) hx hb dX9_fineBy_140 (by decide) ?_
                        refine lv_iand hx hb dX9_fineBy_141 ?_
                        refine lv_topi (fun y124 ey124 => ?_)
                        refine lv_if_eq (tgt := 149) hx hb dX9_fineBy_142 (by decide) (fun c125 => ?_) (fun c125 => ?_)
                        · refine lv_iconst (v := 0) hx hb dX9_fineBy_149 (by decide) ?_
                          refine lv_ior hx hb dX9_fineBy_150 ?_
                          refine lv_topi (fun y126 ey126 => ?_)
                          refine r_iret (v := y126) hx hb hr hlocks w dX9_fineBy_151 ?_
                          refine ⟨rfl, ?_⟩
                          have f1_ := i_ofN hp1
                          have f2_ := i_ofN hp2
                          have f3_ := i_ofN hp3
                          subst f1_ f2_ f3_
                          clear w hl
                          subst ey6 ey76 ey78 ey108 ey118 ey120 ey121 ey124 ey126
                          obtain hk_ : k = 7 := by omega
                          clear c1
                          clear c2
                          clear c3
                          all_goals (subst hk_; clear hc_ hp0 hk; rcases lt4 hq0 with rfl | rfl | rfl | rfl <;> rcases lt4 hq1 with rfl | rfl | rfl | rfl <;> first | rfl | decide +kernel | exact absurd c4 (by decide +kernel) | exact absurd c5 (by decide +kernel) | exact absurd c7 (by decide +kernel) | exact absurd c77 (by decide +kernel) | exact absurd c79 (by decide +kernel) | exact absurd c109 (by decide +kernel) | exact absurd c119 (by decide +kernel) | exact absurd c122 (by decide +kernel) | exact absurd c125 (by decide +kernel))
                        · refine lv_iconst (v := 3) hx hb dX9_fineBy_145 (by decide) ?_
                          refine lv_goto (tgt := 150) hx hb dX9_fineBy_146 (by decide) ?_
                          refine lv_ior hx hb dX9_fineBy_150 ?_
                          refine lv_topi (fun y127 ey127 => ?_)
                          refine r_iret (v := y127) hx hb hr hlocks w dX9_fineBy_151 ?_
                          refine ⟨rfl, ?_⟩
                          have f1_ := i_ofN hp1
                          have f2_ := i_ofN hp2
                          have f3_ := i_ofN hp3
                          subst f1_ f2_ f3_
                          clear w hl
                          subst ey6 ey76 ey78 ey108 ey118 ey120 ey121 ey124 ey127
                          obtain hk_ : k = 7 := by omega
                          clear c1
                          clear c2
                          clear c3
                          all_goals (subst hk_; clear hc_ hp0 hk; rcases lt4 hq0 with rfl | rfl | rfl | rfl <;> rcases lt4 hq1 with rfl | rfl | rfl | rfl <;> first | rfl | decide +kernel | exact absurd c4 (by decide +kernel) | exact absurd c5 (by decide +kernel) | exact absurd c7 (by decide +kernel) | exact absurd c77 (by decide +kernel) | exact absurd c79 (by decide +kernel) | exact absurd c109 (by decide +kernel) | exact absurd c119 (by decide +kernel) | exact absurd c122 (by decide +kernel) | exact absurd c125 (by decide +kernel))
                    · refine lv_iload_n hx hb dX9_fineBy_117 rfl (lv_at hl 3 rfl) ?_
                      refine lv_iconst (v := 1) hx hb dX9_fineBy_118 (by decide) ?_
                      refine lv_iand hx hb dX9_fineBy_119 ?_
                      refine lv_topi (fun y128 ey128 => ?_)
                      refine lv_if_eq (tgt := 127) hx hb dX9_fineBy_120 (by decide) (fun c129 => ?_) (fun c129 => ?_)
                      · refine lv_iconst (v := 0) hx hb dX9_fineBy_127 (by decide) ?_
                        refine lv_ior hx hb dX9_fineBy_128 ?_
                        refine lv_topi (fun y130 ey130 => ?_)
                        refine lv_istore (lv' := [(4, .int y130), (0, .int p0), (1, .int p1), (2, .int p2), (3, .int p3)]) hx hb dX9_fineBy_129 hl (by decide) rfl (fun ls hl => ?_)
                        refine lv_iload hx hb dX9_fineBy_131 (lv_at hl 0 rfl) ?_
                        refine lv_iload_n hx hb dX9_fineBy_133 rfl (lv_at hl 2 rfl) ?_
                        refine lv_iconst (v := 2) hx hb dX9_fineBy_134 (by decide) ?_
                        refine lv_iand hx hb dX9_fineBy_135 ?_
                        refine lv_topi (fun y131 ey131 => ?_)
                        refine lv_if_eq (tgt := 149) hx hb dX9_fineBy_136 (by decide) (fun c132 => ?_) (fun c132 => ?_)
                        · refine lv_iconst (v := 0) hx hb dX9_fineBy_149 (by decide) ?_
                          refine lv_ior hx hb dX9_fineBy_150 ?_
                          refine lv_topi (fun y133 ey133 => ?_)
                          refine r_iret (v := y133) hx hb hr hlocks w dX9_fineBy_151 ?_
                          refine ⟨rfl, ?_⟩
                          have f1_ := i_ofN hp1
                          have f2_ := i_ofN hp2
                          have f3_ := i_ofN hp3
                          subst f1_ f2_ f3_
                          clear w hl
                          subst ey6 ey76 ey78 ey108 ey118 ey128 ey130 ey131 ey133
                          obtain hk_ : k = 7 := by omega
                          clear c1
                          clear c2
                          clear c3
                          all_goals (subst hk_; clear hc_ hp0 hk; rcases lt4 hq0 with rfl | rfl | rfl | rfl <;> rcases lt4 hq1 with rfl | rfl | rfl | rfl <;> first | rfl | decide +kernel | exact absurd c4 (by decide +kernel) | exact absurd c5 (by decide +kernel) | exact absurd c7 (by decide +kernel) | exact absurd c77 (by decide +kernel) | exact absurd c79 (by decide +kernel) | exact absurd c109 (by decide +kernel) | exact absurd c119 (by decide +kernel) | exact absurd c129 (by decide +kernel) | exact absurd c132 (by decide +kernel))
                        · refine lv_iload_n hx hb dX9_fineBy_139 rfl (lv_at hl 3 rfl) ?_
                          refine lv_iconst (v := 2) hx hb dX9_fineBy_140 (by decide) ?_
                          refine lv_iand hx hb dX9_fineBy_141 ?_
                          refine lv_topi (fun y134 ey134 => ?_)
                          refine lv_if_eq (tgt := 149) hx hb dX9_fineBy_142 (by decide) (fun c135 => ?_) (fun c135 => ?_)
                          · refine lv_iconst (v := 0) hx hb dX9_fineBy_149 (by decide) ?_
                            refine lv_ior hx hb dX9_fineBy_150 ?_
                            refine lv_topi (fun y136 ey136 => ?_)
                            refine r_iret (v := y136) hx hb hr hlocks w dX9_fineBy_151 ?_
                            refine ⟨rfl, ?_⟩
                            have f1_ := i_ofN hp1
                            have f2_ := i_ofN hp2
                            have f3_ := i_ofN hp3
                            subst f1_ f2_ f3_
                            clear w hl
                            subst ey6 ey76 ey78 ey108 ey118 ey128 ey130 ey131 ey134 ey136
                            obtain hk_ : k = 7 := by omega
                            clear c1
                            clear c2
                            clear c3
                            all_goals (subst hk_; clear hc_ hp0 hk; rcases lt4 hq0 with rfl | rfl | rfl | rfl <;> rcases lt4 hq1 with rfl | rfl | rfl | rfl <;> first | rfl | decide +kernel | exact absurd c4 (by decide +kernel) | exact absurd c5 (by decide +kernel) | exact absurd c7 (by decide +kernel) | exact absurd c77 (by decide +kernel) | exact absurd c79 (by decide +kernel) | exact absurd c109 (by decide +kernel) | exact absurd c119 (by decide +kernel) | exact absurd c129 (by decide +kernel) | exact absurd c132 (by decide +kernel) | exact absurd c135 (by decide +kernel))
                          · refine lv_iconst (v := 3) hx hb dX9_fineBy_145 (by decide) ?_
                            refine lv_goto (tgt := 150) hx hb dX9_fineBy_146 (by decide) ?_
                            refine lv_ior hx hb dX9_fineBy_150 ?_
                            refine lv_topi (fun y137 ey137 => ?_)
                            refine r_iret (v := y137) hx hb hr hlocks w dX9_fineBy_151 ?_
                            refine ⟨rfl, ?_⟩
                            have f1_ := i_ofN hp1
                            have f2_ := i_ofN hp2
                            have f3_ := i_ofN hp3
                            subst f1_ f2_ f3_
                            clear w hl
                            subst ey6 ey76 ey78 ey108 ey118 ey128 ey130 ey131 ey134 ey137
                            obtain hk_ : k = 7 := by omega
                            clear c1
                            clear c2
                            clear c3
                            all_goals (subst hk_; clear hc_ hp0 hk; rcases lt4 hq0 with rfl | rfl | rfl | rfl <;> rcases lt4 hq1 with rfl | rfl | rfl | rfl <;> first | rfl | decide +kernel | exact absurd c4 (by decide +kernel) | exact absurd c5 (by decide +kernel) | exact absurd c7 (by decide +kernel) | exact absurd c77 (by decide +kernel) | exact absurd c79 (by decide +kernel) | exact absurd c109 (by decide +kernel) | exact absurd c119 (by decide +kernel) | exact absurd c129 (by decide +kernel) | exact absurd c132 (by decide +kernel) | exact absurd c135 (by decide +kernel))
                      · refine lv_iconst (v := 2) hx hb dX9_fineBy_123 (by decide) ?_
                        refine lv_goto (tgt := 128) hx hb dX9_fineBy_124 (by decide) ?_
                        refine lv_ior hx hb dX9_fineBy_128 ?_
                        refine lv_topi (fun y138 ey138 => ?_)
                        refine lv_istore (lv' := [(4, .int y138), (0, .int p0), (1, .int p1), (2, .int p2), (3, .int p3)]) hx hb dX9_fineBy_129 hl (by decide) rfl (fun ls hl => ?_)
                        refine lv_iload hx hb dX9_fineBy_131 (lv_at hl 0 rfl) ?_
                        refine lv_iload_n hx hb dX9_fineBy_133 rfl (lv_at hl 2 rfl) ?_
                        refine lv_iconst (v := 2) hx hb dX9_fineBy_134 (by decide) ?_
                        refine lv_iand hx hb dX9_fineBy_135 ?_
                        refine lv_topi (fun y139 ey139 => ?_)
                        refine lv_if_eq (tgt := 149) hx hb dX9_fineBy_136 (by decide) (fun c140 => ?_) (fun c140 => ?_)
                        · refine lv_iconst (v := 0) hx hb dX9_fineBy_149 (by decide) ?_
                          refine lv_ior hx hb dX9_fineBy_150 ?_
                          refine lv_topi (fun y141 ey141 => ?_)
                          refine r_iret (v := y141) hx hb hr hlocks w dX9_fineBy_151 ?_
                          refine ⟨rfl, ?_⟩
                          have f1_ := i_ofN hp1
                          have f2_ := i_ofN hp2
                          have f3_ := i_ofN hp3
                          subst f1_ f2_ f3_
                          clear w hl
                          subst ey6 ey76 ey78 ey108 ey118 ey128 ey138 ey139 ey141
                          obtain hk_ : k = 7 := by omega
                          clear c1
                          clear c2
                          clear c3
                          all_goals (subst hk_; clear hc_ hp0 hk; rcases lt4 hq0 with rfl | rfl | rfl | rfl <;> rcases lt4 hq1 with rfl | rfl | rfl | rfl <;> first | rfl | decide +kernel | exact absurd c4 (by decide +kernel) | exact absurd c5 (by decide +kernel) | exact absurd c7 (by decide +kernel) | exact absurd c77 (by decide +kernel) | exact absurd c79 (by decide +kernel) | exact absurd c109 (by decide +kernel) | exact absurd c119 (by decide +kernel) | exact absurd c129 (by decide +kernel) | exact absurd c140 (by decide +kernel))
                        · refine lv_iload_n hx hb dX9_fineBy_139 rfl (lv_at hl 3 rfl) ?_
                          refine lv_iconst (v := 2) hx hb dX9_fineBy_140 (by decide) ?_
                          refine lv_iand hx hb dX9_fineBy_141 ?_
                          refine lv_topi (fun y142 ey142 => ?_)
                          refine lv_if_eq (tgt := 149) hx hb dX9_fineBy_142 (by decide) (fun c143 => ?_) (fun c143 => ?_)
                          · refine lv_iconst (v := 0) hx hb dX9_fineBy_149 (by decide) ?_
                            refine lv_ior hx hb dX9_fineBy_150 ?_
                            refine lv_topi (fun y144 ey144 => ?_)
                            refine r_iret (v := y144) hx hb hr hlocks w dX9_fineBy_151 ?_
                            refine ⟨rfl, ?_⟩
                            have f1_ := i_ofN hp1
                            have f2_ := i_ofN hp2
                            have f3_ := i_ofN hp3
                            subst f1_ f2_ f3_
                            clear w hl
                            subst ey6 ey76 ey78 ey108 ey118 ey128 ey138 ey139 ey142 ey144
                            obtain hk_ : k = 7 := by omega
                            clear c1
                            clear c2
                            clear c3
                            all_goals (subst hk_; clear hc_ hp0 hk; rcases lt4 hq0 with rfl | rfl | rfl | rfl <;> rcases lt4 hq1 with rfl | rfl | rfl | rfl <;> first | rfl | decide +kernel | exact absurd c4 (by decide +kernel) | exact absurd c5 (by decide +kernel) | exact absurd c7 (by decide +kernel) | exact absurd c77 (by decide +kernel) | exact absurd c79 (by decide +kernel) | exact absurd c109 (by decide +kernel) | exact absurd c119 (by decide +kernel) | exact absurd c129 (by decide +kernel) | exact absurd c140 (by decide +kernel) | exact absurd c143 (by decide +kernel))
                          · refine lv_iconst (v := 3) hx hb dX9_fineBy_145 (by decide) ?_
                            refine lv_goto (tgt := 150) hx hb dX9_fineBy_146 (by decide) ?_
                            refine lv_ior hx hb dX9_fineBy_150 ?_
                            refine lv_topi (fun y145 ey145 => ?_)
                            refine r_iret (v := y145) hx hb hr hlocks w dX9_fineBy_151 ?_
                            refine ⟨rfl, ?_⟩
                            have f1_ := i_ofN hp1
                            have f2_ := i_ofN hp2
                            have f3_ := i_ofN hp3
                            subst f1_ f2_ f3_
                            clear w hl
                            subst ey6 ey76 ey78 ey108 ey118 ey128 ey138 ey139 ey142 ey145
                            obtain hk_ : k = 7 := by omega
                            clear c1
                            clear c2
                            clear c3
                            all_goals (subst hk_; clear hc_ hp0 hk; rcases lt4 hq0 with rfl | rfl | rfl | rfl <;> rcases lt4 hq1 with rfl | rfl | rfl | rfl <;> first | rfl | decide +kernel | exact absurd c4 (by decide +kernel) | exact absurd c5 (by decide +kernel) | exact absurd c7 (by decide +kernel) | exact absurd c77 (by decide +kernel) | exact absurd c79 (by decide +kernel) | exact absurd c109 (by decide +kernel) | exact absurd c119 (by decide +kernel) | exact absurd c129 (by decide +kernel) | exact absurd c140 (by decide +kernel) | exact absurd c143 (by decide +kernel))
              · refine lv_iconst (v := 1) hx hb dX9_fineBy_90 (by decide) ?_
                refine lv_goto (tgt := 95) hx hb dX9_fineBy_91 (by decide) ?_
                refine lv_istore (lv' := [(4, .int 1), (0, .int p0), (1, .int p1), (2, .int p2), (3, .int p3)]) hx hb dX9_fineBy_95 hl (by decide) rfl (fun ls hl => ?_)
                refine lv_iload hx hb dX9_fineBy_97 (lv_at hl 0 rfl) ?_
                refine lv_iload_n hx hb dX9_fineBy_99 rfl (lv_at hl 2 rfl) ?_
                refine lv_iconst (v := 1) hx hb dX9_fineBy_100 (by decide) ?_
                refine lv_iand hx hb dX9_fineBy_101 ?_
                refine lv_topi (fun y146 ey146 => ?_)
                refine lv_if_eq (tgt := 111) hx hb dX9_fineBy_102 (by decide) (fun c147 => ?_) (fun c147 => ?_)
                · refine lv_iload_n hx hb dX9_fineBy_111 rfl (lv_at hl 2 rfl) ?_
                  refine lv_iconst (v := 2) hx hb dX9_fineBy_112 (by decide) ?_
                  refine lv_iand hx hb dX9_fineBy_113 ?_
                  refine lv_topi (fun y148 ey148 => ?_)
                  refine lv_if_eq (tgt := 127) hx hb dX9_fineBy_114 (by decide) (fun c149 => ?_) (fun c149 => ?_)
                  · refine lv_iconst (v := 0) hx hb dX9_fineBy_127 (by decide) ?_
                    refine lv_ior hx hb dX9_fineBy_128 ?_
                    refine lv_topi (fun y150 ey150 => ?_)
                    refine lv_istore (lv' := [(4, .int y150), (0, .int p0), (1, .int p1), (2, .int p2), (3, .int p3)]) hx hb dX9_fineBy_129 hl (by decide) rfl (fun ls hl => ?_)
                    refine lv_iload hx hb dX9_fineBy_131 (lv_at hl 0 rfl) ?_
                    refine lv_iload_n hx hb dX9_fineBy_133 rfl (lv_at hl 2 rfl) ?_
                    refine lv_iconst (v := 2) hx hb dX9_fineBy_134 (by decide) ?_
                    refine lv_iand hx hb dX9_fineBy_135 ?_
                    refine lv_topi (fun y151 ey151 => ?_)
                    refine lv_if_eq (tgt := 149) hx hb dX9_fineBy_136 (by decide) (fun c152 => ?_) (fun c152 => ?_)
                    · refine lv_iconst (v := 0) hx hb dX9_fineBy_149 (by decide) ?_
                      refine lv_ior hx hb dX9_fineBy_150 ?_
                      refine lv_topi (fun y153 ey153 => ?_)
                      refine r_iret (v := y153) hx hb hr hlocks w dX9_fineBy_151 ?_
                      refine ⟨rfl, ?_⟩
                      have f1_ := i_ofN hp1
                      have f2_ := i_ofN hp2
                      have f3_ := i_ofN hp3
                      subst f1_ f2_ f3_
                      clear w hl
                      subst ey6 ey76 ey146 ey148 ey150 ey151 ey153
                      obtain hk_ : k = 7 := by omega
                      clear c1
                      clear c2
                      clear c3
                      all_goals (subst hk_; clear hc_ hp0 hk; rcases lt4 hq0 with rfl | rfl | rfl | rfl <;> rcases lt4 hq1 with rfl | rfl | rfl | rfl <;> first | rfl | decide +kernel | exact absurd c4 (by decide +kernel) | exact absurd c5 (by decide +kernel) | exact absurd c7 (by decide +kernel) | exact absurd c77 (by decide +kernel) | exact absurd c147 (by decide +kernel) | exact absurd c149 (by decide +kernel) | exact absurd c152 (by decide +kernel))
                    · refine lv_iload_n hx hb dX9_fineBy_139 rfl (lv_at hl 3 rfl) ?_
                      refine lv_iconst (v := 2) hx hb dX9_fineBy_140 (by decide) ?_
                      refine lv_iand hx hb dX9_fineBy_141 ?_
                      refine lv_topi (fun y154 ey154 => ?_)
                      refine lv_if_eq (tgt := 149) hx hb dX9_fineBy_142 (by decide) (fun c155 => ?_) (fun c155 => ?_)
                      · refine lv_iconst (v := 0) hx hb dX9_fineBy_149 (by decide) ?_
                        refine lv_ior hx hb dX9_fineBy_150 ?_
                        refine lv_topi (fun y156 ey156 => ?_)
                        refine r_iret (v := y156) hx hb hr hlocks w dX9_fineBy_151 ?_
                        refine ⟨rfl, ?_⟩
                        have f1_ := i_ofN hp1
                        have f2_ := i_ofN hp2
                        have f3_ := i_ofN hp3
                        subst f1_ f2_ f3_
                        clear w hl
                        subst ey6 ey76 ey146 ey148 ey150 ey151 ey154 ey156
                        obtain hk_ : k = 7 := by omega
                        clear c1
                        clear c2
                        clear c3
                        all_goals (subst hk_; clear hc_ hp0 hk; rcases lt4 hq0 with rfl | rfl | rfl | rfl <;> rcases lt4 hq1 with rfl | rfl | rfl | rfl <;> first | rfl | decide +kernel | exact absurd c4 (by decide +kernel) | exact absurd c5 (by decide +kernel) | exact absurd c7 (by decide +kernel) | exact absurd c77 (by decide +kernel) | exact absurd c147 (by decide +kernel) | exact absurd c149 (by decide +kernel) | exact absurd c152 (by decide +kernel) | exact absurd c155 (by decide +kernel))
                      · refine lv_iconst (v := 3) hx hb dX9_fineBy_145 (by decide) ?_
                        refine lv_goto (tgt := 150) hx hb dX9_fineBy_146 (by decide) ?_
                        refine lv_ior hx hb dX9_fineBy_150 ?_
                        refine lv_topi (fun y157 ey157 => ?_)
                        refine r_iret (v := y157) hx hb hr hlocks w dX9_fineBy_151 ?_
                        refine ⟨rfl, ?_⟩
                        have f1_ := i_ofN hp1
                        have f2_ := i_ofN hp2
                        have f3_ := i_ofN hp3
                        subst f1_ f2_ f3_
                        clear w hl
                        subst ey6 ey76 ey146 ey148 ey150 ey151 ey154 ey157
                        obtain hk_ : k = 7 := by omega
                        clear c1
                        clear c2
                        clear c3
                        all_goals (subst hk_; clear hc_ hp0 hk; rcases lt4 hq0 with rfl | rfl | rfl | rfl <;> rcases lt4 hq1 with rfl | rfl | rfl | rfl <;> first | rfl | decide +kernel | exact absurd c4 (by decide +kernel) | exact absurd c5 (by decide +kernel) | exact absurd c7 (by decide +kernel) | exact absurd c77 (by decide +kernel) | exact absurd c147 (by decide +kernel) | exact absurd c149 (by decide +kernel) | exact absurd c152 (by decide +kernel) | exact absurd c155 (by decide +kernel))
                  · refine lv_iload_n hx hb dX9_fineBy_117 rfl (lv_at hl 3 rfl) ?_
                    refine lv_iconst (v := 1) hx hb dX9_fineBy_118 (by decide) ?_
                    refine lv_iand hx hb dX9_fineBy_119 ?_
                    refine lv_topi (fun y158 ey158 => ?_)
                    refine lv_if_eq (tgt := 127) hx hb dX9_fineBy_120 (by decide) (fun c159 => ?_) (fun c159 => ?_)
                    · refine lv_iconst (v := 0) hx hb dX9_fineBy_127 (by decide) ?_
                      refine lv_ior hx hb dX9_fineBy_128 ?_
                      refine lv_topi (fun y160 ey160 => ?_)
                      refine lv_istore (lv' := [(4, .int y160), (0, .int p0), (1, .int p1), (2, .int p2), (3, .int p3)]) hx hb dX9_fineBy_129 hl (by decide) rfl (fun ls hl => ?_)
                      refine lv_iload hx hb dX9_fineBy_131 (lv_at hl 0 rfl) ?_
                      refine lv_iload_n hx hb dX9_fineBy_133 rfl (lv_at hl 2 rfl) ?_
                      refine lv_iconst (v := 2) hx hb dX9_fineBy_134 (by decide) ?_
                      refine lv_iand hx hb dX9_fineBy_135 ?_
                      refine lv_topi (fun y161 ey161 => ?_)
                      refine lv_if_eq (tgt := 149) hx hb dX9_fineBy_136 (by decide) (fun c162 => ?_) (fun c162 => ?_)
                      · refine lv_iconst (v := 0) hx hb dX9_fineBy_149 (by decide) ?_
                        refine lv_ior hx hb dX9_fineBy_150 ?_
                        refine lv_topi (fun y163 ey163 => ?_)
                        refine r_iret (v := y163) hx hb hr hlocks w dX9_fineBy_151 ?_
                        refine ⟨rfl, ?_⟩
                        have f1_ := i_ofN hp1
                        have f2_ := i_ofN hp2
                        have f3_ := i_ofN hp3
                        subst f1_ f2_ f3_
                        clear w hl
                        subst ey6 ey76 ey146 ey148 ey158 ey160 ey161 ey163
                        obtain hk_ : k = 7 := by omega
                        clear c1
                        clear c2
                        clear c3
                        all_goals (subst hk_; clear hc_ hp0 hk; rcases lt4 hq0 with rfl | rfl | rfl | rfl <;> rcases lt4 hq1 with rfl | rfl | rfl | rfl <;> first | rfl | decide +kernel | exact absurd c4 (by decide +kernel) | exact absurd c5 (by decide +kernel) | exact absurd c7 (by decide +kernel) | exact absurd c77 (by decide +kernel) | exact absurd c147 (by decide +kernel) | exact absurd c149 (by decide +kernel) | exact absurd c159 (by decide +kernel) | exact absurd c162 (by decide +kernel))
                      · refine lv_iload_n hx hb dX9_fineBy_139 rfl (lv_at hl 3 rfl) ?_
                        refine lv_iconst (v := 2) hx hb dX9_fineBy_140 (by decide) ?_
                        refine lv_iand hx hb dX9_fineBy_141 ?_
                        refine lv_topi (fun y164 ey164 => ?_)
                        refine lv_if_eq (tgt := 149) hx hb dX9_fineBy_142 (by decide) (fun c165 => ?_) (fun c165 => ?_)
                        · refine lv_iconst (v := 0) hx hb dX9_fineBy_149 (by decide) ?_
                          refine lv_ior hx hb dX9_fineBy_150 ?_
                          refine lv_topi (fun y166 ey166 => ?_)
                          refine r_iret (v := y166) hx hb hr hlocks w dX9_fineBy_151 ?_
                          refine ⟨rfl, ?_⟩
                          have f1_ := i_ofN hp1
                          have f2_ := i_ofN hp2
                          have f3_ := i_ofN hp3
                          subst f1_ f2_ f3_
                          clear w hl
                          subst ey6 ey76 ey146 ey148 ey158 ey160 ey161 ey164 ey166
                          obtain hk_ : k = 7 := by omega
                          clear c1
                          clear c2
                          clear c3
                          all_goals (subst hk_; clear hc_ hp0 hk; rcases lt4 hq0 with rfl | rfl | rfl | rfl <;> rcases lt4 hq1 with rfl | rfl | rfl | rfl <;> first | rfl | decide +kernel | exact absurd c4 (by decide +kernel) | exact absurd c5 (by decide +kernel) | exact absurd c7 (by decide +kernel) | exact absurd c77 (by decide +kernel) | exact absurd c147 (by decide +kernel) | exact absurd c149 (by decide +kernel) | exact absurd c159 (by decide +kernel) | exact absurd c162 (by decide +kernel) | exact absurd c165 (by decide +kernel))
                        · refine lv_iconst (v := 3) hx hb dX9_fineBy_145 (by decide) ?_
                          refine lv_goto (tgt := 150) hx hb dX9_fineBy_146 (by decide) ?_
                          refine lv_ior hx hb dX9_fineBy_150 ?_
                          refine lv_topi (fun y167 ey167 => ?_)
                          refine r_iret (v := y167) hx hb hr hlocks w dX9_fineBy_151 ?_
                          refine ⟨rfl, ?_⟩
                          have f1_ := i_ofN hp1
                          have f2_ := i_ofN hp2
                          have f3_ := i_ofN hp3
                          subst f1_ f2_ f3_
                          clear w hl
                          subst ey6 ey76 ey146 ey148 ey158 ey160 ey161 ey164 ey167
                          obtain hk_ : k = 7 := by omega
                          clear c1
                          clear c2
                          clear c3
                          all_goals (subst hk_; clear hc_ hp0 hk; rcases lt4 hq0 with rfl | rfl | rfl | rfl <;> rcases lt4 hq1 with rfl | rfl | rfl | rfl <;> first | rfl | decide +kernel | exact absurd c4 (by decide +kernel) | exact absurd c5 (by decide +kernel) | exact absurd c7 (by decide +kernel) | exact absurd c77 (by decide +kernel) | exact absurd c147 (by decide +kernel) | exact absurd c149 (by decide +kernel) | exact absurd c159 (by decide +kernel) | exact absurd c162 (by decide +kernel) | exact absurd c165 (by decide +kernel))
                    · refine lv_iconst (v := 2) hx hb dX9_fineBy_123 (by decide) ?_
                      refine lv_goto (tgt := 128) hx hb dX9_fineBy_124 (by decide) ?_
                      refine lv_ior hx hb dX9_fineBy_128 ?_
                      refine lv_topi (fun y168 ey168 => ?_)
                      refine lv_istore (lv' := [(4, .int y168), (0, .int p0), (1, .int p1), (2, .int p2), (3, .int p3)]) hx hb dX9_fineBy_129 hl (by decide) rfl (fun ls hl => ?_)
                      refine lv_iload hx hb dX9_fineBy_131 (lv_at hl 0 rfl) ?_
                      refine lv_iload_n hx hb dX9_fineBy_133 rfl (lv_at hl 2 rfl) ?_
                      refine lv_iconst (v := 2) hx hb dX9_fineBy_134 (by decide) ?_
                      refine lv_iand hx hb dX9_fineBy_135 ?_
                      refine lv_topi (fun y169 ey169 => ?_)
                      refine lv_if_eq (tgt := 149) hx hb dX9_fineBy_136 (by decide) (fun c170 => ?_) (fun c170 => ?_)
                      · refine lv_iconst (v := 0) hx hb dX9_fineBy_149 (by decide) ?_
                        refine lv_ior hx hb dX9_fineBy_150 ?_
                        refine lv_topi (fun y171 ey171 => ?_)
                        refine r_iret (v := y171) hx hb hr hlocks w dX9_fineBy_151 ?_
                        refine ⟨rfl, ?_⟩
                        have f1_ := i_ofN hp1
                        have f2_ := i_ofN hp2
                        have f3_ := i_ofN hp3
                        subst f1_ f2_ f3_
                        clear w hl
                        subst ey6 ey76 ey146 ey148 ey158 ey168 ey169 ey171
                        obtain hk_ : k = 7 := by omega
                        clear c1
                        clear c2
                        clear c3
                        all_goals (subst hk_; clear hc_ hp0 hk; rcases lt4 hq0 with rfl | rfl | rfl | rfl <;> rcases lt4 hq1 with rfl | rfl | rfl | rfl <;> first | rfl | decide +kernel | exact absurd c4 (by decide +kernel) | exact absurd c5 (by decide +kernel) | exact absurd c7 (by decide +kernel) | exact absurd c77 (by decide +kernel) | exact absurd c147 (by decide +kernel) | exact absurd c149 (by decide +kernel) | exact absurd c159 (by decide +kernel) | exact absurd c170 (by decide +kernel))
                      · refine lv_iload_n hx hb dX9_fineBy_139 rfl (lv_at hl 3 rfl) ?_
                        refine lv_iconst (v := 2) hx hb dX9_fineBy_140 (by decide) ?_
                        refine lv_iand hx hb dX9_fineBy_141 ?_
                        refine lv_topi (fun y172 ey172 => ?_)
                        refine lv_if_eq (tgt := 149) hx hb dX9_fineBy_142 (by decide) (fun c173 => ?_) (fun c173 => ?_)
                        · refine lv_iconst (v := 0) hx hb dX9_fineBy_149 (by decide) ?_
                          refine lv_ior hx hb dX9_fineBy_150 ?_
                          refine lv_topi (fun y174 ey174 => ?_)
                          refine r_iret (v := y174) hx hb hr hlocks w dX9_fineBy_151 ?_
                          refine ⟨rfl, ?_⟩
                          have f1_ := i_ofN hp1
                          have f2_ := i_ofN hp2
                          have f3_ := i_ofN hp3
                          subst f1_ f2_ f3_
                          clear w hl
                          subst ey6 ey76 ey146 ey148 ey158 ey168 ey169 ey172 ey174
                          obtain hk_ : k = 7 := by omega
                          clear c1
                          clear c2
                          clear c3
                          all_goals (subst hk_; clear hc_ hp0 hk; rcases lt4 hq0 with rfl | rfl | rfl | rfl <;> rcases lt4 hq1 with rfl | rfl | rfl | rfl <;> first | rfl | decide +kernel | exact absurd c4 (by decide +kernel) | exact absurd c5 (by decide +kernel) | exact absurd c7 (by decide +kernel) | exact absurd c77 (by decide +kernel) | exact absurd c147 (by decide +kernel) | exact absurd c149 (by decide +kernel) | exact absurd c159 (by decide +kernel) | exact absurd c170 (by decide +kernel) | exact absurd c173 (by decide +kernel))
                        · refine lv_iconst (v := 3) hx hb dX9_fineBy_145 (by decide) ?_
                          refine lv_goto (tgt := 150) hx hb dX9_fineBy_146 (by decide) ?_
                          refine lv_ior hx hb dX9_fineBy_150 ?_
                          refine lv_topi (fun y175 ey175 => ?_)
                          refine r_iret (v := y175) hx hb hr hlocks w dX9_fineBy_151 ?_
                          refine ⟨rfl, ?_⟩
                          have f1_ := i_ofN hp1
                          have f2_ := i_ofN hp2
                          have f3_ := i_ofN hp3
                          subst f1_ f2_ f3_
                          clear w hl
                          subst ey6 ey76 ey146 ey148 ey158 ey168 ey169 ey172 ey175
                          obtain hk_ : k = 7 := by omega
                          clear c1
                          clear c2
                          clear c3
                          all_goals (subst hk_; clear hc_ hp0 hk; rcases lt4 hq0 with rfl | rfl | rfl | rfl <;> rcases lt4 hq1 with rfl | rfl | rfl | rfl <;> first | rfl | decide +kernel | exact absurd c4 (by decide +kernel) | exact absurd c5 (by decide +kernel) | exact absurd c7 (by decide +kernel) | exact absurd c77 (by decide +kernel) | exact absurd c147 (by decide +kernel) | exact absurd c149 (by decide +kernel) | exact absurd c159 (by decide +kernel) | exact absurd c170 (by decide +kernel) | exact absurd c173 (by decide +kernel))
                · refine lv_iload_n hx hb dX9_fineBy_105 rfl (lv_at hl 3 rfl) ?_
                  refine lv_iconst (v := 2) hx hb dX9_fineBy_106 (by decide) ?_
                  refine lv_iand hx hb dX9_fineBy_107 ?_
                  refine lv_topi (fun y176 ey176 => ?_)
                  refine lv_if_ne (tgt := 123) hx hb dX9_fineBy_108 (by decide) (fun c177 => ?_) (fun c177 => ?_)
                  · refine lv_iconst (v := 2) hx hb dX9_fineBy_123 (by decide) ?_
                    refine lv_goto (tgt := 128) hx hb dX9_fineBy_124 (by decide) ?_
                    refine lv_ior hx hb dX9_fineBy_128 ?_
                    refine lv_topi (fun y178 ey178 => ?_)
                    refine lv_istore (lv' := [(4, .int y178), (0, .int p0), (1, .int p1), (2, .int p2), (3, .int p3)]) hx hb dX9_fineBy_129 hl (by decide) rfl (fun ls hl => ?_)
                    refine lv_iload hx hb dX9_fineBy_131 (lv_at hl 0 rfl) ?_
                    refine lv_iload_n hx hb dX9_fineBy_133 rfl (lv_at hl 2 rfl) ?_
                    refine lv_iconst (v := 2) hx hb dX9_fineBy_134 (by decide) ?_
                    refine lv_iand hx hb dX9_fineBy_135 ?_
                    refine lv_topi (fun y179 ey179 => ?_)
                    refine lv_if_eq (tgt := 149) hx hb dX9_fineBy_136 (by decide) (fun c180 => ?_) (fun c180 => ?_)
                    · refine lv_iconst (v := 0) hx hb dX9_fineBy_149 (by decide) ?_
                      refine lv_ior hx hb dX9_fineBy_150 ?_
                      refine lv_topi (fun y181 ey181 => ?_)
                      refine r_iret (v := y181) hx hb hr hlocks w dX9_fineBy_151 ?_
                      refine ⟨rfl, ?_⟩
                      have f1_ := i_ofN hp1
                      have f2_ := i_ofN hp2
                      have f3_ := i_ofN hp3
                      subst f1_ f2_ f3_
                      clear w hl
                      subst ey6 ey76 ey146 ey176 ey178 ey179 ey181
                      obtain hk_ : k = 7 := by omega
                      clear c1
                      clear c2
                      clear c3
                      all_goals (subst hk_; clear hc_ hp0 hk; rcases lt4 hq0 with rfl | rfl | rfl | rfl <;> rcases lt4 hq1 with rfl | rfl | rfl | rfl <;> first | rfl | decide +kernel | exact absurd c4 (by decide +kernel) | exact absurd c5 (by decide +kernel) | exact absurd c7 (by decide +kernel) | exact absurd c77 (by decide +kernel) | exact absurd c147 (by decide +kernel) | exact absurd c177 (by decide +kernel) | exact absurd c180 (by decide +kernel))
                    · refine lv_iload_n hx hb dX9_fineBy_139 rfl (lv_at hl 3 rfl) ?_
                      refine lv_iconst (v := 2) hx hb dX9_fineBy_140 (by decide) ?_
                      refine lv_iand hx hb dX9_fineBy_141 ?_
                      refine lv_topi (fun y182 ey182 => ?_)
                      refine lv_if_eq (tgt := 149) hx hb dX9_fineBy_142 (by decide) (fun c183 => ?_) (fun c183 => ?_)
                      · refine lv_iconst (v := 0) hx hb dX9_fineBy_149 (by decide) ?_
                        refine lv_ior hx hb dX9_fineBy_150 ?_
                        refine lv_topi (fun y184 ey184 => ?_)
                        refine r_iret (v := y184) hx hb hr hlocks w dX9_fineBy_151 ?_
                        refine ⟨rfl, ?_⟩
                        have f1_ := i_ofN hp1
                        have f2_ := i_ofN hp2
                        have f3_ := i_ofN hp3
                        subst f1_ f2_ f3_
                        clear w hl
                        subst ey6 ey76 ey146 ey176 ey178 ey179 ey182 ey184
                        obtain hk_ : k = 7 := by omega
                        clear c1
                        clear c2
                        clear c3
                        all_goals (subst hk_; clear hc_ hp0 hk; rcases lt4 hq0 with rfl | rfl | rfl | rfl <;> rcases lt4 hq1 with rfl | rfl | rfl | rfl <;> first | rfl | decide +kernel | exact absurd c4 (by decide +kernel) | exact absurd c5 (by decide +kernel) | exact absurd c7 (by decide +kernel) | exact absurd c77 (by decide +kernel) | exact absurd c147 (by decide +kernel) | exact absurd c177 (by decide +kernel) | exact absurd c180 (by decide +kernel) | exact absurd c183 (by decide +kernel))
                      · refine lv_iconst (v := 3) hx hb dX9_fineBy_145 (by decide) ?_
                        refine lv_goto (tgt := 150) hx hb dX9_fineBy_146 (by decide) ?_
                        refine lv_ior hx hb dX9_fineBy_150 ?_
                        refine lv_topi (fun y185 ey185 => ?_)
                        refine r_iret (v := y185) hx hb hr hlocks w dX9_fineBy_151 ?_
                        refine ⟨rfl, ?_⟩
                        have f1_ := i_ofN hp1
                        have f2_ := i_ofN hp2
                        have f3_ := i_ofN hp3
                        subst f1_ f2_ f3_
                        clear w hl
                        subst ey6 ey76 ey146 ey176 ey178 ey179 ey182 ey185
                        obtain hk_ : k = 7 := by omega
                        clear c1
                        clear c2
                        clear c3
                        all_goals (subst hk_; clear hc_ hp0 hk; rcases lt4 hq0 with rfl | rfl | rfl | rfl <;> rcases lt4 hq1 with rfl | rfl | rfl | rfl <;> first | rfl | decide +kernel | exact absurd c4 (by decide +kernel) | exact absurd c5 (by decide +kernel) | exact absurd c7 (by decide +kernel) | exact absurd c77 (by decide +kernel) | exact absurd c147 (by decide +kernel) | exact absurd c177 (by decide +kernel) | exact absurd c180 (by decide +kernel) | exact absurd c183 (by decide +kernel))
                  · refine lv_iload_n hx hb dX9_fineBy_111 rfl (lv_at hl 2 rfl) ?_
                    refine lv_iconst (v := 2) hx hb dX9_fineBy_112 (by decide) ?_
                    refine lv_iand hx hb dX9_fineBy_113 ?_
                    refine lv_topi (fun y186 ey186 => ?_)
                    refine lv_if_eq (tgt := 127) hx hb dX9_fineBy_114 (by decide) (fun c187 => ?_) (fun c187 => ?_)
                    · refine lv_iconst (v := 0) hx hb dX9_fineBy_127 (by decide) ?_
                      refine lv_ior hx hb dX9_fineBy_128 ?_
                      refine lv_topi (fun y188 ey188 => ?_)
                      refine lv_istore (lv' := [(4, .int y188), (0, .int p0), (1, .int p1), (2, .int p2), (3, .int p3)]) hx hb dX9_fineBy_129 hl (by decide) rfl (fun ls hl => ?_)
                      refine lv_iload hx hb dX9_fineBy_131 (lv_at hl 0 rfl) ?_
                      refine lv_iload_n hx hb dX9_fineBy_133 rfl (lv_at hl 2 rfl) ?_
                      refine lv_iconst (v := 2) hx hb dX9_fineBy_134 (by decide) ?_
                      refine lv_iand hx hb dX9_fineBy_135 ?_
                      refine lv_topi (fun y189 ey189 => ?_)
                      refine lv_if_eq (tgt := 149) hx hb dX9_fineBy_136 (by decide) (fun c190 => ?_) (fun c190 => ?_)
                      · refine lv_iconst (v := 0) hx hb dX9_fineBy_149 (by decide) ?_
                        refine lv_ior hx hb dX9_fineBy_150 ?_
                        refine lv_topi (fun y191 ey191 => ?_)
                        refine r_iret (v := y191) hx hb hr hlocks w dX9_fineBy_151 ?_
                        refine ⟨rfl, ?_⟩
                        have f1_ := i_ofN hp1
                        have f2_ := i_ofN hp2
                        have f3_ := i_ofN hp3
                        subst f1_ f2_ f3_
                        clear w hl
                        subst ey6 ey76 ey146 ey176 ey186 ey188 ey189 ey191
                        obtain hk_ : k = 7 := by omega
                        clear c1
                        clear c2
                        clear c3
                        all_goals (subst hk_; clear hc_ hp0 hk; rcases lt4 hq0 with rfl | rfl | rfl | rfl <;> rcases lt4 hq1 with rfl | rfl | rfl | rfl <;> first | rfl | decide +kernel | exact absurd c4 (by decide +kernel) | exact absurd c5 (by decide +kernel) | exact absurd c7 (by decide +kernel) | exact absurd c77 (by decide +kernel) | exact absurd c147 (by decide +kernel) | exact absurd c177 (by decide +kernel) | exact absurd c187 (by decide +kernel) | exact absurd c190 (by decide +kernel))
                      · refine lv_iload_n hx hb dX9_fineBy_139 rfl (lv_at hl 3 rfl) ?_
                        refine lv_iconst (v := 2) hx hb dX9_fineBy_140 (by decide) ?_
                        refine lv_iand hx hb dX9_fineBy_141 ?_
                        refine lv_topi (fun y192 ey192 => ?_)
                        refine lv_if_eq (tgt := 149) hx hb dX9_fineBy_142 (by decide) (fun c193 => ?_) (fun c193 => ?_)
                        · refine lv_iconst (v := 0) hx hb dX9_fineBy_149 (by decide) ?_
                          refine lv_ior hx hb dX9_fineBy_150 ?_
                          refine lv_topi (fun y194 ey194 => ?_)
                          refine r_iret (v := y194) hx hb hr hlocks w dX9_fineBy_151 ?_
                          refine ⟨rfl, ?_⟩
                          have f1_ := i_ofN hp1
                          have f2_ := i_ofN hp2
                          have f3_ := i_ofN hp3
                          subst f1_ f2_ f3_
                          clear w hl
                          subst ey6 ey76 ey146 ey176 ey186 ey188 ey189 ey192 ey194
                          obtain hk_ : k = 7 := by omega
                          clear c1
                          clear c2
                          clear c3
                          all_goals (subst hk_; clear hc_ hp0 hk; rcases lt4 hq0 with rfl | rfl | rfl | rfl <;> rcases lt4 hq1 with rfl | rfl | rfl | rfl <;> first | rfl | decide +kernel | exact absurd c4 (by decide +kernel) | exact absurd c5 (by decide +kernel) | exact absurd c7 (by decide +kernel) | exact absurd c77 (by decide +kernel) | exact absurd c147 (by decide +kernel) | exact absurd c177 (by decide +kernel) | exact absurd c187 (by decide +kernel) | exact absurd c190 (by decide +kernel) | exact absurd c193 (by decide +kernel))
                        · refine lv_iconst (v := 3) hx hb dX9_fineBy_145 (by decide) ?_
                          refine lv_goto (tgt := 150) hx hb dX9_fineBy_146 (by decide) ?_
                          refine lv_ior hx hb dX9_fineBy_150 ?_
                          refine lv_topi (fun y195 ey195 => ?_)
                          refine r_iret (v := y195) hx hb hr hlocks w dX9_fineBy_151 ?_
                          refine ⟨rfl, ?_⟩
                          have f1_ := i_ofN hp1
                          have f2_ := i_ofN hp2
                          have f3_ := i_ofN hp3
                          subst f1_ f2_ f3_
                          clear w hl
                          subst ey6 ey76 ey146 ey176 ey186 ey188 ey189 ey192 ey195
                          obtain hk_ : k = 7 := by omega
                          clear c1
                          clear c2
                          clear c3
                          all_goals (subst hk_; clear hc_ hp0 hk; rcases lt4 hq0 with rfl | rfl | rfl | rfl <;> rcases lt4 hq1 with rfl | rfl | rfl | rfl <;> first | rfl | decide +kernel | exact absurd c4 (by decide +kernel) | exact absurd c5 (by decide +kernel) | exact absurd c7 (by decide +kernel) | exact absurd c77 (by decide +kernel) | exact absurd c147 (by decide +kernel) | exact absurd c177 (by decide +kernel) | exact absurd c187 (by decide +kernel) | exact absurd c190 (by decide +kernel) | exact absurd c193 (by decide +kernel))
                    · refine lv_iload_n hx hb dX9_fineBy_117 rfl (lv_at hl 3 rfl) ?_
                      refine lv_iconst (v := 1) hx hb dX9_fineBy_118 (by decide) ?_
                      refine lv_iand hx hb dX9_fineBy_119 ?_
                      refine lv_topi (fun y196 ey196 => ?_)
                      refine lv_if_eq (tgt := 127) hx hb dX9_fineBy_120 (by decide) (fun c197 => ?_) (fun c197 => ?_)
                      · refine lv_iconst (v := 0) hx hb dX9_fineBy_127 (by decide) ?_
                        refine lv_ior hx hb dX9_fineBy_128 ?_
                        refine lv_topi (fun y198 ey198 => ?_)
                        refine lv_istore (lv' := [(4, .int y198), (0, .int p0), (1, .int p1), (2, .int p2), (3, .int p3)]) hx hb dX9_fineBy_129 hl (by decide) rfl (fun ls hl => ?_)
                        refine lv_iload hx hb dX9_fineBy_131 (lv_at hl 0 rfl) ?_
                        refine lv_iload_n hx hb dX9_fineBy_133 rfl (lv_at hl 2 rfl) ?_
                        refine lv_iconst (v := 2) hx hb dX9_fineBy_134 (by decide) ?_
                        refine lv_iand hx hb dX9_fineBy_135 ?_
                        refine lv_topi (fun y199 ey199 => ?_)
                        refine lv_if_eq (tgt := 149) hx hb dX9_fineBy_136 (by decide) (fun c200 => ?_) (fun c200 => ?_)
                        · refine lv_iconst (v := 0) hx hb dX9_fineBy_149 (by decide) ?_
                          refine lv_ior hx hb dX9_fineBy_150 ?_
                          refine lv_topi (fun y201 ey201 => ?_)
                          refine r_iret (v := y201) hx hb hr hlocks w dX9_fineBy_151 ?_
                          refine ⟨rfl, ?_⟩
                          have f1_ := i_ofN hp1
                          have f2_ := i_ofN hp2
                          have f3_ := i_ofN hp3
                          subst f1_ f2_ f3_
                          clear w hl
                          subst ey6 ey76 ey146 ey176 ey186 ey196 ey198 ey199 ey201
                          obtain hk_ : k = 7 := by omega
                          clear c1
                          clear c2
                          clear c3
                          all_goals (subst hk_; clear hc_ hp0 hk; rcases lt4 hq0 with rfl | rfl | rfl | rfl <;> rcases lt4 hq1 with rfl | rfl | rfl | rfl <;> first | rfl | decide +kernel | exact absurd c4 (by decide +kernel) | exact absurd c5 (by decide +kernel) | exact absurd c7 (by decide +kernel) | exact absurd c77 (by decide +kernel) | exact absurd c147 (by decide +kernel) | exact absurd c177 (by decide +kernel) | exact absurd c187 (by decide +kernel) | exact absurd c197 (by decide +kernel) | exact absurd c200 (by decide +kernel))
                        · refine lv_iload_n hx hb dX9_fineBy_139 rfl (lv_at hl 3 rfl) ?_
                          refine lv_iconst (v := 2) hx hb dX9_fineBy_140 (by decide) ?_
                          refine lv_iand hx hb dX9_fineBy_141 ?_
                          refine lv_topi (fun y202 ey202 => ?_)
                          refine lv_if_eq (tgt := 149) hx hb dX9_fineBy_142 (by decide) (fun c203 => ?_) (fun c203 => ?_)
                          · refine lv_iconst (v := 0) hx hb dX9_fineBy_149 (by decide) ?_
                            refine lv_ior hx hb dX9_fineBy_150 ?_
                            refine lv_topi (fun y204 ey204 => ?_)
                            refine r_iret (v := y204) hx hb hr hlocks w dX9_fineBy_151 ?_
                            refine ⟨rfl, ?_⟩
                            have f1_ := i_ofN hp1
                            have f2_ := i_ofN hp2
                            have f3_ := i_ofN hp3
                            subst f1_ f2_ f3_
                            clear w hl
                            subst ey6 ey76 ey146 ey176 ey186 ey196 ey198 ey199 ey202 ey204
                            obtain hk_ : k = 7 := by omega
                            clear c1
                            clear c2
                            clear c3
                            all_goals (subst hk_; clear hc_ hp0 hk; rcases lt4 hq0 with rfl | rfl | rfl | rfl <;> rcases lt4 hq1 with rfl | rfl | rfl | rfl <;> first | rfl | decide +kernel | exact absurd c4 (by decide +kernel) | exact absurd c5 (by decide +kernel) | exact absurd c7 (by decide +kernel) | exact absurd c77 (by decide +kernel) | exact absurd c147 (by decide +kernel) | exact absurd c177 (by decide +kernel) | exact absurd c187 (by decide +kernel) | exact absurd c197 (by decide +kernel) | exact absurd c200 (by decide +kernel) | exact absurd c203 (by decide +kernel))
                          · refine lv_iconst (v := 3) hx hb dX9_fineBy_145 (by decide) ?_
                            refine lv_goto (tgt := 150) hx hb dX9_fineBy_146 (by decide) ?_
                            refine lv_ior hx hb dX9_fineBy_150 ?_
                            refine lv_topi (fun y205 ey205 => ?_)
                            refine r_iret (v := y205) hx hb hr hlocks w dX9_fineBy_151 ?_
                            refine ⟨rfl, ?_⟩
                            have f1_ := i_ofN hp1
                            have f2_ := i_ofN hp2
                            have f3_ := i_ofN hp3
                            subst f1_ f2_ f3_
                            clear w hl
                            subst ey6 ey76 ey146 ey176 ey186 ey196 ey198 ey199 ey202 ey205
                            obtain hk_ : k = 7 := by omega
                            clear c1
                            clear c2
                            clear c3
                            all_goals (subst hk_; clear hc_ hp0 hk; rcases lt4 hq0 with rfl | rfl | rfl | rfl <;> rcases lt4 hq1 with rfl | rfl | rfl | rfl <;> first | rfl | decide +kernel | exact absurd c4 (by decide +kernel) | exact absurd c5 (by decide +kernel) | exact absurd c7 (by decide +kernel) | exact absurd c77 (by decide +kernel) | exact absurd c147 (by decide +kernel) | exact absurd c177 (by decide +kernel) | exact absurd c187 (by decide +kernel) | exact absurd c197 (by decide +kernel) | exact absurd c200 (by decide +kernel) | exact absurd c203 (by decide +kernel))
                      · refine lv_iconst (v := 2) hx hb dX9_fineBy_123 (by decide) ?_
                        refine lv_goto (tgt := 128) hx hb dX9_fineBy_124 (by decide) ?_
                        refine lv_ior hx hb dX9_fineBy_128 ?_
                        refine lv_topi (fun y206 ey206 => ?_)
                        refine lv_istore (lv' := [(4, .int y206), (0, .int p0), (1, .int p1), (2, .int p2), (3, .int p3)]) hx hb dX9_fineBy_129 hl (by decide) rfl (fun ls hl => ?_)
                        refine lv_iload hx hb dX9_fineBy_131 (lv_at hl 0 rfl) ?_
                        refine lv_iload_n hx hb dX9_fineBy_133 rfl (lv_at hl 2 rfl) ?_
                        refine lv_iconst (v := 2) hx hb dX9_fineBy_134 (by decide) ?_
                        refine lv_iand hx hb dX9_fineBy_135 ?_
                        refine lv_topi (fun y207 ey207 => ?_)
                        refine lv_if_eq (tgt := 149) hx hb dX9_fineBy_136 (by decide) (fun c208 => ?_) (fun c208 => ?_)
                        · refine lv_iconst (v := 0) hx hb dX9_fineBy_149 (by decide) ?_
                          refine lv_ior hx hb dX9_fineBy_150 ?_
                          refine lv_topi (fun y209 ey209 => ?_)
                          refine r_iret (v := y209) hx hb hr hlocks w dX9_fineBy_151 ?_
                          refine ⟨rfl, ?_⟩
                          have f1_ := i_ofN hp1
                          have f2_ := i_ofN hp2
                          have f3_ := i_ofN hp3
                          subst f1_ f2_ f3_
                          clear w hl
                          subst ey6 ey76 ey146 ey176 ey186 ey196 ey206 ey207 ey209
                          obtain hk_ : k = 7 := by omega
                          clear c1
                          clear c2
                          clear c3
                          all_goals (subst hk_; clear hc_ hp0 hk; rcases lt4 hq0 with rfl | rfl | rfl | rfl <;> rcases lt4 hq1 with rfl | rfl | rfl | rfl <;> first | rfl | decide +kernel | exact absurd c4 (by decide +kernel) | exact absurd c5 (by decide +kernel) | exact absurd c7 (by decide +kernel) | exact absurd c77 (by decide +kernel) | exact absurd c147 (by decide +kernel) | exact absurd c177 (by decide +kernel) | exact absurd c187 (by decide +kernel) | exact absurd c197 (by decide +kernel) | exact absurd c208 (by decide +kernel))
                        · refine lv_iload_n hx hb dX9_fineBy_139 rfl (lv_at hl 3 rfl) ?_
                          refine lv_iconst (v := 2) hx hb dX9_fineBy_140 (by decide) ?_
                          refine lv_iand hx hb dX9_fineBy_141 ?_
                          refine lv_topi (fun y210 ey210 => ?_)
                          refine lv_if_eq (tgt := 149) hx hb dX9_fineBy_142 (by decide) (fun c211 => ?_) (fun c211 => ?_)
                          · refine lv_iconst (v := 0) hx hb dX9_fineBy_149 (by decide) ?_
                            refine lv_ior hx hb dX9_fineBy_150 ?_
                            refine lv_topi (fun y212 ey212 => ?_)
                            refine r_iret (v := y212) hx hb hr hlocks w dX9_fineBy_151 ?_
                            refine ⟨rfl, ?_⟩
                            have f1_ := i_ofN hp1
                            have f2_ := i_ofN hp2
                            have f3_ := i_ofN hp3
                            subst f1_ f2_ f3_
                            clear w hl
                            subst ey6 ey76 ey146 ey176 ey186 ey196 ey206 ey207 ey210 ey212
                            obtain hk_ : k = 7 := by omega
                            clear c1
                            clear c2
                            clear c3
                            all_goals (subst hk_; clear hc_ hp0 hk; rcases lt4 hq0 with rfl | rfl | rfl | rfl <;> rcases lt4 hq1 with rfl | rfl | rfl | rfl <;> first | rfl | decide +kernel | exact absurd c4 (by decide +kernel) | exact absurd c5 (by decide +kernel) | exact absurd c7 (by decide +kernel) | exact absurd c77 (by decide +kernel) | exact absurd c147 (by decide +kernel) | exact absurd c177 (by decide +kernel) | exact absurd c187 (by decide +kernel) | exact absurd c197 (by decide +kernel) | exact absurd c208 (by decide +kernel) | exact absurd c211 (by decide +kernel))
                          · refine lv_iconst (v := 3) hx hb dX9_fineBy_145 (by decide) ?_
                            refine lv_goto (tgt := 150) hx hb dX9_fineBy_146 (by decide) ?_
                            refine lv_ior hx hb dX9_fineBy_150 ?_
                            refine lv_topi (fun y213 ey213 => ?_)
                            refine r_iret (v := y213) hx hb hr hlocks w dX9_fineBy_151 ?_
                            refine ⟨rfl, ?_⟩
                            have f1_ := i_ofN hp1
                            have f2_ := i_ofN hp2
                            have f3_ := i_ofN hp3
                            subst f1_ f2_ f3_
                            clear w hl
                            subst ey6 ey76 ey146 ey176 ey186 ey196 ey206 ey207 ey210 ey213
                            obtain hk_ : k = 7 := by omega
                            clear c1
                            clear c2
                            clear c3
                            all_goals (subst hk_; clear hc_ hp0 hk; rcases lt4 hq0 with rfl | rfl | rfl | rfl <;> rcases lt4 hq1 with rfl | rfl | rfl | rfl <;> first | rfl | decide +kernel | exact absurd c4 (by decide +kernel) | exact absurd c5 (by decide +kernel) | exact absurd c7 (by decide +kernel) | exact absurd c77 (by decide +kernel) | exact absurd c147 (by decide +kernel) | exact absurd c177 (by decide +kernel) | exact absurd c187 (by decide +kernel) | exact absurd c197 (by decide +kernel) | exact absurd c208 (by decide +kernel) | exact absurd c211 (by decide +kernel))
          · have c5 : ((q1 : Nat) : Int) = (0 : Int) := (i_eq hp2 (rfl : (0 : Int32).toInt = 0)).mp c5
            refine lv_iconst (v := 0) hx hb dX9_fineBy_76 (by decide) ?_
            refine r_iret (v := 0) hx hb hr hlocks w dX9_fineBy_77 ?_
            refine ⟨rfl, ?_⟩
            have f1_ := i_ofN hp1
            have f2_ := i_ofN hp2
            have f3_ := i_ofN hp3
            subst f1_ f2_ f3_
            clear w hl
            obtain hk_ : k = 7 := by omega
            clear c1
            clear c2
            clear c3
            all_goals (subst hk_; clear hc_ hp0 hk; rcases lt4 hq0 with rfl | rfl | rfl | rfl <;> rcases lt4 hq1 with rfl | rfl | rfl | rfl <;> first | rfl | decide +kernel | exact absurd c4 (by decide +kernel) | exact absurd c5 (by decide +kernel))
      · have c3 : (((mCode k) : Nat) : Int) = ((63 : Nat) : Int) := (i_eq hp0 (by decide : (63 : Int32).toInt = ((63 : Nat) : Int))).mp c3
        refine lv_iload_n hx hb dX9_fineBy_44 rfl (lv_at hl 1 rfl) ?_
        refine lv_iconst (v := 1) hx hb dX9_fineBy_45 (by decide) ?_
        refine lv_iand hx hb dX9_fineBy_46 ?_
        refine lv_topi (fun y214 ey214 => ?_)
        refine lv_if_ne (tgt := 54) hx hb dX9_fineBy_47 (by decide) (fun c215 => ?_) (fun c215 => ?_)
        · refine lv_iload_n hx hb dX9_fineBy_54 rfl (lv_at hl 3 rfl) ?_
          refine lv_iload_n hx hb dX9_fineBy_55 rfl (lv_at hl 1 rfl) ?_
          refine lv_iconst (v := 2) hx hb dX9_fineBy_56 (by decide) ?_
          refine lv_iand hx hb dX9_fineBy_57 ?_
          refine lv_topi (fun y216 ey216 => ?_)
          refine lv_if_ne (tgt := 65) hx hb dX9_fineBy_58 (by decide) (fun c217 => ?_) (fun c217 => ?_)
          · refine lv_iload_n hx hb dX9_fineBy_65 rfl (lv_at hl 2 rfl) ?_
            refine lv_ior hx hb dX9_fineBy_66 ?_
            refine lv_topi (fun y218 ey218 => ?_)
            refine r_iret (v := y218) hx hb hr hlocks w dX9_fineBy_67 ?_
            refine ⟨rfl, ?_⟩
            have f1_ := i_ofN hp1
            have f2_ := i_ofN hp2
            have f3_ := i_ofN hp3
            subst f1_ f2_ f3_
            clear w hl
            subst ey214 ey216 ey218
            obtain hk_ : k = 9 := by omega
            clear c1
            clear c2
            clear c3
            all_goals (subst hk_; clear hc_ hp0 hk; rcases lt4 hq0 with rfl | rfl | rfl | rfl <;> rcases lt4 hq1 with rfl | rfl | rfl | rfl <;> rcases lt4 hq2 with rfl | rfl | rfl | rfl <;> first | rfl | decide +kernel | exact absurd c215 (by decide +kernel) | exact absurd c217 (by decide +kernel))
          · refine lv_iconst (v := 0) hx hb dX9_fineBy_61 (by decide) ?_
            refine lv_goto (tgt := 66) hx hb dX9_fineBy_62 (by decide) ?_
            refine lv_ior hx hb dX9_fineBy_66 ?_
            refine lv_topi (fun y219 ey219 => ?_)
            refine r_iret (v := y219) hx hb hr hlocks w dX9_fineBy_67 ?_
            refine ⟨rfl, ?_⟩
            have f1_ := i_ofN hp1
            have f2_ := i_ofN hp2
            have f3_ := i_ofN hp3
            subst f1_ f2_ f3_
            clear w hl
            subst ey214 ey216 ey219
            obtain hk_ : k = 9 := by omega
            clear c1
            clear c2
            clear c3
            all_goals (subst hk_; clear hc_ hp0 hk; rcases lt4 hq0 with rfl | rfl | rfl | rfl <;> rcases lt4 hq1 with rfl | rfl | rfl | rfl <;> rcases lt4 hq2 with rfl | rfl | rfl | rfl <;> first | rfl | decide +kernel | exact absurd c215 (by decide +kernel) | exact absurd c217 (by decide +kernel))
        · refine lv_iconst (v := 0) hx hb dX9_fineBy_50 (by decide) ?_
          refine lv_goto (tgt := 55) hx hb dX9_fineBy_51 (by decide) ?_
          refine lv_iload_n hx hb dX9_fineBy_55 rfl (lv_at hl 1 rfl) ?_
          refine lv_iconst (v := 2) hx hb dX9_fineBy_56 (by decide) ?_
          refine lv_iand hx hb dX9_fineBy_57 ?_
          refine lv_topi (fun y220 ey220 => ?_)
          refine lv_if_ne (tgt := 65) hx hb dX9_fineBy_58 (by decide) (fun c221 => ?_) (fun c221 => ?_)
          · refine lv_iload_n hx hb dX9_fineBy_65 rfl (lv_at hl 2 rfl) ?_
            refine lv_ior hx hb dX9_fineBy_66 ?_
            refine lv_topi (fun y222 ey222 => ?_)
            refine r_iret (v := y222) hx hb hr hlocks w dX9_fineBy_67 ?_
            refine ⟨rfl, ?_⟩
            have f1_ := i_ofN hp1
            have f2_ := i_ofN hp2
            have f3_ := i_ofN hp3
            subst f1_ f2_ f3_
            clear w hl
            subst ey214 ey220 ey222
            obtain hk_ : k = 9 := by omega
            clear c1
            clear c2
            clear c3
            all_goals (subst hk_; clear hc_ hp0 hk; rcases lt4 hq0 with rfl | rfl | rfl | rfl <;> rcases lt4 hq1 with rfl | rfl | rfl | rfl <;> rcases lt4 hq2 with rfl | rfl | rfl | rfl <;> first | rfl | decide +kernel | exact absurd c215 (by decide +kernel) | exact absurd c221 (by decide +kernel))
          · refine lv_iconst (v := 0) hx hb dX9_fineBy_61 (by decide) ?_
            refine lv_goto (tgt := 66) hx hb dX9_fineBy_62 (by decide) ?_
            refine lv_ior hx hb dX9_fineBy_66 ?_
            refine lv_topi (fun y223 ey223 => ?_)
            refine r_iret (v := y223) hx hb hr hlocks w dX9_fineBy_67 ?_
            refine ⟨rfl, ?_⟩
            have f1_ := i_ofN hp1
            have f2_ := i_ofN hp2
            have f3_ := i_ofN hp3
            subst f1_ f2_ f3_
            clear w hl
            subst ey214 ey220 ey223
            obtain hk_ : k = 9 := by omega
            clear c1
            clear c2
            clear c3
            all_goals (subst hk_; clear hc_ hp0 hk; rcases lt4 hq0 with rfl | rfl | rfl | rfl <;> rcases lt4 hq1 with rfl | rfl | rfl | rfl <;> rcases lt4 hq2 with rfl | rfl | rfl | rfl <;> first | rfl | decide +kernel | exact absurd c215 (by decide +kernel) | exact absurd c221 (by decide +kernel))
    · have c2 : (((mCode k) : Nat) : Int) = ((38 : Nat) : Int) := (i_eq hp0 (by decide : (38 : Int32).toInt = ((38 : Nat) : Int))).mp c2
      refine lv_iload_n hx hb dX9_fineBy_28 rfl (lv_at hl 1 rfl) ?_
      refine lv_if_ne (tgt := 36) hx hb dX9_fineBy_29 (by decide) (fun c224 => ?_) (fun c224 => ?_)
      · have c224 : ¬ (((q0 : Nat) : Int) = (0 : Int)) := fun q => c224 ((i_eq hp1 (rfl : (0 : Int32).toInt = 0)).mpr q)
        refine lv_iload_n hx hb dX9_fineBy_36 rfl (lv_at hl 2 rfl) ?_
        refine r_iret (v := p2) hx hb hr hlocks w dX9_fineBy_37 ?_
        refine ⟨rfl, ?_⟩
        have f1_ := i_ofN hp1
        have f2_ := i_ofN hp2
        have f3_ := i_ofN hp3
        subst f1_ f2_ f3_
        clear w hl
        obtain hk_ : k = 8 := by omega
        clear c1
        clear c2
        all_goals (subst hk_; clear hc_ hp0 hk; rcases lt4 hq0 with rfl | rfl | rfl | rfl <;> rcases lt4 hq1 with rfl | rfl | rfl | rfl <;> first | rfl | decide +kernel | exact absurd c224 (by decide +kernel))
      · have c224 : ((q0 : Nat) : Int) = (0 : Int) := (i_eq hp1 (rfl : (0 : Int32).toInt = 0)).mp c224
        refine lv_iconst (v := 0) hx hb dX9_fineBy_32 (by decide) ?_
        refine lv_goto (tgt := 37) hx hb dX9_fineBy_33 (by decide) ?_
        refine r_iret (v := 0) hx hb hr hlocks w dX9_fineBy_37 ?_
        refine ⟨rfl, ?_⟩
        have f1_ := i_ofN hp1
        have f2_ := i_ofN hp2
        have f3_ := i_ofN hp3
        subst f1_ f2_ f3_
        clear w hl
        obtain hk_ : k = 8 := by omega
        clear c1
        clear c2
        all_goals (subst hk_; clear hc_ hp0 hk; rcases lt4 hq0 with rfl | rfl | rfl | rfl <;> rcases lt4 hq1 with rfl | rfl | rfl | rfl <;> first | rfl | decide +kernel | exact absurd c224 (by decide +kernel))
  · have c1 : (((mCode k) : Nat) : Int) = ((109 : Nat) : Int) := (i_eq hp0 (by decide : (109 : Int32).toInt = ((109 : Nat) : Int))).mp c1
    refine lv_iload_n hx hb dX9_fineBy_6 rfl (lv_at hl 1 rfl) ?_
    refine lv_iconst (v := 1) hx hb dX9_fineBy_7 (by decide) ?_
    refine lv_iand hx hb dX9_fineBy_8 ?_
    refine lv_topi (fun y225 ey225 => ?_)
    refine lv_iload_n hx hb dX9_fineBy_9 rfl (lv_at hl 1 rfl) ?_
    refine lv_iconst (v := 2) hx hb dX9_fineBy_10 (by decide) ?_
    refine lv_iand hx hb dX9_fineBy_11 ?_
    refine lv_topi (fun y226 ey226 => ?_)
    refine lv_if_ne (tgt := 19) hx hb dX9_fineBy_12 (by decide) (fun c227 => ?_) (fun c227 => ?_)
    · refine lv_iconst (v := 3) hx hb dX9_fineBy_19 (by decide) ?_
      refine lv_ior hx hb dX9_fineBy_20 ?_
      refine lv_topi (fun y228 ey228 => ?_)
      refine r_iret (v := y228) hx hb hr hlocks w dX9_fineBy_21 ?_
      refine ⟨rfl, ?_⟩
      have f1_ := i_ofN hp1
      have f2_ := i_ofN hp2
      have f3_ := i_ofN hp3
      subst f1_ f2_ f3_
      clear w hl
      subst ey225 ey226 ey228
      obtain hk_ : k = 6 := by omega
      clear c1
      all_goals (subst hk_; clear hc_ hp0 hk; rcases lt4 hq0 with rfl | rfl | rfl | rfl <;> first | rfl | decide +kernel | exact absurd c227 (by decide +kernel))
    · refine lv_iconst (v := 0) hx hb dX9_fineBy_15 (by decide) ?_
      refine lv_goto (tgt := 20) hx hb dX9_fineBy_16 (by decide) ?_
      refine lv_ior hx hb dX9_fineBy_20 ?_
      refine lv_topi (fun y229 ey229 => ?_)
      refine r_iret (v := y229) hx hb hr hlocks w dX9_fineBy_21 ?_
      refine ⟨rfl, ?_⟩
      have f1_ := i_ofN hp1
      have f2_ := i_ofN hp2
      have f3_ := i_ofN hp3
      subst f1_ f2_ f3_
      clear w hl
      subst ey225 ey226 ey229
      obtain hk_ : k = 6 := by omega
      clear c1
      all_goals (subst hk_; clear hc_ hp0 hk; rcases lt4 hq0 with rfl | rfl | rfl | rfl <;> first | rfl | decide +kernel | exact absurd c227 (by decide +kernel))

abbrev rm_X9_constantBy : Room := { frames := 1, cells := 0, slots := 0, locals := 20 }
set_option maxHeartbeats 4000000 in
set_option maxRecDepth 100000 in
theorem c_X9_constantBy (l : Launch) {g : GE} {h : Nat → va_E} {u : Nat} (hu : u < 3) {k : Nat} (p0 p1 : Int32) (hp0 : p0.toInt = (u : Int)) (hp1 : p1.toInt = ((mCode k : Nat) : Int)) (hk : k < 3) : MI l yX9_constantBy wsX9_constantBy rm_X9_constantBy [.int p0, .int p1] g h (fun r h2 => h2 = h ∧ ∀ (T : Nat → Nat → Nat) (xs : Nat → Nat) (q0 q1 q2 : Nat), r.toInt = ((mLet u T xs k q0 q1 q2 : Nat) : Int)) := by
  refine Met.ofW (cc := cX9_constantBy) (maxL := 2) (ret := (some .int)) (by decide) rfl ?_
  intro p e s m args below meth c s₁ B hml hv
  obtain ⟨rfl, w0⟩ := hv
  have hx := B.exec
  have hb := B.bytes
  have hr := B.returns
  have hts := atoms_spec (ws := wsX9_constantBy) B.pre
  have hown : s.vm.findClass RX9 = some m.cls := findClass_of_methodNamed B.named
  have hlocks := B.notSynchronized
  have w := w0.start
  clear w0
  have hl := lv_entry ([.int p0, .int p1]) (n := 2) (Nat.le_of_ble_eq_true rfl)
  rw [lg_entry_eq]
  generalize (lg_sl ([.int p0, .int p1]) ++ List.replicate (2 - (lg_sl ([.int p0, .int p1])).length) Slot.unset).toArray = ls at hl ⊢
  have hl : lv_has ls 2 [(0, .int p0), (1, .int p1)] := hl
  have hc_ := mCode_c (k := k) (by omega)
  have hZ_ := mZ_c u
  have hO_ := mO_c u
  refine lv_iload_n hx hb dX9_constantBy_0 rfl (lv_at hl 1 rfl) ?_
  refine lv_bipush (v := 119) hx hb dX9_constantBy_1 (by decide) ?_
  refine lv_icmp_ne (tgt := 11) hx hb dX9_constantBy_3 (by decide) (fun c1 => ?_) (fun c1 => ?_)
  · have c1 : ¬ ((((mCode k) : Nat) : Int) = ((119 : Nat) : Int)) := fun q => c1 ((i_eq hp1 (by decide : (119 : Int32).toInt = ((119 : Nat) : Int))).mpr q)
    refine lv_iload_n hx hb dX9_constantBy_11 rfl (lv_at hl 0 rfl) ?_
    refine lv_if_ne (tgt := 29) hx hb dX9_constantBy_12 (by decide) (fun c2 => ?_) (fun c2 => ?_)
    · have c2 : ¬ (((u : Nat) : Int) = (0 : Int)) := fun q => c2 ((i_eq hp0 (rfl : (0 : Int32).toInt = 0)).mpr q)
      refine lv_iload_n hx hb dX9_constantBy_29 rfl (lv_at hl 0 rfl) ?_
      refine lv_iconst (v := 1) hx hb dX9_constantBy_30 (by decide) ?_
      refine lv_icmp_ne (tgt := 38) hx hb dX9_constantBy_31 (by decide) (fun c3 => ?_) (fun c3 => ?_)
      · have c3 : ¬ (((u : Nat) : Int) = ((1 : Nat) : Int)) := fun q => c3 ((i_eq hp0 (by decide : (1 : Int32).toInt = ((1 : Nat) : Int))).mpr q)
        refine lv_iload_n hx hb dX9_constantBy_38 rfl (lv_at hl 1 rfl) ?_
        refine lv_bipush (v := 111) hx hb dX9_constantBy_39 (by decide) ?_
        refine lv_icmp_ne (tgt := 48) hx hb dX9_constantBy_41 (by decide) (fun c4 => ?_) (fun c4 => ?_)
        · have c4 : ¬ ((((mCode k) : Nat) : Int) = ((111 : Nat) : Int)) := fun q => c4 ((i_eq hp1 (by decide : (111 : Int32).toInt = ((111 : Nat) : Int))).mpr q)
          refine lv_iconst (v := 2) hx hb dX9_constantBy_48 (by decide) ?_
          refine r_iret (v := 2) hx hb hr hlocks w dX9_constantBy_49 ?_
          refine ⟨rfl, fun T xs q0 q1 q2 => (by decide : (2 : Int32).toInt = ((2 : Nat) : Int)).trans ?_⟩
          have hm_ : mLet u T xs k q0 q1 q2 = if k = 0 then mZ u else if k = 1 then mO u else mN u := by
            rcases (show k = 0 ∨ k = 1 ∨ k = 2 by omega) with e_ | e_ | e_ <;> subst e_ <;> rfl
          rw [hm_]
          (repeat' split) <;> omega
        · have c4 : (((mCode k) : Nat) : Int) = ((111 : Nat) : Int) := (i_eq hp1 (by decide : (111 : Int32).toInt = ((111 : Nat) : Int))).mp c4
          refine lv_iconst (v := 1) hx hb dX9_constantBy_44 (by decide) ?_
          refine lv_goto (tgt := 49) hx hb dX9_constantBy_45 (by decide) ?_
          refine r_iret (v := 1) hx hb hr hlocks w dX9_constantBy_49 ?_
          refine ⟨rfl, fun T xs q0 q1 q2 => (by decide : (1 : Int32).toInt = ((1 : Nat) : Int)).trans ?_⟩
          have hm_ : mLet u T xs k q0 q1 q2 = if k = 0 then mZ u else if k = 1 then mO u else mN u := by
            rcases (show k = 0 ∨ k = 1 ∨ k = 2 by omega) with e_ | e_ | e_ <;> subst e_ <;> rfl
          rw [hm_]
          (repeat' split) <;> omega
      · have c3 : ((u : Nat) : Int) = ((1 : Nat) : Int) := (i_eq hp0 (by decide : (1 : Int32).toInt = ((1 : Nat) : Int))).mp c3
        refine lv_iconst (v := 1) hx hb dX9_constantBy_34 (by decide) ?_
        refine lv_goto (tgt := 49) hx hb dX9_constantBy_35 (by decide) ?_
        refine r_iret (v := 1) hx hb hr hlocks w dX9_constantBy_49 ?_
        refine ⟨rfl, fun T xs q0 q1 q2 => (by decide : (1 : Int32).toInt = ((1 : Nat) : Int)).trans ?_⟩
        have hm_ : mLet u T xs k q0 q1 q2 = if k = 0 then mZ u else if k = 1 then mO u else mN u := by
          rcases (show k = 0 ∨ k = 1 ∨ k = 2 by omega) with e_ | e_ | e_ <;> subst e_ <;> rfl
        rw [hm_]
        (repeat' split) <;> omega
    · have c2 : ((u : Nat) : Int) = (0 : Int) := (i_eq hp0 (rfl : (0 : Int32).toInt = 0)).mp c2
      refine lv_iload_n hx hb dX9_constantBy_15 rfl (lv_at hl 1 rfl) ?_
      refine lv_bipush (v := 111) hx hb dX9_constantBy_16 (by decide) ?_
      refine lv_icmp_ne (tgt := 25) hx hb dX9_constantBy_18 (by decide) (fun c5 => ?_) (fun c5 => ?_)
      · have c5 : ¬ ((((mCode k) : Nat) : Int) = ((111 : Nat) : Int)) := fun q => c5 ((i_eq hp1 (by decide : (111 : Int32).toInt = ((111 : Nat) : Int))).mpr q)
        refine lv_iconst (v := 1) hx hb dX9_constantBy_25 (by decide) ?_
        refine lv_goto (tgt := 49) hx hb dX9_constantBy_26 (by decide) ?_
        refine r_iret (v := 1) hx hb hr hlocks w dX9_constantBy_49 ?_
        refine ⟨rfl, fun T xs q0 q1 q2 => (by decide : (1 : Int32).toInt = ((1 : Nat) : Int)).trans ?_⟩
        have hm_ : mLet u T xs k q0 q1 q2 = if k = 0 then mZ u else if k = 1 then mO u else mN u := by
          rcases (show k = 0 ∨ k = 1 ∨ k = 2 by omega) with e_ | e_ | e_ <;> subst e_ <;> rfl
        rw [hm_]
        (repeat' split) <;> omega
      · have c5 : (((mCode k) : Nat) : Int) = ((111 : Nat) : Int) := (i_eq hp1 (by decide : (111 : Int32).toInt = ((111 : Nat) : Int))).mp c5
        refine lv_iconst (v := 0) hx hb dX9_constantBy_21 (by decide) ?_
        refine lv_goto (tgt := 49) hx hb dX9_constantBy_22 (by decide) ?_
        refine r_iret (v := 0) hx hb hr hlocks w dX9_constantBy_49 ?_
        refine ⟨rfl, fun T xs q0 q1 q2 => (by decide : (0 : Int32).toInt = ((0 : Nat) : Int)).trans ?_⟩
        have hm_ : mLet u T xs k q0 q1 q2 = if k = 0 then mZ u else if k = 1 then mO u else mN u := by
          rcases (show k = 0 ∨ k = 1 ∨ k = 2 by omega) with e_ | e_ | e_ <;> subst e_ <;> rfl
        rw [hm_]
        (repeat' split) <;> omega
  · have c1 : (((mCode k) : Nat) : Int) = ((119 : Nat) : Int) := (i_eq hp1 (by decide : (119 : Int32).toInt = ((119 : Nat) : Int))).mp c1
    refine lv_iload_n hx hb dX9_constantBy_6 rfl (lv_at hl 0 rfl) ?_
    refine r_callI w (va_runS (As := [.int p0]) (rest := []) ⟨hx, hb, hml, hown, hts⟩ (c_X9_neverOf l hu p0 hp0) (va_cwS 1 hts gX9_constantBy_X9_neverOf rfl rfl rfl (by decide +kernel) ⟨Nat.le_of_ble_eq_true rfl, Nat.le_of_ble_eq_true rfl⟩) (r_preS w) rfl rfl hl.1 rfl (lv_room (Nat.le_of_ble_eq_true rfl)) dX9_constantBy_7 ⟨Nat.zero_le _, Nat.zero_le _⟩) (fun r7 h6 H locs hp w => ?_)
    obtain ⟨eh_, qq8⟩ := hp
    have eh_ := eh_.symm
    subst eh_
    refine r_iret (v := r7) hx hb hr hlocks w dX9_constantBy_10 ?_
    refine ⟨rfl, fun T xs q0 q1 q2 => qq8.trans ?_⟩
    have hm_ : mLet u T xs k q0 q1 q2 = if k = 0 then mZ u else if k = 1 then mO u else mN u := by
      rcases (show k = 0 ∨ k = 1 ∨ k = 2 by omega) with e_ | e_ | e_ <;> subst e_ <;> rfl
    rw [hm_]
    (repeat' split) <;> omega

abbrev rm_X9_isNever : Room := { frames := 1, cells := 0, slots := 0, locals := 20 }
set_option maxHeartbeats 4000000 in
set_option maxRecDepth 100000 in
theorem c_X9_isNever (l : Launch) {g : GE} {h : Nat → va_E} {u : Nat} (hu : u < 3) {v : Nat} (p0 p1 : Int32) (hp0 : p0.toInt = (u : Int)) (hp1 : p1.toInt = (v : Int)) : MI l yX9_isNever wsX9_isNever rm_X9_isNever [.int p0, .int p1] g h (fun r h2 => h2 = h ∧ Bq r (v = mN u)) := by
  refine Met.ofW (cc := cX9_isNever) (maxL := 2) (ret := (some .boolean)) (by decide) rfl ?_
  intro p e s m args below meth c s₁ B hml hv
  obtain ⟨rfl, w0⟩ := hv
  have hx := B.exec
  have hb := B.bytes
  have hr := B.returns
  have hts := atoms_spec (ws := wsX9_isNever) B.pre
  have hown : s.vm.findClass RX9 = some m.cls := findClass_of_methodNamed B.named
  have hlocks := B.notSynchronized
  have w := w0.start
  clear w0
  have hl := lv_entry ([.int p0, .int p1]) (n := 2) (Nat.le_of_ble_eq_true rfl)
  rw [lg_entry_eq]
  generalize (lg_sl ([.int p0, .int p1]) ++ List.replicate (2 - (lg_sl ([.int p0, .int p1])).length) Slot.unset).toArray = ls at hl ⊢
  have hl : lv_has ls 2 [(0, .int p0), (1, .int p1)] := hl
  refine lv_iload_n hx hb dX9_isNever_0 rfl (lv_at hl 1 rfl) ?_
  refine lv_iload_n hx hb dX9_isNever_1 rfl (lv_at hl 0 rfl) ?_
  refine r_callI w (va_runS (As := [.int p0]) (rest := [.int p1]) ⟨hx, hb, hml, hown, hts⟩ (c_X9_neverOf l hu p0 hp0) (va_cwS 1 hts gX9_isNever_X9_neverOf rfl rfl rfl (by decide +kernel) ⟨Nat.le_of_ble_eq_true rfl, Nat.le_of_ble_eq_true rfl⟩) (r_preS w) rfl rfl hl.1 rfl (lv_room (Nat.le_of_ble_eq_true rfl)) dX9_isNever_2 ⟨Nat.zero_le _, Nat.zero_le _⟩) (fun r2 h1 H locs hp w => ?_)
  obtain ⟨eh_, qq3⟩ := hp
  have eh_ := eh_.symm
  subst eh_
  refine lv_icmp_ne (tgt := 12) hx hb dX9_isNever_5 (by decide) (fun c4 => ?_) (fun c4 => ?_)
  · have c4 : ¬ (((v : Nat) : Int) = (((mN u) : Nat) : Int)) := fun q => c4 ((i_eq hp1 qq3).mpr q)
    refine lv_iconst (v := 0) hx hb dX9_isNever_12 (by decide) ?_
    refine r_zret (v := 0) hx hb hr rfl hlocks w dX9_isNever_13 ?_
    exact ⟨rfl, by first | exact Bq.t (by omega) | exact Bq.f (by omega)⟩
  · have c4 : ((v : Nat) : Int) = (((mN u) : Nat) : Int) := (i_eq hp1 qq3).mp c4
    refine lv_iconst (v := 1) hx hb dX9_isNever_8 (by decide) ?_
    refine lv_goto (tgt := 13) hx hb dX9_isNever_9 (by decide) ?_
    refine r_zret (v := 1) hx hb hr rfl hlocks w dX9_isNever_13 ?_
    exact ⟨rfl, by first | exact Bq.t (by omega) | exact Bq.f (by omega)⟩

