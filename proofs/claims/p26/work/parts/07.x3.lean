/-- how many parts a letter has, by its number -/
def mParts (n : Nat) (a : Nat → Nat) (k : Nat) : Nat := if 10 ≤ k ∧ k < 10 + n then a (k - 10) else if k = 6 then 1 else if k = 7 ∨ k = 8 then 2 else if k = 9 then 3 else 0
/-- whether it may stand in function f -/
def mMay (n : Nat) (a : Nat → Nat) (f k : Nat) : Prop := (10 ≤ k → k < 10 + n) ∧ (k < 10 → k < 3 ∨ 6 ≤ k ∨ k - 3 < a f)
theorem inX3_has_X3 : ∀ w ∈ wsX30, w ∈ wsX3_has := by decide +kernel
abbrev rm_X3_has : Room := { frames := 0, cells := 0, slots := 0, locals := 0 }
set_option maxHeartbeats 4000000 in
set_option maxRecDepth 100000 in
theorem c_X3_has (l : Launch) {g : GE} {h : Nat → va_E} {o : Nat} {n : Int32} {ga gk gl : Nat → Int32} {gb : Nat → Nat → Int32} (P : PrA g h o n ga gk gl gb) (p0 : Int32) : MI l yX3_has wsX3_has rm_X3_has [.ref (g.2.2.1 o), .int p0] g h (fun r h2 => h2 = h ∧ Bq r (0 ≤ p0.toInt ∧ p0.toInt < n.toInt)) := by
  refine Met.ofW (cc := cX3_has) (maxL := 2) (ret := (some .boolean)) (by decide) rfl ?_
  intro p e s m args below meth c s₁ B hml hv
  obtain ⟨rfl, w0⟩ := hv
  have hx := B.exec
  have hb := B.bytes
  have hr := B.returns
  have hts := atoms_spec (ws := wsX3_has) B.pre
  have hown : s.vm.findClass RX3 = some m.cls := findClass_of_methodNamed B.named
  have hlocks := B.notSynchronized
  have w := w0.start
  clear w0
  have hl := lv_entry ([.ref (g.2.2.1 o), .int p0]) (n := 2) (Nat.le_of_ble_eq_true rfl)
  rw [lg_entry_eq]
  generalize (lg_sl ([.ref (g.2.2.1 o), .int p0]) ++ List.replicate (2 - (lg_sl ([.ref (g.2.2.1 o), .int p0])).length) Slot.unset).toArray = ls at hl ⊢
  have hl : lv_has ls 2 [(0, .ref (g.2.2.1 o)), (1, .int p0)] := hl
  refine lv_iload_n hx hb dX3_has_0 rfl (lv_at hl 1 rfl) ?_
  refine lv_if_lt (tgt := 16) hx hb dX3_has_1 (by decide) (fun c1 => ?_) (fun c1 => ?_)
  · have c1 : p0.toInt < (0 : Int) := (i_lt (rfl : p0.toInt = p0.toInt) (rfl : (0 : Int32).toInt = 0)).mp c1
    refine lv_iconst (v := 0) hx hb dX3_has_16 (by decide) ?_
    refine r_zret (v := 0) hx hb hr rfl hlocks w dX3_has_17 ?_
    exact ⟨rfl, by first | exact Bq.t (by omega) | exact Bq.f (by omega)⟩
  · have c1 : ¬ (p0.toInt < (0 : Int)) := fun q => c1 ((i_lt (rfl : p0.toInt = p0.toInt) (rfl : (0 : Int32).toInt = 0)).mpr q)
    refine lv_iload_n hx hb dX3_has_4 rfl (lv_at hl 1 rfl) ?_
    refine lv_aload_n hx hb dX3_has_5 rfl (lv_at hl 0 rfl) ?_
    refine r_get (C := RX3) (T := TX3) (N := 5) (ci := 2) hx hb hts inX3_has_X3 hown w (by have := P.1; omega) P.c0 rfl 0 (by decide) (hts (Cond.fieldLink RX3 24 "EarlyValues$Program" "functions" "I") (List.mem_of_getElem? (i := 1) (by decide +kernel))) rfl rfl dX3_has_6 ?_
    refine lv_icmp_ge (tgt := 16) hx hb dX3_has_9 (by decide) (fun c2 => ?_) (fun c2 => ?_)
    · have c2 : n.toInt ≤ p0.toInt := (i_le (rfl : n.toInt = n.toInt) (rfl : p0.toInt = p0.toInt)).mp c2
      refine lv_iconst (v := 0) hx hb dX3_has_16 (by decide) ?_
      refine r_zret (v := 0) hx hb hr rfl hlocks w dX3_has_17 ?_
      exact ⟨rfl, by first | exact Bq.t (by omega) | exact Bq.f (by omega)⟩
    · have c2 : ¬ (n.toInt ≤ p0.toInt) := fun q => c2 ((i_le (rfl : n.toInt = n.toInt) (rfl : p0.toInt = p0.toInt)).mpr q)
      refine lv_iconst (v := 1) hx hb dX3_has_12 (by decide) ?_
      refine lv_goto (tgt := 17) hx hb dX3_has_13 (by decide) ?_
      refine r_zret (v := 1) hx hb hr rfl hlocks w dX3_has_17 ?_
      exact ⟨rfl, by first | exact Bq.t (by omega) | exact Bq.f (by omega)⟩

theorem inX3_hasPlace_X3 : ∀ w ∈ wsX30, w ∈ wsX3_hasPlace := by decide +kernel
abbrev rm_X3_hasPlace : Room := { frames := 1, cells := 0, slots := 0, locals := 21 }
set_option maxHeartbeats 4000000 in
set_option maxRecDepth 100000 in
theorem c_X3_hasPlace (l : Launch) {g : GE} {h : Nat → va_E} {o : Nat} {n : Int32} {ga gk gl : Nat → Int32} {gb : Nat → Nat → Int32} (P : PrA g h o n ga gk gl gb) (p0 p1 : Int32) (hn4 : n.toInt ≤ 4) : MI l yX3_hasPlace wsX3_hasPlace rm_X3_hasPlace [.ref (g.2.2.1 o), .int p0, .int p1] g h (fun r h2 => h2 = h ∧ Bq r (0 ≤ p0.toInt ∧ p0.toInt < n.toInt ∧ 0 ≤ p1.toInt ∧ p1.toInt < (gl p0.toInt.toNat).toInt)) := by
  refine Met.ofW (cc := cX3_hasPlace) (maxL := 3) (ret := (some .boolean)) (by decide) rfl ?_
  intro p e s m args below meth c s₁ B hml hv
  obtain ⟨rfl, w0⟩ := hv
  have hx := B.exec
  have hb := B.bytes
  have hr := B.returns
  have hts := atoms_spec (ws := wsX3_hasPlace) B.pre
  have hown : s.vm.findClass RX3 = some m.cls := findClass_of_methodNamed B.named
  have hlocks := B.notSynchronized
  have w := w0.start
  clear w0
  have hl := lv_entry ([.ref (g.2.2.1 o), .int p0, .int p1]) (n := 3) (Nat.le_of_ble_eq_true rfl)
  rw [lg_entry_eq]
  generalize (lg_sl ([.ref (g.2.2.1 o), .int p0, .int p1]) ++ List.replicate (3 - (lg_sl ([.ref (g.2.2.1 o), .int p0, .int p1])).length) Slot.unset).toArray = ls at hl ⊢
  have hl : lv_has ls 3 [(0, .ref (g.2.2.1 o)), (1, .int p0), (2, .int p1)] := hl
  refine lv_aload_n hx hb dX3_hasPlace_0 rfl (lv_at hl 0 rfl) ?_
  refine lv_iload_n hx hb dX3_hasPlace_1 rfl (lv_at hl 1 rfl) ?_
  refine r_callI w (va_runV (As := [.int p0]) (rest := []) ⟨hx, hb, hml, hown, hts⟩ (c_X3_has l P p0) (cwV 1 hts gX3_hasPlace_X3_has rfl rfl rfl (by decide +kernel) ⟨Nat.le_of_ble_eq_true rfl, Nat.le_of_ble_eq_true rfl⟩) (r_preV w (by have := P.1; omega) P.c0 rfl) rfl rfl hl.1 rfl (lv_room (Nat.le_of_ble_eq_true rfl)) dX3_hasPlace_2 ⟨Nat.zero_le _, Nat.zero_le _⟩) (fun r2 h1 H locs hp w => ?_)
  obtain ⟨eh_, qq3⟩ := hp
  have eh_ := eh_.symm
  subst eh_
  have b4 : Bq r2 (0 ≤ p0.toInt ∧ p0.toInt < n.toInt) := qq3.iff (by rw [((rfl : p0.toInt = p0.toInt) : p0.toInt = _), ((rfl : n.toInt = n.toInt) : n.toInt = _)])
  refine lv_if_eq (tgt := 26) hx hb dX3_hasPlace_5 (by decide) (fun c5 => ?_) (fun c5 => ?_)
  · have c5 := b4.eq c5
    refine lv_iconst (v := 0) hx hb dX3_hasPlace_26 (by decide) ?_
    refine r_zret (v := 0) hx hb hr rfl hlocks w dX3_hasPlace_27 ?_
    exact ⟨rfl, by first | exact Bq.t (by omega) | exact Bq.f (by omega)⟩
  · have c5 := b4.ne c5
    refine lv_iload_n hx hb dX3_hasPlace_8 rfl (lv_at hl 2 rfl) ?_
    refine lv_if_lt (tgt := 26) hx hb dX3_hasPlace_9 (by decide) (fun c6 => ?_) (fun c6 => ?_)
    · have c6 : p1.toInt < (0 : Int) := (i_lt (rfl : p1.toInt = p1.toInt) (rfl : (0 : Int32).toInt = 0)).mp c6
      refine lv_iconst (v := 0) hx hb dX3_hasPlace_26 (by decide) ?_
      refine r_zret (v := 0) hx hb hr rfl hlocks w dX3_hasPlace_27 ?_
      exact ⟨rfl, by first | exact Bq.t (by omega) | exact Bq.f (by omega)⟩
    · have c6 : ¬ (p1.toInt < (0 : Int)) := fun q => c6 ((i_lt (rfl : p1.toInt = p1.toInt) (rfl : (0 : Int32).toInt = 0)).mpr q)
      refine lv_iload_n hx hb dX3_hasPlace_12 rfl (lv_at hl 2 rfl) ?_
      refine lv_aload_n hx hb dX3_hasPlace_13 rfl (lv_at hl 0 rfl) ?_
      refine r_get (C := RX3) (T := TX3) (N := 5) (ci := 2) hx hb hts inX3_hasPlace_X3 hown w (by have := P.1; omega) P.c0 rfl 3 (by decide) (hts (Cond.fieldLink RX3 16 "EarlyValues$Program" "lengths" "[I") (List.mem_of_getElem? (i := 1) (by decide +kernel))) rfl rfl dX3_hasPlace_14 ?_
      refine lv_iload_n hx hb dX3_hasPlace_17 rfl (lv_at hl 1 rfl) ?_
      refine r_iald (j := (p0.toInt).toNat) hx hb w (by have := P.1; omega) P.c3 ((rfl : p0.toInt = p0.toInt).trans (by omega : p0.toInt = (((p0.toInt).toNat : Nat) : Int))) (by omega) dX3_hasPlace_18 ?_
      refine lv_icmp_ge (tgt := 26) hx hb dX3_hasPlace_19 (by decide) (fun c7 => ?_) (fun c7 => ?_)
      · have c7 : (gl ((p0.toInt).toNat)).toInt ≤ p1.toInt := (i_le (rfl : (gl ((p0.toInt).toNat)).toInt = (gl ((p0.toInt).toNat)).toInt) (rfl : p1.toInt = p1.toInt)).mp c7
        refine lv_iconst (v := 0) hx hb dX3_hasPlace_26 (by decide) ?_
        refine r_zret (v := 0) hx hb hr rfl hlocks w dX3_hasPlace_27 ?_
        exact ⟨rfl, by first | exact Bq.t (by omega) | exact Bq.f (by omega)⟩
      · have c7 : ¬ ((gl ((p0.toInt).toNat)).toInt ≤ p1.toInt) := fun q => c7 ((i_le (rfl : (gl ((p0.toInt).toNat)).toInt = (gl ((p0.toInt).toNat)).toInt) (rfl : p1.toInt = p1.toInt)).mpr q)
        refine lv_iconst (v := 1) hx hb dX3_hasPlace_22 (by decide) ?_
        refine lv_goto (tgt := 27) hx hb dX3_hasPlace_23 (by decide) ?_
        refine r_zret (v := 1) hx hb hr rfl hlocks w dX3_hasPlace_27 ?_
        exact ⟨rfl, by first | exact Bq.t (by omega) | exact Bq.f (by omega)⟩

theorem inX3_partsOf_X3 : ∀ w ∈ wsX30, w ∈ wsX3_partsOf := by decide +kernel
abbrev rm_X3_partsOf : Room := { frames := 1, cells := 0, slots := 0, locals := 21 }
set_option maxHeartbeats 4000000 in
set_option maxRecDepth 100000 in
theorem c_X3_partsOf (l : Launch) {g : GE} {h : Nat → va_E} {o : Nat} {n : Int32} {ga gk gl : Nat → Int32} {gb : Nat → Nat → Int32} (P : PrA g h o n ga gk gl gb) {pn : Nat} {pa : Nat → Nat} (hn : n.toInt = (pn : Int)) (hn4 : pn ≤ 4) (ha : ∀ i, i < pn → (ga i).toInt = (pa i : Int) ∧ pa i ≤ 3) {k : Nat} (p0 : Int32) (hp0 : p0.toInt = (k : Int)) (hk : k < 14) : MI l yX3_partsOf wsX3_partsOf rm_X3_partsOf [.ref (g.2.2.1 o), .int p0] g h (fun r h2 => h2 = h ∧ r.toInt = (mParts pn pa k : Int)) := by
  refine Met.ofW (cc := cX3_partsOf) (maxL := 2) (ret := (some .int)) (by decide) rfl ?_
  intro p e s m args below meth c s₁ B hml hv
  obtain ⟨rfl, w0⟩ := hv
  have hx := B.exec
  have hb := B.bytes
  have hr := B.returns
  have hts := atoms_spec (ws := wsX3_partsOf) B.pre
  have hown : s.vm.findClass RX3 = some m.cls := findClass_of_methodNamed B.named
  have hlocks := B.notSynchronized
  have w := w0.start
  clear w0
  have hl := lv_entry ([.ref (g.2.2.1 o), .int p0]) (n := 2) (Nat.le_of_ble_eq_true rfl)
  rw [lg_entry_eq]
  generalize (lg_sl ([.ref (g.2.2.1 o), .int p0]) ++ List.replicate (2 - (lg_sl ([.ref (g.2.2.1 o), .int p0])).length) Slot.unset).toArray = ls at hl ⊢
  have hl : lv_has ls 2 [(0, .ref (g.2.2.1 o)), (1, .int p0)] := hl
  refine lv_aload_n hx hb dX3_partsOf_0 rfl (lv_at hl 0 rfl) ?_
  refine lv_iload_n hx hb dX3_partsOf_1 rfl (lv_at hl 1 rfl) ?_
  refine lv_bipush (v := 10) hx hb dX3_partsOf_2 (by decide) ?_
  refine lv_isub hx hb dX3_partsOf_4 ?_
  refine lv_topi (fun y1 ey1 => ?_)
  have ty1 : y1.toInt = ((k : Nat) : Int) - ((10 : Nat) : Int) := i_sub ey1 hp0 (by decide : (10 : Int32).toInt = ((10 : Nat) : Int)) (by omega)
  refine r_callI w (va_runV (As := [.int y1]) (rest := []) ⟨hx, hb, hml, hown, hts⟩ (c_X3_has l P y1) (cwV 1 hts gX3_partsOf_X3_has rfl rfl rfl (by decide +kernel) ⟨Nat.le_of_ble_eq_true rfl, Nat.le_of_ble_eq_true rfl⟩) (r_preV w (by have := P.1; omega) P.c0 rfl) rfl rfl hl.1 rfl (lv_room (Nat.le_of_ble_eq_true rfl)) dX3_partsOf_5 ⟨Nat.zero_le _, Nat.zero_le _⟩) (fun r3 h2 H locs hp w => ?_)
  obtain ⟨eh_, qq4⟩ := hp
  have eh_ := eh_.symm
  subst eh_
  have b5 : Bq r3 (0 ≤ (((k : Nat) : Int) - ((10 : Nat) : Int)) ∧ (((k : Nat) : Int) - ((10 : Nat) : Int)) < ((pn : Nat) : Int)) := qq4.iff (by rw [(ty1 : y1.toInt = _), (hn : n.toInt = _)])
  refine lv_if_eq (tgt := 21) hx hb dX3_partsOf_8 (by decide) (fun c6 => ?_) (fun c6 => ?_)
  · have c6 := b5.eq c6
    refine lv_iload_n hx hb dX3_partsOf_21 rfl (lv_at hl 1 rfl) ?_
    rcases (show (((k : Nat) : Int) < 6 ∨ 9 < ((k : Nat) : Int)) ∨ ((k : Nat) : Int) = 6 ∨ ((k : Nat) : Int) = 7 ∨ ((k : Nat) : Int) = 8 ∨ ((k : Nat) : Int) = 9 by omega) with c7 | c7 | c7 | c7 | c7
    · refine lv_tableOut (tgt := 58) hx hb dX3_partsOf_22 (by rw [hp0]; exact c7) (by decide) ?_
      refine lv_iconst (v := 0) hx hb dX3_partsOf_58 (by decide) ?_
      refine r_iret (v := 0) hx hb hr hlocks w dX3_partsOf_59 ?_
      refine ⟨rfl, ?_⟩
      rw [(by decide : (0 : Int32).toInt = ((0 : Nat) : Int))]
      unfold mParts
      split <;> (try split) <;> (try split) <;> (try split) <;> first | rfl | omega | (congr 2; omega) | (exfalso; omega)
    · refine lv_tableIn (off := 30) (tgt := 52) hx hb dX3_partsOf_22 (by rw [hp0]; omega) (by rw [hp0]; omega) (by rw [hp0, c7]; rfl) (by decide) ?_
      refine lv_iconst (v := 1) hx hb dX3_partsOf_52 (by decide) ?_
      refine r_iret (v := 1) hx hb hr hlocks w dX3_partsOf_53 ?_
      refine ⟨rfl, ?_⟩
      rw [(by decide : (1 : Int32).toInt = ((1 : Nat) : Int))]
      unfold mParts
      split <;> (try split) <;> (try split) <;> (try split) <;> first | rfl | omega | (congr 2; omega) | (exfalso; omega)
    · refine lv_tableIn (off := 32) (tgt := 54) hx hb dX3_partsOf_22 (by rw [hp0]; omega) (by rw [hp0]; omega) (by rw [hp0, c7]; rfl) (by decide) ?_
      refine lv_iconst (v := 2) hx hb dX3_partsOf_54 (by decide) ?_
      refine r_iret (v := 2) hx hb hr hlocks w dX3_partsOf_55 ?_
      refine ⟨rfl, ?_⟩
      rw [(by decide : (2 : Int32).toInt = ((2 : Nat) : Int))]
      unfold mParts
      split <;> (try split) <;> (try split) <;> (try split) <;> first | rfl | omega | (congr 2; omega) | (exfalso; omega)
    · refine lv_tableIn (off := 32) (tgt := 54) hx hb dX3_partsOf_22 (by rw [hp0]; omega) (by rw [hp0]; omega) (by rw [hp0, c7]; rfl) (by decide) ?_
      refine lv_iconst (v := 2) hx hb dX3_partsOf_54 (by decide) ?_
      refine r_iret (v := 2) hx hb hr hlocks w dX3_partsOf_55 ?_
      refine ⟨rfl, ?_⟩
      rw [(by decide : (2 : Int32).toInt = ((2 : Nat) : Int))]
      unfold mParts
      split <;> (try split) <;> (try split) <;> (try split) <;> first | rfl | omega | (congr 2; omega) | (exfalso; omega)
    · refine lv_tableIn (off := 34) (tgt := 56) hx hb dX3_partsOf_22 (by rw [hp0]; omega) (by rw [hp0]; omega) (by rw [hp0, c7]; rfl) (by decide) ?_
      refine lv_iconst (v := 3) hx hb dX3_partsOf_56 (by decide) ?_
      refine r_iret (v := 3) hx hb hr hlocks w dX3_partsOf_57 ?_
      refine ⟨rfl, ?_⟩
      rw [(by decide : (3 : Int32).toInt = ((3 : Nat) : Int))]
      unfold mParts
      split <;> (try split) <;> (try split) <;> (try split) <;> first | rfl | omega | (congr 2; omega) | (exfalso; omega)
  · have c6 := b5.ne c6
    refine lv_aload_n hx hb dX3_partsOf_11 rfl (lv_at hl 0 rfl) ?_
    refine r_get (C := RX3) (T := TX3) (N := 5) (ci := 2) hx hb hts inX3_partsOf_X3 hown w (by have := P.1; omega) P.c0 rfl 1 (by decide) (hts (Cond.fieldLink RX3 9 "EarlyValues$Program" "arguments" "[I") (List.mem_of_getElem? (i := 1) (by decide +kernel))) rfl rfl dX3_partsOf_12 ?_
    refine lv_iload_n hx hb dX3_partsOf_15 rfl (lv_at hl 1 rfl) ?_
    refine lv_bipush (v := 10) hx hb dX3_partsOf_16 (by decide) ?_
    refine lv_isub hx hb dX3_partsOf_18 ?_
    refine lv_topi (fun y8 ey8 => ?_)
    have ty8 : y8.toInt = ((k : Nat) : Int) - ((10 : Nat) : Int) := i_sub ey8 hp0 (by decide : (10 : Int32).toInt = ((10 : Nat) : Int)) (by omega)
    refine r_iald (j := ((((k : Nat) : Int) - ((10 : Nat) : Int))).toNat) hx hb w (by have := P.1; omega) P.c1 (ty8.trans (by omega : (((k : Nat) : Int) - ((10 : Nat) : Int)) = ((((((k : Nat) : Int) - ((10 : Nat) : Int))).toNat : Nat) : Int))) (by omega) dX3_partsOf_19 ?_
    refine r_iret (v := ga (((((k : Nat) : Int) - ((10 : Nat) : Int))).toNat)) hx hb hr hlocks w dX3_partsOf_20 ?_
    refine ⟨rfl, ?_⟩
    rw [(ha (((((k : Nat) : Int) - ((10 : Nat) : Int))).toNat) (by omega)).1]
    unfold mParts
    split <;> (try split) <;> (try split) <;> (try split) <;> first | rfl | omega | (congr 2; omega) | (exfalso; omega)

theorem inX3_mayStand_X3 : ∀ w ∈ wsX30, w ∈ wsX3_mayStand := by decide +kernel
abbrev rm_X3_mayStand : Room := { frames := 1, cells := 0, slots := 0, locals := 21 }
set_option maxHeartbeats 4000000 in
set_option maxRecDepth 100000 in
theorem c_X3_mayStand (l : Launch) {g : GE} {h : Nat → va_E} {o : Nat} {n : Int32} {ga gk gl : Nat → Int32} {gb : Nat → Nat → Int32} (P : PrA g h o n ga gk gl gb) {pn : Nat} {pa : Nat → Nat} (hn : n.toInt = (pn : Int)) (hn4 : pn ≤ 4) (ha : ∀ i, i < pn → (ga i).toInt = (pa i : Int) ∧ pa i ≤ 3) (p0 p1 : Int32) (hp1 : p1.toInt < 14) : MI l yX3_mayStand wsX3_mayStand rm_X3_mayStand [.ref (g.2.2.1 o), .int p0, .int p1] g h (fun r h2 => h2 = h ∧ Bq r (0 ≤ p0.toInt ∧ p0.toInt < (pn : Int) ∧ 0 ≤ p1.toInt ∧ mMay pn pa p0.toInt.toNat p1.toInt.toNat)) := by
  refine Met.ofW (cc := cX3_mayStand) (maxL := 3) (ret := (some .boolean)) (by decide) rfl ?_
  intro p e s m args below meth c s₁ B hml hv
  obtain ⟨rfl, w0⟩ := hv
  have hx := B.exec
  have hb := B.bytes
  have hr := B.returns
  have hts := atoms_spec (ws := wsX3_mayStand) B.pre
  have hown : s.vm.findClass RX3 = some m.cls := findClass_of_methodNamed B.named
  have hlocks := B.notSynchronized
  have w := w0.start
  clear w0
  have hl := lv_entry ([.ref (g.2.2.1 o), .int p0, .int p1]) (n := 3) (Nat.le_of_ble_eq_true rfl)
  rw [lg_entry_eq]
  generalize (lg_sl ([.ref (g.2.2.1 o), .int p0, .int p1]) ++ List.replicate (3 - (lg_sl ([.ref (g.2.2.1 o), .int p0, .int p1])).length) Slot.unset).toArray = ls at hl ⊢
  have hl : lv_has ls 3 [(0, .ref (g.2.2.1 o)), (1, .int p0), (2, .int p1)] := hl
  refine lv_aload_n hx hb dX3_mayStand_0 rfl (lv_at hl 0 rfl) ?_
  refine lv_iload_n hx hb dX3_mayStand_1 rfl (lv_at hl 1 rfl) ?_
  refine r_callI w (va_runV (As := [.int p0]) (rest := []) ⟨hx, hb, hml, hown, hts⟩ (c_X3_has l P p0) (cwV 1 hts gX3_mayStand_X3_has rfl rfl rfl (by decide +kernel) ⟨Nat.le_of_ble_eq_true rfl, Nat.le_of_ble_eq_true rfl⟩) (r_preV w (by have := P.1; omega) P.c0 rfl) rfl rfl hl.1 rfl (lv_room (Nat.le_of_ble_eq_true rfl)) dX3_mayStand_2 ⟨Nat.zero_le _, Nat.zero_le _⟩) (fun r2 h1 H locs hp w => ?_)
  obtain ⟨eh_, qq3⟩ := hp
  have eh_ := eh_.symm
  subst eh_
  have b4 : Bq r2 (0 ≤ p0.toInt ∧ p0.toInt < ((pn : Nat) : Int)) := qq3.iff (by rw [((rfl : p0.toInt = p0.toInt) : p0.toInt = _), (hn : n.toInt = _)])
  refine lv_if_eq (tgt := 12) hx hb dX3_mayStand_5 (by decide) (fun c5 => ?_) (fun c5 => ?_)
  · have c5 := b4.eq c5
    refine lv_iconst (v := 0) hx hb dX3_mayStand_12 (by decide) ?_
    refine r_zret (v := 0) hx hb hr rfl hlocks w dX3_mayStand_13 ?_
    refine ⟨rfl, ?_⟩
    unfold mMay
    first | exact Bq.t (by omega) | exact Bq.f (by omega) | (refine (trivial).iff ?_; omega)
  · have c5 := b4.ne c5
    refine lv_iload_n hx hb dX3_mayStand_8 rfl (lv_at hl 2 rfl) ?_
    refine lv_if_ge (tgt := 14) hx hb dX3_mayStand_9 (by decide) (fun c6 => ?_) (fun c6 => ?_)
    · have c6 : (0 : Int) ≤ p1.toInt := (i_le (rfl : (0 : Int32).toInt = 0) (rfl : p1.toInt = p1.toInt)).mp c6
      refine lv_iload_n hx hb dX3_mayStand_14 rfl (lv_at hl 2 rfl) ?_
      refine lv_bipush (v := 10) hx hb dX3_mayStand_15 (by decide) ?_
      refine lv_icmp_lt (tgt := 29) hx hb dX3_mayStand_17 (by decide) (fun c7 => ?_) (fun c7 => ?_)
      · have c7 : p1.toInt < ((10 : Nat) : Int) := (i_lt (rfl : p1.toInt = p1.toInt) (by decide : (10 : Int32).toInt = ((10 : Nat) : Int))).mp c7
        refine lv_iload_n hx hb dX3_mayStand_29 rfl (lv_at hl 2 rfl) ?_
        refine lv_iconst (v := 3) hx hb dX3_mayStand_30 (by decide) ?_
        refine lv_icmp_lt (tgt := 52) hx hb dX3_mayStand_31 (by decide) (fun c8 => ?_) (fun c8 => ?_)
        · have c8 : p1.toInt < ((3 : Nat) : Int) := (i_lt (rfl : p1.toInt = p1.toInt) (by decide : (3 : Int32).toInt = ((3 : Nat) : Int))).mp c8
          refine lv_iconst (v := 1) hx hb dX3_mayStand_52 (by decide) ?_
          refine lv_goto (tgt := 57) hx hb dX3_mayStand_53 (by decide) ?_
          refine r_zret (v := 1) hx hb hr rfl hlocks w dX3_mayStand_57 ?_
          refine ⟨rfl, ?_⟩
          unfold mMay
          first | exact Bq.t (by omega) | exact Bq.f (by omega) | (refine (trivial).iff ?_; omega)
        · have c8 : ¬ (p1.toInt < ((3 : Nat) : Int)) := fun q => c8 ((i_lt (rfl : p1.toInt = p1.toInt) (by decide : (3 : Int32).toInt = ((3 : Nat) : Int))).mpr q)
          refine lv_iload_n hx hb dX3_mayStand_34 rfl (lv_at hl 2 rfl) ?_
          refine lv_bipush (v := 6) hx hb dX3_mayStand_35 (by decide) ?_
          refine lv_icmp_ge (tgt := 52) hx hb dX3_mayStand_37 (by decide) (fun c9 => ?_) (fun c9 => ?_)
          · have c9 : ((6 : Nat) : Int) ≤ p1.toInt := (i_le (by decide : (6 : Int32).toInt = ((6 : Nat) : Int)) (rfl : p1.toInt = p1.toInt)).mp c9
            refine lv_iconst (v := 1) hx hb dX3_mayStand_52 (by decide) ?_
            refine lv_goto (tgt := 57) hx hb dX3_mayStand_53 (by decide) ?_
            refine r_zret (v := 1) hx hb hr rfl hlocks w dX3_mayStand_57 ?_
            refine ⟨rfl, ?_⟩
            unfold mMay
            first | exact Bq.t (by omega) | exact Bq.f (by omega) | (refine (trivial).iff ?_; omega)
          · have c9 : ¬ (((6 : Nat) : Int) ≤ p1.toInt) := fun q => c9 ((i_le (by decide : (6 : Int32).toInt = ((6 : Nat) : Int)) (rfl : p1.toInt = p1.toInt)).mpr q)
            refine lv_iload_n hx hb dX3_mayStand_40 rfl (lv_at hl 2 rfl) ?_
            refine lv_iconst (v := 3) hx hb dX3_mayStand_41 (by decide) ?_
            refine lv_isub hx hb dX3_mayStand_42 ?_
            refine lv_topi (fun y10 ey10 => ?_)
            have ty10 : y10.toInt = p1.toInt - ((3 : Nat) : Int) := i_sub ey10 (rfl : p1.toInt = p1.toInt) (by decide : (3 : Int32).toInt = ((3 : Nat) : Int)) (by omega)
            refine lv_aload_n hx hb dX3_mayStand_43 rfl (lv_at hl 0 rfl) ?_
            refine r_get (C := RX3) (T := TX3) (N := 5) (ci := 2) hx hb hts inX3_mayStand_X3 hown w (by have := P.1; omega) P.c0 rfl 1 (by decide) (hts (Cond.fieldLink RX3 9 "EarlyValues$Program" "arguments" "[I") (List.mem_of_getElem? (i := 1) (by decide +kernel))) rfl rfl dX3_mayStand_44 ?_
            refine lv_iload_n hx hb dX3_mayStand_47 rfl (lv_at hl 1 rfl) ?_
            refine r_iald (j := (p0.toInt).toNat) hx hb w (by have := P.1; omega) P.c1 ((rfl : p0.toInt = p0.toInt).trans (by omega : p0.toInt = (((p0.toInt).toNat : Nat) : Int))) (by omega) dX3_mayStand_48 ?_
            refine lv_icmp_ge (tgt := 56) hx hb dX3_mayStand_49 (by decide) (fun c11 => ?_) (fun c11 => ?_)
            · have c11 : (((pa ((p0.toInt).toNat)) : Nat) : Int) ≤ (p1.toInt - ((3 : Nat) : Int)) := (i_le (ha ((p0.toInt).toNat) (by omega)).1 ty10).mp c11
              refine lv_iconst (v := 0) hx hb dX3_mayStand_56 (by decide) ?_
              refine r_zret (v := 0) hx hb hr rfl hlocks w dX3_mayStand_57 ?_
              refine ⟨rfl, ?_⟩
              unfold mMay
              first | exact Bq.t (by omega) | exact Bq.f (by omega) | (refine (trivial).iff ?_; omega)
            · have c11 : ¬ ((((pa ((p0.toInt).toNat)) : Nat) : Int) ≤ (p1.toInt - ((3 : Nat) : Int))) := fun q => c11 ((i_le (ha ((p0.toInt).toNat) (by omega)).1 ty10).mpr q)
              refine lv_iconst (v := 1) hx hb dX3_mayStand_52 (by decide) ?_
              refine lv_goto (tgt := 57) hx hb dX3_mayStand_53 (by decide) ?_
              refine r_zret (v := 1) hx hb hr rfl hlocks w dX3_mayStand_57 ?_
              refine ⟨rfl, ?_⟩
              unfold mMay
              first | exact Bq.t (by omega) | exact Bq.f (by omega) | (refine (trivial).iff ?_; omega)
      · have c7 : ¬ (p1.toInt < ((10 : Nat) : Int)) := fun q => c7 ((i_lt (rfl : p1.toInt = p1.toInt) (by decide : (10 : Int32).toInt = ((10 : Nat) : Int))).mpr q)
        refine lv_aload_n hx hb dX3_mayStand_20 rfl (lv_at hl 0 rfl) ?_
        refine lv_iload_n hx hb dX3_mayStand_21 rfl (lv_at hl 2 rfl) ?_
        refine lv_bipush (v := 10) hx hb dX3_mayStand_22 (by decide) ?_
        refine lv_isub hx hb dX3_mayStand_24 ?_
        refine lv_topi (fun y12 ey12 => ?_)
        have ty12 : y12.toInt = p1.toInt - ((10 : Nat) : Int) := i_sub ey12 (rfl : p1.toInt = p1.toInt) (by decide : (10 : Int32).toInt = ((10 : Nat) : Int)) (by omega)
        refine r_callI w (va_runV (As := [.int y12]) (rest := []) ⟨hx, hb, hml, hown, hts⟩ (c_X3_has l P y12) (cwV 1 hts gX3_mayStand_X3_has rfl rfl rfl (by decide +kernel) ⟨Nat.le_of_ble_eq_true rfl, Nat.le_of_ble_eq_true rfl⟩) (r_preV w (by have := P.1; omega) P.c0 rfl) rfl rfl hl.1 rfl (lv_room (Nat.le_of_ble_eq_true rfl)) dX3_mayStand_25 ⟨Nat.zero_le _, Nat.zero_le _⟩) (fun r14 h13 H locs hp w => ?_)
        obtain ⟨eh_, qq15⟩ := hp
        have eh_ := eh_.symm
        subst eh_
        have b16 : Bq r14 (0 ≤ (p1.toInt - ((10 : Nat) : Int)) ∧ (p1.toInt - ((10 : Nat) : Int)) < ((pn : Nat) : Int)) := qq15.iff (by rw [(ty12 : y12.toInt = _), (hn : n.toInt = _)])
        refine r_zret (v := r14) hx hb hr b16.nar hlocks w dX3_mayStand_28 ?_
        refine ⟨rfl, ?_⟩
        unfold mMay
        first | exact Bq.t (by omega) | exact Bq.f (by omega) | (refine (b16).iff ?_; omega)
    · have c6 : ¬ ((0 : Int) ≤ p1.toInt) := fun q => c6 ((i_le (rfl : (0 : Int32).toInt = 0) (rfl : p1.toInt = p1.toInt)).mpr q)
      refine lv_iconst (v := 0) hx hb dX3_mayStand_12 (by decide) ?_
      refine r_zret (v := 0) hx hb hr rfl hlocks w dX3_mayStand_13 ?_
      refine ⟨rfl, ?_⟩
      unfold mMay
      first | exact Bq.t (by omega) | exact Bq.f (by omega) | (refine (trivial).iff ?_; omega)

