theorem inX8_write_X5 : ∀ w ∈ wsX50, w ∈ wsX8_write := by decide +kernel
theorem inX8_write_X8 : ∀ w ∈ wsX80, w ∈ wsX8_write := by decide +kernel
abbrev rm_X8_write : Room := { frames := 1, cells := 0, slots := 0, locals := 21 }
set_option maxHeartbeats 4000000 in
set_option maxRecDepth 100000 in
theorem c_X8_write (l : Launch) {g : GE} {h : Nat → va_E} {x : Nat} {st0 : ST} (C : ClsA g h x st0) (p0 : Int32) : MI l yX8_write wsX8_write rm_X8_write [.ref (g.2.2.1 x), .int p0] g h (fun r_ h2 => (∀ k, ¬ (x ≤ k ∧ k < x + 143) → h2 k = h k) ∧ ∃ s2 : ST, ClsA g h2 x s2 ∧ AnWrite st0 p0 r_ s2) := by
  refine Met.ofW (cc := cX8_write) (maxL := 2) (ret := (some .int)) (by decide) rfl ?_
  intro p e s m args below meth c s₁ B hml hv
  obtain ⟨rfl, w0⟩ := hv
  have hx := B.exec
  have hb := B.bytes
  have hr := B.returns
  have hts := atoms_spec (ws := wsX8_write) B.pre
  have hown : s.vm.findClass RX8 = some m.cls := findClass_of_methodNamed B.named
  have hlocks := B.notSynchronized
  have w := w0.start
  clear w0
  have hl := lv_entry ([.ref (g.2.2.1 x), .int p0]) (n := 2) (Nat.le_of_ble_eq_true rfl)
  rw [lg_entry_eq]
  generalize (lg_sl ([.ref (g.2.2.1 x), .int p0]) ++ List.replicate (2 - (lg_sl ([.ref (g.2.2.1 x), .int p0])).length) Slot.unset).toArray = ls at hl ⊢
  have hl : lv_has ls 2 [(0, .ref (g.2.2.1 x)), (1, .int p0)] := hl
  obtain ⟨hSV, ⟨kn, E, hkn⟩, T0, Q1, P0, Q2, Q3, Q4, H0_, W0, W1, W2, W3, W4⟩ := C
  have hSV0 := hSV
  obtain ⟨hP, hu8, hUP, hv2, hVP, hl200, hlt⟩ := hSV
  have hn4 := hP.2.1
  have hNe := E.1
  obtain ⟨ln, at_, bd, gs, T, hsz, hgx⟩ := T0
  have hfr : ∀ k_, ¬ (k_ = x + 1 ∨ k_ = x + 1 + 10) → h k_ = h k_ := fun _ _ => rfl
  refine lv_iload_n hx hb dX8_write_0 rfl (lv_at hl 1 rfl) ?_
  refine lv_bipush (v := 32) hx hb dX8_write_1 (by decide) ?_
  refine lv_icmp_lt (tgt := 12) hx hb dX8_write_3 (by decide) (fun c1 => ?_) (fun c1 => ?_)
  · have c1 : p0.toInt < ((32 : Nat) : Int) := (i_lt (rfl : p0.toInt = p0.toInt) (by decide : (32 : Int32).toInt = ((32 : Nat) : Int))).mp c1
    refine lv_iconst (v := (-1)) hx hb dX8_write_12 (by decide) ?_
    refine r_iret (v := (-1)) hx hb hr hlocks w dX8_write_13 ?_
    exact ⟨(fun k_ hk_ => hfr k_ (by omega)), st0, ⟨hSV0, ⟨_, E, hkn⟩, ⟨_, _, _, _, T, hsz, hgx⟩, (Q1.fr (fun k_ a_ b_ => hfr k_ (by omega))), (P0.fr (fun k_ a_ b_ => hfr k_ (by omega))), (Q2.fr (fun k_ a_ b_ => hfr k_ (by omega))), (fun i_ hi_ => (Q3 i_ hi_).fr (fun k_ a_ b_ => hfr k_ (by omega))), (fun i_ (hi_ : i_ < sV st0) => (Q4 i_ hi_).fr (fun k_ a_ b_ => hfr k_ (by omega))), (H0_.fr (fun k_ a_ b_ => hfr k_ (by omega))), (W0.fr (fun k_ a_ b_ => hfr k_ (by omega))), (W1.fr (fun k_ a_ b_ => hfr k_ (by omega))), (W2.fr (fun k_ a_ b_ => hfr k_ (by omega))), (W3.fr (fun k_ a_ b_ => hfr k_ (by omega))), (W4.fr (fun k_ a_ b_ => hfr k_ (by omega)))⟩, Or.inl ⟨by omega, rfl, rfl⟩⟩
  · have c1 : ¬ (p0.toInt < ((32 : Nat) : Int)) := fun q => c1 ((i_lt (rfl : p0.toInt = p0.toInt) (by decide : (32 : Int32).toInt = ((32 : Nat) : Int))).mpr q)
    refine lv_iload_n hx hb dX8_write_6 rfl (lv_at hl 1 rfl) ?_
    refine lv_bipush (v := 126) hx hb dX8_write_7 (by decide) ?_
    refine lv_icmp_le (tgt := 14) hx hb dX8_write_9 (by decide) (fun c2 => ?_) (fun c2 => ?_)
    · have c2 : p0.toInt ≤ ((126 : Nat) : Int) := (i_le (rfl : p0.toInt = p0.toInt) (by decide : (126 : Int32).toInt = ((126 : Nat) : Int))).mp c2
      obtain ⟨ch, hch0⟩ : ∃ q_ : Nat, p0.toInt = (q_ : Int) := ⟨p0.toInt.toNat, by omega⟩
      refine lv_aload_n hx hb dX8_write_14 rfl (lv_at hl 0 rfl) ?_
      refine r_get (C := RX8) (T := TX8) (N := 11) (ci := 6) hx hb hts inX8_write_X8 hown w (by have := E.1; omega) E.2.1 rfl 0 (by decide) (hts (Cond.fieldLink RX8 10 "EarlyValues" "text" "LEarlyValues$Text;") (List.mem_of_getElem? (i := 1) (by decide +kernel))) rfl rfl dX8_write_15 ?_
      refine r_get (C := RX5) (T := TX5) (N := 5) (ci := 4) hx hb hts inX8_write_X5 hown w (by have := T.1; omega) T.2.1 rfl 1 (by decide) (hts (Cond.fieldLink RX8 94 "EarlyValues$Text" "length" "I") (List.mem_of_getElem? (i := 2) (by decide +kernel))) rfl rfl dX8_write_18 ?_
      refine lv_sipush (v := 200) hx hb dX8_write_21 (by decide) ?_
      refine lv_icmp_lt (tgt := 30) hx hb dX8_write_24 (by decide) (fun c3 => ?_) (fun c3 => ?_)
      · have c3 : (((sL st0) : Nat) : Int) < ((200 : Nat) : Int) := (i_lt hsz (by decide : (200 : Int32).toInt = ((200 : Nat) : Int))).mp c3
        refine lv_aload_n hx hb dX8_write_30 rfl (lv_at hl 0 rfl) ?_
        refine r_get (C := RX8) (T := TX8) (N := 11) (ci := 6) hx hb hts inX8_write_X8 hown w (by have := E.1; omega) E.2.1 rfl 0 (by decide) (hts (Cond.fieldLink RX8 10 "EarlyValues" "text" "LEarlyValues$Text;") (List.mem_of_getElem? (i := 1) (by decide +kernel))) rfl rfl dX8_write_31 ?_
        refine lv_iload_n hx hb dX8_write_34 rfl (lv_at hl 1 rfl) ?_
        refine lv_i2c (v := p0) hx hb dX8_write_35 (i2c_id hch0 (by omega)) ?_
        refine r_callV w (va_runV (As := [.int p0]) (rest := []) ⟨hx, hb, hml, hown, hts⟩ (c_X5_add l T hsz (by omega) p0) (cwV 1 hts gX8_write_X5_add rfl rfl rfl (by decide +kernel) ⟨Nat.le_of_ble_eq_true rfl, Nat.le_of_ble_eq_true rfl⟩) (r_preV w (by have := T.1; omega) T.2.1 rfl) rfl rfl hl.1 rfl (lv_room (Nat.le_of_ble_eq_true rfl)) dX8_write_36 ⟨Nat.zero_le _, Nat.zero_le _⟩) (fun h4 H locs hp w => ?_)
        obtain ⟨hfk5, lnk5, gsk5, T, hlk5, hgk5⟩ := hp
        have E := E.fr (h' := h4) (fun k_ h1_ h2_ h3_ => hfk5 k_ (by omega))
        have hfr : ∀ k_, ¬ (k_ = x + 1 ∨ k_ = x + 1 + 10) → h4 k_ = h k_ := fun k_ hk_ => (hfk5 k_ (by omega))
        refine lv_aload_n hx hb dX8_write_39 rfl (lv_at hl 0 rfl) ?_
        refine r_get (C := RX8) (T := TX8) (N := 11) (ci := 6) hx hb hts inX8_write_X8 hown w (by have := E.1; omega) E.2.1 rfl 0 (by decide) (hts (Cond.fieldLink RX8 10 "EarlyValues" "text" "LEarlyValues$Text;") (List.mem_of_getElem? (i := 1) (by decide +kernel))) rfl rfl dX8_write_40 ?_
        refine r_get (C := RX5) (T := TX5) (N := 5) (ci := 4) hx hb hts inX8_write_X5 hown w (by have := T.1; omega) T.2.1 rfl 1 (by decide) (hts (Cond.fieldLink RX8 94 "EarlyValues$Text" "length" "I") (List.mem_of_getElem? (i := 2) (by decide +kernel))) rfl rfl dX8_write_43 ?_
        refine r_iret (v := lnk5) hx hb hr hlocks w dX8_write_46 ?_
        have hg2_ : upd gs (sL st0) p0 = gsk5 := by rw [hgk5, nar_c hch0 (by omega)]
        refine ⟨(fun k_ hk_ => hfr k_ (by omega)), (st0.1, st0.2.1, st0.2.2.1, (sL st0 + 1, fun i => if i = sL st0 then p0.toInt.toNat else sT st0 i)), ⟨⟨hP, hu8, hUP, hv2, hVP, by show sL st0 + 1 ≤ 200; omega, ?_⟩, ⟨_, E, hkn⟩, ⟨_, _, _, _, T, hlk5, tx_up hgx (by omega) hg2_⟩, (Q1.fr (fun k_ a_ b_ => hfr k_ (by omega))), (P0.fr (fun k_ a_ b_ => hfr k_ (by omega))), (Q2.fr (fun k_ a_ b_ => hfr k_ (by omega))), (fun i_ hi_ => (Q3 i_ hi_).fr (fun k_ a_ b_ => hfr k_ (by omega))), (fun i_ (hi_ : i_ < sV st0) => (Q4 i_ hi_).fr (fun k_ a_ b_ => hfr k_ (by omega))), (H0_.fr (fun k_ a_ b_ => hfr k_ (by omega))), (W0.fr (fun k_ a_ b_ => hfr k_ (by omega))), (W1.fr (fun k_ a_ b_ => hfr k_ (by omega))), (W2.fr (fun k_ a_ b_ => hfr k_ (by omega))), (W3.fr (fun k_ a_ b_ => hfr k_ (by omega))), (W4.fr (fun k_ a_ b_ => hfr k_ (by omega)))⟩, Or.inr (Or.inr ⟨by omega, by omega, hlk5, rfl⟩)⟩
        intro i_ hi_
        have hi2_ : i_ < sL st0 + 1 := hi_
        show 32 ≤ (if i_ = sL st0 then p0.toInt.toNat else sT st0 i_) ∧ (if i_ = sL st0 then p0.toInt.toNat else sT st0 i_) ≤ 126
        split
        · omega
        · exact hlt i_ (by omega)
      · have c3 : ¬ ((((sL st0) : Nat) : Int) < ((200 : Nat) : Int)) := fun q => c3 ((i_lt hsz (by decide : (200 : Int32).toInt = ((200 : Nat) : Int))).mpr q)
        refine lv_bipush (v := (-3)) hx hb dX8_write_27 (by decide) ?_
        refine r_iret (v := (-3)) hx hb hr hlocks w dX8_write_29 ?_
        exact ⟨(fun k_ hk_ => hfr k_ (by omega)), st0, ⟨hSV0, ⟨_, E, hkn⟩, ⟨_, _, _, _, T, hsz, hgx⟩, (Q1.fr (fun k_ a_ b_ => hfr k_ (by omega))), (P0.fr (fun k_ a_ b_ => hfr k_ (by omega))), (Q2.fr (fun k_ a_ b_ => hfr k_ (by omega))), (fun i_ hi_ => (Q3 i_ hi_).fr (fun k_ a_ b_ => hfr k_ (by omega))), (fun i_ (hi_ : i_ < sV st0) => (Q4 i_ hi_).fr (fun k_ a_ b_ => hfr k_ (by omega))), (H0_.fr (fun k_ a_ b_ => hfr k_ (by omega))), (W0.fr (fun k_ a_ b_ => hfr k_ (by omega))), (W1.fr (fun k_ a_ b_ => hfr k_ (by omega))), (W2.fr (fun k_ a_ b_ => hfr k_ (by omega))), (W3.fr (fun k_ a_ b_ => hfr k_ (by omega))), (W4.fr (fun k_ a_ b_ => hfr k_ (by omega)))⟩, Or.inr (Or.inl ⟨by omega, by omega, rfl, rfl⟩)⟩
    · have c2 : ¬ (p0.toInt ≤ ((126 : Nat) : Int)) := fun q => c2 ((i_le (rfl : p0.toInt = p0.toInt) (by decide : (126 : Int32).toInt = ((126 : Nat) : Int))).mpr q)
      refine lv_iconst (v := (-1)) hx hb dX8_write_12 (by decide) ?_
      refine r_iret (v := (-1)) hx hb hr hlocks w dX8_write_13 ?_
      exact ⟨(fun k_ hk_ => hfr k_ (by omega)), st0, ⟨hSV0, ⟨_, E, hkn⟩, ⟨_, _, _, _, T, hsz, hgx⟩, (Q1.fr (fun k_ a_ b_ => hfr k_ (by omega))), (P0.fr (fun k_ a_ b_ => hfr k_ (by omega))), (Q2.fr (fun k_ a_ b_ => hfr k_ (by omega))), (fun i_ hi_ => (Q3 i_ hi_).fr (fun k_ a_ b_ => hfr k_ (by omega))), (fun i_ (hi_ : i_ < sV st0) => (Q4 i_ hi_).fr (fun k_ a_ b_ => hfr k_ (by omega))), (H0_.fr (fun k_ a_ b_ => hfr k_ (by omega))), (W0.fr (fun k_ a_ b_ => hfr k_ (by omega))), (W1.fr (fun k_ a_ b_ => hfr k_ (by omega))), (W2.fr (fun k_ a_ b_ => hfr k_ (by omega))), (W3.fr (fun k_ a_ b_ => hfr k_ (by omega))), (W4.fr (fun k_ a_ b_ => hfr k_ (by omega)))⟩, Or.inl ⟨by omega, rfl, rfl⟩⟩

theorem inX8_wipe_X5 : ∀ w ∈ wsX50, w ∈ wsX8_wipe := by decide +kernel
theorem inX8_wipe_X8 : ∀ w ∈ wsX80, w ∈ wsX8_wipe := by decide +kernel
abbrev rm_X8_wipe : Room := { frames := 1, cells := 0, slots := 0, locals := 20 }
set_option maxHeartbeats 4000000 in
set_option maxRecDepth 100000 in
theorem c_X8_wipe (l : Launch) {g : GE} {h : Nat → va_E} {x : Nat} {st0 : ST} (C : ClsA g h x st0) : MI l yX8_wipe wsX8_wipe rm_X8_wipe [.ref (g.2.2.1 x)] g h (fun r_ h2 => (∀ k, ¬ (x ≤ k ∧ k < x + 143) → h2 k = h k) ∧ ∃ s2 : ST, ClsA g h2 x s2 ∧ AnWipe st0 r_ s2) := by
  refine Met.ofW (cc := cX8_wipe) (maxL := 2) (ret := (some .int)) (by decide) rfl ?_
  intro p e s m args below meth c s₁ B hml hv
  obtain ⟨rfl, w0⟩ := hv
  have hx := B.exec
  have hb := B.bytes
  have hr := B.returns
  have hts := atoms_spec (ws := wsX8_wipe) B.pre
  have hown : s.vm.findClass RX8 = some m.cls := findClass_of_methodNamed B.named
  have hlocks := B.notSynchronized
  have w := w0.start
  clear w0
  have hl := lv_entry ([.ref (g.2.2.1 x)]) (n := 2) (Nat.le_of_ble_eq_true rfl)
  rw [lg_entry_eq]
  generalize (lg_sl ([.ref (g.2.2.1 x)]) ++ List.replicate (2 - (lg_sl ([.ref (g.2.2.1 x)])).length) Slot.unset).toArray = ls at hl ⊢
  have hl : lv_has ls 2 [(0, .ref (g.2.2.1 x))] := hl
  obtain ⟨hSV, ⟨kn, E, hkn⟩, T0, Q1, P0, Q2, Q3, Q4, H0_, W0, W1, W2, W3, W4⟩ := C
  have hSV0 := hSV
  obtain ⟨hP, hu8, hUP, hv2, hVP, hl200, hlt⟩ := hSV
  have hn4 := hP.2.1
  have hNe := E.1
  obtain ⟨ln, at_, bd, gs, T, hsz, hgx⟩ := T0
  have hfr : ∀ k_, ¬ (k_ = x + 1) → h k_ = h k_ := fun _ _ => rfl
  refine lv_aload_n hx hb dX8_wipe_0 rfl (lv_at hl 0 rfl) ?_
  refine r_get (C := RX8) (T := TX8) (N := 11) (ci := 6) hx hb hts inX8_wipe_X8 hown w (by have := E.1; omega) E.2.1 rfl 0 (by decide) (hts (Cond.fieldLink RX8 10 "EarlyValues" "text" "LEarlyValues$Text;") (List.mem_of_getElem? (i := 1) (by decide +kernel))) rfl rfl dX8_wipe_1 ?_
  refine r_get (C := RX5) (T := TX5) (N := 5) (ci := 4) hx hb hts inX8_wipe_X5 hown w (by have := T.1; omega) T.2.1 rfl 1 (by decide) (hts (Cond.fieldLink RX8 94 "EarlyValues$Text" "length" "I") (List.mem_of_getElem? (i := 2) (by decide +kernel))) rfl rfl dX8_wipe_4 ?_
  refine lv_istore_n (lv' := [(1, .int ln), (0, .ref (g.2.2.1 x))]) hx hb dX8_wipe_7 rfl hl (by decide) rfl (fun ls hl => ?_)
  refine lv_aload_n hx hb dX8_wipe_8 rfl (lv_at hl 1 rfl) ?_
  refine r_get (C := RX8) (T := TX8) (N := 11) (ci := 6) hx hb hts inX8_wipe_X8 hown w (by have := E.1; omega) E.2.1 rfl 0 (by decide) (hts (Cond.fieldLink RX8 10 "EarlyValues" "text" "LEarlyValues$Text;") (List.mem_of_getElem? (i := 1) (by decide +kernel))) rfl rfl dX8_wipe_9 ?_
  refine r_callV w (va_runV (As := []) (rest := []) ⟨hx, hb, hml, hown, hts⟩ (c_X5_clear l T) (cwV 0 hts gX8_wipe_X5_clear rfl rfl rfl (by decide +kernel) ⟨Nat.le_of_ble_eq_true rfl, Nat.le_of_ble_eq_true rfl⟩) (r_preV w (by have := T.1; omega) T.2.1 rfl) rfl rfl hl.1 rfl (lv_room (Nat.le_of_ble_eq_true rfl)) dX8_wipe_12 ⟨Nat.zero_le _, Nat.zero_le _⟩) (fun h1 H locs hp w => ?_)
  obtain ⟨hfk2, T⟩ := hp
  have E := E.fr (h' := h1) (fun k_ h1_ h2_ h3_ => hfk2 k_ (by omega))
  have hfr : ∀ k_, ¬ (k_ = x + 1) → h1 k_ = h k_ := fun k_ hk_ => (hfk2 k_ (by omega))
  refine lv_iload_n hx hb dX8_wipe_15 rfl (lv_at hl 0 rfl) ?_
  refine r_iret (v := ln) hx hb hr hlocks w dX8_wipe_16 ?_
  exact ⟨(fun k_ hk_ => hfr k_ (by omega)), (st0.1, st0.2.1, st0.2.2.1, (0, sT st0)), ⟨⟨hP, hu8, hUP, hv2, hVP, by show 0 ≤ 200; omega, fun i_ hi_ => absurd hi_ (Nat.not_lt_zero _)⟩, ⟨_, E, hkn⟩, ⟨_, _, _, _, T, rfl, fun i_ hi_ => absurd hi_ (Nat.not_lt_zero _)⟩, (Q1.fr (fun k_ a_ b_ => hfr k_ (by omega))), (P0.fr (fun k_ a_ b_ => hfr k_ (by omega))), (Q2.fr (fun k_ a_ b_ => hfr k_ (by omega))), (fun i_ hi_ => (Q3 i_ hi_).fr (fun k_ a_ b_ => hfr k_ (by omega))), (fun i_ (hi_ : i_ < sV st0) => (Q4 i_ hi_).fr (fun k_ a_ b_ => hfr k_ (by omega))), (H0_.fr (fun k_ a_ b_ => hfr k_ (by omega))), (W0.fr (fun k_ a_ b_ => hfr k_ (by omega))), (W1.fr (fun k_ a_ b_ => hfr k_ (by omega))), (W2.fr (fun k_ a_ b_ => hfr k_ (by omega))), (W3.fr (fun k_ a_ b_ => hfr k_ (by omega))), (W4.fr (fun k_ a_ b_ => hfr k_ (by omega)))⟩, hsz, rfl⟩

theorem inX8_fault_X8 : ∀ w ∈ wsX80, w ∈ wsX8_fault := by decide +kernel
abbrev rm_X8_fault : Room := { frames := 9, cells := 0, slots := 0, locals := 198 }
set_option maxHeartbeats 4000000 in
set_option maxRecDepth 100000 in
theorem c_X8_fault (l : Launch) {g : GE} {h : Nat → va_E} {x : Nat} {st0 : ST} (C : ClsA g h x st0) : MI l yX8_fault wsX8_fault rm_X8_fault [.ref (g.2.2.1 x)] g h (fun r_ h2 => (∀ k, ¬ (x ≤ k ∧ k < x + 143) → h2 k = h k) ∧ ClsA g h2 x st0 ∧ AnFault st0 r_) := by
  refine Met.ofW (cc := cX8_fault) (maxL := 1) (ret := (some .int)) (by decide) rfl ?_
  intro p e s m args below meth c s₁ B hml hv
  obtain ⟨rfl, w0⟩ := hv
  have hx := B.exec
  have hb := B.bytes
  have hr := B.returns
  have hts := atoms_spec (ws := wsX8_fault) B.pre
  have hown : s.vm.findClass RX8 = some m.cls := findClass_of_methodNamed B.named
  have hlocks := B.notSynchronized
  have w := w0.start
  clear w0
  have hl := lv_entry ([.ref (g.2.2.1 x)]) (n := 1) (Nat.le_of_ble_eq_true rfl)
  rw [lg_entry_eq]
  generalize (lg_sl ([.ref (g.2.2.1 x)]) ++ List.replicate (1 - (lg_sl ([.ref (g.2.2.1 x)])).length) Slot.unset).toArray = ls at hl ⊢
  have hl : lv_has ls 1 [(0, .ref (g.2.2.1 x))] := hl
  obtain ⟨hSV, ⟨kn, E, hkn⟩, T0, Q1, P0, Q2, Q3, Q4, H0_, W0, W1, W2, W3, W4⟩ := C
  have hSV0 := hSV
  obtain ⟨hP, hu8, hUP, hv2, hVP, hl200, hlt⟩ := hSV
  have hn4 := hP.2.1
  have hNe := E.1
  obtain ⟨ln, at_, bd, gs, T, hsz, hgx⟩ := T0
  obtain ⟨nn, ta, tk, tl, tb, Pt⟩ := Q1
  have hfr : ∀ k_, ¬ (x + 1 ≤ k_ ∧ k_ < x + 12) → h k_ = h k_ := fun _ _ => rfl
  refine lv_aload_n hx hb dX8_fault_0 rfl (lv_at hl 0 rfl) ?_
  refine r_get (C := RX8) (T := TX8) (N := 11) (ci := 6) hx hb hts inX8_fault_X8 hown w (by have := E.1; omega) E.2.1 rfl 0 (by decide) (hts (Cond.fieldLink RX8 10 "EarlyValues" "text" "LEarlyValues$Text;") (List.mem_of_getElem? (i := 1) (by decide +kernel))) rfl rfl dX8_fault_1 ?_
  refine r_callI w (va_runV (As := []) (rest := []) ⟨hx, hb, hml, hown, hts⟩ (c_X5_read l T Pt hsz (by omega) hgx hlt) (cwV 0 hts gX8_fault_X5_read rfl rfl rfl (by decide +kernel) ⟨Nat.le_of_ble_eq_true rfl, Nat.le_of_ble_eq_true rfl⟩) (r_preV w (by have := T.1; omega) T.2.1 rfl) rfl rfl hl.1 rfl (lv_room (Nat.le_of_ble_eq_true rfl)) dX8_fault_4 ⟨Nat.zero_le _, Nat.zero_le _⟩) (fun r2 h1 H locs hp w => ?_)
  obtain ⟨hfR, at2, bd2, n2, ga2, gk2, gl2, gb2, tt, T, Pt, hrun, hres⟩ := hp
  have E := E.fr (h' := h1) (fun k_ h1_ h2_ h3_ => hfR k_ (by omega))
  have hfr : ∀ k_, ¬ (x + 1 ≤ k_ ∧ k_ < x + 12) → h1 k_ = h k_ := fun k_ hk_ => (hfR k_ (by omega))
  refine r_iret (v := r2) hx hb hr hlocks w dX8_fault_7 ?_
  exact ⟨(fun k_ hk_ => hfr k_ (by omega)), ⟨hSV0, ⟨_, E, hkn⟩, ⟨_, _, _, _, T, hsz, hgx⟩, ⟨_, _, _, _, _, Pt⟩, (P0.fr (fun k_ a_ b_ => hfr k_ (by omega))), (Q2.fr (fun k_ a_ b_ => hfr k_ (by omega))), (fun i_ hi_ => (Q3 i_ hi_).fr (fun k_ a_ b_ => hfr k_ (by omega))), (fun i_ (hi_ : i_ < sV st0) => (Q4 i_ hi_).fr (fun k_ a_ b_ => hfr k_ (by omega))), (H0_.fr (fun k_ a_ b_ => hfr k_ (by omega))), (W0.fr (fun k_ a_ b_ => hfr k_ (by omega))), (W1.fr (fun k_ a_ b_ => hfr k_ (by omega))), (W2.fr (fun k_ a_ b_ => hfr k_ (by omega))), (W3.fr (fun k_ a_ b_ => hfr k_ (by omega))), (W4.fr (fun k_ a_ b_ => hfr k_ (by omega)))⟩, tt, hrun, hres.elim (fun q_ => Or.inl ⟨q_.1, q_.2.1⟩) (fun q_ => Or.inr q_)⟩

theorem inX8_lay_X3 : ∀ w ∈ wsX30, w ∈ wsX8_lay := by decide +kernel
theorem inX8_lay_X5 : ∀ w ∈ wsX50, w ∈ wsX8_lay := by decide +kernel
theorem inX8_lay_X8 : ∀ w ∈ wsX80, w ∈ wsX8_lay := by decide +kernel
abbrev rm_X8_lay : Room := { frames := 9, cells := 0, slots := 0, locals := 198 }
set_option maxHeartbeats 4000000 in
set_option maxRecDepth 100000 in
theorem c_X8_lay (l : Launch) {g : GE} {h : Nat → va_E} {x : Nat} {st0 : ST} (C : ClsA g h x st0) : MI l yX8_lay wsX8_lay rm_X8_lay [.ref (g.2.2.1 x)] g h (fun r_ h2 => (∀ k, ¬ (x ≤ k ∧ k < x + 143) → h2 k = h k) ∧ ∃ s2 : ST, ClsA g h2 x s2 ∧ AnLay st0 r_ s2) := by
  refine Met.ofW (cc := cX8_lay) (maxL := 1) (ret := (some .int)) (by decide) rfl ?_
  intro p e s m args below meth c s₁ B hml hv
  obtain ⟨rfl, w0⟩ := hv
  have hx := B.exec
  have hb := B.bytes
  have hr := B.returns
  have hts := atoms_spec (ws := wsX8_lay) B.pre
  have hown : s.vm.findClass RX8 = some m.cls := findClass_of_methodNamed B.named
  have hlocks := B.notSynchronized
  have w := w0.start
  clear w0
  have hl := lv_entry ([.ref (g.2.2.1 x)]) (n := 1) (Nat.le_of_ble_eq_true rfl)
  rw [lg_entry_eq]
  generalize (lg_sl ([.ref (g.2.2.1 x)]) ++ List.replicate (1 - (lg_sl ([.ref (g.2.2.1 x)])).length) Slot.unset).toArray = ls at hl ⊢
  have hl : lv_has ls 1 [(0, .ref (g.2.2.1 x))] := hl
  obtain ⟨hSV, ⟨kn, E, hkn⟩, T0, Q1, P0, Q2, Q3, Q4, H0_, W0, W1, W2, W3, W4⟩ := C
  have hSV0 := hSV
  obtain ⟨hP, hu8, hUP, hv2, hVP, hl200, hlt⟩ := hSV
  have hn4 := hP.2.1
  have hNe := E.1
  obtain ⟨ln, at_, bd, gs, T, hsz, hgx⟩ := T0
  obtain ⟨nn, ta, tk, tl, tb, Pt⟩ := Q1
  obtain ⟨n, ga, gk, gl, gb, P, S⟩ := P0
  have hnS := S.1
  obtain ⟨cK, gf, gp, gq, K, hHis⟩ := H0_
  have hcK := hHis.1
  have hfr : ∀ k_, ¬ ((x ≤ k_ ∧ k_ < x + 21) ∨ (x + 49 ≤ k_ ∧ k_ < x + 107)) → h k_ = h k_ := fun _ _ => rfl
  refine lv_aload_n hx hb dX8_lay_0 rfl (lv_at hl 0 rfl) ?_
  refine r_get (C := RX8) (T := TX8) (N := 11) (ci := 6) hx hb hts inX8_lay_X8 hown w (by have := E.1; omega) E.2.1 rfl 0 (by decide) (hts (Cond.fieldLink RX8 10 "EarlyValues" "text" "LEarlyValues$Text;") (List.mem_of_getElem? (i := 1) (by decide +kernel))) rfl rfl dX8_lay_1 ?_
  refine r_callI w (va_runV (As := []) (rest := []) ⟨hx, hb, hml, hown, hts⟩ (c_X5_read l T Pt hsz (by omega) hgx hlt) (cwV 0 hts gX8_lay_X5_read rfl rfl rfl (by decide +kernel) ⟨Nat.le_of_ble_eq_true rfl, Nat.le_of_ble_eq_true rfl⟩) (r_preV w (by have := T.1; omega) T.2.1 rfl) rfl rfl hl.1 rfl (lv_room (Nat.le_of_ble_eq_true rfl)) dX8_lay_4 ⟨Nat.zero_le _, Nat.zero_le _⟩) (fun r2 h1 H locs hp w => ?_)
  obtain ⟨hfR, at2, bd2, n2, ga2, gk2, gl2, gb2, tt, T, Pt, hrun, hres⟩ := hp
  have E := E.fr (h' := h1) (fun k_ h1_ h2_ h3_ => hfR k_ (by omega))
  have P := P.fr (h' := h1) (fun k_ h1_ h2_ => hfR k_ (by omega))
  have K := K.fr (h' := h1) (fun k_ h1_ h2_ => hfR k_ (by omega))
  have W0 := W0.fr (h' := h1) (fun k_ h1_ h2_ => hfR k_ (by omega))
  have W1 := W1.fr (h' := h1) (fun k_ h1_ h2_ => hfR k_ (by omega))
  have W2 := W2.fr (h' := h1) (fun k_ h1_ h2_ => hfR k_ (by omega))
  have hfr : ∀ k_, ¬ ((x ≤ k_ ∧ k_ < x + 21) ∨ (x + 49 ≤ k_ ∧ k_ < x + 107)) → h1 k_ = h k_ := fun k_ hk_ => (hfR k_ (by omega))
  refine lv_bipush (v := (-4)) hx hb dX8_lay_7 (by decide) ?_
  refine lv_icmp_ne (tgt := 22) hx hb dX8_lay_9 (by decide) (fun c3 => ?_) (fun c3 => ?_)
  · have c3 : ¬ (r2.toInt = (-4 : Int)) := fun q => c3 ((i_eq (rfl : r2.toInt = r2.toInt) (by decide : (-4 : Int32).toInt = (-4 : Int))).mpr q)
    refine lv_bipush (v := (-2)) hx hb dX8_lay_22 (by decide) ?_
    refine r_iret (v := (-2)) hx hb hr hlocks w dX8_lay_24 ?_
    exact ⟨(fun k_ hk_ => hfr k_ (by omega)), st0, ⟨hSV0, ⟨_, E, hkn⟩, ⟨_, _, _, _, T, hsz, hgx⟩, ⟨_, _, _, _, _, Pt⟩, ⟨_, _, _, _, _, P, S⟩, (Q2.fr (fun k_ a_ b_ => hfr k_ (by omega))), (fun i_ hi_ => (Q3 i_ hi_).fr (fun k_ a_ b_ => hfr k_ (by omega))), (fun i_ (hi_ : i_ < sV st0) => (Q4 i_ hi_).fr (fun k_ a_ b_ => hfr k_ (by omega))), ⟨_, _, _, _, K, hHis⟩, W0, W1, W2, (W3.fr (fun k_ a_ b_ => hfr k_ (by omega))), (W4.fr (fun k_ a_ b_ => hfr k_ (by omega)))⟩, tt, hrun, Or.inr ⟨fun q_ => by rcases hres with z_ | z_; omega; have := q_.1; omega, rfl, rfl⟩⟩
  · have c3 : r2.toInt = (-4 : Int) := (i_eq (rfl : r2.toInt = r2.toInt) (by decide : (-4 : Int32).toInt = (-4 : Int))).mp c3
    obtain ⟨hle_, -, hbd2, hR⟩ := hres.resolve_right (fun q_ => by have := q_.2; omega)
    refine lv_aload_n hx hb dX8_lay_12 rfl (lv_at hl 0 rfl) ?_
    refine r_get (C := RX8) (T := TX8) (N := 11) (ci := 6) hx hb hts inX8_lay_X8 hown w (by have := E.1; omega) E.2.1 rfl 0 (by decide) (hts (Cond.fieldLink RX8 10 "EarlyValues" "text" "LEarlyValues$Text;") (List.mem_of_getElem? (i := 1) (by decide +kernel))) rfl rfl dX8_lay_13 ?_
    refine r_callI w (va_runV (As := []) (rest := []) ⟨hx, hb, hml, hown, hts⟩ (c_X5_toldAll l T Pt hR.1 hbd2) (cwV 0 hts gX8_lay_X5_toldAll rfl rfl rfl (by decide +kernel) ⟨Nat.le_of_ble_eq_true rfl, Nat.le_of_ble_eq_true rfl⟩) (r_preV w (by have := T.1; omega) T.2.1 rfl) rfl rfl hl.1 rfl (lv_room (Nat.le_of_ble_eq_true rfl)) dX8_lay_16 ⟨Nat.zero_le _, Nat.zero_le _⟩) (fun r5 h4 H locs hp w => ?_)
    obtain ⟨eh_, qq6⟩ := hp
    have eh_ := eh_.symm
    subst eh_
    refine lv_if_ne (tgt := 25) hx hb dX8_lay_19 (by decide) (fun c7 => ?_) (fun c7 => ?_)
    · have c7 := qq6.ne c7
      refine lv_aload_n hx hb dX8_lay_25 rfl (lv_at hl 0 rfl) ?_
      refine r_get (C := RX8) (T := TX8) (N := 11) (ci := 6) hx hb hts inX8_lay_X8 hown w (by have := E.1; omega) E.2.1 rfl 1 (by decide) (hts (Cond.fieldLink RX8 19 "EarlyValues" "now" "LEarlyValues$Program;") (List.mem_of_getElem? (i := 2) (by decide +kernel))) rfl rfl dX8_lay_26 ?_
      refine lv_aload_n hx hb dX8_lay_29 rfl (lv_at hl 0 rfl) ?_
      refine r_get (C := RX8) (T := TX8) (N := 11) (ci := 6) hx hb hts inX8_lay_X8 hown w (by have := E.1; omega) E.2.1 rfl 0 (by decide) (hts (Cond.fieldLink RX8 10 "EarlyValues" "text" "LEarlyValues$Text;") (List.mem_of_getElem? (i := 1) (by decide +kernel))) rfl rfl dX8_lay_30 ?_
      refine r_get (C := RX5) (T := TX5) (N := 5) (ci := 4) hx hb hts inX8_lay_X5 hown w (by have := T.1; omega) T.2.1 rfl 0 (by decide) (hts (Cond.fieldLink RX8 84 "EarlyValues$Text" "told" "LEarlyValues$Program;") (List.mem_of_getElem? (i := 3) (by decide +kernel))) rfl rfl dX8_lay_33 ?_
      refine r_callV w (va_runV (As := [.ref (g.2.2.1 ((x + 1) + 1))]) (rest := []) ⟨hx, hb, hml, hown, hts⟩ (c_X3_takeFrom l P Pt (by omega)) (cwV 1 hts gX8_lay_X3_takeFrom rfl rfl rfl (by decide +kernel) ⟨Nat.le_of_ble_eq_true rfl, Nat.le_of_ble_eq_true rfl⟩) (r_preV w (by have := P.1; omega) P.c0 rfl) rfl rfl hl.1 rfl (lv_room (Nat.le_of_ble_eq_true rfl)) dX8_lay_36 ⟨Nat.zero_le _, Nat.zero_le _⟩) (fun h8 H locs hp w => ?_)
      obtain ⟨hfk9, gak9, gkk9, glk9, gbk9, P, hcpk9⟩ := hp
      have E := E.fr (h' := h8) (fun k_ h1_ h2_ h3_ => hfk9 k_ (by omega))
      have T := T.fr (h' := h8) (fun k_ h1_ h2_ h3_ => hfk9 k_ (by omega))
      have Pt := Pt.fr (h' := h8) (fun k_ h1_ h2_ => hfk9 k_ (by omega))
      have K := K.fr (h' := h8) (fun k_ h1_ h2_ => hfk9 k_ (by omega))
      have W0 := W0.fr (h' := h8) (fun k_ h1_ h2_ => hfk9 k_ (by omega))
      have W1 := W1.fr (h' := h8) (fun k_ h1_ h2_ => hfk9 k_ (by omega))
      have W2 := W2.fr (h' := h8) (fun k_ h1_ h2_ => hfk9 k_ (by omega))
      have hfr : ∀ k_, ¬ ((x ≤ k_ ∧ k_ < x + 21) ∨ (x + 49 ≤ k_ ∧ k_ < x + 107)) → h8 k_ = h k_ := fun k_ hk_ => (hfk9 k_ (by omega)).trans (hfr k_ hk_)
      refine lv_aload_n hx hb dX8_lay_39 rfl (lv_at hl 0 rfl) ?_
      refine r_get (C := RX8) (T := TX8) (N := 11) (ci := 6) hx hb hts inX8_lay_X8 hown w (by have := E.1; omega) E.2.1 rfl 5 (by decide) (hts (Cond.fieldLink RX8 33 "EarlyValues" "history" "LEarlyValues$History;") (List.mem_of_getElem? (i := 4) (by decide +kernel))) rfl rfl dX8_lay_40 ?_
      refine r_callV w (va_runV (As := []) (rest := []) ⟨hx, hb, hml, hown, hts⟩ (c_X1_clear l K) (cwV 0 hts gX8_lay_X1_clear rfl rfl rfl (by decide +kernel) ⟨Nat.le_of_ble_eq_true rfl, Nat.le_of_ble_eq_true rfl⟩) (r_preV w (by have := K.1; omega) K.2.1 rfl) rfl rfl hl.1 rfl (lv_room (Nat.le_of_ble_eq_true rfl)) dX8_lay_43 ⟨Nat.zero_le _, Nat.zero_le _⟩) (fun h10 H locs hp w => ?_)
      obtain ⟨hfk11, K⟩ := hp
      have E := E.fr (h' := h10) (fun k_ h1_ h2_ h3_ => hfk11 k_ (by omega))
      have T := T.fr (h' := h10) (fun k_ h1_ h2_ h3_ => hfk11 k_ (by omega))
      have Pt := Pt.fr (h' := h10) (fun k_ h1_ h2_ => hfk11 k_ (by omega))
      have P := P.fr (h' := h10) (fun k_ h1_ h2_ => hfk11 k_ (by omega))
      have W0 := W0.fr (h' := h10) (fun k_ h1_ h2_ => hfk11 k_ (by omega))
      have W1 := W1.fr (h' := h10) (fun k_ h1_ h2_ => hfk11 k_ (by omega))
      have W2 := W2.fr (h' := h10) (fun k_ h1_ h2_ => hfk11 k_ (by omega))
      have hfr : ∀ k_, ¬ ((x ≤ k_ ∧ k_ < x + 21) ∨ (x + 49 ≤ k_ ∧ k_ < x + 107)) → h10 k_ = h k_ := fun k_ hk_ => (hfk11 k_ (by omega)).trans (hfr k_ hk_)
      refine lv_aload_n hx hb dX8_lay_46 rfl (lv_at hl 0 rfl) ?_
      refine lv_iconst (v := 0) hx hb dX8_lay_47 (by decide) ?_
      refine r_put (ty := .int) (C := RX8) (T := TX8) (N := 11) (ci := 6) hx hb hts inX8_lay_X8 tyX8 tyX8_ok nmX8 hown w (by have := E.1; omega) E.2.1 rfl 4 (by decide) (hts (Cond.fieldLink RX8 102 "EarlyValues" "keptCount" "I") (List.mem_of_getElem? (i := 5) (by decide +kernel))) rfl rfl (by decide +kernel) rfl rfl (Nat.le_of_ble_eq_true rfl) dX8_lay_48 (fun h12 H locs eh12 w => ?_)
      have E := E.s0 eh12
      have hfr : ∀ k_, ¬ ((x ≤ k_ ∧ k_ < x + 21) ∨ (x + 49 ≤ k_ ∧ k_ < x + 107)) → h12 k_ = h k_ := fun k_ hk_ => by rw [eh12, va_up_ne _ _ (by omega)]; exact hfr k_ hk_
      have T := T.fr (h' := h12) (fun k_ h1_ h2_ h3_ => by rw [eh12, va_up_ne _ _ (by omega)])
      have Pt := Pt.fr (h' := h12) (fun k_ h1_ h2_ => by rw [eh12, va_up_ne _ _ (by omega)])
      have P := P.fr (h' := h12) (fun k_ h1_ h2_ => by rw [eh12, va_up_ne _ _ (by omega)])
      have K := K.fr (h' := h12) (fun k_ h1_ h2_ => by rw [eh12, va_up_ne _ _ (by omega)])
      have W0 := W0.fr (h' := h12) (fun k_ h1_ h2_ => by rw [eh12, va_up_ne _ _ (by omega)])
      have W1 := W1.fr (h' := h12) (fun k_ h1_ h2_ => by rw [eh12, va_up_ne _ _ (by omega)])
      have W2 := W2.fr (h' := h12) (fun k_ h1_ h2_ => by rw [eh12, va_up_ne _ _ (by omega)])
      refine lv_aload_n hx hb dX8_lay_51 rfl (lv_at hl 0 rfl) ?_
      refine r_callV w (va_runV (As := []) (rest := []) ⟨hx, hb, hml, hown, hts⟩ (c_X8_forgetViews l E W0.any W1.any W2.any) (cwV 0 hts gX8_lay_X8_forgetViews rfl rfl rfl (by decide +kernel) ⟨Nat.le_of_ble_eq_true rfl, Nat.le_of_ble_eq_true rfl⟩) (r_preV w (by have := E.1; omega) E.2.1 rfl) rfl rfl hl.1 rfl (lv_room (Nat.le_of_ble_eq_true rfl)) dX8_lay_52 ⟨Nat.zero_le _, Nat.zero_le _⟩) (fun h13 H locs hp w => ?_)
      obtain ⟨hfk14, W0, W1, W2⟩ := hp
      have E := E.fr (h' := h13) (fun k_ h1_ h2_ h3_ => hfk14 k_ (by omega))
      have T := T.fr (h' := h13) (fun k_ h1_ h2_ h3_ => hfk14 k_ (by omega))
      have Pt := Pt.fr (h' := h13) (fun k_ h1_ h2_ => hfk14 k_ (by omega))
      have P := P.fr (h' := h13) (fun k_ h1_ h2_ => hfk14 k_ (by omega))
      have K := K.fr (h' := h13) (fun k_ h1_ h2_ => hfk14 k_ (by omega))
      have hfr : ∀ k_, ¬ ((x ≤ k_ ∧ k_ < x + 21) ∨ (x + 49 ≤ k_ ∧ k_ < x + 107)) → h13 k_ = h k_ := fun k_ hk_ => (hfk14 k_ (by omega)).trans (hfr k_ hk_)
      refine lv_aload_n hx hb dX8_lay_55 rfl (lv_at hl 0 rfl) ?_
      refine r_get (C := RX8) (T := TX8) (N := 11) (ci := 6) hx hb hts inX8_lay_X8 hown w (by have := E.1; omega) E.2.1 rfl 1 (by decide) (hts (Cond.fieldLink RX8 19 "EarlyValues" "now" "LEarlyValues$Program;") (List.mem_of_getElem? (i := 2) (by decide +kernel))) rfl rfl dX8_lay_56 ?_
      refine r_get (C := RX3) (T := TX3) (N := 5) (ci := 2) hx hb hts inX8_lay_X3 hown w (by have := P.1; omega) P.c0 rfl 0 (by decide) (hts (Cond.fieldLink RX8 108 "EarlyValues$Program" "functions" "I") (List.mem_of_getElem? (i := 6) (by decide +kernel))) rfl rfl dX8_lay_59 ?_
      refine r_iret (v := n2) hx hb hr hlocks w dX8_lay_62 ?_
      obtain ⟨hp0_, hpe_⟩ := c7
      rw [hpe_] at hR
      have hPV_ := run_pv hrun.1 hpe_ hp0_
      have S2_ := (csp_prs hR).cp hPV_ hcpk9
      exact ⟨(fun k_ hk_ => hfr k_ (by omega)), (tt.2.1, (0, sUs st0), (0, sVs st0), st0.2.2.2), ⟨⟨hPV_, by show 0 ≤ 8; omega, fun i_ hi_ => absurd hi_ (Nat.not_lt_zero _), by show 0 ≤ 2; omega, fun i_ hi_ => absurd hi_ (Nat.not_lt_zero _), hl200, hlt⟩, ⟨_, E, rfl⟩, ⟨_, _, _, _, T, hsz, hgx⟩, ⟨_, _, _, _, _, Pt⟩, ⟨_, _, _, _, _, P, S2_⟩, (Q2.fr (fun k_ a_ b_ => hfr k_ (by omega))), (fun i_ hi_ => (Q3 i_ hi_).fr (fun k_ a_ b_ => hfr k_ (by omega))), (fun i_ hi_ => absurd hi_ (Nat.not_lt_zero _)), ⟨_, _, _, _, K, his_0 rfl⟩, W0.e, W1.e, W2.e, (W3.fr (fun k_ a_ b_ => hfr k_ (by omega))), (W4.fr (fun k_ a_ b_ => hfr k_ (by omega)))⟩, tt, hrun, Or.inl ⟨hle_, hp0_, hpe_, S2_.1, rfl⟩⟩
    · have c7 := qq6.eq c7
      refine lv_bipush (v := (-2)) hx hb dX8_lay_22 (by decide) ?_
      refine r_iret (v := (-2)) hx hb hr hlocks w dX8_lay_24 ?_
      exact ⟨(fun k_ hk_ => hfr k_ (by omega)), st0, ⟨hSV0, ⟨_, E, hkn⟩, ⟨_, _, _, _, T, hsz, hgx⟩, ⟨_, _, _, _, _, Pt⟩, ⟨_, _, _, _, _, P, S⟩, (Q2.fr (fun k_ a_ b_ => hfr k_ (by omega))), (fun i_ hi_ => (Q3 i_ hi_).fr (fun k_ a_ b_ => hfr k_ (by omega))), (fun i_ (hi_ : i_ < sV st0) => (Q4 i_ hi_).fr (fun k_ a_ b_ => hfr k_ (by omega))), ⟨_, _, _, _, K, hHis⟩, W0, W1, W2, (W3.fr (fun k_ a_ b_ => hfr k_ (by omega))), (W4.fr (fun k_ a_ b_ => hfr k_ (by omega)))⟩, tt, hrun, Or.inr ⟨fun q_ => c7 q_.2, rfl, rfl⟩⟩

theorem inX8_function_X3 : ∀ w ∈ wsX30, w ∈ wsX8_function := by decide +kernel
theorem inX8_function_X8 : ∀ w ∈ wsX80, w ∈ wsX8_function := by decide +kernel
abbrev rm_X8_function : Room := { frames := 1, cells := 0, slots := 0, locals := 21 }
set_option maxHeartbeats 4000000 in
set_option maxRecDepth 100000 in
theorem c_X8_function (l : Launch) {g : GE} {h : Nat → va_E} {x : Nat} {st0 : ST} (C : ClsA g h x st0) (p0 : Int32) (p1 : Int32) : MI l yX8_function wsX8_function rm_X8_function [.ref (g.2.2.1 x), .int p0, .int p1] g h (fun r_ h2 => h2 = h ∧ AnFunction st0 p0 p1 r_) := by
  refine Met.ofW (cc := cX8_function) (maxL := 3) (ret := (some .int)) (by decide) rfl ?_
  intro p e s m args below meth c s₁ B hml hv
  obtain ⟨rfl, w0⟩ := hv
  have hx := B.exec
  have hb := B.bytes
  have hr := B.returns
  have hts := atoms_spec (ws := wsX8_function) B.pre
  have hown : s.vm.findClass RX8 = some m.cls := findClass_of_methodNamed B.named
  have hlocks := B.notSynchronized
  have w := w0.start
  clear w0
  have hl := lv_entry ([.ref (g.2.2.1 x), .int p0, .int p1]) (n := 3) (Nat.le_of_ble_eq_true rfl)
  rw [lg_entry_eq]
  generalize (lg_sl ([.ref (g.2.2.1 x), .int p0, .int p1]) ++ List.replicate (3 - (lg_sl ([.ref (g.2.2.1 x), .int p0, .int p1])).length) Slot.unset).toArray = ls at hl ⊢
  have hl : lv_has ls 3 [(0, .ref (g.2.2.1 x)), (1, .int p0), (2, .int p1)] := hl
  obtain ⟨hSV, ⟨kn, E, hkn⟩, T0, Q1, P0, Q2, Q3, Q4, H0_, W0, W1, W2, W3, W4⟩ := C
  have hSV0 := hSV
  obtain ⟨hP, hu8, hUP, hv2, hVP, hl200, hlt⟩ := hSV
  have hn4 := hP.2.1
  have hNe := E.1
  obtain ⟨n, ga, gk, gl, gb, P, S⟩ := P0
  have hnS := S.1
  refine lv_aload_n hx hb dX8_function_0 rfl (lv_at hl 0 rfl) ?_
  refine r_get (C := RX8) (T := TX8) (N := 11) (ci := 6) hx hb hts inX8_function_X8 hown w (by have := E.1; omega) E.2.1 rfl 1 (by decide) (hts (Cond.fieldLink RX8 19 "EarlyValues" "now" "LEarlyValues$Program;") (List.mem_of_getElem? (i := 1) (by decide +kernel))) rfl rfl dX8_function_1 ?_
  refine lv_iload_n hx hb dX8_function_4 rfl (lv_at hl 1 rfl) ?_
  refine r_callI w (va_runV (As := [.int p0]) (rest := []) ⟨hx, hb, hml, hown, hts⟩ (c_X3_has l P p0) (cwV 1 hts gX8_function_X3_has rfl rfl rfl (by decide +kernel) ⟨Nat.le_of_ble_eq_true rfl, Nat.le_of_ble_eq_true rfl⟩) (r_preV w (by have := P.1; omega) P.c0 rfl) rfl rfl hl.1 rfl (lv_room (Nat.le_of_ble_eq_true rfl)) dX8_function_5 ⟨Nat.zero_le _, Nat.zero_le _⟩) (fun r2 h1 H locs hp w => ?_)
  obtain ⟨eh_, qq3⟩ := hp
  have eh_ := eh_.symm
  subst eh_
  have b4 : Bq r2 (0 ≤ p0.toInt ∧ p0.toInt < (((pN (sM st0)) : Nat) : Int)) := qq3.iff (by rw [((rfl : p0.toInt = p0.toInt) : p0.toInt = _), (S.1 : n.toInt = _)])
  refine lv_if_ne (tgt := 13) hx hb dX8_function_8 (by decide) (fun c5 => ?_) (fun c5 => ?_)
  · have c5 := b4.ne c5
    obtain ⟨f, hf0⟩ : ∃ q_ : Nat, p0.toInt = (q_ : Int) := ⟨p0.toInt.toNat, by omega⟩
    have hf : f < pN (sM st0) := by omega
    obtain ⟨ha3, hk3, hl1, hl24, hpl, hd0⟩ := hP.2.2 f hf
    refine lv_iload_n hx hb dX8_function_13 rfl (lv_at hl 2 rfl) ?_
    rcases (show (p1.toInt < 0 ∨ 2 < p1.toInt) ∨ p1.toInt = 0 ∨ p1.toInt = 1 ∨ p1.toInt = 2 by omega) with c6 | c6 | c6 | c6
    · refine lv_tableOut (tgt := 70) hx hb dX8_function_14 (by rw [(rfl : p1.toInt = p1.toInt)]; exact c6) (by decide) ?_
      refine lv_iconst (v := (-1)) hx hb dX8_function_70 (by decide) ?_
      refine r_iret (v := (-1)) hx hb hr hlocks w dX8_function_71 ?_
      exact ⟨rfl, Or.inr ⟨by omega, rfl⟩⟩
    · refine lv_tableIn (off := 26) (tgt := 40) hx hb dX8_function_14 (by rw [(rfl : p1.toInt = p1.toInt)]; omega) (by rw [(rfl : p1.toInt = p1.toInt)]; omega) (by rw [(rfl : p1.toInt = p1.toInt), c6]; rfl) (by decide) ?_
      refine lv_aload_n hx hb dX8_function_40 rfl (lv_at hl 0 rfl) ?_
      refine r_get (C := RX8) (T := TX8) (N := 11) (ci := 6) hx hb hts inX8_function_X8 hown w (by have := E.1; omega) E.2.1 rfl 1 (by decide) (hts (Cond.fieldLink RX8 19 "EarlyValues" "now" "LEarlyValues$Program;") (List.mem_of_getElem? (i := 1) (by decide +kernel))) rfl rfl dX8_function_41 ?_
      refine r_get (C := RX3) (T := TX3) (N := 5) (ci := 2) hx hb hts inX8_function_X3 hown w (by have := P.1; omega) P.c0 rfl 2 (by decide) (hts (Cond.fieldLink RX8 115 "EarlyValues$Program" "kinds" "[I") (List.mem_of_getElem? (i := 2) (by decide +kernel))) rfl rfl dX8_function_44 ?_
      refine lv_iload_n hx hb dX8_function_47 rfl (lv_at hl 1 rfl) ?_
      refine r_iald (j := f) hx hb w (by have := P.1; omega) P.c2 hf0 (by omega) dX8_function_48 ?_
      refine r_iret (v := gk f) hx hb hr hlocks w dX8_function_49 ?_
      exact ⟨rfl, Or.inl ⟨f, hf0, hf, by first | exact Or.inl ⟨by omega, (S.2.2.1 f (by omega))⟩ | exact Or.inr (Or.inl ⟨by omega, (S.2.2.1 f (by omega))⟩) | exact Or.inr (Or.inr ⟨by omega, (S.2.2.1 f (by omega))⟩)⟩⟩
    · refine lv_tableIn (off := 36) (tgt := 50) hx hb dX8_function_14 (by rw [(rfl : p1.toInt = p1.toInt)]; omega) (by rw [(rfl : p1.toInt = p1.toInt)]; omega) (by rw [(rfl : p1.toInt = p1.toInt), c6]; rfl) (by decide) ?_
      refine lv_aload_n hx hb dX8_function_50 rfl (lv_at hl 0 rfl) ?_
      refine r_get (C := RX8) (T := TX8) (N := 11) (ci := 6) hx hb hts inX8_function_X8 hown w (by have := E.1; omega) E.2.1 rfl 1 (by decide) (hts (Cond.fieldLink RX8 19 "EarlyValues" "now" "LEarlyValues$Program;") (List.mem_of_getElem? (i := 1) (by decide +kernel))) rfl rfl dX8_function_51 ?_
      refine r_get (C := RX3) (T := TX3) (N := 5) (ci := 2) hx hb hts inX8_function_X3 hown w (by have := P.1; omega) P.c0 rfl 1 (by decide) (hts (Cond.fieldLink RX8 119 "EarlyValues$Program" "arguments" "[I") (List.mem_of_getElem? (i := 3) (by decide +kernel))) rfl rfl dX8_function_54 ?_
      refine lv_iload_n hx hb dX8_function_57 rfl (lv_at hl 1 rfl) ?_
      refine r_iald (j := f) hx hb w (by have := P.1; omega) P.c1 hf0 (by omega) dX8_function_58 ?_
      refine r_iret (v := ga f) hx hb hr hlocks w dX8_function_59 ?_
      exact ⟨rfl, Or.inl ⟨f, hf0, hf, by first | exact Or.inl ⟨by omega, (S.2.1 f (by omega))⟩ | exact Or.inr (Or.inl ⟨by omega, (S.2.1 f (by omega))⟩) | exact Or.inr (Or.inr ⟨by omega, (S.2.1 f (by omega))⟩)⟩⟩
    · refine lv_tableIn (off := 46) (tgt := 60) hx hb dX8_function_14 (by rw [(rfl : p1.toInt = p1.toInt)]; omega) (by rw [(rfl : p1.toInt = p1.toInt)]; omega) (by rw [(rfl : p1.toInt = p1.toInt), c6]; rfl) (by decide) ?_
      refine lv_aload_n hx hb dX8_function_60 rfl (lv_at hl 0 rfl) ?_
      refine r_get (C := RX8) (T := TX8) (N := 11) (ci := 6) hx hb hts inX8_function_X8 hown w (by have := E.1; omega) E.2.1 rfl 1 (by decide) (hts (Cond.fieldLink RX8 19 "EarlyValues" "now" "LEarlyValues$Program;") (List.mem_of_getElem? (i := 1) (by decide +kernel))) rfl rfl dX8_function_61 ?_
      refine r_get (C := RX3) (T := TX3) (N := 5) (ci := 2) hx hb hts inX8_function_X3 hown w (by have := P.1; omega) P.c0 rfl 3 (by decide) (hts (Cond.fieldLink RX8 122 "EarlyValues$Program" "lengths" "[I") (List.mem_of_getElem? (i := 4) (by decide +kernel))) rfl rfl dX8_function_64 ?_
      refine lv_iload_n hx hb dX8_function_67 rfl (lv_at hl 1 rfl) ?_
      refine r_iald (j := f) hx hb w (by have := P.1; omega) P.c3 hf0 (by omega) dX8_function_68 ?_
      refine r_iret (v := gl f) hx hb hr hlocks w dX8_function_69 ?_
      exact ⟨rfl, Or.inl ⟨f, hf0, hf, by first | exact Or.inl ⟨by omega, (S.2.2.2.1 f (by omega))⟩ | exact Or.inr (Or.inl ⟨by omega, (S.2.2.2.1 f (by omega))⟩) | exact Or.inr (Or.inr ⟨by omega, (S.2.2.2.1 f (by omega))⟩)⟩⟩
  · have c5 := b4.eq c5
    refine lv_iconst (v := (-1)) hx hb dX8_function_11 (by decide) ?_
    refine r_iret (v := (-1)) hx hb hr hlocks w dX8_function_12 ?_
    exact ⟨rfl, Or.inr ⟨by omega, rfl⟩⟩

theorem inX8_letter_X3 : ∀ w ∈ wsX30, w ∈ wsX8_letter := by decide +kernel
theorem inX8_letter_X8 : ∀ w ∈ wsX80, w ∈ wsX8_letter := by decide +kernel
abbrev rm_X8_letter : Room := { frames := 5, cells := 0, slots := 0, locals := 105 }
set_option maxHeartbeats 4000000 in
set_option maxRecDepth 100000 in
theorem c_X8_letter (l : Launch) {g : GE} {h : Nat → va_E} {x : Nat} {st0 : ST} (C : ClsA g h x st0) (p0 : Int32) (p1 : Int32) : MI l yX8_letter wsX8_letter rm_X8_letter [.ref (g.2.2.1 x), .int p0, .int p1] g h (fun r_ h2 => h2 = h ∧ AnLetter st0 p0 p1 r_) := by
  refine Met.ofW (cc := cX8_letter) (maxL := 3) (ret := (some .int)) (by decide) rfl ?_
  intro p e s m args below meth c s₁ B hml hv
  obtain ⟨rfl, w0⟩ := hv
  have hx := B.exec
  have hb := B.bytes
  have hr := B.returns
  have hts := atoms_spec (ws := wsX8_letter) B.pre
  have hown : s.vm.findClass RX8 = some m.cls := findClass_of_methodNamed B.named
  have hlocks := B.notSynchronized
  have w := w0.start
  clear w0
  have hl := lv_entry ([.ref (g.2.2.1 x), .int p0, .int p1]) (n := 3) (Nat.le_of_ble_eq_true rfl)
  rw [lg_entry_eq]
  generalize (lg_sl ([.ref (g.2.2.1 x), .int p0, .int p1]) ++ List.replicate (3 - (lg_sl ([.ref (g.2.2.1 x), .int p0, .int p1])).length) Slot.unset).toArray = ls at hl ⊢
  have hl : lv_has ls 3 [(0, .ref (g.2.2.1 x)), (1, .int p0), (2, .int p1)] := hl
  obtain ⟨hSV, ⟨kn, E, hkn⟩, T0, Q1, P0, Q2, Q3, Q4, H0_, W0, W1, W2, W3, W4⟩ := C
  have hSV0 := hSV
  obtain ⟨hP, hu8, hUP, hv2, hVP, hl200, hlt⟩ := hSV
  have hn4 := hP.2.1
  have hNe := E.1
  obtain ⟨n, ga, gk, gl, gb, P, S⟩ := P0
  have hnS := S.1
  refine lv_aload_n hx hb dX8_letter_0 rfl (lv_at hl 0 rfl) ?_
  refine r_get (C := RX8) (T := TX8) (N := 11) (ci := 6) hx hb hts inX8_letter_X8 hown w (by have := E.1; omega) E.2.1 rfl 1 (by decide) (hts (Cond.fieldLink RX8 19 "EarlyValues" "now" "LEarlyValues$Program;") (List.mem_of_getElem? (i := 1) (by decide +kernel))) rfl rfl dX8_letter_1 ?_
  refine lv_iload_n hx hb dX8_letter_4 rfl (lv_at hl 1 rfl) ?_
  refine lv_iload_n hx hb dX8_letter_5 rfl (lv_at hl 2 rfl) ?_
  refine r_callI w (va_runV (As := [.int p0, .int p1]) (rest := []) ⟨hx, hb, hml, hown, hts⟩ (c_X3_hasPlace l P p0 p1 (by omega)) (cwV 2 hts gX8_letter_X3_hasPlace rfl rfl rfl (by decide +kernel) ⟨Nat.le_of_ble_eq_true rfl, Nat.le_of_ble_eq_true rfl⟩) (r_preV w (by have := P.1; omega) P.c0 rfl) rfl rfl hl.1 rfl (lv_room (Nat.le_of_ble_eq_true rfl)) dX8_letter_6 ⟨Nat.zero_le _, Nat.zero_le _⟩) (fun r2 h1 H locs hp w => ?_)
  obtain ⟨eh_, qq3⟩ := hp
  have eh_ := eh_.symm
  subst eh_
  refine lv_if_eq (tgt := 29) hx hb dX8_letter_9 (by decide) (fun c4 => ?_) (fun c4 => ?_)
  · have c4 := qq3.eq c4
    refine lv_iconst (v := (-1)) hx hb dX8_letter_29 (by decide) ?_
    refine r_iret (v := (-1)) hx hb hr hlocks w dX8_letter_30 ?_
    exact ⟨rfl, Or.inr ⟨by rintro ⟨f_, j_, a1_, a2_, a3_, a4_⟩; have q_ := S.2.2.2.1 f_ a3_; exact c4 ⟨by omega, by omega, by omega, by rw [show p0.toInt.toNat = f_ by omega]; omega⟩, rfl⟩⟩
  · have c4 := qq3.ne c4
    obtain ⟨h1_, h2_, h3_, h4_⟩ := c4
    obtain ⟨f, hf0⟩ : ∃ q_ : Nat, p0.toInt = (q_ : Int) := ⟨p0.toInt.toNat, by omega⟩
    have hf : f < pN (sM st0) := by omega
    obtain ⟨ha3, hk3, hl1, hl24, hpl, hd0⟩ := hP.2.2 f hf
    have hglf := S.2.2.2.1 f hf
    rw [show p0.toInt.toNat = f by omega] at h4_
    obtain ⟨j, hj0⟩ : ∃ q_ : Nat, p1.toInt = (q_ : Int) := ⟨p1.toInt.toNat, by omega⟩
    have hj : j < pL (sM st0) f := by omega
    have hpb_ := hpl j hj
    refine lv_aload_n hx hb dX8_letter_12 rfl (lv_at hl 0 rfl) ?_
    refine r_get (C := RX8) (T := TX8) (N := 11) (ci := 6) hx hb hts inX8_letter_X8 hown w (by have := E.1; omega) E.2.1 rfl 1 (by decide) (hts (Cond.fieldLink RX8 19 "EarlyValues" "now" "LEarlyValues$Program;") (List.mem_of_getElem? (i := 1) (by decide +kernel))) rfl rfl dX8_letter_13 ?_
    refine r_get (C := RX3) (T := TX3) (N := 5) (ci := 2) hx hb hts inX8_letter_X3 hown w (by have := P.1; omega) P.c0 rfl 4 (by decide) (hts (Cond.fieldLink RX8 129 "EarlyValues$Program" "bodies" "[[I") (List.mem_of_getElem? (i := 2) (by decide +kernel))) rfl rfl dX8_letter_16 ?_
    refine lv_iload_n hx hb dX8_letter_19 rfl (lv_at hl 1 rfl) ?_
    refine r_aald (t := 4) (j := f) hx hb w (by decide) (by have := P.1; omega) P.c4 hf0 (by omega) (rowsF_in (by omega)) dX8_letter_20 ?_
    refine lv_iload_n hx hb dX8_letter_21 rfl (lv_at hl 2 rfl) ?_
    refine r_iald (j := j) hx hb w (by have := P.1; omega) (P.c5 (i := f) (by omega)) hj0 (by omega) dX8_letter_22 ?_
    refine r_callI w (va_runS (As := [.int (gb f j)]) (rest := []) ⟨hx, hb, hml, hown, hts⟩ (c_X2_signOf l (gb f j) (S.2.2.2.2 f (by omega) j (by omega)) (by omega)) (va_cwS 1 hts gX8_letter_X2_signOf rfl rfl rfl (by decide +kernel) ⟨Nat.le_of_ble_eq_true rfl, Nat.le_of_ble_eq_true rfl⟩) (r_preS w) rfl rfl hl.1 rfl (lv_room (Nat.le_of_ble_eq_true rfl)) dX8_letter_23 ⟨Nat.zero_le _, Nat.zero_le _⟩) (fun r6 h5 H locs hp w => ?_)
    obtain ⟨eh_, qq7⟩ := hp
    have eh_ := eh_.symm
    subst eh_
    refine lv_goto (tgt := 30) hx hb dX8_letter_26 (by decide) ?_
    refine r_iret (v := r6) hx hb hr hlocks w dX8_letter_30 ?_
    exact ⟨rfl, Or.inl ⟨f, j, hf0, hj0, hf, hj, qq7⟩⟩

theorem inX8_put_X3 : ∀ w ∈ wsX30, w ∈ wsX8_put := by decide +kernel
theorem inX8_put_X8 : ∀ w ∈ wsX80, w ∈ wsX8_put := by decide +kernel
abbrev rm_X8_put : Room := { frames := 5, cells := 0, slots := 0, locals := 111 }
set_option maxHeartbeats 4000000 in
set_option maxRecDepth 100000 in
theorem c_X8_put (l : Launch) {g : GE} {h : Nat → va_E} {x : Nat} {st0 : ST} (C : ClsA g h x st0) (p0 : Int32) (p1 : Int32) (p2 : Int32) : MI l yX8_put wsX8_put rm_X8_put [.ref (g.2.2.1 x), .int p0, .int p1, .int p2] g h (fun r_ h2 => (∀ k, ¬ (x ≤ k ∧ k < x + 143) → h2 k = h k) ∧ ∃ s2 : ST, ClsA g h2 x s2 ∧ AnPut st0 p0 p1 p2 r_ s2) := by
  refine Met.ofW (cc := cX8_put) (maxL := 6) (ret := (some .int)) (by decide) rfl ?_
  intro p e s m args below meth c s₁ B hml hv
  obtain ⟨rfl, w0⟩ := hv
  have hx := B.exec
  have hb := B.bytes
  have hr := B.returns
  have hts := atoms_spec (ws := wsX8_put) B.pre
  have hown : s.vm.findClass RX8 = some m.cls := findClass_of_methodNamed B.named
  have hlocks := B.notSynchronized
  have w := w0.start
  clear w0
  have hl := lv_entry ([.ref (g.2.2.1 x), .int p0, .int p1, .int p2]) (n := 6) (Nat.le_of_ble_eq_true rfl)
  rw [lg_entry_eq]
  generalize (lg_sl ([.ref (g.2.2.1 x), .int p0, .int p1, .int p2]) ++ List.replicate (6 - (lg_sl ([.ref (g.2.2.1 x), .int p0, .int p1, .int p2])).length) Slot.unset).toArray = ls at hl ⊢
  have hl : lv_has ls 6 [(0, .ref (g.2.2.1 x)), (1, .int p0), (2, .int p1), (3, .int p2)] := hl
  obtain ⟨hSV, ⟨kn, E, hkn⟩, T0, Q1, P0, Q2, Q3, Q4, H0_, W0, W1, W2, W3, W4⟩ := C
  have hSV0 := hSV
  obtain ⟨hP, hu8, hUP, hv2, hVP, hl200, hlt⟩ := hSV
  have hn4 := hP.2.1
  have hNe := E.1
  obtain ⟨n, ga, gk, gl, gb, P, S⟩ := P0
  have hnS := S.1
  obtain ⟨cK, gf, gp, gq, K, hHis⟩ := H0_
  have hcK := hHis.1
  have hfr : ∀ k_, ¬ ((x + 12 ≤ k_ ∧ k_ < x + 21) ∨ (x + 49 ≤ k_ ∧ k_ < x + 107)) → h k_ = h k_ := fun _ _ => rfl
  refine lv_iload_n hx hb dX8_put_0 rfl (lv_at hl 3 rfl) ?_
  refine r_callI w (va_runS (As := [.int p2]) (rest := []) ⟨hx, hb, hml, hown, hts⟩ (c_X2_numberOf l p2) (va_cwS 1 hts gX8_put_X2_numberOf rfl rfl rfl (by decide +kernel) ⟨Nat.le_of_ble_eq_true rfl, Nat.le_of_ble_eq_true rfl⟩) (r_preS w) rfl rfl hl.1 rfl (lv_room (Nat.le_of_ble_eq_true rfl)) dX8_put_1 ⟨Nat.zero_le _, Nat.zero_le _⟩) (fun r2 h1 H locs hp w => ?_)
  obtain ⟨eh_, qq3⟩ := hp
  have eh_ := eh_.symm
  subst eh_
  refine lv_istore (lv' := [(4, .int r2), (0, .ref (g.2.2.1 x)), (1, .int p0), (2, .int p1), (3, .int p2)]) hx hb dX8_put_4 hl (by decide) rfl (fun ls hl => ?_)
  refine lv_aload_n hx hb dX8_put_6 rfl (lv_at hl 1 rfl) ?_
  refine r_get (C := RX8) (T := TX8) (N := 11) (ci := 6) hx hb hts inX8_put_X8 hown w (by have := E.1; omega) E.2.1 rfl 1 (by decide) (hts (Cond.fieldLink RX8 19 "EarlyValues" "now" "LEarlyValues$Program;") (List.mem_of_getElem? (i := 1) (by decide +kernel))) rfl rfl dX8_put_7 ?_
  refine lv_iload_n hx hb dX8_put_10 rfl (lv_at hl 2 rfl) ?_
  refine lv_iload_n hx hb dX8_put_11 rfl (lv_at hl 3 rfl) ?_
  refine r_callI w (va_runV (As := [.int p0, .int p1]) (rest := []) ⟨hx, hb, hml, hown, hts⟩ (c_X3_hasPlace l P p0 p1 (by omega)) (cwV 2 hts gX8_put_X3_hasPlace rfl rfl rfl (by decide +kernel) ⟨Nat.le_of_ble_eq_true rfl, Nat.le_of_ble_eq_true rfl⟩) (r_preV w (by have := P.1; omega) P.c0 rfl) rfl rfl hl.1 rfl (lv_room (Nat.le_of_ble_eq_true rfl)) dX8_put_12 ⟨Nat.zero_le _, Nat.zero_le _⟩) (fun r5 h4 H locs hp w => ?_)
  obtain ⟨eh_, qq6⟩ := hp
  have eh_ := eh_.symm
  subst eh_
  refine lv_if_eq (tgt := 32) hx hb dX8_put_15 (by decide) (fun c7 => ?_) (fun c7 => ?_)
  · have c7 := qq6.eq c7
    refine lv_iconst (v := (-1)) hx hb dX8_put_32 (by decide) ?_
    refine r_iret (v := (-1)) hx hb hr hlocks w dX8_put_33 ?_
    exact ⟨(fun k_ hk_ => hfr k_ (by omega)), st0, ⟨hSV0, ⟨_, E, hkn⟩, (T0.fr (fun k_ a_ b_ => hfr k_ (by omega))), (Q1.fr (fun k_ a_ b_ => hfr k_ (by omega))), ⟨_, _, _, _, _, P, S⟩, (Q2.fr (fun k_ a_ b_ => hfr k_ (by omega))), (fun i_ hi_ => (Q3 i_ hi_).fr (fun k_ a_ b_ => hfr k_ (by omega))), (fun i_ (hi_ : i_ < sV st0) => (Q4 i_ hi_).fr (fun k_ a_ b_ => hfr k_ (by omega))), ⟨_, _, _, _, K, hHis⟩, W0, W1, W2, (W3.fr (fun k_ a_ b_ => hfr k_ (by omega))), (W4.fr (fun k_ a_ b_ => hfr k_ (by omega)))⟩, Or.inr ⟨by rintro ⟨f_, j_, a1_, a2_, a3_, a4_, a5_, a6_⟩; have q_ := S.2.2.2.1 f_ a3_; exact c7 ⟨by omega, by omega, by omega, by rw [show p0.toInt.toNat = f_ by omega]; omega⟩, rfl, rfl⟩⟩
  · have c7 := qq6.ne c7
    obtain ⟨h1_, h2_, h3_, h4_⟩ := c7
    obtain ⟨f, hf0⟩ : ∃ q_ : Nat, p0.toInt = (q_ : Int) := ⟨p0.toInt.toNat, by omega⟩
    have hf : f < pN (sM st0) := by omega
    obtain ⟨ha3, hk3, hl1, hl24, hpl, hd0⟩ := hP.2.2 f hf
    have hglf := S.2.2.2.1 f hf
    rw [show p0.toInt.toNat = f by omega] at h4_
    obtain ⟨j, hj0⟩ : ∃ q_ : Nat, p1.toInt = (q_ : Int) := ⟨p1.toInt.toNat, by omega⟩
    have hj : j < pL (sM st0) f := by omega
    have hpb_ := hpl j hj
    refine lv_aload_n hx hb dX8_put_18 rfl (lv_at hl 1 rfl) ?_
    refine r_get (C := RX8) (T := TX8) (N := 11) (ci := 6) hx hb hts inX8_put_X8 hown w (by have := E.1; omega) E.2.1 rfl 1 (by decide) (hts (Cond.fieldLink RX8 19 "EarlyValues" "now" "LEarlyValues$Program;") (List.mem_of_getElem? (i := 1) (by decide +kernel))) rfl rfl dX8_put_19 ?_
    refine lv_iload_n hx hb dX8_put_22 rfl (lv_at hl 2 rfl) ?_
    refine lv_iload_n hx hb dX8_put_23 rfl (lv_at hl 3 rfl) ?_
    refine lv_iload hx hb dX8_put_24 (lv_at hl 0 rfl) ?_
    refine r_callI w (va_runV (As := [.int p0, .int p1, .int r2]) (rest := []) ⟨hx, hb, hml, hown, hts⟩ (c_X3_fits l P S hP p0 p1 r2 hf0 hj0 (by omega) (by omega) (by omega)) (cwV 3 hts gX8_put_X3_fits rfl rfl rfl (by decide +kernel) ⟨Nat.le_of_ble_eq_true rfl, Nat.le_of_ble_eq_true rfl⟩) (r_preV w (by have := P.1; omega) P.c0 rfl) rfl rfl hl.1 rfl (lv_room (Nat.le_of_ble_eq_true rfl)) dX8_put_26 ⟨Nat.zero_le _, Nat.zero_le _⟩) (fun r9 h8 H locs hp w => ?_)
    obtain ⟨eh_, qq10⟩ := hp
    have eh_ := eh_.symm
    subst eh_
    refine lv_if_ne (tgt := 34) hx hb dX8_put_29 (by decide) (fun c11 => ?_) (fun c11 => ?_)
    · have c11 := qq10.ne c11
      refine lv_aload_n hx hb dX8_put_34 rfl (lv_at hl 1 rfl) ?_
      refine r_get (C := RX8) (T := TX8) (N := 11) (ci := 6) hx hb hts inX8_put_X8 hown w (by have := E.1; omega) E.2.1 rfl 1 (by decide) (hts (Cond.fieldLink RX8 19 "EarlyValues" "now" "LEarlyValues$Program;") (List.mem_of_getElem? (i := 1) (by decide +kernel))) rfl rfl dX8_put_35 ?_
      refine r_get (C := RX3) (T := TX3) (N := 5) (ci := 2) hx hb hts inX8_put_X3 hown w (by have := P.1; omega) P.c0 rfl 4 (by decide) (hts (Cond.fieldLink RX8 129 "EarlyValues$Program" "bodies" "[[I") (List.mem_of_getElem? (i := 2) (by decide +kernel))) rfl rfl dX8_put_38 ?_
      refine lv_iload_n hx hb dX8_put_41 rfl (lv_at hl 2 rfl) ?_
      refine r_aald (t := 4) (j := f) hx hb w (by decide) (by have := P.1; omega) P.c4 hf0 (by omega) (rowsF_in (by omega)) dX8_put_42 ?_
      refine lv_iload_n hx hb dX8_put_43 rfl (lv_at hl 3 rfl) ?_
      refine r_iald (j := j) hx hb w (by have := P.1; omega) (P.c5 (i := f) (by omega)) hj0 (by omega) dX8_put_44 ?_
      refine lv_istore (lv' := [(5, .int (gb f j)), (4, .int r2), (0, .ref (g.2.2.1 x)), (1, .int p0), (2, .int p1), (3, .int p2)]) hx hb dX8_put_45 hl (by decide) rfl (fun ls hl => ?_)
      refine lv_iload hx hb dX8_put_47 (lv_at hl 0 rfl) ?_
      refine lv_iload hx hb dX8_put_49 (lv_at hl 1 rfl) ?_
      refine lv_icmp_ne (tgt := 57) hx hb dX8_put_51 (by decide) (fun c12 => ?_) (fun c12 => ?_)
      · have c12 : ¬ ((((pB (sM st0) f j) : Nat) : Int) = r2.toInt) := fun q => c12 ((i_eq (S.2.2.2.2 f (by omega) j (by omega)) (rfl : r2.toInt = r2.toInt)).mpr q)
        refine lv_aload_n hx hb dX8_put_57 rfl (lv_at hl 2 rfl) ?_
        refine r_get (C := RX8) (T := TX8) (N := 11) (ci := 6) hx hb hts inX8_put_X8 hown w (by have := E.1; omega) E.2.1 rfl 5 (by decide) (hts (Cond.fieldLink RX8 33 "EarlyValues" "history" "LEarlyValues$History;") (List.mem_of_getElem? (i := 3) (by decide +kernel))) rfl rfl dX8_put_58 ?_
        refine lv_iload_n hx hb dX8_put_61 rfl (lv_at hl 3 rfl) ?_
        refine lv_iload_n hx hb dX8_put_62 rfl (lv_at hl 4 rfl) ?_
        refine lv_iload hx hb dX8_put_63 (lv_at hl 0 rfl) ?_
        refine r_callV w (va_runV (As := [.int p0, .int p1, .int (gb f j)]) (rest := []) ⟨hx, hb, hml, hown, hts⟩ (c_X1_add l K hcK hu8 p0 p1 (gb f j)) (cwV 3 hts gX8_put_X1_add rfl rfl rfl (by decide +kernel) ⟨Nat.le_of_ble_eq_true rfl, Nat.le_of_ble_eq_true rfl⟩) (r_preV w (by have := K.1; omega) K.2.1 rfl) rfl rfl hl.1 rfl (lv_room (Nat.le_of_ble_eq_true rfl)) dX8_put_65 ⟨Nat.zero_le _, Nat.zero_le _⟩) (fun h13 H locs hp w => ?_)
        obtain ⟨hfk14, c3, gf3, gp3, gq3, K, hzK⟩ := hp
        have E := E.fr (h' := h13) (fun k_ h1_ h2_ h3_ => hfk14 k_ (by omega))
        have P := P.fr (h' := h13) (fun k_ h1_ h2_ => hfk14 k_ (by omega))
        have W0 := W0.fr (h' := h13) (fun k_ h1_ h2_ => hfk14 k_ (by omega))
        have W1 := W1.fr (h' := h13) (fun k_ h1_ h2_ => hfk14 k_ (by omega))
        have W2 := W2.fr (h' := h13) (fun k_ h1_ h2_ => hfk14 k_ (by omega))
        have hfr : ∀ k_, ¬ ((x + 12 ≤ k_ ∧ k_ < x + 21) ∨ (x + 49 ≤ k_ ∧ k_ < x + 107)) → h13 k_ = h k_ := fun k_ hk_ => (hfk14 k_ (by omega))
        refine lv_aload_n hx hb dX8_put_68 rfl (lv_at hl 2 rfl) ?_
        refine r_get (C := RX8) (T := TX8) (N := 11) (ci := 6) hx hb hts inX8_put_X8 hown w (by have := E.1; omega) E.2.1 rfl 1 (by decide) (hts (Cond.fieldLink RX8 19 "EarlyValues" "now" "LEarlyValues$Program;") (List.mem_of_getElem? (i := 1) (by decide +kernel))) rfl rfl dX8_put_69 ?_
        refine r_get (C := RX3) (T := TX3) (N := 5) (ci := 2) hx hb hts inX8_put_X3 hown w (by have := P.1; omega) P.c0 rfl 4 (by decide) (hts (Cond.fieldLink RX8 129 "EarlyValues$Program" "bodies" "[[I") (List.mem_of_getElem? (i := 2) (by decide +kernel))) rfl rfl dX8_put_72 ?_
        refine lv_iload_n hx hb dX8_put_75 rfl (lv_at hl 3 rfl) ?_
        refine r_aald (t := 4) (j := f) hx hb w (by decide) (by have := P.1; omega) P.c4 hf0 (by omega) (rowsF_in (by omega)) dX8_put_76 ?_
        refine lv_iload_n hx hb dX8_put_77 rfl (lv_at hl 4 rfl) ?_
        refine lv_iload hx hb dX8_put_78 (lv_at hl 1 rfl) ?_
        refine r_iast (j := j) hx hb w (by have := P.1; omega) (P.c5 (i := f) (by omega)) hj0 (by omega) dX8_put_80 (fun h15 H locs eh15 w => ?_)
        have P := P.s5 (i := f) (by omega) eh15
        generalize egb16 : va_up gb f (upd (gb f) j r2) = gb16 at P
        have hfr : ∀ k_, ¬ ((x + 12 ≤ k_ ∧ k_ < x + 21) ∨ (x + 49 ≤ k_ ∧ k_ < x + 107)) → h15 k_ = h k_ := fun k_ hk_ => by rw [eh15, va_up_ne _ _ (by omega)]; exact hfr k_ hk_
        have E := E.fr (h' := h15) (fun k_ h1_ h2_ h3_ => by rw [eh15, va_up_ne _ _ (by omega)])
        have K := K.fr (h' := h15) (fun k_ h1_ h2_ => by rw [eh15, va_up_ne _ _ (by omega)])
        have W0 := W0.fr (h' := h15) (fun k_ h1_ h2_ => by rw [eh15, va_up_ne _ _ (by omega)])
        have W1 := W1.fr (h' := h15) (fun k_ h1_ h2_ => by rw [eh15, va_up_ne _ _ (by omega)])
        have W2 := W2.fr (h' := h15) (fun k_ h1_ h2_ => by rw [eh15, va_up_ne _ _ (by omega)])
        refine lv_aload_n hx hb dX8_put_81 rfl (lv_at hl 2 rfl) ?_
        refine r_callV w (va_runV (As := []) (rest := []) ⟨hx, hb, hml, hown, hts⟩ (c_X8_forgetViews l E W0.any W1.any W2.any) (cwV 0 hts gX8_put_X8_forgetViews rfl rfl rfl (by decide +kernel) ⟨Nat.le_of_ble_eq_true rfl, Nat.le_of_ble_eq_true rfl⟩) (r_preV w (by have := E.1; omega) E.2.1 rfl) rfl rfl hl.1 rfl (lv_room (Nat.le_of_ble_eq_true rfl)) dX8_put_82 ⟨Nat.zero_le _, Nat.zero_le _⟩) (fun h17 H locs hp w => ?_)
        obtain ⟨hfk18, W0, W1, W2⟩ := hp
        have E := E.fr (h' := h17) (fun k_ h1_ h2_ h3_ => hfk18 k_ (by omega))
        have P := P.fr (h' := h17) (fun k_ h1_ h2_ => hfk18 k_ (by omega))
        have K := K.fr (h' := h17) (fun k_ h1_ h2_ => hfk18 k_ (by omega))
        have hfr : ∀ k_, ¬ ((x + 12 ≤ k_ ∧ k_ < x + 21) ∨ (x + 49 ≤ k_ ∧ k_ < x + 107)) → h17 k_ = h k_ := fun k_ hk_ => (hfk18 k_ (by omega)).trans (hfr k_ hk_)
        refine lv_iload hx hb dX8_put_85 (lv_at hl 0 rfl) ?_
        refine r_callI w (va_runS (As := [.int (gb f j)]) (rest := []) ⟨hx, hb, hml, hown, hts⟩ (c_X2_signOf l (gb f j) (S.2.2.2.2 f (by omega) j (by omega)) (by omega)) (va_cwS 1 hts gX8_put_X2_signOf rfl rfl rfl (by decide +kernel) ⟨Nat.le_of_ble_eq_true rfl, Nat.le_of_ble_eq_true rfl⟩) (r_preS w) rfl rfl hl.1 rfl (lv_room (Nat.le_of_ble_eq_true rfl)) dX8_put_87 ⟨Nat.zero_le _, Nat.zero_le _⟩) (fun r20 h19 H locs hp w => ?_)
        obtain ⟨eh_, qq21⟩ := hp
        have eh_ := eh_.symm
        subst eh_
        refine r_iret (v := r20) hx hb hr hlocks w dX8_put_90 ?_
        obtain ⟨hm14_, hmn_⟩ := qq3.resolve_right (fun q_ => by have := q_.2; have := c11.1; omega)
        have hft_ := c11.2
        rw [show r2.toInt.toNat = mNum p2.toInt by omega] at hft_
        have hP2_ := mSet_ok hP hft_ hm14_
        obtain ⟨e1_, e2_, e3_, e4_, e5_⟩ := nact_M st0 (mSet (sM st0) f j (mNum p2.toInt))
        have hS2_ := S.put_e hmn_ egb16
        exact ⟨(fun k_ hk_ => hfr k_ (by omega)), nAct st0 (mSet (sM st0) f j (mNum p2.toInt)), ⟨(nact_sv hSV0 hP2_), ⟨_, E, by rw [e2_]; exact hkn⟩, (by rw [e4_, e5_]; exact (T0.fr (fun k_ a_ b_ => hfr k_ (by omega)))), (Q1.fr (fun k_ a_ b_ => hfr k_ (by omega))), ⟨_, _, _, _, _, P, by rw [e1_]; exact hS2_⟩, (Q2.fr (fun k_ a_ b_ => hfr k_ (by omega))), (fun i_ hi_ => (Q3 i_ hi_).fr (fun k_ a_ b_ => hfr k_ (by omega))), (by rw [e2_, e3_]; exact fun i_ hi_ => (Q4 i_ hi_).fr (fun k_ a_ b_ => hfr k_ (by omega))), ⟨_, _, _, _, K, his_act hHis hzK (act_set hf0 hf hj0 hj (S.2.2.2.2 f (by omega) j (by omega)) rfl)⟩, W0.e, W1.e, W2.e, (W3.fr (fun k_ a_ b_ => hfr k_ (by omega))), (W4.fr (fun k_ a_ b_ => hfr k_ (by omega)))⟩, Or.inl ⟨f, j, hf0, hj0, hf, hj, hm14_, hft_, Or.inr ⟨by omega, qq21, rfl⟩⟩⟩
      · have c12 : (((pB (sM st0) f j) : Nat) : Int) = r2.toInt := (i_eq (S.2.2.2.2 f (by omega) j (by omega)) (rfl : r2.toInt = r2.toInt)).mp c12
        refine lv_bipush (v := (-2)) hx hb dX8_put_54 (by decide) ?_
        refine r_iret (v := (-2)) hx hb hr hlocks w dX8_put_56 ?_
        obtain ⟨hm14_, hmn_⟩ := qq3.resolve_right (fun q_ => by have := q_.2; have := c11.1; omega)
        have hft_ := c11.2
        rw [show r2.toInt.toNat = mNum p2.toInt by omega] at hft_
        exact ⟨(fun k_ hk_ => hfr k_ (by omega)), st0, ⟨hSV0, ⟨_, E, hkn⟩, (T0.fr (fun k_ a_ b_ => hfr k_ (by omega))), (Q1.fr (fun k_ a_ b_ => hfr k_ (by omega))), ⟨_, _, _, _, _, P, S⟩, (Q2.fr (fun k_ a_ b_ => hfr k_ (by omega))), (fun i_ hi_ => (Q3 i_ hi_).fr (fun k_ a_ b_ => hfr k_ (by omega))), (fun i_ (hi_ : i_ < sV st0) => (Q4 i_ hi_).fr (fun k_ a_ b_ => hfr k_ (by omega))), ⟨_, _, _, _, K, hHis⟩, W0, W1, W2, (W3.fr (fun k_ a_ b_ => hfr k_ (by omega))), (W4.fr (fun k_ a_ b_ => hfr k_ (by omega)))⟩, Or.inl ⟨f, j, hf0, hj0, hf, hj, hm14_, hft_, Or.inl ⟨by omega, rfl, rfl⟩⟩⟩
    · have c11 := qq10.eq c11
      refine lv_iconst (v := (-1)) hx hb dX8_put_32 (by decide) ?_
      refine r_iret (v := (-1)) hx hb hr hlocks w dX8_put_33 ?_
      exact ⟨(fun k_ hk_ => hfr k_ (by omega)), st0, ⟨hSV0, ⟨_, E, hkn⟩, (T0.fr (fun k_ a_ b_ => hfr k_ (by omega))), (Q1.fr (fun k_ a_ b_ => hfr k_ (by omega))), ⟨_, _, _, _, _, P, S⟩, (Q2.fr (fun k_ a_ b_ => hfr k_ (by omega))), (fun i_ hi_ => (Q3 i_ hi_).fr (fun k_ a_ b_ => hfr k_ (by omega))), (fun i_ (hi_ : i_ < sV st0) => (Q4 i_ hi_).fr (fun k_ a_ b_ => hfr k_ (by omega))), ⟨_, _, _, _, K, hHis⟩, W0, W1, W2, (W3.fr (fun k_ a_ b_ => hfr k_ (by omega))), (W4.fr (fun k_ a_ b_ => hfr k_ (by omega)))⟩, Or.inr ⟨by rintro ⟨f_, j_, a1_, a2_, a3_, a4_, a5_, a6_⟩; obtain rfl : f_ = f := (by omega); obtain rfl : j_ = j := (by omega); have z_ := (qq3.resolve_right (fun q_ => by have := q_.1; omega)).2; exact c11 ⟨by omega, by rw [show r2.toInt.toNat = mNum p2.toInt by omega]; exact a6_⟩, rfl, rfl⟩⟩

theorem inX8_rename_X3 : ∀ w ∈ wsX30, w ∈ wsX8_rename := by decide +kernel
theorem inX8_rename_X8 : ∀ w ∈ wsX80, w ∈ wsX8_rename := by decide +kernel
abbrev rm_X8_rename : Room := { frames := 2, cells := 0, slots := 0, locals := 43 }
set_option maxHeartbeats 4000000 in
set_option maxRecDepth 100000 in
theorem c_X8_rename (l : Launch) {g : GE} {h : Nat → va_E} {x : Nat} {st0 : ST} (C : ClsA g h x st0) (p0 : Int32) (p1 : Int32) : MI l yX8_rename wsX8_rename rm_X8_rename [.ref (g.2.2.1 x), .int p0, .int p1] g h (fun r_ h2 => (∀ k, ¬ (x ≤ k ∧ k < x + 143) → h2 k = h k) ∧ ∃ s2 : ST, ClsA g h2 x s2 ∧ AnRename st0 p0 p1 r_ s2) := by
  refine Met.ofW (cc := cX8_rename) (maxL := 4) (ret := (some .int)) (by decide) rfl ?_
  intro p e s m args below meth c s₁ B hml hv
  obtain ⟨rfl, w0⟩ := hv
  have hx := B.exec
  have hb := B.bytes
  have hr := B.returns
  have hts := atoms_spec (ws := wsX8_rename) B.pre
  have hown : s.vm.findClass RX8 = some m.cls := findClass_of_methodNamed B.named
  have hlocks := B.notSynchronized
  have w := w0.start
  clear w0
  have hl := lv_entry ([.ref (g.2.2.1 x), .int p0, .int p1]) (n := 4) (Nat.le_of_ble_eq_true rfl)
  rw [lg_entry_eq]
  generalize (lg_sl ([.ref (g.2.2.1 x), .int p0, .int p1]) ++ List.replicate (4 - (lg_sl ([.ref (g.2.2.1 x), .int p0, .int p1])).length) Slot.unset).toArray = ls at hl ⊢
  have hl : lv_has ls 4 [(0, .ref (g.2.2.1 x)), (1, .int p0), (2, .int p1)] := hl
  obtain ⟨hSV, ⟨kn, E, hkn⟩, T0, Q1, P0, Q2, Q3, Q4, H0_, W0, W1, W2, W3, W4⟩ := C
  have hSV0 := hSV
  obtain ⟨hP, hu8, hUP, hv2, hVP, hl200, hlt⟩ := hSV
  have hn4 := hP.2.1
  have hNe := E.1
  obtain ⟨n, ga, gk, gl, gb, P, S⟩ := P0
  have hnS := S.1
  obtain ⟨cK, gf, gp, gq, K, hHis⟩ := H0_
  have hcK := hHis.1
  have hfr : ∀ k_, ¬ ((x + 12 ≤ k_ ∧ k_ < x + 21) ∨ (x + 49 ≤ k_ ∧ k_ < x + 107)) → h k_ = h k_ := fun _ _ => rfl
  refine lv_aload_n hx hb dX8_rename_0 rfl (lv_at hl 0 rfl) ?_
  refine r_get (C := RX8) (T := TX8) (N := 11) (ci := 6) hx hb hts inX8_rename_X8 hown w (by have := E.1; omega) E.2.1 rfl 1 (by decide) (hts (Cond.fieldLink RX8 19 "EarlyValues" "now" "LEarlyValues$Program;") (List.mem_of_getElem? (i := 1) (by decide +kernel))) rfl rfl dX8_rename_1 ?_
  refine lv_iload_n hx hb dX8_rename_4 rfl (lv_at hl 1 rfl) ?_
  refine r_callI w (va_runV (As := [.int p0]) (rest := []) ⟨hx, hb, hml, hown, hts⟩ (c_X3_has l P p0) (cwV 1 hts gX8_rename_X3_has rfl rfl rfl (by decide +kernel) ⟨Nat.le_of_ble_eq_true rfl, Nat.le_of_ble_eq_true rfl⟩) (r_preV w (by have := P.1; omega) P.c0 rfl) rfl rfl hl.1 rfl (lv_room (Nat.le_of_ble_eq_true rfl)) dX8_rename_5 ⟨Nat.zero_le _, Nat.zero_le _⟩) (fun r2 h1 H locs hp w => ?_)
  obtain ⟨eh_, qq3⟩ := hp
  have eh_ := eh_.symm
  subst eh_
  have b4 : Bq r2 (0 ≤ p0.toInt ∧ p0.toInt < (((pN (sM st0)) : Nat) : Int)) := qq3.iff (by rw [((rfl : p0.toInt = p0.toInt) : p0.toInt = _), (S.1 : n.toInt = _)])
  refine lv_if_eq (tgt := 20) hx hb dX8_rename_8 (by decide) (fun c5 => ?_) (fun c5 => ?_)
  · have c5 := b4.eq c5
    refine lv_iconst (v := (-1)) hx hb dX8_rename_20 (by decide) ?_
    refine r_iret (v := (-1)) hx hb hr hlocks w dX8_rename_21 ?_
    exact ⟨(fun k_ hk_ => hfr k_ (by omega)), st0, ⟨hSV0, ⟨_, E, hkn⟩, (T0.fr (fun k_ a_ b_ => hfr k_ (by omega))), (Q1.fr (fun k_ a_ b_ => hfr k_ (by omega))), ⟨_, _, _, _, _, P, S⟩, (Q2.fr (fun k_ a_ b_ => hfr k_ (by omega))), (fun i_ hi_ => (Q3 i_ hi_).fr (fun k_ a_ b_ => hfr k_ (by omega))), (fun i_ (hi_ : i_ < sV st0) => (Q4 i_ hi_).fr (fun k_ a_ b_ => hfr k_ (by omega))), ⟨_, _, _, _, K, hHis⟩, W0, W1, W2, (W3.fr (fun k_ a_ b_ => hfr k_ (by omega))), (W4.fr (fun k_ a_ b_ => hfr k_ (by omega)))⟩, Or.inr ⟨by omega, rfl, rfl⟩⟩
  · have c5 := b4.ne c5
    obtain ⟨f, hf0⟩ : ∃ q_ : Nat, p0.toInt = (q_ : Int) := ⟨p0.toInt.toNat, by omega⟩
    have hf : f < pN (sM st0) := by omega
    obtain ⟨ha3, hk3, hl1, hl24, hpl, hd0⟩ := hP.2.2 f hf
    refine lv_iload_n hx hb dX8_rename_11 rfl (lv_at hl 2 rfl) ?_
    refine lv_if_lt (tgt := 20) hx hb dX8_rename_12 (by decide) (fun c6 => ?_) (fun c6 => ?_)
    · have c6 : p1.toInt < (0 : Int) := (i_lt (rfl : p1.toInt = p1.toInt) (rfl : (0 : Int32).toInt = 0)).mp c6
      refine lv_iconst (v := (-1)) hx hb dX8_rename_20 (by decide) ?_
      refine r_iret (v := (-1)) hx hb hr hlocks w dX8_rename_21 ?_
      exact ⟨(fun k_ hk_ => hfr k_ (by omega)), st0, ⟨hSV0, ⟨_, E, hkn⟩, (T0.fr (fun k_ a_ b_ => hfr k_ (by omega))), (Q1.fr (fun k_ a_ b_ => hfr k_ (by omega))), ⟨_, _, _, _, _, P, S⟩, (Q2.fr (fun k_ a_ b_ => hfr k_ (by omega))), (fun i_ hi_ => (Q3 i_ hi_).fr (fun k_ a_ b_ => hfr k_ (by omega))), (fun i_ (hi_ : i_ < sV st0) => (Q4 i_ hi_).fr (fun k_ a_ b_ => hfr k_ (by omega))), ⟨_, _, _, _, K, hHis⟩, W0, W1, W2, (W3.fr (fun k_ a_ b_ => hfr k_ (by omega))), (W4.fr (fun k_ a_ b_ => hfr k_ (by omega)))⟩, Or.inr ⟨by omega, rfl, rfl⟩⟩
    · have c6 : ¬ (p1.toInt < (0 : Int)) := fun q => c6 ((i_lt (rfl : p1.toInt = p1.toInt) (rfl : (0 : Int32).toInt = 0)).mpr q)
      refine lv_iload_n hx hb dX8_rename_15 rfl (lv_at hl 2 rfl) ?_
      refine lv_iconst (v := 3) hx hb dX8_rename_16 (by decide) ?_
      refine lv_icmp_le (tgt := 22) hx hb dX8_rename_17 (by decide) (fun c7 => ?_) (fun c7 => ?_)
      · have c7 : p1.toInt ≤ ((3 : Nat) : Int) := (i_le (rfl : p1.toInt = p1.toInt) (by decide : (3 : Int32).toInt = ((3 : Nat) : Int))).mp c7
        obtain ⟨c3_, hc0⟩ : ∃ q_ : Nat, p1.toInt = (q_ : Int) := ⟨p1.toInt.toNat, by omega⟩
        refine lv_aload_n hx hb dX8_rename_22 rfl (lv_at hl 0 rfl) ?_
        refine r_get (C := RX8) (T := TX8) (N := 11) (ci := 6) hx hb hts inX8_rename_X8 hown w (by have := E.1; omega) E.2.1 rfl 1 (by decide) (hts (Cond.fieldLink RX8 19 "EarlyValues" "now" "LEarlyValues$Program;") (List.mem_of_getElem? (i := 1) (by decide +kernel))) rfl rfl dX8_rename_23 ?_
        refine r_get (C := RX3) (T := TX3) (N := 5) (ci := 2) hx hb hts inX8_rename_X3 hown w (by have := P.1; omega) P.c0 rfl 2 (by decide) (hts (Cond.fieldLink RX8 115 "EarlyValues$Program" "kinds" "[I") (List.mem_of_getElem? (i := 2) (by decide +kernel))) rfl rfl dX8_rename_26 ?_
        refine lv_iload_n hx hb dX8_rename_29 rfl (lv_at hl 1 rfl) ?_
        refine r_iald (j := f) hx hb w (by have := P.1; omega) P.c2 hf0 (by omega) dX8_rename_30 ?_
        refine lv_istore_n (lv' := [(3, .int (gk f)), (0, .ref (g.2.2.1 x)), (1, .int p0), (2, .int p1)]) hx hb dX8_rename_31 rfl hl (by decide) rfl (fun ls hl => ?_)
        refine lv_iload_n hx hb dX8_rename_32 rfl (lv_at hl 0 rfl) ?_
        refine lv_iload_n hx hb dX8_rename_33 rfl (lv_at hl 3 rfl) ?_
        refine lv_icmp_ne (tgt := 40) hx hb dX8_rename_34 (by decide) (fun c8 => ?_) (fun c8 => ?_)
        · have c8 : ¬ ((((pK (sM st0) f) : Nat) : Int) = ((c3_ : Nat) : Int)) := fun q => c8 ((i_eq (S.2.2.1 f (by omega)) hc0).mpr q)
          refine lv_aload_n hx hb dX8_rename_40 rfl (lv_at hl 1 rfl) ?_
          refine r_get (C := RX8) (T := TX8) (N := 11) (ci := 6) hx hb hts inX8_rename_X8 hown w (by have := E.1; omega) E.2.1 rfl 5 (by decide) (hts (Cond.fieldLink RX8 33 "EarlyValues" "history" "LEarlyValues$History;") (List.mem_of_getElem? (i := 3) (by decide +kernel))) rfl rfl dX8_rename_41 ?_
          refine lv_iload_n hx hb dX8_rename_44 rfl (lv_at hl 2 rfl) ?_
          refine lv_iconst (v := (-1)) hx hb dX8_rename_45 (by decide) ?_
          refine lv_iload_n hx hb dX8_rename_46 rfl (lv_at hl 0 rfl) ?_
          refine r_callV w (va_runV (As := [.int p0, .int ((-1)), .int (gk f)]) (rest := []) ⟨hx, hb, hml, hown, hts⟩ (c_X1_add l K hcK hu8 p0 ((-1)) (gk f)) (cwV 3 hts gX8_rename_X1_add rfl rfl rfl (by decide +kernel) ⟨Nat.le_of_ble_eq_true rfl, Nat.le_of_ble_eq_true rfl⟩) (r_preV w (by have := K.1; omega) K.2.1 rfl) rfl rfl hl.1 rfl (lv_room (Nat.le_of_ble_eq_true rfl)) dX8_rename_47 ⟨Nat.zero_le _, Nat.zero_le _⟩) (fun h9 H locs hp w => ?_)
          obtain ⟨hfk10, c3, gf3, gp3, gq3, K, hzK⟩ := hp
          have E := E.fr (h' := h9) (fun k_ h1_ h2_ h3_ => hfk10 k_ (by omega))
          have P := P.fr (h' := h9) (fun k_ h1_ h2_ => hfk10 k_ (by omega))
          have W0 := W0.fr (h' := h9) (fun k_ h1_ h2_ => hfk10 k_ (by omega))
          have W1 := W1.fr (h' := h9) (fun k_ h1_ h2_ => hfk10 k_ (by omega))
          have W2 := W2.fr (h' := h9) (fun k_ h1_ h2_ => hfk10 k_ (by omega))
          have hfr : ∀ k_, ¬ ((x + 12 ≤ k_ ∧ k_ < x + 21) ∨ (x + 49 ≤ k_ ∧ k_ < x + 107)) → h9 k_ = h k_ := fun k_ hk_ => (hfk10 k_ (by omega))
          refine lv_aload_n hx hb dX8_rename_50 rfl (lv_at hl 1 rfl) ?_
          refine r_get (C := RX8) (T := TX8) (N := 11) (ci := 6) hx hb hts inX8_rename_X8 hown w (by have := E.1; omega) E.2.1 rfl 1 (by decide) (hts (Cond.fieldLink RX8 19 "EarlyValues" "now" "LEarlyValues$Program;") (List.mem_of_getElem? (i := 1) (by decide +kernel))) rfl rfl dX8_rename_51 ?_
          refine r_get (C := RX3) (T := TX3) (N := 5) (ci := 2) hx hb hts inX8_rename_X3 hown w (by have := P.1; omega) P.c0 rfl 2 (by decide) (hts (Cond.fieldLink RX8 115 "EarlyValues$Program" "kinds" "[I") (List.mem_of_getElem? (i := 2) (by decide +kernel))) rfl rfl dX8_rename_54 ?_
          refine lv_iload_n hx hb dX8_rename_57 rfl (lv_at hl 2 rfl) ?_
          refine lv_iload_n hx hb dX8_rename_58 rfl (lv_at hl 3 rfl) ?_
          refine r_iast (j := f) hx hb w (by have := P.1; omega) P.c2 hf0 (by omega) dX8_rename_59 (fun h11 H locs eh11 w => ?_)
          have P := P.s2 eh11
          generalize egz12 : upd gk f p1 = gz12 at P
          have hfr : ∀ k_, ¬ ((x + 12 ≤ k_ ∧ k_ < x + 21) ∨ (x + 49 ≤ k_ ∧ k_ < x + 107)) → h11 k_ = h k_ := fun k_ hk_ => by rw [eh11, va_up_ne _ _ (by omega)]; exact hfr k_ hk_
          have E := E.fr (h' := h11) (fun k_ h1_ h2_ h3_ => by rw [eh11, va_up_ne _ _ (by omega)])
          have K := K.fr (h' := h11) (fun k_ h1_ h2_ => by rw [eh11, va_up_ne _ _ (by omega)])
          have W0 := W0.fr (h' := h11) (fun k_ h1_ h2_ => by rw [eh11, va_up_ne _ _ (by omega)])
          have W1 := W1.fr (h' := h11) (fun k_ h1_ h2_ => by rw [eh11, va_up_ne _ _ (by omega)])
          have W2 := W2.fr (h' := h11) (fun k_ h1_ h2_ => by rw [eh11, va_up_ne _ _ (by omega)])
          refine lv_aload_n hx hb dX8_rename_60 rfl (lv_at hl 1 rfl) ?_
          refine r_callV w (va_runV (As := []) (rest := []) ⟨hx, hb, hml, hown, hts⟩ (c_X8_forgetViews l E W0.any W1.any W2.any) (cwV 0 hts gX8_rename_X8_forgetViews rfl rfl rfl (by decide +kernel) ⟨Nat.le_of_ble_eq_true rfl, Nat.le_of_ble_eq_true rfl⟩) (r_preV w (by have := E.1; omega) E.2.1 rfl) rfl rfl hl.1 rfl (lv_room (Nat.le_of_ble_eq_true rfl)) dX8_rename_61 ⟨Nat.zero_le _, Nat.zero_le _⟩) (fun h13 H locs hp w => ?_)
          obtain ⟨hfk14, W0, W1, W2⟩ := hp
          have E := E.fr (h' := h13) (fun k_ h1_ h2_ h3_ => hfk14 k_ (by omega))
          have P := P.fr (h' := h13) (fun k_ h1_ h2_ => hfk14 k_ (by omega))
          have K := K.fr (h' := h13) (fun k_ h1_ h2_ => hfk14 k_ (by omega))
          have hfr : ∀ k_, ¬ ((x + 12 ≤ k_ ∧ k_ < x + 21) ∨ (x + 49 ≤ k_ ∧ k_ < x + 107)) → h13 k_ = h k_ := fun k_ hk_ => (hfk14 k_ (by omega)).trans (hfr k_ hk_)
          refine lv_iload_n hx hb dX8_rename_64 rfl (lv_at hl 0 rfl) ?_
          refine r_iret (v := gk f) hx hb hr hlocks w dX8_rename_65 ?_
          have hP2_ := mKind_ok (f := f) hP (show c3_ ≤ 3 by omega)
          obtain ⟨e1_, e2_, e3_, e4_, e5_⟩ := nact_M st0 (mKind (sM st0) f c3_)
          have hS2_ := S.kind_e (f := f) hc0 egz12
          exact ⟨(fun k_ hk_ => hfr k_ (by omega)), nAct st0 (mKind (sM st0) f c3_), ⟨(nact_sv hSV0 hP2_), ⟨_, E, by rw [e2_]; exact hkn⟩, (by rw [e4_, e5_]; exact (T0.fr (fun k_ a_ b_ => hfr k_ (by omega)))), (Q1.fr (fun k_ a_ b_ => hfr k_ (by omega))), ⟨_, _, _, _, _, P, by rw [e1_]; exact hS2_⟩, (Q2.fr (fun k_ a_ b_ => hfr k_ (by omega))), (fun i_ hi_ => (Q3 i_ hi_).fr (fun k_ a_ b_ => hfr k_ (by omega))), (by rw [e2_, e3_]; exact fun i_ hi_ => (Q4 i_ hi_).fr (fun k_ a_ b_ => hfr k_ (by omega))), ⟨_, _, _, _, K, his_act hHis hzK (act_kind hf0 hf (by decide) (S.2.2.1 f (by omega)) rfl)⟩, W0.e, W1.e, W2.e, (W3.fr (fun k_ a_ b_ => hfr k_ (by omega))), (W4.fr (fun k_ a_ b_ => hfr k_ (by omega)))⟩, Or.inl ⟨f, c3_, hf0, hc0, hf, by omega, Or.inr ⟨by omega, (S.2.2.1 f (by omega)), rfl⟩⟩⟩
        · have c8 : (((pK (sM st0) f) : Nat) : Int) = ((c3_ : Nat) : Int) := (i_eq (S.2.2.1 f (by omega)) hc0).mp c8
          refine lv_bipush (v := (-2)) hx hb dX8_rename_37 (by decide) ?_
          refine r_iret (v := (-2)) hx hb hr hlocks w dX8_rename_39 ?_
          exact ⟨(fun k_ hk_ => hfr k_ (by omega)), st0, ⟨hSV0, ⟨_, E, hkn⟩, (T0.fr (fun k_ a_ b_ => hfr k_ (by omega))), (Q1.fr (fun k_ a_ b_ => hfr k_ (by omega))), ⟨_, _, _, _, _, P, S⟩, (Q2.fr (fun k_ a_ b_ => hfr k_ (by omega))), (fun i_ hi_ => (Q3 i_ hi_).fr (fun k_ a_ b_ => hfr k_ (by omega))), (fun i_ (hi_ : i_ < sV st0) => (Q4 i_ hi_).fr (fun k_ a_ b_ => hfr k_ (by omega))), ⟨_, _, _, _, K, hHis⟩, W0, W1, W2, (W3.fr (fun k_ a_ b_ => hfr k_ (by omega))), (W4.fr (fun k_ a_ b_ => hfr k_ (by omega)))⟩, Or.inl ⟨f, c3_, hf0, hc0, hf, by omega, Or.inl ⟨by omega, rfl, rfl⟩⟩⟩
      · have c7 : ¬ (p1.toInt ≤ ((3 : Nat) : Int)) := fun q => c7 ((i_le (rfl : p1.toInt = p1.toInt) (by decide : (3 : Int32).toInt = ((3 : Nat) : Int))).mpr q)
        refine lv_iconst (v := (-1)) hx hb dX8_rename_20 (by decide) ?_
        refine r_iret (v := (-1)) hx hb hr hlocks w dX8_rename_21 ?_
        exact ⟨(fun k_ hk_ => hfr k_ (by omega)), st0, ⟨hSV0, ⟨_, E, hkn⟩, (T0.fr (fun k_ a_ b_ => hfr k_ (by omega))), (Q1.fr (fun k_ a_ b_ => hfr k_ (by omega))), ⟨_, _, _, _, _, P, S⟩, (Q2.fr (fun k_ a_ b_ => hfr k_ (by omega))), (fun i_ hi_ => (Q3 i_ hi_).fr (fun k_ a_ b_ => hfr k_ (by omega))), (fun i_ (hi_ : i_ < sV st0) => (Q4 i_ hi_).fr (fun k_ a_ b_ => hfr k_ (by omega))), ⟨_, _, _, _, K, hHis⟩, W0, W1, W2, (W3.fr (fun k_ a_ b_ => hfr k_ (by omega))), (W4.fr (fun k_ a_ b_ => hfr k_ (by omega)))⟩, Or.inr ⟨by omega, rfl, rfl⟩⟩

theorem inX8_undo_X1 : ∀ w ∈ wsX10, w ∈ wsX8_undo := by decide +kernel
theorem inX8_undo_X8 : ∀ w ∈ wsX80, w ∈ wsX8_undo := by decide +kernel
abbrev rm_X8_undo : Room := { frames := 3, cells := 0, slots := 0, locals := 66 }
set_option maxHeartbeats 4000000 in
set_option maxRecDepth 100000 in
theorem c_X8_undo (l : Launch) {g : GE} {h : Nat → va_E} {x : Nat} {st0 : ST} (C : ClsA g h x st0) : MI l yX8_undo wsX8_undo rm_X8_undo [.ref (g.2.2.1 x)] g h (fun r_ h2 => (∀ k, ¬ (x ≤ k ∧ k < x + 143) → h2 k = h k) ∧ ∃ s2 : ST, ClsA g h2 x s2 ∧ AnUndo st0 r_ s2) := by
  refine Met.ofW (cc := cX8_undo) (maxL := 1) (ret := (some .int)) (by decide) rfl ?_
  intro p e s m args below meth c s₁ B hml hv
  obtain ⟨rfl, w0⟩ := hv
  have hx := B.exec
  have hb := B.bytes
  have hr := B.returns
  have hts := atoms_spec (ws := wsX8_undo) B.pre
  have hown : s.vm.findClass RX8 = some m.cls := findClass_of_methodNamed B.named
  have hlocks := B.notSynchronized
  have w := w0.start
  clear w0
  have hl := lv_entry ([.ref (g.2.2.1 x)]) (n := 1) (Nat.le_of_ble_eq_true rfl)
  rw [lg_entry_eq]
  generalize (lg_sl ([.ref (g.2.2.1 x)]) ++ List.replicate (1 - (lg_sl ([.ref (g.2.2.1 x)])).length) Slot.unset).toArray = ls at hl ⊢
  have hl : lv_has ls 1 [(0, .ref (g.2.2.1 x))] := hl
  obtain ⟨hSV, ⟨kn, E, hkn⟩, T0, Q1, P0, Q2, Q3, Q4, H0_, W0, W1, W2, W3, W4⟩ := C
  have hSV0 := hSV
  obtain ⟨hP, hu8, hUP, hv2, hVP, hl200, hlt⟩ := hSV
  have hn4 := hP.2.1
  have hNe := E.1
  obtain ⟨n, ga, gk, gl, gb, P, S⟩ := P0
  have hnS := S.1
  obtain ⟨cK, gf, gp, gq, K, hHis⟩ := H0_
  have hcK := hHis.1
  have hfr : ∀ k_, ¬ ((x + 12 ≤ k_ ∧ k_ < x + 21) ∨ (x + 49 ≤ k_ ∧ k_ < x + 107)) → h k_ = h k_ := fun _ _ => rfl
  refine lv_aload_n hx hb dX8_undo_0 rfl (lv_at hl 0 rfl) ?_
  refine r_get (C := RX8) (T := TX8) (N := 11) (ci := 6) hx hb hts inX8_undo_X8 hown w (by have := E.1; omega) E.2.1 rfl 5 (by decide) (hts (Cond.fieldLink RX8 33 "EarlyValues" "history" "LEarlyValues$History;") (List.mem_of_getElem? (i := 1) (by decide +kernel))) rfl rfl dX8_undo_1 ?_
  refine r_get (C := RX1) (T := TX1) (N := 4) (ci := 1) hx hb hts inX8_undo_X1 hown w (by have := K.1; omega) K.2.1 rfl 3 (by decide) (hts (Cond.fieldLink RX8 149 "EarlyValues$History" "count" "I") (List.mem_of_getElem? (i := 2) (by decide +kernel))) rfl rfl dX8_undo_4 ?_
  refine lv_if_ne (tgt := 13) hx hb dX8_undo_7 (by decide) (fun c1 => ?_) (fun c1 => ?_)
  · have c1 : ¬ ((((sU st0) : Nat) : Int) = (0 : Int)) := fun q => c1 ((i_eq hcK (rfl : (0 : Int32).toInt = 0)).mpr q)
    obtain ⟨f, b9, a1_, a2_, a3_, a4_⟩ := hHis.2 (sU st0 - 1) (by omega)
    rw [nxt_last (by omega)] at a2_ a4_
    have hzz : (gp (sU st0 - 1)).toInt = -1 ∨ (0 ≤ (gp (sU st0 - 1)).toInt ∧ (gp (sU st0 - 1)).toInt < ((pL (sM st0) f : Nat) : Int)) := by
      rcases a4_ with ⟨q1_, -⟩ | ⟨pl_, q1_, q2_, -⟩
      · exact Or.inl q1_
      · exact Or.inr ⟨by omega, by omega⟩
    refine lv_aload_n hx hb dX8_undo_13 rfl (lv_at hl 0 rfl) ?_
    refine r_get (C := RX8) (T := TX8) (N := 11) (ci := 6) hx hb hts inX8_undo_X8 hown w (by have := E.1; omega) E.2.1 rfl 5 (by decide) (hts (Cond.fieldLink RX8 33 "EarlyValues" "history" "LEarlyValues$History;") (List.mem_of_getElem? (i := 1) (by decide +kernel))) rfl rfl dX8_undo_14 ?_
    refine lv_aload_n hx hb dX8_undo_17 rfl (lv_at hl 0 rfl) ?_
    refine r_get (C := RX8) (T := TX8) (N := 11) (ci := 6) hx hb hts inX8_undo_X8 hown w (by have := E.1; omega) E.2.1 rfl 1 (by decide) (hts (Cond.fieldLink RX8 19 "EarlyValues" "now" "LEarlyValues$Program;") (List.mem_of_getElem? (i := 3) (by decide +kernel))) rfl rfl dX8_undo_18 ?_
    refine r_callV w (va_runV (As := [.ref (g.2.2.1 (x + 12))]) (rest := []) ⟨hx, hb, hml, hown, hts⟩ (c_X1_takeBack l K P S hP (c9n := sU st0 - 1) (z := (gp (sU st0 - 1)).toInt) (by omega) (by omega) a1_ rfl a3_ a2_ hzz (by omega)) (cwV 1 hts gX8_undo_X1_takeBack rfl rfl rfl (by decide +kernel) ⟨Nat.le_of_ble_eq_true rfl, Nat.le_of_ble_eq_true rfl⟩) (r_preV w (by have := K.1; omega) K.2.1 rfl) rfl rfl hl.1 rfl (lv_room (Nat.le_of_ble_eq_true rfl)) dX8_undo_21 ⟨Nat.zero_le _, Nat.zero_le _⟩) (fun h2 H locs hp w => ?_)
    obtain ⟨hfk3, c2, gk2, gb2, K, hc2, P, hk2_, hs2_⟩ := hp
    have E := E.fr (h' := h2) (fun k_ h1_ h2_ h3_ => hfk3 k_ (by omega))
    have W0 := W0.fr (h' := h2) (fun k_ h1_ h2_ => hfk3 k_ (by omega))
    have W1 := W1.fr (h' := h2) (fun k_ h1_ h2_ => hfk3 k_ (by omega))
    have W2 := W2.fr (h' := h2) (fun k_ h1_ h2_ => hfk3 k_ (by omega))
    have hfr : ∀ k_, ¬ ((x + 12 ≤ k_ ∧ k_ < x + 21) ∨ (x + 49 ≤ k_ ∧ k_ < x + 107)) → h2 k_ = h k_ := fun k_ hk_ => (hfk3 k_ (by omega))
    refine lv_aload_n hx hb dX8_undo_24 rfl (lv_at hl 0 rfl) ?_
    refine r_callV w (va_runV (As := []) (rest := []) ⟨hx, hb, hml, hown, hts⟩ (c_X8_forgetViews l E W0.any W1.any W2.any) (cwV 0 hts gX8_undo_X8_forgetViews rfl rfl rfl (by decide +kernel) ⟨Nat.le_of_ble_eq_true rfl, Nat.le_of_ble_eq_true rfl⟩) (r_preV w (by have := E.1; omega) E.2.1 rfl) rfl rfl hl.1 rfl (lv_room (Nat.le_of_ble_eq_true rfl)) dX8_undo_25 ⟨Nat.zero_le _, Nat.zero_le _⟩) (fun h4 H locs hp w => ?_)
    obtain ⟨hfk5, W0, W1, W2⟩ := hp
    have E := E.fr (h' := h4) (fun k_ h1_ h2_ h3_ => hfk5 k_ (by omega))
    have P := P.fr (h' := h4) (fun k_ h1_ h2_ => hfk5 k_ (by omega))
    have K := K.fr (h' := h4) (fun k_ h1_ h2_ => hfk5 k_ (by omega))
    have hfr : ∀ k_, ¬ ((x + 12 ≤ k_ ∧ k_ < x + 21) ∨ (x + 49 ≤ k_ ∧ k_ < x + 107)) → h4 k_ = h k_ := fun k_ hk_ => (hfk5 k_ (by omega)).trans (hfr k_ hk_)
    refine lv_aload_n hx hb dX8_undo_28 rfl (lv_at hl 0 rfl) ?_
    refine r_get (C := RX8) (T := TX8) (N := 11) (ci := 6) hx hb hts inX8_undo_X8 hown w (by have := E.1; omega) E.2.1 rfl 5 (by decide) (hts (Cond.fieldLink RX8 33 "EarlyValues" "history" "LEarlyValues$History;") (List.mem_of_getElem? (i := 1) (by decide +kernel))) rfl rfl dX8_undo_29 ?_
    refine r_get (C := RX1) (T := TX1) (N := 4) (ci := 1) hx hb hts inX8_undo_X1 hown w (by have := K.1; omega) K.2.1 rfl 3 (by decide) (hts (Cond.fieldLink RX8 149 "EarlyValues$History" "count" "I") (List.mem_of_getElem? (i := 2) (by decide +kernel))) rfl rfl dX8_undo_32 ?_
    refine r_iret (v := c2) hx hb hr hlocks w dX8_undo_35 ?_
    have hPu_ := hUP (sU st0 - 1) (by omega)
    have S2_ : PrS (sUs st0 (sU st0 - 1)) n ga gk2 gl gb2 := by
      rcases a4_ with ⟨q1_, q2_⟩ | ⟨pl_, q1_, q2_, q3_⟩
      · rw [q2_]; exact hk2_ q1_
      · rw [q3_]; exact hs2_ pl_ q1_
    exact ⟨(fun k_ hk_ => hfr k_ (by omega)), (sUs st0 (sU st0 - 1), (sU st0 - 1, sUs st0), st0.2.2), ⟨⟨hPu_, by show sU st0 - 1 ≤ 8; omega, fun i_ hi_ => hUP i_ (by have hi2_ : i_ < sU st0 - 1 := hi_; omega), hv2, hVP, hl200, hlt⟩, ⟨_, E, hkn⟩, (T0.fr (fun k_ a_ b_ => hfr k_ (by omega))), (Q1.fr (fun k_ a_ b_ => hfr k_ (by omega))), ⟨_, _, _, _, _, P, S2_⟩, (Q2.fr (fun k_ a_ b_ => hfr k_ (by omega))), (fun i_ hi_ => (Q3 i_ hi_).fr (fun k_ a_ b_ => hfr k_ (by omega))), (fun i_ (hi_ : i_ < sV st0) => (Q4 i_ hi_).fr (fun k_ a_ b_ => hfr k_ (by omega))), ⟨_, _, _, _, K, his_back hHis (by omega) hc2⟩, W0.e, W1.e, W2.e, (W3.fr (fun k_ a_ b_ => hfr k_ (by omega))), (W4.fr (fun k_ a_ b_ => hfr k_ (by omega)))⟩, Or.inr ⟨by omega, hc2, rfl⟩⟩
  · have c1 : (((sU st0) : Nat) : Int) = (0 : Int) := (i_eq hcK (rfl : (0 : Int32).toInt = 0)).mp c1
    refine lv_bipush (v := (-2)) hx hb dX8_undo_10 (by decide) ?_
    refine r_iret (v := (-2)) hx hb hr hlocks w dX8_undo_12 ?_
    exact ⟨(fun k_ hk_ => hfr k_ (by omega)), st0, ⟨hSV0, ⟨_, E, hkn⟩, (T0.fr (fun k_ a_ b_ => hfr k_ (by omega))), (Q1.fr (fun k_ a_ b_ => hfr k_ (by omega))), ⟨_, _, _, _, _, P, S⟩, (Q2.fr (fun k_ a_ b_ => hfr k_ (by omega))), (fun i_ hi_ => (Q3 i_ hi_).fr (fun k_ a_ b_ => hfr k_ (by omega))), (fun i_ (hi_ : i_ < sV st0) => (Q4 i_ hi_).fr (fun k_ a_ b_ => hfr k_ (by omega))), ⟨_, _, _, _, K, hHis⟩, W0, W1, W2, (W3.fr (fun k_ a_ b_ => hfr k_ (by omega))), (W4.fr (fun k_ a_ b_ => hfr k_ (by omega)))⟩, Or.inl ⟨by omega, rfl, rfl⟩⟩

theorem inX8_keep_X8 : ∀ w ∈ wsX80, w ∈ wsX8_keep := by decide +kernel
abbrev rm_X8_keep : Room := { frames := 2, cells := 0, slots := 0, locals := 42 }
set_option maxHeartbeats 4000000 in
set_option maxRecDepth 100000 in
theorem c_X8_keep (l : Launch) {g : GE} {h : Nat → va_E} {x : Nat} {st0 : ST} (C : ClsA g h x st0) : MI l yX8_keep wsX8_keep rm_X8_keep [.ref (g.2.2.1 x)] g h (fun r_ h2 => (∀ k, ¬ (x ≤ k ∧ k < x + 143) → h2 k = h k) ∧ ∃ s2 : ST, ClsA g h2 x s2 ∧ AnKeep st0 r_ s2) := by
  refine Met.ofW (cc := cX8_keep) (maxL := 1) (ret := (some .int)) (by decide) rfl ?_
  intro p e s m args below meth c s₁ B hml hv
  obtain ⟨rfl, w0⟩ := hv
  have hx := B.exec
  have hb := B.bytes
  have hr := B.returns
  have hts := atoms_spec (ws := wsX8_keep) B.pre
  have hown : s.vm.findClass RX8 = some m.cls := findClass_of_methodNamed B.named
  have hlocks := B.notSynchronized
  have w := w0.start
  clear w0
  have hl := lv_entry ([.ref (g.2.2.1 x)]) (n := 1) (Nat.le_of_ble_eq_true rfl)
  rw [lg_entry_eq]
  generalize (lg_sl ([.ref (g.2.2.1 x)]) ++ List.replicate (1 - (lg_sl ([.ref (g.2.2.1 x)])).length) Slot.unset).toArray = ls at hl ⊢
  have hl : lv_has ls 1 [(0, .ref (g.2.2.1 x))] := hl
  obtain ⟨hSV, ⟨kn, E, hkn⟩, T0, Q1, P0, Q2, Q3, Q4, H0_, W0, W1, W2, W3, W4⟩ := C
  have hSV0 := hSV
  obtain ⟨hP, hu8, hUP, hv2, hVP, hl200, hlt⟩ := hSV
  have hn4 := hP.2.1
  have hNe := E.1
  obtain ⟨n, ga, gk, gl, gb, P, S⟩ := P0
  have hnS := S.1
  have hfr : ∀ k_, ¬ (k_ = x ∨ (x + 31 + 9 * sV st0 ≤ k_ ∧ k_ < x + 31 + 9 * sV st0 + 9)) → h k_ = h k_ := fun _ _ => rfl
  refine lv_aload_n hx hb dX8_keep_0 rfl (lv_at hl 0 rfl) ?_
  refine r_get (C := RX8) (T := TX8) (N := 11) (ci := 6) hx hb hts inX8_keep_X8 hown w (by have := E.1; omega) E.2.1 rfl 4 (by decide) (hts (Cond.fieldLink RX8 102 "EarlyValues" "keptCount" "I") (List.mem_of_getElem? (i := 1) (by decide +kernel))) rfl rfl dX8_keep_1 ?_
  refine lv_iconst (v := 2) hx hb dX8_keep_4 (by decide) ?_
  refine lv_icmp_lt (tgt := 11) hx hb dX8_keep_5 (by decide) (fun c1 => ?_) (fun c1 => ?_)
  · have c1 : (((sV st0) : Nat) : Int) < ((2 : Nat) : Int) := (i_lt hkn (by decide : (2 : Int32).toInt = ((2 : Nat) : Int))).mp c1
    have hv2l_ : sV st0 < 2 := by omega
    obtain ⟨qn, qa, qk, ql, qb, Pq⟩ := Q3 (sV st0) hv2l_
    refine lv_aload_n hx hb dX8_keep_11 rfl (lv_at hl 0 rfl) ?_
    refine r_get (C := RX8) (T := TX8) (N := 11) (ci := 6) hx hb hts inX8_keep_X8 hown w (by have := E.1; omega) E.2.1 rfl 3 (by decide) (hts (Cond.fieldLink RX8 26 "EarlyValues" "kept" "[LEarlyValues$Program;") (List.mem_of_getElem? (i := 2) (by decide +kernel))) rfl rfl dX8_keep_12 ?_
    refine lv_aload_n hx hb dX8_keep_15 rfl (lv_at hl 0 rfl) ?_
    refine r_get (C := RX8) (T := TX8) (N := 11) (ci := 6) hx hb hts inX8_keep_X8 hown w (by have := E.1; omega) E.2.1 rfl 4 (by decide) (hts (Cond.fieldLink RX8 102 "EarlyValues" "keptCount" "I") (List.mem_of_getElem? (i := 1) (by decide +kernel))) rfl rfl dX8_keep_16 ?_
    refine r_aald (t := 3) (j := (sV st0)) hx hb w (by decide) (by have := E.1; omega) E.2.2 hkn (by omega) (kpF_in (by omega)) dX8_keep_19 ?_
    refine lv_aload_n hx hb dX8_keep_20 rfl (lv_at hl 0 rfl) ?_
    refine r_get (C := RX8) (T := TX8) (N := 11) (ci := 6) hx hb hts inX8_keep_X8 hown w (by have := E.1; omega) E.2.1 rfl 1 (by decide) (hts (Cond.fieldLink RX8 19 "EarlyValues" "now" "LEarlyValues$Program;") (List.mem_of_getElem? (i := 3) (by decide +kernel))) rfl rfl dX8_keep_21 ?_
    refine r_callV w (va_runV (As := [.ref (g.2.2.1 (x + 12))]) (rest := []) ⟨hx, hb, hml, hown, hts⟩ (c_X3_takeFrom l Pq P (by omega)) (cwV 1 hts gX8_keep_X3_takeFrom rfl rfl rfl (by decide +kernel) ⟨Nat.le_of_ble_eq_true rfl, Nat.le_of_ble_eq_true rfl⟩) (r_preV w (by have := Pq.1; omega) Pq.c0 rfl) rfl rfl hl.1 rfl (lv_room (Nat.le_of_ble_eq_true rfl)) dX8_keep_24 ⟨Nat.zero_le _, Nat.zero_le _⟩) (fun h2 H locs hp w => ?_)
    obtain ⟨hfk3, gak3, gkk3, glk3, gbk3, Pq, hcpk3⟩ := hp
    have E := E.fr (h' := h2) (fun k_ h1_ h2_ h3_ => hfk3 k_ (by omega))
    have P := P.fr (h' := h2) (fun k_ h1_ h2_ => hfk3 k_ (by omega))
    have hfr : ∀ k_, ¬ (k_ = x ∨ (x + 31 + 9 * sV st0 ≤ k_ ∧ k_ < x + 31 + 9 * sV st0 + 9)) → h2 k_ = h k_ := fun k_ hk_ => (hfk3 k_ (by omega))
    refine lv_aload_n hx hb dX8_keep_27 rfl (lv_at hl 0 rfl) ?_
    refine lv_dup hx hb dX8_keep_28 rfl ?_
    refine r_get (C := RX8) (T := TX8) (N := 11) (ci := 6) hx hb hts inX8_keep_X8 hown w (by have := E.1; omega) E.2.1 rfl 4 (by decide) (hts (Cond.fieldLink RX8 102 "EarlyValues" "keptCount" "I") (List.mem_of_getElem? (i := 1) (by decide +kernel))) rfl rfl dX8_keep_29 ?_
    refine lv_iconst (v := 1) hx hb dX8_keep_32 (by decide) ?_
    refine lv_iadd hx hb dX8_keep_33 ?_
    refine lv_topi (fun y4 ey4 => ?_)
    have ty4 : y4.toInt = ((((sV st0) + 1) : Nat) : Int) := i_addN ey4 hkn (by decide : (1 : Int32).toInt = ((1 : Nat) : Int)) (by omega)
    refine r_put (ty := .int) (C := RX8) (T := TX8) (N := 11) (ci := 6) hx hb hts inX8_keep_X8 tyX8 tyX8_ok nmX8 hown w (by have := E.1; omega) E.2.1 rfl 4 (by decide) (hts (Cond.fieldLink RX8 102 "EarlyValues" "keptCount" "I") (List.mem_of_getElem? (i := 1) (by decide +kernel))) rfl rfl (by decide +kernel) rfl rfl (Nat.le_of_ble_eq_true rfl) dX8_keep_34 (fun h5 H locs eh5 w => ?_)
    have E := E.s0 eh5
    have hfr : ∀ k_, ¬ (k_ = x ∨ (x + 31 + 9 * sV st0 ≤ k_ ∧ k_ < x + 31 + 9 * sV st0 + 9)) → h5 k_ = h k_ := fun k_ hk_ => by rw [eh5, va_up_ne _ _ (by omega)]; exact hfr k_ hk_
    have P := P.fr (h' := h5) (fun k_ h1_ h2_ => by rw [eh5, va_up_ne _ _ (by omega)])
    have Pq := Pq.fr (h' := h5) (fun k_ h1_ h2_ => by rw [eh5, va_up_ne _ _ (by omega)])
    refine lv_aload_n hx hb dX8_keep_37 rfl (lv_at hl 0 rfl) ?_
    refine r_get (C := RX8) (T := TX8) (N := 11) (ci := 6) hx hb hts inX8_keep_X8 hown w (by have := E.1; omega) E.2.1 rfl 4 (by decide) (hts (Cond.fieldLink RX8 102 "EarlyValues" "keptCount" "I") (List.mem_of_getElem? (i := 1) (by decide +kernel))) rfl rfl dX8_keep_38 ?_
    refine r_iret (v := y4) hx hb hr hlocks w dX8_keep_41 ?_
    have S2_ := S.cp hP hcpk3
    refine ⟨(fun k_ hk_ => hfr k_ (by omega)), (st0.1, st0.2.1, (sV st0 + 1, fun i => if i = sV st0 then sM st0 else sVs st0 i), st0.2.2.2), ⟨⟨hP, hu8, hUP, by show sV st0 + 1 ≤ 2; omega, ?_, hl200, hlt⟩, ⟨_, E, ty4⟩, (T0.fr (fun k_ a_ b_ => hfr k_ (by omega))), (Q1.fr (fun k_ a_ b_ => hfr k_ (by omega))), ⟨_, _, _, _, _, P, S⟩, (Q2.fr (fun k_ a_ b_ => hfr k_ (by omega))), ?_, ?_, (H0_.fr (fun k_ a_ b_ => hfr k_ (by omega))), (W0.fr (fun k_ a_ b_ => hfr k_ (by omega))), (W1.fr (fun k_ a_ b_ => hfr k_ (by omega))), (W2.fr (fun k_ a_ b_ => hfr k_ (by omega))), (W3.fr (fun k_ a_ b_ => hfr k_ (by omega))), (W4.fr (fun k_ a_ b_ => hfr k_ (by omega)))⟩, Or.inr ⟨by omega, ty4, rfl⟩⟩
    · intro i_ hi_
      have hi2_ : i_ < sV st0 + 1 := hi_
      show PV (if i_ = sV st0 then sM st0 else sVs st0 i_)
      split
      · exact hP
      · exact hVP i_ (by omega)
    · intro i_ hi_
      by_cases q_ : i_ = sV st0
      · rw [q_]; exact ⟨_, _, _, _, _, Pq⟩
      · exact (Q3 i_ hi_).fr (fun k_ a_ b_ => hfr k_ (by omega))
    · intro i_ hi_
      have hi2_ : i_ < sV st0 + 1 := hi_
      show PrE _ _ (x + 31 + 9 * i_) (if i_ = sV st0 then sM st0 else sVs st0 i_)
      by_cases q_ : i_ = sV st0
      · rw [if_pos q_, q_]; exact ⟨_, _, _, _, _, Pq, S2_⟩
      · rw [if_neg q_]; exact (Q4 i_ (by omega)).fr (fun k_ a_ b_ => hfr k_ (by omega))
  · have c1 : ¬ ((((sV st0) : Nat) : Int) < ((2 : Nat) : Int)) := fun q => c1 ((i_lt hkn (by decide : (2 : Int32).toInt = ((2 : Nat) : Int))).mpr q)
    refine lv_bipush (v := (-3)) hx hb dX8_keep_8 (by decide) ?_
    refine r_iret (v := (-3)) hx hb hr hlocks w dX8_keep_10 ?_
    exact ⟨(fun k_ hk_ => hfr k_ (by omega)), st0, ⟨hSV0, ⟨_, E, hkn⟩, (T0.fr (fun k_ a_ b_ => hfr k_ (by omega))), (Q1.fr (fun k_ a_ b_ => hfr k_ (by omega))), ⟨_, _, _, _, _, P, S⟩, (Q2.fr (fun k_ a_ b_ => hfr k_ (by omega))), Q3, Q4, H0_, W0, (W1.fr (fun k_ a_ b_ => hfr k_ (by omega))), (W2.fr (fun k_ a_ b_ => hfr k_ (by omega))), (W3.fr (fun k_ a_ b_ => hfr k_ (by omega))), (W4.fr (fun k_ a_ b_ => hfr k_ (by omega)))⟩, Or.inl ⟨by omega, rfl, rfl⟩⟩

theorem inX8_back_X8 : ∀ w ∈ wsX80, w ∈ wsX8_back := by decide +kernel
abbrev rm_X8_back : Room := { frames := 2, cells := 0, slots := 0, locals := 42 }
set_option maxHeartbeats 4000000 in
set_option maxRecDepth 100000 in
theorem c_X8_back (l : Launch) {g : GE} {h : Nat → va_E} {x : Nat} {st0 : ST} (C : ClsA g h x st0) : MI l yX8_back wsX8_back rm_X8_back [.ref (g.2.2.1 x)] g h (fun r_ h2 => (∀ k, ¬ (x ≤ k ∧ k < x + 143) → h2 k = h k) ∧ ∃ s2 : ST, ClsA g h2 x s2 ∧ AnBack st0 r_ s2) := by
  refine Met.ofW (cc := cX8_back) (maxL := 1) (ret := (some .int)) (by decide) rfl ?_
  intro p e s m args below meth c s₁ B hml hv
  obtain ⟨rfl, w0⟩ := hv
  have hx := B.exec
  have hb := B.bytes
  have hr := B.returns
  have hts := atoms_spec (ws := wsX8_back) B.pre
  have hown : s.vm.findClass RX8 = some m.cls := findClass_of_methodNamed B.named
  have hlocks := B.notSynchronized
  have w := w0.start
  clear w0
  have hl := lv_entry ([.ref (g.2.2.1 x)]) (n := 1) (Nat.le_of_ble_eq_true rfl)
  rw [lg_entry_eq]
  generalize (lg_sl ([.ref (g.2.2.1 x)]) ++ List.replicate (1 - (lg_sl ([.ref (g.2.2.1 x)])).length) Slot.unset).toArray = ls at hl ⊢
  have hl : lv_has ls 1 [(0, .ref (g.2.2.1 x))] := hl
  obtain ⟨hSV, ⟨kn, E, hkn⟩, T0, Q1, P0, Q2, Q3, Q4, H0_, W0, W1, W2, W3, W4⟩ := C
  have hSV0 := hSV
  obtain ⟨hP, hu8, hUP, hv2, hVP, hl200, hlt⟩ := hSV
  have hn4 := hP.2.1
  have hNe := E.1
  obtain ⟨n, ga, gk, gl, gb, P, S⟩ := P0
  have hnS := S.1
  obtain ⟨cK, gf, gp, gq, K, hHis⟩ := H0_
  have hcK := hHis.1
  have hfr : ∀ k_, ¬ (k_ = x ∨ (x + 12 ≤ k_ ∧ k_ < x + 21) ∨ (x + 49 ≤ k_ ∧ k_ < x + 107)) → h k_ = h k_ := fun _ _ => rfl
  refine lv_aload_n hx hb dX8_back_0 rfl (lv_at hl 0 rfl) ?_
  refine r_get (C := RX8) (T := TX8) (N := 11) (ci := 6) hx hb hts inX8_back_X8 hown w (by have := E.1; omega) E.2.1 rfl 4 (by decide) (hts (Cond.fieldLink RX8 102 "EarlyValues" "keptCount" "I") (List.mem_of_getElem? (i := 1) (by decide +kernel))) rfl rfl dX8_back_1 ?_
  refine lv_if_le (tgt := 15) hx hb dX8_back_4 (by decide) (fun c1 => ?_) (fun c1 => ?_)
  · have c1 : (((sV st0) : Nat) : Int) ≤ (0 : Int) := (i_le hkn (rfl : (0 : Int32).toInt = 0)).mp c1
    refine lv_bipush (v := (-2)) hx hb dX8_back_15 (by decide) ?_
    refine r_iret (v := (-2)) hx hb hr hlocks w dX8_back_17 ?_
    exact ⟨(fun k_ hk_ => hfr k_ (by omega)), st0, ⟨hSV0, ⟨_, E, hkn⟩, (T0.fr (fun k_ a_ b_ => hfr k_ (by omega))), (Q1.fr (fun k_ a_ b_ => hfr k_ (by omega))), ⟨_, _, _, _, _, P, S⟩, (Q2.fr (fun k_ a_ b_ => hfr k_ (by omega))), (fun i_ hi_ => (Q3 i_ hi_).fr (fun k_ a_ b_ => hfr k_ (by omega))), (fun i_ (hi_ : i_ < sV st0) => (Q4 i_ hi_).fr (fun k_ a_ b_ => hfr k_ (by omega))), ⟨_, _, _, _, K, hHis⟩, W0, W1, W2, (W3.fr (fun k_ a_ b_ => hfr k_ (by omega))), (W4.fr (fun k_ a_ b_ => hfr k_ (by omega)))⟩, Or.inl ⟨by omega, rfl, rfl⟩⟩
  · have c1 : ¬ ((((sV st0) : Nat) : Int) ≤ (0 : Int)) := fun q => c1 ((i_le hkn (rfl : (0 : Int32).toInt = 0)).mpr q)
    refine lv_aload_n hx hb dX8_back_7 rfl (lv_at hl 0 rfl) ?_
    refine r_get (C := RX8) (T := TX8) (N := 11) (ci := 6) hx hb hts inX8_back_X8 hown w (by have := E.1; omega) E.2.1 rfl 4 (by decide) (hts (Cond.fieldLink RX8 102 "EarlyValues" "keptCount" "I") (List.mem_of_getElem? (i := 1) (by decide +kernel))) rfl rfl dX8_back_8 ?_
    refine lv_iconst (v := 2) hx hb dX8_back_11 (by decide) ?_
    refine lv_icmp_le (tgt := 18) hx hb dX8_back_12 (by decide) (fun c2 => ?_) (fun c2 => ?_)
    · have c2 : (((sV st0) : Nat) : Int) ≤ ((2 : Nat) : Int) := (i_le hkn (by decide : (2 : Int32).toInt = ((2 : Nat) : Int))).mp c2
      obtain ⟨qn, qa, qk, ql, qb, Pq, Sq⟩ := Q4 (sV st0 - 1) (by omega)
      refine lv_aload_n hx hb dX8_back_18 rfl (lv_at hl 0 rfl) ?_
      refine lv_dup hx hb dX8_back_19 rfl ?_
      refine r_get (C := RX8) (T := TX8) (N := 11) (ci := 6) hx hb hts inX8_back_X8 hown w (by have := E.1; omega) E.2.1 rfl 4 (by decide) (hts (Cond.fieldLink RX8 102 "EarlyValues" "keptCount" "I") (List.mem_of_getElem? (i := 1) (by decide +kernel))) rfl rfl dX8_back_20 ?_
      refine lv_iconst (v := 1) hx hb dX8_back_23 (by decide) ?_
      refine lv_isub hx hb dX8_back_24 ?_
      refine lv_topi (fun y3 ey3 => ?_)
      have ty3 : y3.toInt = ((((sV st0) - 1) : Nat) : Int) := i_subN ey3 hkn (by decide : (1 : Int32).toInt = ((1 : Nat) : Int)) (by omega)
      refine r_put (ty := .int) (C := RX8) (T := TX8) (N := 11) (ci := 6) hx hb hts inX8_back_X8 tyX8 tyX8_ok nmX8 hown w (by have := E.1; omega) E.2.1 rfl 4 (by decide) (hts (Cond.fieldLink RX8 102 "EarlyValues" "keptCount" "I") (List.mem_of_getElem? (i := 1) (by decide +kernel))) rfl rfl (by decide +kernel) rfl rfl (Nat.le_of_ble_eq_true rfl) dX8_back_25 (fun h4 H locs eh4 w => ?_)
      have E := E.s0 eh4
      have hfr : ∀ k_, ¬ (k_ = x ∨ (x + 12 ≤ k_ ∧ k_ < x + 21) ∨ (x + 49 ≤ k_ ∧ k_ < x + 107)) → h4 k_ = h k_ := fun k_ hk_ => by rw [eh4, va_up_ne _ _ (by omega)]
      have P := P.fr (h' := h4) (fun k_ h1_ h2_ => by rw [eh4, va_up_ne _ _ (by omega)])
      have K := K.fr (h' := h4) (fun k_ h1_ h2_ => by rw [eh4, va_up_ne _ _ (by omega)])
      have W0 := W0.fr (h' := h4) (fun k_ h1_ h2_ => by rw [eh4, va_up_ne _ _ (by omega)])
      have W1 := W1.fr (h' := h4) (fun k_ h1_ h2_ => by rw [eh4, va_up_ne _ _ (by omega)])
      have W2 := W2.fr (h' := h4) (fun k_ h1_ h2_ => by rw [eh4, va_up_ne _ _ (by omega)])
      have Pq := Pq.fr (h' := h4) (fun k_ h1_ h2_ => by rw [eh4, va_up_ne _ _ (by omega)])
      refine lv_aload_n hx hb dX8_back_28 rfl (lv_at hl 0 rfl) ?_
      refine r_get (C := RX8) (T := TX8) (N := 11) (ci := 6) hx hb hts inX8_back_X8 hown w (by have := E.1; omega) E.2.1 rfl 1 (by decide) (hts (Cond.fieldLink RX8 19 "EarlyValues" "now" "LEarlyValues$Program;") (List.mem_of_getElem? (i := 2) (by decide +kernel))) rfl rfl dX8_back_29 ?_
      refine lv_aload_n hx hb dX8_back_32 rfl (lv_at hl 0 rfl) ?_
      refine r_get (C := RX8) (T := TX8) (N := 11) (ci := 6) hx hb hts inX8_back_X8 hown w (by have := E.1; omega) E.2.1 rfl 3 (by decide) (hts (Cond.fieldLink RX8 26 "EarlyValues" "kept" "[LEarlyValues$Program;") (List.mem_of_getElem? (i := 3) (by decide +kernel))) rfl rfl dX8_back_33 ?_
      refine lv_aload_n hx hb dX8_back_36 rfl (lv_at hl 0 rfl) ?_
      refine r_get (C := RX8) (T := TX8) (N := 11) (ci := 6) hx hb hts inX8_back_X8 hown w (by have := E.1; omega) E.2.1 rfl 4 (by decide) (hts (Cond.fieldLink RX8 102 "EarlyValues" "keptCount" "I") (List.mem_of_getElem? (i := 1) (by decide +kernel))) rfl rfl dX8_back_37 ?_
      refine r_aald (t := 3) (j := ((sV st0) - 1)) hx hb w (by decide) (by have := E.1; omega) E.2.2 ty3 (by omega) (kpF_in (by omega)) dX8_back_40 ?_
      refine r_callV w (va_runV (As := [.ref (g.2.2.1 (x + 31 + 9 * ((sV st0) - 1)))]) (rest := []) ⟨hx, hb, hml, hown, hts⟩ (c_X3_takeFrom l P Pq (by omega)) (cwV 1 hts gX8_back_X3_takeFrom rfl rfl rfl (by decide +kernel) ⟨Nat.le_of_ble_eq_true rfl, Nat.le_of_ble_eq_true rfl⟩) (r_preV w (by have := P.1; omega) P.c0 rfl) rfl rfl hl.1 rfl (lv_room (Nat.le_of_ble_eq_true rfl)) dX8_back_41 ⟨Nat.zero_le _, Nat.zero_le _⟩) (fun h5 H locs hp w => ?_)
      obtain ⟨hfk6, gak6, gkk6, glk6, gbk6, P, hcpk6⟩ := hp
      have E := E.fr (h' := h5) (fun k_ h1_ h2_ h3_ => hfk6 k_ (by omega))
      have K := K.fr (h' := h5) (fun k_ h1_ h2_ => hfk6 k_ (by omega))
      have W0 := W0.fr (h' := h5) (fun k_ h1_ h2_ => hfk6 k_ (by omega))
      have W1 := W1.fr (h' := h5) (fun k_ h1_ h2_ => hfk6 k_ (by omega))
      have W2 := W2.fr (h' := h5) (fun k_ h1_ h2_ => hfk6 k_ (by omega))
      have Pq := Pq.fr (h' := h5) (fun k_ h1_ h2_ => hfk6 k_ (by omega))
      have hfr : ∀ k_, ¬ (k_ = x ∨ (x + 12 ≤ k_ ∧ k_ < x + 21) ∨ (x + 49 ≤ k_ ∧ k_ < x + 107)) → h5 k_ = h k_ := fun k_ hk_ => (hfk6 k_ (by omega)).trans (hfr k_ hk_)
      refine lv_aload_n hx hb dX8_back_44 rfl (lv_at hl 0 rfl) ?_
      refine r_get (C := RX8) (T := TX8) (N := 11) (ci := 6) hx hb hts inX8_back_X8 hown w (by have := E.1; omega) E.2.1 rfl 5 (by decide) (hts (Cond.fieldLink RX8 33 "EarlyValues" "history" "LEarlyValues$History;") (List.mem_of_getElem? (i := 4) (by decide +kernel))) rfl rfl dX8_back_45 ?_
      refine r_callV w (va_runV (As := []) (rest := []) ⟨hx, hb, hml, hown, hts⟩ (c_X1_clear l K) (cwV 0 hts gX8_back_X1_clear rfl rfl rfl (by decide +kernel) ⟨Nat.le_of_ble_eq_true rfl, Nat.le_of_ble_eq_true rfl⟩) (r_preV w (by have := K.1; omega) K.2.1 rfl) rfl rfl hl.1 rfl (lv_room (Nat.le_of_ble_eq_true rfl)) dX8_back_48 ⟨Nat.zero_le _, Nat.zero_le _⟩) (fun h7 H locs hp w => ?_)
      obtain ⟨hfk8, K⟩ := hp
      have E := E.fr (h' := h7) (fun k_ h1_ h2_ h3_ => hfk8 k_ (by omega))
      have P := P.fr (h' := h7) (fun k_ h1_ h2_ => hfk8 k_ (by omega))
      have W0 := W0.fr (h' := h7) (fun k_ h1_ h2_ => hfk8 k_ (by omega))
      have W1 := W1.fr (h' := h7) (fun k_ h1_ h2_ => hfk8 k_ (by omega))
      have W2 := W2.fr (h' := h7) (fun k_ h1_ h2_ => hfk8 k_ (by omega))
      have Pq := Pq.fr (h' := h7) (fun k_ h1_ h2_ => hfk8 k_ (by omega))
      have hfr : ∀ k_, ¬ (k_ = x ∨ (x + 12 ≤ k_ ∧ k_ < x + 21) ∨ (x + 49 ≤ k_ ∧ k_ < x + 107)) → h7 k_ = h k_ := fun k_ hk_ => (hfk8 k_ (by omega)).trans (hfr k_ hk_)
      refine lv_aload_n hx hb dX8_back_51 rfl (lv_at hl 0 rfl) ?_
      refine r_callV w (va_runV (As := []) (rest := []) ⟨hx, hb, hml, hown, hts⟩ (c_X8_forgetViews l E W0.any W1.any W2.any) (cwV 0 hts gX8_back_X8_forgetViews rfl rfl rfl (by decide +kernel) ⟨Nat.le_of_ble_eq_true rfl, Nat.le_of_ble_eq_true rfl⟩) (r_preV w (by have := E.1; omega) E.2.1 rfl) rfl rfl hl.1 rfl (lv_room (Nat.le_of_ble_eq_true rfl)) dX8_back_52 ⟨Nat.zero_le _, Nat.zero_le _⟩) (fun h9 H locs hp w => ?_)
      obtain ⟨hfk10, W0, W1, W2⟩ := hp
      have E := E.fr (h' := h9) (fun k_ h1_ h2_ h3_ => hfk10 k_ (by omega))
      have P := P.fr (h' := h9) (fun k_ h1_ h2_ => hfk10 k_ (by omega))
      have K := K.fr (h' := h9) (fun k_ h1_ h2_ => hfk10 k_ (by omega))
      have Pq := Pq.fr (h' := h9) (fun k_ h1_ h2_ => hfk10 k_ (by omega))
      have hfr : ∀ k_, ¬ (k_ = x ∨ (x + 12 ≤ k_ ∧ k_ < x + 21) ∨ (x + 49 ≤ k_ ∧ k_ < x + 107)) → h9 k_ = h k_ := fun k_ hk_ => (hfk10 k_ (by omega)).trans (hfr k_ hk_)
      refine lv_aload_n hx hb dX8_back_55 rfl (lv_at hl 0 rfl) ?_
      refine r_get (C := RX8) (T := TX8) (N := 11) (ci := 6) hx hb hts inX8_back_X8 hown w (by have := E.1; omega) E.2.1 rfl 4 (by decide) (hts (Cond.fieldLink RX8 102 "EarlyValues" "keptCount" "I") (List.mem_of_getElem? (i := 1) (by decide +kernel))) rfl rfl dX8_back_56 ?_
      refine r_iret (v := y3) hx hb hr hlocks w dX8_back_59 ?_
      have hPu_ := hVP (sV st0 - 1) (by omega)
      have S2_ := Sq.cp hPu_ hcpk6
      exact ⟨(fun k_ hk_ => hfr k_ (by omega)), (sVs st0 (sV st0 - 1), (0, sUs st0), (sV st0 - 1, sVs st0), st0.2.2.2), ⟨⟨hPu_, by show 0 ≤ 8; omega, fun i_ hi_ => absurd hi_ (Nat.not_lt_zero _), by show sV st0 - 1 ≤ 2; omega, fun i_ hi_ => hVP i_ (by have hi2_ : i_ < sV st0 - 1 := hi_; omega), hl200, hlt⟩, ⟨_, E, ty3⟩, (T0.fr (fun k_ a_ b_ => hfr k_ (by omega))), (Q1.fr (fun k_ a_ b_ => hfr k_ (by omega))), ⟨_, _, _, _, _, P, S2_⟩, (Q2.fr (fun k_ a_ b_ => hfr k_ (by omega))), (fun i_ hi_ => (Q3 i_ hi_).fr (fun k_ a_ b_ => hfr k_ (by omega))), (fun i_ hi_ => (Q4 i_ (by have hi2_ : i_ < sV st0 - 1 := hi_; omega)).fr (fun k_ a_ b_ => hfr k_ (by have hi2_ : i_ < sV st0 - 1 := hi_; omega))), ⟨_, _, _, _, K, his_0 rfl⟩, W0.e, W1.e, W2.e, (W3.fr (fun k_ a_ b_ => hfr k_ (by omega))), (W4.fr (fun k_ a_ b_ => hfr k_ (by omega)))⟩, Or.inr ⟨by omega, ty3, rfl⟩⟩
    · have c2 : ¬ ((((sV st0) : Nat) : Int) ≤ ((2 : Nat) : Int)) := fun q => c2 ((i_le hkn (by decide : (2 : Int32).toInt = ((2 : Nat) : Int))).mpr q)
      refine lv_bipush (v := (-2)) hx hb dX8_back_15 (by decide) ?_
      refine r_iret (v := (-2)) hx hb hr hlocks w dX8_back_17 ?_
      exact ⟨(fun k_ hk_ => hfr k_ (by omega)), st0, ⟨hSV0, ⟨_, E, hkn⟩, (T0.fr (fun k_ a_ b_ => hfr k_ (by omega))), (Q1.fr (fun k_ a_ b_ => hfr k_ (by omega))), ⟨_, _, _, _, _, P, S⟩, (Q2.fr (fun k_ a_ b_ => hfr k_ (by omega))), (fun i_ hi_ => (Q3 i_ hi_).fr (fun k_ a_ b_ => hfr k_ (by omega))), (fun i_ (hi_ : i_ < sV st0) => (Q4 i_ hi_).fr (fun k_ a_ b_ => hfr k_ (by omega))), ⟨_, _, _, _, K, hHis⟩, W0, W1, W2, (W3.fr (fun k_ a_ b_ => hfr k_ (by omega))), (W4.fr (fun k_ a_ b_ => hfr k_ (by omega)))⟩, Or.inl ⟨by omega, rfl, rfl⟩⟩

theorem inX8_count_X1 : ∀ w ∈ wsX10, w ∈ wsX8_count := by decide +kernel
theorem inX8_count_X3 : ∀ w ∈ wsX30, w ∈ wsX8_count := by decide +kernel
theorem inX8_count_X5 : ∀ w ∈ wsX50, w ∈ wsX8_count := by decide +kernel
theorem inX8_count_X8 : ∀ w ∈ wsX80, w ∈ wsX8_count := by decide +kernel
abbrev rm_X8_count : Room := { frames := 1, cells := 0, slots := 0, locals := 23 }
set_option maxHeartbeats 4000000 in
set_option maxRecDepth 100000 in
theorem c_X8_count (l : Launch) {g : GE} {h : Nat → va_E} {x : Nat} {st0 : ST} (C : ClsA g h x st0) (p0 : Int32) : MI l yX8_count wsX8_count rm_X8_count [.ref (g.2.2.1 x), .int p0] g h (fun r_ h2 => h2 = h ∧ AnCount st0 p0 r_) := by
  refine Met.ofW (cc := cX8_count) (maxL := 2) (ret := (some .int)) (by decide) rfl ?_
  intro p e s m args below meth c s₁ B hml hv
  obtain ⟨rfl, w0⟩ := hv
  have hx := B.exec
  have hb := B.bytes
  have hr := B.returns
  have hts := atoms_spec (ws := wsX8_count) B.pre
  have hown : s.vm.findClass RX8 = some m.cls := findClass_of_methodNamed B.named
  have hlocks := B.notSynchronized
  have w := w0.start
  clear w0
  have hl := lv_entry ([.ref (g.2.2.1 x), .int p0]) (n := 2) (Nat.le_of_ble_eq_true rfl)
  rw [lg_entry_eq]
  generalize (lg_sl ([.ref (g.2.2.1 x), .int p0]) ++ List.replicate (2 - (lg_sl ([.ref (g.2.2.1 x), .int p0])).length) Slot.unset).toArray = ls at hl ⊢
  have hl : lv_has ls 2 [(0, .ref (g.2.2.1 x)), (1, .int p0)] := hl
  obtain ⟨hSV, ⟨kn, E, hkn⟩, T0, Q1, P0, Q2, Q3, Q4, H0_, W0, W1, W2, W3, W4⟩ := C
  have hSV0 := hSV
  obtain ⟨hP, hu8, hUP, hv2, hVP, hl200, hlt⟩ := hSV
  have hn4 := hP.2.1
  have hNe := E.1
  obtain ⟨ln, at_, bd, gs, T, hsz, hgx⟩ := T0
  obtain ⟨n, ga, gk, gl, gb, P, S⟩ := P0
  have hnS := S.1
  obtain ⟨cK, gf, gp, gq, K, hHis⟩ := H0_
  have hcK := hHis.1
  refine lv_iload_n hx hb dX8_count_0 rfl (lv_at hl 1 rfl) ?_
  rcases (show (p0.toInt < 0 ∨ 5 < p0.toInt) ∨ p0.toInt = 0 ∨ p0.toInt = 1 ∨ p0.toInt = 2 ∨ p0.toInt = 3 ∨ p0.toInt = 4 ∨ p0.toInt = 5 by omega) with c1 | c1 | c1 | c1 | c1 | c1 | c1
  · refine lv_tableOut (tgt := 99) hx hb dX8_count_1 (by rw [(rfl : p0.toInt = p0.toInt)]; exact c1) (by decide) ?_
    refine lv_iconst (v := (-1)) hx hb dX8_count_99 (by decide) ?_
    refine r_iret (v := (-1)) hx hb hr hlocks w dX8_count_100 ?_
    refine ⟨rfl, ?_⟩
    unfold AnCount
    exact Or.inr (Or.inr (Or.inr (Or.inr (Or.inr (Or.inr ⟨by omega, rfl⟩)))))
  · refine lv_tableIn (off := 39) (tgt := 40) hx hb dX8_count_1 (by rw [(rfl : p0.toInt = p0.toInt)]; omega) (by rw [(rfl : p0.toInt = p0.toInt)]; omega) (by rw [(rfl : p0.toInt = p0.toInt), c1]; rfl) (by decide) ?_
    refine lv_aload_n hx hb dX8_count_40 rfl (lv_at hl 0 rfl) ?_
    refine r_get (C := RX8) (T := TX8) (N := 11) (ci := 6) hx hb hts inX8_count_X8 hown w (by have := E.1; omega) E.2.1 rfl 1 (by decide) (hts (Cond.fieldLink RX8 19 "EarlyValues" "now" "LEarlyValues$Program;") (List.mem_of_getElem? (i := 1) (by decide +kernel))) rfl rfl dX8_count_41 ?_
    refine r_get (C := RX3) (T := TX3) (N := 5) (ci := 2) hx hb hts inX8_count_X3 hown w (by have := P.1; omega) P.c0 rfl 0 (by decide) (hts (Cond.fieldLink RX8 108 "EarlyValues$Program" "functions" "I") (List.mem_of_getElem? (i := 2) (by decide +kernel))) rfl rfl dX8_count_44 ?_
    refine r_iret (v := n) hx hb hr hlocks w dX8_count_47 ?_
    refine ⟨rfl, ?_⟩
    unfold AnCount
    exact Or.inl ⟨by omega, S.1⟩
  · refine lv_tableIn (off := 47) (tgt := 48) hx hb dX8_count_1 (by rw [(rfl : p0.toInt = p0.toInt)]; omega) (by rw [(rfl : p0.toInt = p0.toInt)]; omega) (by rw [(rfl : p0.toInt = p0.toInt), c1]; rfl) (by decide) ?_
    refine lv_aload_n hx hb dX8_count_48 rfl (lv_at hl 0 rfl) ?_
    refine r_get (C := RX8) (T := TX8) (N := 11) (ci := 6) hx hb hts inX8_count_X8 hown w (by have := E.1; omega) E.2.1 rfl 1 (by decide) (hts (Cond.fieldLink RX8 19 "EarlyValues" "now" "LEarlyValues$Program;") (List.mem_of_getElem? (i := 1) (by decide +kernel))) rfl rfl dX8_count_49 ?_
    refine lv_aload_n hx hb dX8_count_52 rfl (lv_at hl 0 rfl) ?_
    refine r_get (C := RX8) (T := TX8) (N := 11) (ci := 6) hx hb hts inX8_count_X8 hown w (by have := E.1; omega) E.2.1 rfl 1 (by decide) (hts (Cond.fieldLink RX8 19 "EarlyValues" "now" "LEarlyValues$Program;") (List.mem_of_getElem? (i := 1) (by decide +kernel))) rfl rfl dX8_count_53 ?_
    refine r_get (C := RX3) (T := TX3) (N := 5) (ci := 2) hx hb hts inX8_count_X3 hown w (by have := P.1; omega) P.c0 rfl 3 (by decide) (hts (Cond.fieldLink RX8 122 "EarlyValues$Program" "lengths" "[I") (List.mem_of_getElem? (i := 3) (by decide +kernel))) rfl rfl dX8_count_56 ?_
    refine r_callI w (va_runV (As := [.ref (g.2.2.1 ((x + 12) + 3))]) (rest := []) ⟨hx, hb, hml, hown, hts⟩ (c_X3_allOf l P ⟨by omega, P.c3⟩ (z := pL (sM st0)) S.1 hn4 (fun i_ hi_ => ⟨(S.2.2.2.1 i_ hi_), (hP.2.2 i_ hi_).2.2.2.1⟩)) (cwV 1 hts gX8_count_X3_allOf rfl rfl rfl (by decide +kernel) ⟨Nat.le_of_ble_eq_true rfl, Nat.le_of_ble_eq_true rfl⟩) (r_preV w (by have := P.1; omega) P.c0 rfl) rfl rfl hl.1 rfl (lv_room (Nat.le_of_ble_eq_true rfl)) dX8_count_59 ⟨Nat.zero_le _, Nat.zero_le _⟩) (fun r3 h2 H locs hp w => ?_)
    obtain ⟨eh_, qq4⟩ := hp
    have eh_ := eh_.symm
    subst eh_
    refine r_iret (v := r3) hx hb hr hlocks w dX8_count_62 ?_
    refine ⟨rfl, ?_⟩
    unfold AnCount
    exact Or.inr (Or.inl ⟨by omega, qq4⟩)
  · refine lv_tableIn (off := 62) (tgt := 63) hx hb dX8_count_1 (by rw [(rfl : p0.toInt = p0.toInt)]; omega) (by rw [(rfl : p0.toInt = p0.toInt)]; omega) (by rw [(rfl : p0.toInt = p0.toInt), c1]; rfl) (by decide) ?_
    refine lv_aload_n hx hb dX8_count_63 rfl (lv_at hl 0 rfl) ?_
    refine r_get (C := RX8) (T := TX8) (N := 11) (ci := 6) hx hb hts inX8_count_X8 hown w (by have := E.1; omega) E.2.1 rfl 1 (by decide) (hts (Cond.fieldLink RX8 19 "EarlyValues" "now" "LEarlyValues$Program;") (List.mem_of_getElem? (i := 1) (by decide +kernel))) rfl rfl dX8_count_64 ?_
    refine lv_aload_n hx hb dX8_count_67 rfl (lv_at hl 0 rfl) ?_
    refine r_get (C := RX8) (T := TX8) (N := 11) (ci := 6) hx hb hts inX8_count_X8 hown w (by have := E.1; omega) E.2.1 rfl 1 (by decide) (hts (Cond.fieldLink RX8 19 "EarlyValues" "now" "LEarlyValues$Program;") (List.mem_of_getElem? (i := 1) (by decide +kernel))) rfl rfl dX8_count_68 ?_
    refine r_get (C := RX3) (T := TX3) (N := 5) (ci := 2) hx hb hts inX8_count_X3 hown w (by have := P.1; omega) P.c0 rfl 1 (by decide) (hts (Cond.fieldLink RX8 119 "EarlyValues$Program" "arguments" "[I") (List.mem_of_getElem? (i := 4) (by decide +kernel))) rfl rfl dX8_count_71 ?_
    refine r_callI w (va_runV (As := [.ref (g.2.2.1 ((x + 12) + 1))]) (rest := []) ⟨hx, hb, hml, hown, hts⟩ (c_X3_allOf l P ⟨by omega, P.c1⟩ (z := pA (sM st0)) S.1 hn4 (fun i_ hi_ => ⟨(S.2.1 i_ hi_), by have := (hP.2.2 i_ hi_).1; omega⟩)) (cwV 1 hts gX8_count_X3_allOf rfl rfl rfl (by decide +kernel) ⟨Nat.le_of_ble_eq_true rfl, Nat.le_of_ble_eq_true rfl⟩) (r_preV w (by have := P.1; omega) P.c0 rfl) rfl rfl hl.1 rfl (lv_room (Nat.le_of_ble_eq_true rfl)) dX8_count_74 ⟨Nat.zero_le _, Nat.zero_le _⟩) (fun r6 h5 H locs hp w => ?_)
    obtain ⟨eh_, qq7⟩ := hp
    have eh_ := eh_.symm
    subst eh_
    refine r_iret (v := r6) hx hb hr hlocks w dX8_count_77 ?_
    refine ⟨rfl, ?_⟩
    unfold AnCount
    exact Or.inr (Or.inr (Or.inl ⟨by omega, qq7⟩))
  · refine lv_tableIn (off := 77) (tgt := 78) hx hb dX8_count_1 (by rw [(rfl : p0.toInt = p0.toInt)]; omega) (by rw [(rfl : p0.toInt = p0.toInt)]; omega) (by rw [(rfl : p0.toInt = p0.toInt), c1]; rfl) (by decide) ?_
    refine lv_aload_n hx hb dX8_count_78 rfl (lv_at hl 0 rfl) ?_
    refine r_get (C := RX8) (T := TX8) (N := 11) (ci := 6) hx hb hts inX8_count_X8 hown w (by have := E.1; omega) E.2.1 rfl 5 (by decide) (hts (Cond.fieldLink RX8 33 "EarlyValues" "history" "LEarlyValues$History;") (List.mem_of_getElem? (i := 5) (by decide +kernel))) rfl rfl dX8_count_79 ?_
    refine r_get (C := RX1) (T := TX1) (N := 4) (ci := 1) hx hb hts inX8_count_X1 hown w (by have := K.1; omega) K.2.1 rfl 3 (by decide) (hts (Cond.fieldLink RX8 149 "EarlyValues$History" "count" "I") (List.mem_of_getElem? (i := 6) (by decide +kernel))) rfl rfl dX8_count_82 ?_
    refine r_iret (v := cK) hx hb hr hlocks w dX8_count_85 ?_
    refine ⟨rfl, ?_⟩
    unfold AnCount
    exact Or.inr (Or.inr (Or.inr (Or.inl ⟨by omega, hcK⟩)))
  · refine lv_tableIn (off := 85) (tgt := 86) hx hb dX8_count_1 (by rw [(rfl : p0.toInt = p0.toInt)]; omega) (by rw [(rfl : p0.toInt = p0.toInt)]; omega) (by rw [(rfl : p0.toInt = p0.toInt), c1]; rfl) (by decide) ?_
    refine lv_aload_n hx hb dX8_count_86 rfl (lv_at hl 0 rfl) ?_
    refine r_get (C := RX8) (T := TX8) (N := 11) (ci := 6) hx hb hts inX8_count_X8 hown w (by have := E.1; omega) E.2.1 rfl 4 (by decide) (hts (Cond.fieldLink RX8 102 "EarlyValues" "keptCount" "I") (List.mem_of_getElem? (i := 7) (by decide +kernel))) rfl rfl dX8_count_87 ?_
    refine r_iret (v := kn) hx hb hr hlocks w dX8_count_90 ?_
    refine ⟨rfl, ?_⟩
    unfold AnCount
    exact Or.inr (Or.inr (Or.inr (Or.inr (Or.inl ⟨by omega, hkn⟩))))
  · refine lv_tableIn (off := 90) (tgt := 91) hx hb dX8_count_1 (by rw [(rfl : p0.toInt = p0.toInt)]; omega) (by rw [(rfl : p0.toInt = p0.toInt)]; omega) (by rw [(rfl : p0.toInt = p0.toInt), c1]; rfl) (by decide) ?_
    refine lv_aload_n hx hb dX8_count_91 rfl (lv_at hl 0 rfl) ?_
    refine r_get (C := RX8) (T := TX8) (N := 11) (ci := 6) hx hb hts inX8_count_X8 hown w (by have := E.1; omega) E.2.1 rfl 0 (by decide) (hts (Cond.fieldLink RX8 10 "EarlyValues" "text" "LEarlyValues$Text;") (List.mem_of_getElem? (i := 8) (by decide +kernel))) rfl rfl dX8_count_92 ?_
    refine r_get (C := RX5) (T := TX5) (N := 5) (ci := 4) hx hb hts inX8_count_X5 hown w (by have := T.1; omega) T.2.1 rfl 1 (by decide) (hts (Cond.fieldLink RX8 94 "EarlyValues$Text" "length" "I") (List.mem_of_getElem? (i := 9) (by decide +kernel))) rfl rfl dX8_count_95 ?_
    refine r_iret (v := ln) hx hb hr hlocks w dX8_count_98 ?_
    refine ⟨rfl, ?_⟩
    unfold AnCount
    exact Or.inr (Or.inr (Or.inr (Or.inr (Or.inr (Or.inl ⟨by omega, hsz⟩)))))

