theorem fc_int {g : GE} {A : Nat → Prop} {s : State} {h : Nat → va_E} {H : Heap} {locs : List Loc} (w : WD g A s h H locs) : s.vm.findClass (FieldType.array .int).toString = some (g.2.1 0) := (w.1.2 0 _ rfl).2
theorem fc_byte {g : GE} {A : Nat → Prop} {s : State} {h : Nat → va_E} {H : Heap} {locs : List Loc} (w : WD g A s h H locs) : s.vm.findClass (FieldType.array .byte).toString = some (g.2.1 2) := (w.1.2 2 _ rfl).2
theorem inner_int (K : Nat) : ∀ c : ClassId, Jvm.Free.Multi.innerC c K (defaultValue .int) = vp_cell c (K, .inl (fun _ => 0)) := fun c => by
  show ({ cls := c, slots := Array.replicate K (.int 0), vm := .none } : Cell) = arrV c K (fun _ => .int 0)
  exact arrV_new _ _ _
theorem inner_byte (K : Nat) : ∀ c : ClassId, Jvm.Free.Multi.innerC c K (defaultValue .byte) = vp_cell c (K, .inl (fun _ => 0)) := fun c => by
  show ({ cls := c, slots := Array.replicate K (.int 0), vm := .none } : Cell) = arrV c K (fun _ => .int 0)
  exact arrV_new _ _ _
theorem inX3_init_X3 : ∀ w ∈ wsX30, w ∈ wsX3_init := by decide +kernel
abbrev rm_X3_init : Room := { frames := 1, cells := 8, slots := 112, locals := 13 }
set_option maxHeartbeats 8000000 in
set_option maxRecDepth 100000 in
theorem c_X3_init (l : Launch) {g0 : GE} {h0 : Nat → va_E} {sz o : Nat} (ho : o + 1 = g0.2.2.2) (hO : h0 o = .inr (2, [.int 0, .null, .null, .null, .null])) : MN l yX3_init wsX3_init rm_X3_init [.ref (g0.2.2.1 o)] g0 h0 sz (fun u_ : GE × (Nat → va_E) => (fun g2 h2 => g2.2.2.2 = o + 9 ∧ (∀ k, k < o → h2 k = h0 k) ∧ PrX g2 h2 o) u_.1 u_.2) (8) (112) := by
  refine Met.ofW (cc := cX3_init) (maxL := 1) (ret := none) (by decide) rfl ?_
  intro p e s m args below meth c s₁ B hml hv
  obtain ⟨rfl, hPN⟩ := hv
  have hx := B.exec
  have hb := B.bytes
  have hr := B.returns
  have hts := atoms_spec (ws := wsX3_init) B.pre
  have hown : s.vm.findClass RX3 = some m.cls := findClass_of_methodNamed B.named
  have hlocks := B.notSynchronized
  have hin2 : meth.name = "<init>" := (name_of_methodNamed B.named B.method).1
  have hsz : s.heap.size = sz := hPN.1
  subst hsz
  obtain ⟨w, hX, hA⟩ := hPN.start
  have hl := lv_entry ([.ref (g0.2.2.1 o)]) (n := 1) (Nat.le_of_ble_eq_true rfl)
  rw [lg_entry_eq]
  generalize (lg_sl ([.ref (g0.2.2.1 o)]) ++ List.replicate (1 - (lg_sl ([.ref (g0.2.2.1 o)])).length) Slot.unset).toArray = ls at hl ⊢
  have hl : lv_has ls 1 [(0, .ref (g0.2.2.1 o))] := hl
  obtain ⟨g, hg9⟩ : ∃ g_ : GE, g_ = g0 := ⟨_, rfl⟩
  obtain ⟨h, hh9⟩ : ∃ h_ : Nat → va_E, h_ = h0 := ⟨_, rfl⟩
  have hfr : ∀ k_, k_ < o → h k_ = h0 k_ := fun _ _ => by rw [hh9]
  have hE0 : Ext g0 g := by rw [hg9]; exact Ext.rf
  have w : WD g (inA g0 s.heap.size) s h s.heap [] := by rw [hg9, hh9]; exact w
  have hl : lv_has ls 1 [(0, .ref (g.2.2.1 o))] := by rw [hg9]; exact hl
  have hO : h o = .inr (2, [.int 0, .null, .null, .null, .null]) := by rw [hh9]; (try rw [hg9]); exact hO
  have hN : g.2.2.2 = o + 1 := by rw [hg9]; omega
  refine lv_aload_n hx hb dX3_init_0 rfl (lv_at hl 0 rfl) ?_
  refine W.objInit hx hb hown (hts (Cond.methodLink RX3 1 objectInit) (List.mem_of_getElem? (i := 1) (by decide +kernel))) (hts (Cond.instanceMethod objectInit) (List.mem_of_getElem? (i := 2) (by decide +kernel))) (hts (Cond.code objectInit ⟨#[0xb1]⟩ 1 none) (List.mem_of_getElem? (i := 3) (by decide +kernel))) rfl (by rw [hml]; exact hl.1) rfl dX3_init_1 (Nat.le_of_ble_eq_true rfl) (Nat.le_of_ble_eq_true rfl) ?_
  refine W.eq (g2 := F0 m 4 ls []) rfl ?_
  refine lv_aload_n hx hb dX3_init_4 rfl (lv_at hl 0 rfl) ?_
  refine lv_iconst (v := 4) hx hb dX3_init_5 (by decide) ?_
  refine r_newi hx hb (hts (Cond.arrayClass .int) (List.mem_of_getElem? (i := 4) (by decide +kernel))) w hA (by decide : (4 : Int32).toInt = ((4 : Nat) : Int)) (Nat.le_of_ble_eq_true rfl) (Nat.le_of_ble_eq_true rfl) (Nat.le_of_ble_eq_true rfl) dX3_init_6 (fun g1 h2 H hEk3 hNk3 hfk3 hck3 w2_ => ?_)
  replace w := w2_
  clear w2_
  rw [hN] at hck3 hNk3 hfk3
  rw [hN]
  rw [← hEk3.at (k := o) (by omega)]
  replace hl : lv_has ls 1 [(0, .ref (g1.2.2.1 o))] := by rw [hEk3.at (k := o) (by omega)]; exact hl
  replace hO : h2 o = .inr (2, [.int 0, .null, .null, .null, .null]) := by rw [hfk3 _ (by omega), hO]
  replace hfr : ∀ k_, k_ < o → h2 k_ = h0 k_ := fun k_ hk_ => (hfk3 k_ (by omega)).trans (hfr k_ hk_)
  replace hE0 := hE0.trans hEk3
  clear hEk3 hfk3
  replace hN : g1.2.2.2 = o + 2 := by omega
  clear hNk3
  refine r_putF (ty := .array .int) (C := RX3) (T := TX3) (N := 5) (ci := 2) hx hb hts inX3_init_X3 tyX3 tyX3_ok nmX3 hown w (by omega) hO rfl 1 (by decide) (hts (Cond.fieldLink RX3 9 "EarlyValues$Program" "arguments" "[I") (List.mem_of_getElem? (i := 5) (by decide +kernel))) rfl rfl hin2 rfl (by decide +kernel) rfl rfl (Nat.le_of_ble_eq_true rfl) dX3_init_8 (fun h4 H locs eh4 w2_ => ?_)
  replace w := w2_
  clear w2_
  replace hO : h4 o = .inr (2, [.int 0, .ref (g1.2.2.1 (o + 1)), .null, .null, .null]) := by rw [eh4, va_up_self]; (try rfl)
  replace hck3 : h4 (o + 1) = .inl (g1.2.1 0, 4, .inl ((fun _ => 0))) := by rw [eh4, va_up_ne _ _ (by omega)]; exact hck3
  replace hfr : ∀ k_, k_ < o → h4 k_ = h0 k_ := fun k_ hk_ => by rw [eh4, va_up_ne _ _ (by omega)]; exact hfr k_ hk_
  refine lv_aload_n hx hb dX3_init_11 rfl (lv_at hl 0 rfl) ?_
  refine lv_iconst (v := 4) hx hb dX3_init_12 (by decide) ?_
  refine r_newi hx hb (hts (Cond.arrayClass .int) (List.mem_of_getElem? (i := 4) (by decide +kernel))) w hA (by decide : (4 : Int32).toInt = ((4 : Nat) : Int)) (Nat.le_of_ble_eq_true rfl) (Nat.le_of_ble_eq_true rfl) (Nat.le_of_ble_eq_true rfl) dX3_init_13 (fun g5 h6 H hEk7 hNk7 hfk7 hck7 w2_ => ?_)
  replace w := w2_
  clear w2_
  rw [hN] at hck7 hNk7 hfk7
  rw [hN]
  rw [← hEk7.at (k := o) (by omega)]
  replace hl : lv_has ls 1 [(0, .ref (g5.2.2.1 o))] := by rw [hEk7.at (k := o) (by omega)]; exact hl
  replace hO : h6 o = .inr (2, [.int 0, .ref (g5.2.2.1 (o + 1)), .null, .null, .null]) := by rw [hfk7 _ (by omega), hO, hEk7.at (k := (o + 1)) (by omega)]
  replace hck3 : h6 (o + 1) = .inl (g5.2.1 0, 4, .inl ((fun _ => 0))) := by rw [hfk7 _ (by omega), hck3, hEk7.ct 0]
  replace hfr : ∀ k_, k_ < o → h6 k_ = h0 k_ := fun k_ hk_ => (hfk7 k_ (by omega)).trans (hfr k_ hk_)
  replace hE0 := hE0.trans hEk7
  clear hEk7 hfk7
  replace hN : g5.2.2.2 = o + 3 := by omega
  clear hNk7
  refine r_putF (ty := .array .int) (C := RX3) (T := TX3) (N := 5) (ci := 2) hx hb hts inX3_init_X3 tyX3 tyX3_ok nmX3 hown w (by omega) hO rfl 2 (by decide) (hts (Cond.fieldLink RX3 13 "EarlyValues$Program" "kinds" "[I") (List.mem_of_getElem? (i := 6) (by decide +kernel))) rfl rfl hin2 rfl (by decide +kernel) rfl rfl (Nat.le_of_ble_eq_true rfl) dX3_init_15 (fun h8 H locs eh8 w2_ => ?_)
  replace w := w2_
  clear w2_
  replace hO : h8 o = .inr (2, [.int 0, .ref (g5.2.2.1 (o + 1)), .ref (g5.2.2.1 (o + 2)), .null, .null]) := by rw [eh8, va_up_self]; (try rfl)
  replace hck3 : h8 (o + 1) = .inl (g5.2.1 0, 4, .inl ((fun _ => 0))) := by rw [eh8, va_up_ne _ _ (by omega)]; exact hck3
  replace hck7 : h8 (o + 2) = .inl (g5.2.1 0, 4, .inl ((fun _ => 0))) := by rw [eh8, va_up_ne _ _ (by omega)]; exact hck7
  replace hfr : ∀ k_, k_ < o → h8 k_ = h0 k_ := fun k_ hk_ => by rw [eh8, va_up_ne _ _ (by omega)]; exact hfr k_ hk_
  refine lv_aload_n hx hb dX3_init_18 rfl (lv_at hl 0 rfl) ?_
  refine lv_iconst (v := 4) hx hb dX3_init_19 (by decide) ?_
  refine r_newi hx hb (hts (Cond.arrayClass .int) (List.mem_of_getElem? (i := 4) (by decide +kernel))) w hA (by decide : (4 : Int32).toInt = ((4 : Nat) : Int)) (Nat.le_of_ble_eq_true rfl) (Nat.le_of_ble_eq_true rfl) (Nat.le_of_ble_eq_true rfl) dX3_init_20 (fun g9 h10 H hEk11 hNk11 hfk11 hck11 w2_ => ?_)
  replace w := w2_
  clear w2_
  rw [hN] at hck11 hNk11 hfk11
  rw [hN]
  rw [← hEk11.at (k := o) (by omega)]
  replace hl : lv_has ls 1 [(0, .ref (g9.2.2.1 o))] := by rw [hEk11.at (k := o) (by omega)]; exact hl
  replace hO : h10 o = .inr (2, [.int 0, .ref (g9.2.2.1 (o + 1)), .ref (g9.2.2.1 (o + 2)), .null, .null]) := by rw [hfk11 _ (by omega), hO, hEk11.at (k := (o + 1)) (by omega), hEk11.at (k := (o + 2)) (by omega)]
  replace hck3 : h10 (o + 1) = .inl (g9.2.1 0, 4, .inl ((fun _ => 0))) := by rw [hfk11 _ (by omega), hck3, hEk11.ct 0]
  replace hck7 : h10 (o + 2) = .inl (g9.2.1 0, 4, .inl ((fun _ => 0))) := by rw [hfk11 _ (by omega), hck7, hEk11.ct 0]
  replace hfr : ∀ k_, k_ < o → h10 k_ = h0 k_ := fun k_ hk_ => (hfk11 k_ (by omega)).trans (hfr k_ hk_)
  replace hE0 := hE0.trans hEk11
  clear hEk11 hfk11
  replace hN : g9.2.2.2 = o + 4 := by omega
  clear hNk11
  refine r_putF (ty := .array .int) (C := RX3) (T := TX3) (N := 5) (ci := 2) hx hb hts inX3_init_X3 tyX3 tyX3_ok nmX3 hown w (by omega) hO rfl 3 (by decide) (hts (Cond.fieldLink RX3 16 "EarlyValues$Program" "lengths" "[I") (List.mem_of_getElem? (i := 7) (by decide +kernel))) rfl rfl hin2 rfl (by decide +kernel) rfl rfl (Nat.le_of_ble_eq_true rfl) dX3_init_22 (fun h12 H locs eh12 w2_ => ?_)
  replace w := w2_
  clear w2_
  replace hO : h12 o = .inr (2, [.int 0, .ref (g9.2.2.1 (o + 1)), .ref (g9.2.2.1 (o + 2)), .ref (g9.2.2.1 (o + 3)), .null]) := by rw [eh12, va_up_self]; (try rfl)
  replace hck3 : h12 (o + 1) = .inl (g9.2.1 0, 4, .inl ((fun _ => 0))) := by rw [eh12, va_up_ne _ _ (by omega)]; exact hck3
  replace hck7 : h12 (o + 2) = .inl (g9.2.1 0, 4, .inl ((fun _ => 0))) := by rw [eh12, va_up_ne _ _ (by omega)]; exact hck7
  replace hck11 : h12 (o + 3) = .inl (g9.2.1 0, 4, .inl ((fun _ => 0))) := by rw [eh12, va_up_ne _ _ (by omega)]; exact hck11
  replace hfr : ∀ k_, k_ < o → h12 k_ = h0 k_ := fun k_ hk_ => by rw [eh12, va_up_ne _ _ (by omega)]; exact hfr k_ hk_
  refine lv_aload_n hx hb dX3_init_25 rfl (lv_at hl 0 rfl) ?_
  refine lv_iconst (v := 4) hx hb dX3_init_26 (by decide) ?_
  refine lv_bipush (v := 24) hx hb dX3_init_27 (by decide) ?_
  refine r_mn2 (N' := 4) (K' := 24) (t1 := 4) (t2 := 0) (ty := .int) (z := (24, .inl (fun _ => 0))) hx hb hown (by first | exact (hts (Cond.classLink RX3 19 "[[I") (List.mem_of_getElem? (i := 8) (by decide +kernel))) | (rw [show "[" ++ (FieldType.array .int).toString = "[[I" from by decide]; exact (hts (Cond.classLink RX3 19 "[[I") (List.mem_of_getElem? (i := 8) (by decide +kernel))))) hX.1 (hts (Cond.arrayClass .int) (List.mem_of_getElem? (i := 4) (by decide +kernel))) (fc_int w) (fun _ q => ra_ints w q) w hA (by decide : (4 : Int32).toInt = ((4 : Nat) : Int)) (by decide : (24 : Int32).toInt = ((24 : Nat) : Int)) (Nat.le_of_ble_eq_true rfl) (Nat.le_of_ble_eq_true rfl) (Nat.le_of_ble_eq_true rfl) rfl rfl (Nat.le_of_ble_eq_true rfl) (Nat.le_of_ble_eq_true rfl) (inner_int _) dX3_init_29 (fun g13 h14 H hEk15 hNk15 hfk15 hck15 hrk15 w2_ => ?_)
  replace w := w2_
  clear w2_
  rw [hN] at hck15 hrk15 hNk15 hfk15
  rw [hN]
  rw [← hEk15.at (k := o) (by omega)]
  replace hl : lv_has ls 1 [(0, .ref (g13.2.2.1 o))] := by rw [hEk15.at (k := o) (by omega)]; exact hl
  replace hO : h14 o = .inr (2, [.int 0, .ref (g13.2.2.1 (o + 1)), .ref (g13.2.2.1 (o + 2)), .ref (g13.2.2.1 (o + 3)), .null]) := by rw [hfk15 _ (by omega), hO, hEk15.at (k := (o + 1)) (by omega), hEk15.at (k := (o + 2)) (by omega), hEk15.at (k := (o + 3)) (by omega)]
  replace hck3 : h14 (o + 1) = .inl (g13.2.1 0, 4, .inl ((fun _ => 0))) := by rw [hfk15 _ (by omega), hck3, hEk15.ct 0]
  replace hck7 : h14 (o + 2) = .inl (g13.2.1 0, 4, .inl ((fun _ => 0))) := by rw [hfk15 _ (by omega), hck7, hEk15.ct 0]
  replace hck11 : h14 (o + 3) = .inl (g13.2.1 0, 4, .inl ((fun _ => 0))) := by rw [hfk15 _ (by omega), hck11, hEk15.ct 0]
  replace hfr : ∀ k_, k_ < o → h14 k_ = h0 k_ := fun k_ hk_ => (hfk15 k_ (by omega)).trans (hfr k_ hk_)
  replace hE0 := hE0.trans hEk15
  clear hEk15 hfk15
  have hck15 : h14 (o + 4) = .inl (g13.2.1 4, 4, .inr (.inr (.inr (.inr (rowsF g13 (o + 5) 4))))) := by rw [hck15]
  have hrk15 : ∀ i, i < 4 → h14 ((o + 5) + i) = .inl (g13.2.1 0, 24, .inl (((fun _ _ => 0)) i)) := fun i hi => hrk15 i hi
  replace hN : g13.2.2.2 = o + 9 := by omega
  clear hNk15
  refine r_putF (ty := .array (.array .int)) (C := RX3) (T := TX3) (N := 5) (ci := 2) hx hb hts inX3_init_X3 tyX3 tyX3_ok nmX3 hown w (by omega) hO rfl 4 (by decide) (hts (Cond.fieldLink RX3 21 "EarlyValues$Program" "bodies" "[[I") (List.mem_of_getElem? (i := 9) (by decide +kernel))) rfl rfl hin2 rfl (by decide +kernel) rfl rfl (Nat.le_of_ble_eq_true rfl) dX3_init_33 (fun h16 H locs eh16 w2_ => ?_)
  replace w := w2_
  clear w2_
  replace hO : h16 o = .inr (2, [.int 0, .ref (g13.2.2.1 (o + 1)), .ref (g13.2.2.1 (o + 2)), .ref (g13.2.2.1 (o + 3)), .ref (g13.2.2.1 (o + 4))]) := by rw [eh16, va_up_self]; (try rfl)
  replace hck3 : h16 (o + 1) = .inl (g13.2.1 0, 4, .inl ((fun _ => 0))) := by rw [eh16, va_up_ne _ _ (by omega)]; exact hck3
  replace hck7 : h16 (o + 2) = .inl (g13.2.1 0, 4, .inl ((fun _ => 0))) := by rw [eh16, va_up_ne _ _ (by omega)]; exact hck7
  replace hck11 : h16 (o + 3) = .inl (g13.2.1 0, 4, .inl ((fun _ => 0))) := by rw [eh16, va_up_ne _ _ (by omega)]; exact hck11
  replace hck15 : h16 (o + 4) = .inl (g13.2.1 4, 4, .inr (.inr (.inr (.inr (rowsF g13 (o + 5) 4))))) := by rw [eh16, va_up_ne _ _ (by omega)]; exact hck15
  replace hrk15 : ∀ i, i < 4 → h16 ((o + 5) + i) = .inl (g13.2.1 0, 24, .inl (((fun _ _ => 0)) i)) := fun i hi => by rw [eh16, va_up_ne _ _ (by omega)]; exact hrk15 i hi
  replace hfr : ∀ k_, k_ < o → h16 k_ = h0 k_ := fun k_ hk_ => by rw [eh16, va_up_ne _ _ (by omega)]; exact hfr k_ hk_
  refine W.widen (k := 8) (n := 112) (Nat.le_of_ble_eq_true rfl) (Nat.le_of_ble_eq_true rfl) ?_
  refine r_nret hx hb hr hlocks w dX3_init_36 hE0 ?_
  dsimp only
  exact ⟨hN, hfr, 0, _, _, _, _, ⟨by omega, hO, hck3, hck7, hck11, hck15, hrk15⟩⟩

theorem inX1_init_X1 : ∀ w ∈ wsX10, w ∈ wsX1_init := by decide +kernel
abbrev rm_X1_init : Room := { frames := 1, cells := 3, slots := 24, locals := 13 }
set_option maxHeartbeats 8000000 in
set_option maxRecDepth 100000 in
theorem c_X1_init (l : Launch) {g0 : GE} {h0 : Nat → va_E} {sz t : Nat} (ho : t + 1 = g0.2.2.2) (hO : h0 t = .inr (1, [.null, .null, .null, .int 0])) : MN l yX1_init wsX1_init rm_X1_init [.ref (g0.2.2.1 t)] g0 h0 sz (fun u_ : GE × (Nat → va_E) => (fun g2 h2 => g2.2.2.2 = t + 4 ∧ (∀ k, k < t → h2 k = h0 k) ∧ HiZ g2 h2 t) u_.1 u_.2) (3) (24) := by
  refine Met.ofW (cc := cX1_init) (maxL := 1) (ret := none) (by decide) rfl ?_
  intro p e s m args below meth c s₁ B hml hv
  obtain ⟨rfl, hPN⟩ := hv
  have hx := B.exec
  have hb := B.bytes
  have hr := B.returns
  have hts := atoms_spec (ws := wsX1_init) B.pre
  have hown : s.vm.findClass RX1 = some m.cls := findClass_of_methodNamed B.named
  have hlocks := B.notSynchronized
  have hin2 : meth.name = "<init>" := (name_of_methodNamed B.named B.method).1
  have hsz : s.heap.size = sz := hPN.1
  subst hsz
  obtain ⟨w, hX, hA⟩ := hPN.start
  have hl := lv_entry ([.ref (g0.2.2.1 t)]) (n := 1) (Nat.le_of_ble_eq_true rfl)
  rw [lg_entry_eq]
  generalize (lg_sl ([.ref (g0.2.2.1 t)]) ++ List.replicate (1 - (lg_sl ([.ref (g0.2.2.1 t)])).length) Slot.unset).toArray = ls at hl ⊢
  have hl : lv_has ls 1 [(0, .ref (g0.2.2.1 t))] := hl
  obtain ⟨g, hg9⟩ : ∃ g_ : GE, g_ = g0 := ⟨_, rfl⟩
  obtain ⟨h, hh9⟩ : ∃ h_ : Nat → va_E, h_ = h0 := ⟨_, rfl⟩
  have hfr : ∀ k_, k_ < t → h k_ = h0 k_ := fun _ _ => by rw [hh9]
  have hE0 : Ext g0 g := by rw [hg9]; exact Ext.rf
  have w : WD g (inA g0 s.heap.size) s h s.heap [] := by rw [hg9, hh9]; exact w
  have hl : lv_has ls 1 [(0, .ref (g.2.2.1 t))] := by rw [hg9]; exact hl
  have hO : h t = .inr (1, [.null, .null, .null, .int 0]) := by rw [hh9]; (try rw [hg9]); exact hO
  have hN : g.2.2.2 = t + 1 := by rw [hg9]; omega
  refine lv_aload_n hx hb dX1_init_0 rfl (lv_at hl 0 rfl) ?_
  refine W.objInit hx hb hown (hts (Cond.methodLink RX1 1 objectInit) (List.mem_of_getElem? (i := 1) (by decide +kernel))) (hts (Cond.instanceMethod objectInit) (List.mem_of_getElem? (i := 2) (by decide +kernel))) (hts (Cond.code objectInit ⟨#[0xb1]⟩ 1 none) (List.mem_of_getElem? (i := 3) (by decide +kernel))) rfl (by rw [hml]; exact hl.1) rfl dX1_init_1 (Nat.le_of_ble_eq_true rfl) (Nat.le_of_ble_eq_true rfl) ?_
  refine W.eq (g2 := F0 m 4 ls []) rfl ?_
  refine lv_aload_n hx hb dX1_init_4 rfl (lv_at hl 0 rfl) ?_
  refine lv_bipush (v := 8) hx hb dX1_init_5 (by decide) ?_
  refine r_newi hx hb (hts (Cond.arrayClass .int) (List.mem_of_getElem? (i := 4) (by decide +kernel))) w hA (by decide : (8 : Int32).toInt = ((8 : Nat) : Int)) (Nat.le_of_ble_eq_true rfl) (Nat.le_of_ble_eq_true rfl) (Nat.le_of_ble_eq_true rfl) dX1_init_7 (fun g1 h2 H hEk3 hNk3 hfk3 hck3 w2_ => ?_)
  replace w := w2_
  clear w2_
  rw [hN] at hck3 hNk3 hfk3
  rw [hN]
  rw [← hEk3.at (k := t) (by omega)]
  replace hl : lv_has ls 1 [(0, .ref (g1.2.2.1 t))] := by rw [hEk3.at (k := t) (by omega)]; exact hl
  replace hO : h2 t = .inr (1, [.null, .null, .null, .int 0]) := by rw [hfk3 _ (by omega), hO]
  replace hfr : ∀ k_, k_ < t → h2 k_ = h0 k_ := fun k_ hk_ => (hfk3 k_ (by omega)).trans (hfr k_ hk_)
  replace hE0 := hE0.trans hEk3
  clear hEk3 hfk3
  replace hN : g1.2.2.2 = t + 2 := by omega
  clear hNk3
  refine r_putF (ty := .array .int) (C := RX1) (T := TX1) (N := 4) (ci := 1) hx hb hts inX1_init_X1 tyX1 tyX1_ok nmX1 hown w (by omega) hO rfl 0 (by decide) (hts (Cond.fieldLink RX1 9 "EarlyValues$History" "functions" "[I") (List.mem_of_getElem? (i := 5) (by decide +kernel))) rfl rfl hin2 rfl (by decide +kernel) rfl rfl (Nat.le_of_ble_eq_true rfl) dX1_init_9 (fun h4 H locs eh4 w2_ => ?_)
  replace w := w2_
  clear w2_
  replace hO : h4 t = .inr (1, [.ref (g1.2.2.1 (t + 1)), .null, .null, .int 0]) := by rw [eh4, va_up_self]; (try rfl)
  replace hck3 : h4 (t + 1) = .inl (g1.2.1 0, 8, .inl ((fun _ => 0))) := by rw [eh4, va_up_ne _ _ (by omega)]; exact hck3
  replace hfr : ∀ k_, k_ < t → h4 k_ = h0 k_ := fun k_ hk_ => by rw [eh4, va_up_ne _ _ (by omega)]; exact hfr k_ hk_
  refine lv_aload_n hx hb dX1_init_12 rfl (lv_at hl 0 rfl) ?_
  refine lv_bipush (v := 8) hx hb dX1_init_13 (by decide) ?_
  refine r_newi hx hb (hts (Cond.arrayClass .int) (List.mem_of_getElem? (i := 4) (by decide +kernel))) w hA (by decide : (8 : Int32).toInt = ((8 : Nat) : Int)) (Nat.le_of_ble_eq_true rfl) (Nat.le_of_ble_eq_true rfl) (Nat.le_of_ble_eq_true rfl) dX1_init_15 (fun g5 h6 H hEk7 hNk7 hfk7 hck7 w2_ => ?_)
  replace w := w2_
  clear w2_
  rw [hN] at hck7 hNk7 hfk7
  rw [hN]
  rw [← hEk7.at (k := t) (by omega)]
  replace hl : lv_has ls 1 [(0, .ref (g5.2.2.1 t))] := by rw [hEk7.at (k := t) (by omega)]; exact hl
  replace hO : h6 t = .inr (1, [.ref (g5.2.2.1 (t + 1)), .null, .null, .int 0]) := by rw [hfk7 _ (by omega), hO, hEk7.at (k := (t + 1)) (by omega)]
  replace hck3 : h6 (t + 1) = .inl (g5.2.1 0, 8, .inl ((fun _ => 0))) := by rw [hfk7 _ (by omega), hck3, hEk7.ct 0]
  replace hfr : ∀ k_, k_ < t → h6 k_ = h0 k_ := fun k_ hk_ => (hfk7 k_ (by omega)).trans (hfr k_ hk_)
  replace hE0 := hE0.trans hEk7
  clear hEk7 hfk7
  replace hN : g5.2.2.2 = t + 3 := by omega
  clear hNk7
  refine r_putF (ty := .array .int) (C := RX1) (T := TX1) (N := 4) (ci := 1) hx hb hts inX1_init_X1 tyX1 tyX1_ok nmX1 hown w (by omega) hO rfl 1 (by decide) (hts (Cond.fieldLink RX1 13 "EarlyValues$History" "places" "[I") (List.mem_of_getElem? (i := 6) (by decide +kernel))) rfl rfl hin2 rfl (by decide +kernel) rfl rfl (Nat.le_of_ble_eq_true rfl) dX1_init_17 (fun h8 H locs eh8 w2_ => ?_)
  replace w := w2_
  clear w2_
  replace hO : h8 t = .inr (1, [.ref (g5.2.2.1 (t + 1)), .ref (g5.2.2.1 (t + 2)), .null, .int 0]) := by rw [eh8, va_up_self]; (try rfl)
  replace hck3 : h8 (t + 1) = .inl (g5.2.1 0, 8, .inl ((fun _ => 0))) := by rw [eh8, va_up_ne _ _ (by omega)]; exact hck3
  replace hck7 : h8 (t + 2) = .inl (g5.2.1 0, 8, .inl ((fun _ => 0))) := by rw [eh8, va_up_ne _ _ (by omega)]; exact hck7
  replace hfr : ∀ k_, k_ < t → h8 k_ = h0 k_ := fun k_ hk_ => by rw [eh8, va_up_ne _ _ (by omega)]; exact hfr k_ hk_
  refine lv_aload_n hx hb dX1_init_20 rfl (lv_at hl 0 rfl) ?_
  refine lv_bipush (v := 8) hx hb dX1_init_21 (by decide) ?_
  refine r_newi hx hb (hts (Cond.arrayClass .int) (List.mem_of_getElem? (i := 4) (by decide +kernel))) w hA (by decide : (8 : Int32).toInt = ((8 : Nat) : Int)) (Nat.le_of_ble_eq_true rfl) (Nat.le_of_ble_eq_true rfl) (Nat.le_of_ble_eq_true rfl) dX1_init_23 (fun g9 h10 H hEk11 hNk11 hfk11 hck11 w2_ => ?_)
  replace w := w2_
  clear w2_
  rw [hN] at hck11 hNk11 hfk11
  rw [hN]
  rw [← hEk11.at (k := t) (by omega)]
  replace hl : lv_has ls 1 [(0, .ref (g9.2.2.1 t))] := by rw [hEk11.at (k := t) (by omega)]; exact hl
  replace hO : h10 t = .inr (1, [.ref (g9.2.2.1 (t + 1)), .ref (g9.2.2.1 (t + 2)), .null, .int 0]) := by rw [hfk11 _ (by omega), hO, hEk11.at (k := (t + 1)) (by omega), hEk11.at (k := (t + 2)) (by omega)]
  replace hck3 : h10 (t + 1) = .inl (g9.2.1 0, 8, .inl ((fun _ => 0))) := by rw [hfk11 _ (by omega), hck3, hEk11.ct 0]
  replace hck7 : h10 (t + 2) = .inl (g9.2.1 0, 8, .inl ((fun _ => 0))) := by rw [hfk11 _ (by omega), hck7, hEk11.ct 0]
  replace hfr : ∀ k_, k_ < t → h10 k_ = h0 k_ := fun k_ hk_ => (hfk11 k_ (by omega)).trans (hfr k_ hk_)
  replace hE0 := hE0.trans hEk11
  clear hEk11 hfk11
  replace hN : g9.2.2.2 = t + 4 := by omega
  clear hNk11
  refine r_putF (ty := .array .int) (C := RX1) (T := TX1) (N := 4) (ci := 1) hx hb hts inX1_init_X1 tyX1 tyX1_ok nmX1 hown w (by omega) hO rfl 2 (by decide) (hts (Cond.fieldLink RX1 16 "EarlyValues$History" "befores" "[I") (List.mem_of_getElem? (i := 7) (by decide +kernel))) rfl rfl hin2 rfl (by decide +kernel) rfl rfl (Nat.le_of_ble_eq_true rfl) dX1_init_25 (fun h12 H locs eh12 w2_ => ?_)
  replace w := w2_
  clear w2_
  replace hO : h12 t = .inr (1, [.ref (g9.2.2.1 (t + 1)), .ref (g9.2.2.1 (t + 2)), .ref (g9.2.2.1 (t + 3)), .int 0]) := by rw [eh12, va_up_self]; (try rfl)
  replace hck3 : h12 (t + 1) = .inl (g9.2.1 0, 8, .inl ((fun _ => 0))) := by rw [eh12, va_up_ne _ _ (by omega)]; exact hck3
  replace hck7 : h12 (t + 2) = .inl (g9.2.1 0, 8, .inl ((fun _ => 0))) := by rw [eh12, va_up_ne _ _ (by omega)]; exact hck7
  replace hck11 : h12 (t + 3) = .inl (g9.2.1 0, 8, .inl ((fun _ => 0))) := by rw [eh12, va_up_ne _ _ (by omega)]; exact hck11
  replace hfr : ∀ k_, k_ < t → h12 k_ = h0 k_ := fun k_ hk_ => by rw [eh12, va_up_ne _ _ (by omega)]; exact hfr k_ hk_
  refine W.widen (k := 3) (n := 24) (Nat.le_of_ble_eq_true rfl) (Nat.le_of_ble_eq_true rfl) ?_
  refine r_nret hx hb hr hlocks w dX1_init_28 hE0 ?_
  dsimp only
  exact ⟨hN, hfr, _, _, _, ⟨by omega, hO, hck3, hck7, hck11⟩⟩

theorem inX5_init_X3 : ∀ w ∈ wsX30, w ∈ wsX5_init := by decide +kernel
theorem inX5_init_X5 : ∀ w ∈ wsX50, w ∈ wsX5_init := by decide +kernel
abbrev rm_X5_init : Room := { frames := 2, cells := 10, slots := 317, locals := 33 }
set_option maxHeartbeats 8000000 in
set_option maxRecDepth 100000 in
theorem c_X5_init (l : Launch) {g0 : GE} {h0 : Nat → va_E} {sz t : Nat} (ho : t + 1 = g0.2.2.2) (hO : h0 t = .inr (4, [.null, .int 0, .null, .int 0, .int 0])) : MN l yX5_init wsX5_init rm_X5_init [.ref (g0.2.2.1 t)] g0 h0 sz (fun u_ : GE × (Nat → va_E) => (fun g2 h2 => g2.2.2.2 = t + 11 ∧ (∀ k, k < t → h2 k = h0 k) ∧ TxZ g2 h2 t) u_.1 u_.2) (10) (317) := by
  refine Met.ofW (cc := cX5_init) (maxL := 1) (ret := none) (by decide) rfl ?_
  intro p e s m args below meth c s₁ B hml hv
  obtain ⟨rfl, hPN⟩ := hv
  have hx := B.exec
  have hb := B.bytes
  have hr := B.returns
  have hts := atoms_spec (ws := wsX5_init) B.pre
  have hown : s.vm.findClass RX5 = some m.cls := findClass_of_methodNamed B.named
  have hlocks := B.notSynchronized
  have hin2 : meth.name = "<init>" := (name_of_methodNamed B.named B.method).1
  have hsz : s.heap.size = sz := hPN.1
  subst hsz
  obtain ⟨w, hX, hA⟩ := hPN.start
  have hl := lv_entry ([.ref (g0.2.2.1 t)]) (n := 1) (Nat.le_of_ble_eq_true rfl)
  rw [lg_entry_eq]
  generalize (lg_sl ([.ref (g0.2.2.1 t)]) ++ List.replicate (1 - (lg_sl ([.ref (g0.2.2.1 t)])).length) Slot.unset).toArray = ls at hl ⊢
  have hl : lv_has ls 1 [(0, .ref (g0.2.2.1 t))] := hl
  obtain ⟨g, hg9⟩ : ∃ g_ : GE, g_ = g0 := ⟨_, rfl⟩
  obtain ⟨h, hh9⟩ : ∃ h_ : Nat → va_E, h_ = h0 := ⟨_, rfl⟩
  have hfr : ∀ k_, k_ < t → h k_ = h0 k_ := fun _ _ => by rw [hh9]
  have hE0 : Ext g0 g := by rw [hg9]; exact Ext.rf
  have w : WD g (inA g0 s.heap.size) s h s.heap [] := by rw [hg9, hh9]; exact w
  have hl : lv_has ls 1 [(0, .ref (g.2.2.1 t))] := by rw [hg9]; exact hl
  have hO : h t = .inr (4, [.null, .int 0, .null, .int 0, .int 0]) := by rw [hh9]; (try rw [hg9]); exact hO
  have hN : g.2.2.2 = t + 1 := by rw [hg9]; omega
  refine lv_aload_n hx hb dX5_init_0 rfl (lv_at hl 0 rfl) ?_
  refine W.objInit hx hb hown (hts (Cond.methodLink RX5 3 objectInit) (List.mem_of_getElem? (i := 1) (by decide +kernel))) (hts (Cond.instanceMethod objectInit) (List.mem_of_getElem? (i := 2) (by decide +kernel))) (hts (Cond.code objectInit ⟨#[0xb1]⟩ 1 none) (List.mem_of_getElem? (i := 3) (by decide +kernel))) rfl (by rw [hml]; exact hl.1) rfl dX5_init_1 (Nat.le_of_ble_eq_true rfl) (Nat.le_of_ble_eq_true rfl) ?_
  refine W.eq (g2 := F0 m 4 ls []) rfl ?_
  refine lv_aload_n hx hb dX5_init_4 rfl (lv_at hl 0 rfl) ?_
  refine r_new (ci := 2) (fs := [.int 0, .null, .null, .null, .null]) (C := RX3) (T := TX3) (N := 5) hx hb hts inX5_init_X3 tyX3 tyX3_ok hown (hts (Cond.classLink RX5 9 RX3) (List.mem_of_getElem? (i := 4) (by decide +kernel))) (hts (Cond.instantiable RX3 5) (List.mem_of_getElem? (i := 5) (by decide +kernel))) (hts (Cond.initialized RX3) (List.mem_of_getElem? (i := 6) (by decide +kernel))) w hA rfl (fun j hj => by rcases (show j = 0 ∨ j = 1 ∨ j = 2 ∨ j = 3 ∨ j = 4 by omega) with rfl | rfl | rfl | rfl | rfl <;> rfl) (Nat.le_of_ble_eq_true rfl) (Nat.le_of_ble_eq_true rfl) dX5_init_5 (fun g1 h2 H hEk3 hNk3 hfk3 hck3 w2_ => ?_)
  replace w := w2_
  clear w2_
  rw [hN] at hck3 hNk3 hfk3
  rw [hN]
  rw [← hEk3.at (k := t) (by omega)]
  replace hl : lv_has ls 1 [(0, .ref (g1.2.2.1 t))] := by rw [hEk3.at (k := t) (by omega)]; exact hl
  replace hO : h2 t = .inr (4, [.null, .int 0, .null, .int 0, .int 0]) := by rw [hfk3 _ (by omega), hO]
  replace hfr : ∀ k_, k_ < t → h2 k_ = h0 k_ := fun k_ hk_ => (hfk3 k_ (by omega)).trans (hfr k_ hk_)
  replace hE0 := hE0.trans hEk3
  clear hEk3 hfk3
  replace hN : g1.2.2.2 = t + 2 := by omega
  clear hNk3
  refine lv_dup hx hb dX5_init_8 rfl ?_
  refine r_callN w hA (va_runI (As := []) (rest := [.ref (g1.2.2.1 (t + 1)), .ref (g1.2.2.1 t)]) ⟨hx, hb, hml, hown, hts⟩ (c_X3_init l (g0 := g1) (h0 := h2) (o := (t + 1)) (by omega) hck3) (cwI 0 hts gX5_init_X3_init rfl rfl rfl (hts (Cond.initialized RX3) (List.mem_of_getElem? (i := 6) (by decide +kernel))) (hts (Cond.methodLink RX5 11 yX3_init) (List.mem_of_getElem? (i := 10) (by decide +kernel))) (hts (Cond.instanceMethod yX3_init) (List.mem_of_getElem? (i := 11) (by decide +kernel))) rfl (by decide +kernel) ⟨Nat.le_of_ble_eq_true rfl, Nat.le_of_ble_eq_true rfl⟩) (r_preN w hA hX) rfl rfl hl.1 rfl (lv_room (Nat.le_of_ble_eq_true rfl)) dX5_init_9 ⟨Nat.le_of_ble_eq_true rfl, (Nat.le_of_ble_eq_true rfl)⟩) (fun g4 h5 H locs hEk6 hp w2_ => ?_)
  replace w := w2_
  clear w2_
  dsimp only at hp
  rw [← hEk6.at (k := (t + 1)) (by omega)]
  rw [← hEk6.at (k := t) (by omega)]
  replace hl : lv_has ls 1 [(0, .ref (g4.2.2.1 t))] := by rw [hEk6.at (k := t) (by omega)]; exact hl
  obtain ⟨hNk6, hfk6, Fk6⟩ := hp
  replace hO : h5 t = .inr (4, [.null, .int 0, .null, .int 0, .int 0]) := by rw [hfk6 _ (by omega), hO]
  replace hfr : ∀ k_, k_ < t → h5 k_ = h0 k_ := fun k_ hk_ => (hfk6 k_ (by omega)).trans (hfr k_ hk_)
  replace hE0 := hE0.trans hEk6
  clear hEk6 hfk6
  replace hN : g4.2.2.2 = t + 10 := by omega
  clear hNk6
  refine r_putF (ty := .object "EarlyValues$Program") (C := RX5) (T := TX5) (N := 5) (ci := 4) hx hb hts inX5_init_X5 tyX5 tyX5_ok nmX5 hown w (by omega) hO rfl 0 (by decide) (hts (Cond.fieldLink RX5 12 "EarlyValues$Text" "told" "LEarlyValues$Program;") (List.mem_of_getElem? (i := 7) (by decide +kernel))) rfl rfl hin2 rfl (by decide +kernel) rfl rfl (Nat.le_of_ble_eq_true rfl) dX5_init_12 (fun h7 H locs eh7 w2_ => ?_)
  replace w := w2_
  clear w2_
  replace hO : h7 t = .inr (4, [.ref (g4.2.2.1 (t + 1)), .int 0, .null, .int 0, .int 0]) := by rw [eh7, va_up_self]; (try rfl)
  replace Fk6 := Fk6.ext Ext.rf (h' := h7) (fun k_ a_ b_ => by rw [eh7, va_up_ne _ _ (by omega)])
  replace hfr : ∀ k_, k_ < t → h7 k_ = h0 k_ := fun k_ hk_ => by rw [eh7, va_up_ne _ _ (by omega)]; exact hfr k_ hk_
  refine lv_aload_n hx hb dX5_init_15 rfl (lv_at hl 0 rfl) ?_
  refine lv_sipush (v := 200) hx hb dX5_init_16 (by decide) ?_
  refine r_newc hx hb (hts (Cond.arrayClass .char) (List.mem_of_getElem? (i := 8) (by decide +kernel))) w hA (by decide : (200 : Int32).toInt = ((200 : Nat) : Int)) (Nat.le_of_ble_eq_true rfl) (Nat.le_of_ble_eq_true rfl) (Nat.le_of_ble_eq_true rfl) dX5_init_19 (fun g8 h9 H hEk10 hNk10 hfk10 hck10 w2_ => ?_)
  replace w := w2_
  clear w2_
  rw [hN] at hck10 hNk10 hfk10
  rw [hN]
  rw [← hEk10.at (k := t) (by omega)]
  replace hl : lv_has ls 1 [(0, .ref (g8.2.2.1 t))] := by rw [hEk10.at (k := t) (by omega)]; exact hl
  replace hO : h9 t = .inr (4, [.ref (g8.2.2.1 (t + 1)), .int 0, .null, .int 0, .int 0]) := by rw [hfk10 _ (by omega), hO, hEk10.at (k := (t + 1)) (by omega)]
  replace Fk6 := Fk6.ext hEk10 (h' := h9) (fun k_ a_ b_ => hfk10 k_ (by omega))
  replace hfr : ∀ k_, k_ < t → h9 k_ = h0 k_ := fun k_ hk_ => (hfk10 k_ (by omega)).trans (hfr k_ hk_)
  replace hE0 := hE0.trans hEk10
  clear hEk10 hfk10
  replace hN : g8.2.2.2 = t + 11 := by omega
  clear hNk10
  refine r_putF (ty := .array .char) (C := RX5) (T := TX5) (N := 5) (ci := 4) hx hb hts inX5_init_X5 tyX5 tyX5_ok nmX5 hown w (by omega) hO rfl 2 (by decide) (hts (Cond.fieldLink RX5 18 "EarlyValues$Text" "signs" "[C") (List.mem_of_getElem? (i := 9) (by decide +kernel))) rfl rfl hin2 rfl (by decide +kernel) rfl rfl (Nat.le_of_ble_eq_true rfl) dX5_init_21 (fun h11 H locs eh11 w2_ => ?_)
  replace w := w2_
  clear w2_
  replace hO : h11 t = .inr (4, [.ref (g8.2.2.1 (t + 1)), .int 0, .ref (g8.2.2.1 (t + 10)), .int 0, .int 0]) := by rw [eh11, va_up_self]; (try rfl)
  replace hck10 : h11 (t + 10) = .inl (g8.2.1 1, 200, .inl ((fun _ => 0))) := by rw [eh11, va_up_ne _ _ (by omega)]; exact hck10
  replace Fk6 := Fk6.ext Ext.rf (h' := h11) (fun k_ a_ b_ => by rw [eh11, va_up_ne _ _ (by omega)])
  replace hfr : ∀ k_, k_ < t → h11 k_ = h0 k_ := fun k_ hk_ => by rw [eh11, va_up_ne _ _ (by omega)]; exact hfr k_ hk_
  refine W.widen (k := 10) (n := 317) (Nat.le_of_ble_eq_true rfl) (Nat.le_of_ble_eq_true rfl) ?_
  refine r_nret hx hb hr hlocks w dX5_init_24 hE0 ?_
  dsimp only
  exact ⟨hN, hfr, ⟨_, ⟨by omega, hO, hck10⟩⟩, Fk6⟩

