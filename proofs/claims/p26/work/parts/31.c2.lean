theorem inX5_add_X5 : ∀ w ∈ wsX50, w ∈ wsX5_add := by decide +kernel
abbrev rm_X5_add : Room := { frames := 0, cells := 0, slots := 0, locals := 0 }
set_option maxHeartbeats 4000000 in
set_option maxRecDepth 100000 in
theorem c_X5_add (l : Launch) {g : GE} {h : Nat → va_E} {t : Nat} {ln at_ bd : Int32} {gs : Nat → Int32} (T : TxA g h t ln at_ bd gs) {n : Nat} (hsz : ln.toInt = (n : Int)) (hn : n < 200) (p0 : Int32) : MV l yX5_add wsX5_add rm_X5_add [.ref (g.2.2.1 t), .int p0] g h (fun h2 => (∀ k, ¬ (k = t ∨ k = t + 10) → h2 k = h k) ∧ ∃ (ln2 : Int32) (gs2 : Nat → Int32), TxA g h2 t ln2 at_ bd gs2 ∧ ln2.toInt = ((n + 1 : Nat) : Int) ∧ gs2 = upd gs n (vp_nar .char p0)) := by
  refine Met.ofW (cc := cX5_add) (maxL := 2) (ret := none) (by decide) rfl ?_
  intro p e s m args below meth c s₁ B hml hv
  obtain ⟨rfl, w0⟩ := hv
  have hx := B.exec
  have hb := B.bytes
  have hr := B.returns
  have hts := atoms_spec (ws := wsX5_add) B.pre
  have hown : s.vm.findClass RX5 = some m.cls := findClass_of_methodNamed B.named
  have hlocks := B.notSynchronized
  have w := w0.start
  clear w0
  have hl := lv_entry ([.ref (g.2.2.1 t), .int p0]) (n := 2) (Nat.le_of_ble_eq_true rfl)
  rw [lg_entry_eq]
  generalize (lg_sl ([.ref (g.2.2.1 t), .int p0]) ++ List.replicate (2 - (lg_sl ([.ref (g.2.2.1 t), .int p0])).length) Slot.unset).toArray = ls at hl ⊢
  have hl : lv_has ls 2 [(0, .ref (g.2.2.1 t)), (1, .int p0)] := hl
  refine lv_aload_n hx hb dX5_add_0 rfl (lv_at hl 0 rfl) ?_
  refine r_get (C := RX5) (T := TX5) (N := 5) (ci := 4) hx hb hts inX5_add_X5 hown w (by have := T.1; omega) T.2.1 rfl 1 (by decide) (hts (Cond.fieldLink RX5 22 "EarlyValues$Text" "length" "I") (List.mem_of_getElem? (i := 1) (by decide +kernel))) rfl rfl dX5_add_1 ?_
  refine lv_sipush (v := 200) hx hb dX5_add_4 (by decide) ?_
  refine lv_icmp_ge (tgt := 30) hx hb dX5_add_7 (by decide) (fun c1 => ?_) (fun c1 => ?_)
  · have c1 : ((200 : Nat) : Int) ≤ ((n : Nat) : Int) := (i_le (by decide : (200 : Int32).toInt = ((200 : Nat) : Int)) hsz).mp c1
    exfalso; omega
  · have c1 : ¬ (((200 : Nat) : Int) ≤ ((n : Nat) : Int)) := fun q => c1 ((i_le (by decide : (200 : Int32).toInt = ((200 : Nat) : Int)) hsz).mpr q)
    refine lv_aload_n hx hb dX5_add_10 rfl (lv_at hl 0 rfl) ?_
    refine r_get (C := RX5) (T := TX5) (N := 5) (ci := 4) hx hb hts inX5_add_X5 hown w (by have := T.1; omega) T.2.1 rfl 2 (by decide) (hts (Cond.fieldLink RX5 18 "EarlyValues$Text" "signs" "[C") (List.mem_of_getElem? (i := 2) (by decide +kernel))) rfl rfl dX5_add_11 ?_
    refine lv_aload_n hx hb dX5_add_14 rfl (lv_at hl 0 rfl) ?_
    refine r_get (C := RX5) (T := TX5) (N := 5) (ci := 4) hx hb hts inX5_add_X5 hown w (by have := T.1; omega) T.2.1 rfl 1 (by decide) (hts (Cond.fieldLink RX5 22 "EarlyValues$Text" "length" "I") (List.mem_of_getElem? (i := 1) (by decide +kernel))) rfl rfl dX5_add_15 ?_
    refine lv_iload_n hx hb dX5_add_18 rfl (lv_at hl 1 rfl) ?_
    refine r_cast (j := n) hx hb w (by have := T.1; omega) T.2.2 hsz (by omega) dX5_add_19 (fun h2 H locs eh2 w => ?_)
    have T := T.s1 eh2
    generalize egz3 : upd gs n (vp_nar .char p0) = gz3 at T
    have hfr : ∀ k_, ¬ (k_ = t ∨ k_ = t + 10) → h2 k_ = h k_ := fun k_ hk_ => by rw [eh2, va_up_ne _ _ (by omega)]
    refine lv_aload_n hx hb dX5_add_20 rfl (lv_at hl 0 rfl) ?_
    refine lv_dup hx hb dX5_add_21 rfl ?_
    refine r_get (C := RX5) (T := TX5) (N := 5) (ci := 4) hx hb hts inX5_add_X5 hown w (by have := T.1; omega) T.2.1 rfl 1 (by decide) (hts (Cond.fieldLink RX5 22 "EarlyValues$Text" "length" "I") (List.mem_of_getElem? (i := 1) (by decide +kernel))) rfl rfl dX5_add_22 ?_
    refine lv_iconst (v := 1) hx hb dX5_add_25 (by decide) ?_
    refine lv_iadd hx hb dX5_add_26 ?_
    refine lv_topi (fun y4 ey4 => ?_)
    have ty4 : y4.toInt = (((n + 1) : Nat) : Int) := i_addN ey4 hsz (by decide : (1 : Int32).toInt = ((1 : Nat) : Int)) (by omega)
    refine r_put (ty := .int) (C := RX5) (T := TX5) (N := 5) (ci := 4) hx hb hts inX5_add_X5 tyX5 tyX5_ok nmX5 hown w (by have := T.1; omega) T.2.1 rfl 1 (by decide) (hts (Cond.fieldLink RX5 22 "EarlyValues$Text" "length" "I") (List.mem_of_getElem? (i := 1) (by decide +kernel))) rfl rfl (by decide +kernel) rfl rfl (Nat.le_of_ble_eq_true rfl) dX5_add_27 (fun h5 H locs eh5 w => ?_)
    have T := T.s0 eh5
    have hfr : ∀ k_, ¬ (k_ = t ∨ k_ = t + 10) → h5 k_ = h k_ := fun k_ hk_ => by rw [eh5, va_up_ne _ _ (by omega)]; exact hfr k_ hk_
    refine r_vret hx hb hr hlocks w dX5_add_30 ?_
    exact ⟨hfr, _, _, T, ty4, by first | rfl | exact egz3.symm⟩

theorem inX5_clear_X5 : ∀ w ∈ wsX50, w ∈ wsX5_clear := by decide +kernel
abbrev rm_X5_clear : Room := { frames := 0, cells := 0, slots := 0, locals := 0 }
set_option maxHeartbeats 4000000 in
set_option maxRecDepth 100000 in
theorem c_X5_clear (l : Launch) {g : GE} {h : Nat → va_E} {t : Nat} {ln at_ bd : Int32} {gs : Nat → Int32} (T : TxA g h t ln at_ bd gs) : MV l yX5_clear wsX5_clear rm_X5_clear [.ref (g.2.2.1 t)] g h (fun h2 => (∀ k, ¬ (k = t) → h2 k = h k) ∧ TxA g h2 t 0 at_ bd gs) := by
  refine Met.ofW (cc := cX5_clear) (maxL := 1) (ret := none) (by decide) rfl ?_
  intro p e s m args below meth c s₁ B hml hv
  obtain ⟨rfl, w0⟩ := hv
  have hx := B.exec
  have hb := B.bytes
  have hr := B.returns
  have hts := atoms_spec (ws := wsX5_clear) B.pre
  have hown : s.vm.findClass RX5 = some m.cls := findClass_of_methodNamed B.named
  have hlocks := B.notSynchronized
  have w := w0.start
  clear w0
  have hl := lv_entry ([.ref (g.2.2.1 t)]) (n := 1) (Nat.le_of_ble_eq_true rfl)
  rw [lg_entry_eq]
  generalize (lg_sl ([.ref (g.2.2.1 t)]) ++ List.replicate (1 - (lg_sl ([.ref (g.2.2.1 t)])).length) Slot.unset).toArray = ls at hl ⊢
  have hl : lv_has ls 1 [(0, .ref (g.2.2.1 t))] := hl
  refine lv_aload_n hx hb dX5_clear_0 rfl (lv_at hl 0 rfl) ?_
  refine lv_iconst (v := 0) hx hb dX5_clear_1 (by decide) ?_
  refine r_put (ty := .int) (C := RX5) (T := TX5) (N := 5) (ci := 4) hx hb hts inX5_clear_X5 tyX5 tyX5_ok nmX5 hown w (by have := T.1; omega) T.2.1 rfl 1 (by decide) (hts (Cond.fieldLink RX5 22 "EarlyValues$Text" "length" "I") (List.mem_of_getElem? (i := 1) (by decide +kernel))) rfl rfl (by decide +kernel) rfl rfl (Nat.le_of_ble_eq_true rfl) dX5_clear_2 (fun h1 H locs eh1 w => ?_)
  have T := T.s0 eh1
  have hfr : ∀ k_, ¬ (k_ = t) → h1 k_ = h k_ := fun k_ hk_ => by rw [eh1, va_up_ne _ _ (by omega)]
  refine r_vret hx hb hr hlocks w dX5_clear_5 ?_
  exact ⟨hfr, T⟩

theorem inX5_toldAll_X3 : ∀ w ∈ wsX30, w ∈ wsX5_toldAll := by decide +kernel
theorem inX5_toldAll_X5 : ∀ w ∈ wsX50, w ∈ wsX5_toldAll := by decide +kernel
abbrev rm_X5_toldAll : Room := { frames := 0, cells := 0, slots := 0, locals := 0 }
set_option maxHeartbeats 4000000 in
set_option maxRecDepth 100000 in
theorem c_X5_toldAll (l : Launch) {g : GE} {h : Nat → va_E} {t : Nat} {ln at_ bd : Int32} {gs : Nat → Int32} (T : TxA g h t ln at_ bd gs) {nn : Int32} {ga gk gl : Nat → Int32} {gb : Nat → Nat → Int32} (P : PrA g h (t + 1) nn ga gk gl gb) {N mb : Nat} (hN : nn.toInt = (N : Int)) (hmb : bd.toInt = (mb : Int)) : MI l yX5_toldAll wsX5_toldAll rm_X5_toldAll [.ref (g.2.2.1 t)] g h (fun r_ h2 => h2 = h ∧ Bq r_ (0 < N ∧ mb = N)) := by
  refine Met.ofW (cc := cX5_toldAll) (maxL := 1) (ret := (some .boolean)) (by decide) rfl ?_
  intro p e s m args below meth c s₁ B hml hv
  obtain ⟨rfl, w0⟩ := hv
  have hx := B.exec
  have hb := B.bytes
  have hr := B.returns
  have hts := atoms_spec (ws := wsX5_toldAll) B.pre
  have hown : s.vm.findClass RX5 = some m.cls := findClass_of_methodNamed B.named
  have hlocks := B.notSynchronized
  have w := w0.start
  clear w0
  have hl := lv_entry ([.ref (g.2.2.1 t)]) (n := 1) (Nat.le_of_ble_eq_true rfl)
  rw [lg_entry_eq]
  generalize (lg_sl ([.ref (g.2.2.1 t)]) ++ List.replicate (1 - (lg_sl ([.ref (g.2.2.1 t)])).length) Slot.unset).toArray = ls at hl ⊢
  have hl : lv_has ls 1 [(0, .ref (g.2.2.1 t))] := hl
  refine lv_aload_n hx hb dX5_toldAll_0 rfl (lv_at hl 0 rfl) ?_
  refine r_get (C := RX5) (T := TX5) (N := 5) (ci := 4) hx hb hts inX5_toldAll_X5 hown w (by have := T.1; omega) T.2.1 rfl 0 (by decide) (hts (Cond.fieldLink RX5 12 "EarlyValues$Text" "told" "LEarlyValues$Program;") (List.mem_of_getElem? (i := 1) (by decide +kernel))) rfl rfl dX5_toldAll_1 ?_
  refine r_get (C := RX3) (T := TX3) (N := 5) (ci := 2) hx hb hts inX5_toldAll_X3 hown w (by have := P.1; omega) P.c0 rfl 0 (by decide) (hts (Cond.fieldLink RX5 32 "EarlyValues$Program" "functions" "I") (List.mem_of_getElem? (i := 2) (by decide +kernel))) rfl rfl dX5_toldAll_4 ?_
  refine lv_if_le (tgt := 28) hx hb dX5_toldAll_7 (by decide) (fun c1 => ?_) (fun c1 => ?_)
  · have c1 : ((N : Nat) : Int) ≤ (0 : Int) := (i_le hN (rfl : (0 : Int32).toInt = 0)).mp c1
    refine lv_iconst (v := 0) hx hb dX5_toldAll_28 (by decide) ?_
    refine r_zret (v := 0) hx hb hr rfl hlocks w dX5_toldAll_29 ?_
    exact ⟨rfl, by first | exact Bq.t (by omega) | exact Bq.f (by omega)⟩
  · have c1 : ¬ (((N : Nat) : Int) ≤ (0 : Int)) := fun q => c1 ((i_le hN (rfl : (0 : Int32).toInt = 0)).mpr q)
    refine lv_aload_n hx hb dX5_toldAll_10 rfl (lv_at hl 0 rfl) ?_
    refine r_get (C := RX5) (T := TX5) (N := 5) (ci := 4) hx hb hts inX5_toldAll_X5 hown w (by have := T.1; omega) T.2.1 rfl 4 (by decide) (hts (Cond.fieldLink RX5 29 "EarlyValues$Text" "bodies" "I") (List.mem_of_getElem? (i := 3) (by decide +kernel))) rfl rfl dX5_toldAll_11 ?_
    refine lv_aload_n hx hb dX5_toldAll_14 rfl (lv_at hl 0 rfl) ?_
    refine r_get (C := RX5) (T := TX5) (N := 5) (ci := 4) hx hb hts inX5_toldAll_X5 hown w (by have := T.1; omega) T.2.1 rfl 0 (by decide) (hts (Cond.fieldLink RX5 12 "EarlyValues$Text" "told" "LEarlyValues$Program;") (List.mem_of_getElem? (i := 1) (by decide +kernel))) rfl rfl dX5_toldAll_15 ?_
    refine r_get (C := RX3) (T := TX3) (N := 5) (ci := 2) hx hb hts inX5_toldAll_X3 hown w (by have := P.1; omega) P.c0 rfl 0 (by decide) (hts (Cond.fieldLink RX5 32 "EarlyValues$Program" "functions" "I") (List.mem_of_getElem? (i := 2) (by decide +kernel))) rfl rfl dX5_toldAll_18 ?_
    refine lv_icmp_ne (tgt := 28) hx hb dX5_toldAll_21 (by decide) (fun c2 => ?_) (fun c2 => ?_)
    · have c2 : ¬ (((mb : Nat) : Int) = ((N : Nat) : Int)) := fun q => c2 ((i_eq hmb hN).mpr q)
      refine lv_iconst (v := 0) hx hb dX5_toldAll_28 (by decide) ?_
      refine r_zret (v := 0) hx hb hr rfl hlocks w dX5_toldAll_29 ?_
      exact ⟨rfl, by first | exact Bq.t (by omega) | exact Bq.f (by omega)⟩
    · have c2 : ((mb : Nat) : Int) = ((N : Nat) : Int) := (i_eq hmb hN).mp c2
      refine lv_iconst (v := 1) hx hb dX5_toldAll_24 (by decide) ?_
      refine lv_goto (tgt := 29) hx hb dX5_toldAll_25 (by decide) ?_
      refine r_zret (v := 1) hx hb hr rfl hlocks w dX5_toldAll_29 ?_
      exact ⟨rfl, by first | exact Bq.t (by omega) | exact Bq.f (by omega)⟩

theorem inX5_next_X5 : ∀ w ∈ wsX50, w ∈ wsX5_next := by decide +kernel
abbrev rm_X5_next : Room := { frames := 0, cells := 0, slots := 0, locals := 0 }
set_option maxHeartbeats 4000000 in
set_option maxRecDepth 100000 in
theorem c_X5_next (l : Launch) {g : GE} {h : Nat → va_E} {t : Nat} {ln at_ bd : Int32} {gs : Nat → Int32} (T : TxA g h t ln at_ bd gs) {n : Nat} {tx : Nat → Nat} (hsz : ln.toInt = (n : Int)) (hn200 : n ≤ 200) (hgx : ∀ i, i < n → (gs i).toInt = ((tx i : Nat) : Int)) (hlt : ∀ i, i < n → 32 ≤ tx i ∧ tx i ≤ 126) {i : Nat} (hat : at_.toInt = (i : Int)) : MI l yX5_next wsX5_next rm_X5_next [.ref (g.2.2.1 t)] g h (fun r_ h2 => (∀ k, ¬ (k = t) → h2 k = h k) ∧ ∃ at2 : Int32, TxA g h2 t ln at2 bd gs ∧ r_.toInt = ((sgn tx n i : Nat) : Int) ∧ (i < n → at2.toInt = ((i + 1 : Nat) : Int)) ∧ (n ≤ i → at2.toInt = ((i : Nat) : Int))) := by
  refine Met.ofW (cc := cX5_next) (maxL := 2) (ret := (some .char)) (by decide) rfl ?_
  intro p e s m args below meth c s₁ B hml hv
  obtain ⟨rfl, w0⟩ := hv
  have hx := B.exec
  have hb := B.bytes
  have hr := B.returns
  have hts := atoms_spec (ws := wsX5_next) B.pre
  have hown : s.vm.findClass RX5 = some m.cls := findClass_of_methodNamed B.named
  have hlocks := B.notSynchronized
  have w := w0.start
  clear w0
  have hl := lv_entry ([.ref (g.2.2.1 t)]) (n := 2) (Nat.le_of_ble_eq_true rfl)
  rw [lg_entry_eq]
  generalize (lg_sl ([.ref (g.2.2.1 t)]) ++ List.replicate (2 - (lg_sl ([.ref (g.2.2.1 t)])).length) Slot.unset).toArray = ls at hl ⊢
  have hl : lv_has ls 2 [(0, .ref (g.2.2.1 t))] := hl
  have hfr : ∀ k_, ¬ (k_ = t) → h k_ = h k_ := fun _ _ => rfl
  refine lv_aload_n hx hb dX5_next_0 rfl (lv_at hl 0 rfl) ?_
  refine r_get (C := RX5) (T := TX5) (N := 5) (ci := 4) hx hb hts inX5_next_X5 hown w (by have := T.1; omega) T.2.1 rfl 3 (by decide) (hts (Cond.fieldLink RX5 26 "EarlyValues$Text" "at" "I") (List.mem_of_getElem? (i := 1) (by decide +kernel))) rfl rfl dX5_next_1 ?_
  refine lv_aload_n hx hb dX5_next_4 rfl (lv_at hl 0 rfl) ?_
  refine r_get (C := RX5) (T := TX5) (N := 5) (ci := 4) hx hb hts inX5_next_X5 hown w (by have := T.1; omega) T.2.1 rfl 1 (by decide) (hts (Cond.fieldLink RX5 22 "EarlyValues$Text" "length" "I") (List.mem_of_getElem? (i := 2) (by decide +kernel))) rfl rfl dX5_next_5 ?_
  refine lv_icmp_lt (tgt := 13) hx hb dX5_next_8 (by decide) (fun c1 => ?_) (fun c1 => ?_)
  · have c1 : ((i : Nat) : Int) < ((n : Nat) : Int) := (i_lt hat hsz).mp c1
    refine lv_aload_n hx hb dX5_next_13 rfl (lv_at hl 0 rfl) ?_
    refine r_get (C := RX5) (T := TX5) (N := 5) (ci := 4) hx hb hts inX5_next_X5 hown w (by have := T.1; omega) T.2.1 rfl 2 (by decide) (hts (Cond.fieldLink RX5 18 "EarlyValues$Text" "signs" "[C") (List.mem_of_getElem? (i := 3) (by decide +kernel))) rfl rfl dX5_next_14 ?_
    refine lv_aload_n hx hb dX5_next_17 rfl (lv_at hl 0 rfl) ?_
    refine r_get (C := RX5) (T := TX5) (N := 5) (ci := 4) hx hb hts inX5_next_X5 hown w (by have := T.1; omega) T.2.1 rfl 3 (by decide) (hts (Cond.fieldLink RX5 26 "EarlyValues$Text" "at" "I") (List.mem_of_getElem? (i := 1) (by decide +kernel))) rfl rfl dX5_next_18 ?_
    refine r_cald (j := i) hx hb w (by have := T.1; omega) T.2.2 hat (by omega) dX5_next_21 ?_
    refine lv_istore_n (lv' := [(1, .int (gs i)), (0, .ref (g.2.2.1 t))]) hx hb dX5_next_22 rfl hl (by decide) rfl (fun ls hl => ?_)
    refine lv_aload_n hx hb dX5_next_23 rfl (lv_at hl 1 rfl) ?_
    refine lv_dup hx hb dX5_next_24 rfl ?_
    refine r_get (C := RX5) (T := TX5) (N := 5) (ci := 4) hx hb hts inX5_next_X5 hown w (by have := T.1; omega) T.2.1 rfl 3 (by decide) (hts (Cond.fieldLink RX5 26 "EarlyValues$Text" "at" "I") (List.mem_of_getElem? (i := 1) (by decide +kernel))) rfl rfl dX5_next_25 ?_
    refine lv_iconst (v := 1) hx hb dX5_next_28 (by decide) ?_
    refine lv_iadd hx hb dX5_next_29 ?_
    refine lv_topi (fun y2 ey2 => ?_)
    have ty2 : y2.toInt = (((i + 1) : Nat) : Int) := i_addN ey2 hat (by decide : (1 : Int32).toInt = ((1 : Nat) : Int)) (by omega)
    refine r_put (ty := .int) (C := RX5) (T := TX5) (N := 5) (ci := 4) hx hb hts inX5_next_X5 tyX5 tyX5_ok nmX5 hown w (by have := T.1; omega) T.2.1 rfl 3 (by decide) (hts (Cond.fieldLink RX5 26 "EarlyValues$Text" "at" "I") (List.mem_of_getElem? (i := 1) (by decide +kernel))) rfl rfl (by decide +kernel) rfl rfl (Nat.le_of_ble_eq_true rfl) dX5_next_30 (fun h3 H locs eh3 w => ?_)
    have T := T.s0 eh3
    have hfr : ∀ k_, ¬ (k_ = t) → h3 k_ = h k_ := fun k_ hk_ => by rw [eh3, va_up_ne _ _ (by omega)]
    refine lv_iload_n hx hb dX5_next_33 rfl (lv_at hl 0 rfl) ?_
    refine r_zret (v := gs i) hx hb hr (nar_C (hgx i (by omega)) (by have := hlt i (by omega); omega)) hlocks w dX5_next_34 ?_
    exact ⟨hfr, _, T, by unfold sgn; first | (rw [if_neg (by omega)]; rfl) | (rw [if_pos (by omega)]; exact (hgx i (by omega))), fun q_ => by omega, fun q_ => by omega⟩
  · have c1 : ¬ (((i : Nat) : Int) < ((n : Nat) : Int)) := fun q => c1 ((i_lt hat hsz).mpr q)
    refine lv_iconst (v := 0) hx hb dX5_next_11 (by decide) ?_
    refine r_zret (v := 0) hx hb hr rfl hlocks w dX5_next_12 ?_
    exact ⟨hfr, _, T, by unfold sgn; first | (rw [if_neg (by omega)]; rfl) | (rw [if_pos (by omega)]; exact (by decide : (0 : Int32).toInt = ((0 : Nat) : Int))), fun q_ => by omega, fun q_ => by omega⟩

