theorem inX7_isDigit_X0 : ∀ w ∈ wsX00, w ∈ wsX7_isDigit := by decide +kernel
theorem inX7_isDigit_X4 : ∀ w ∈ wsX40, w ∈ wsX7_isDigit := by decide +kernel
theorem inX7_isDigit_X6 : ∀ w ∈ wsX60, w ∈ wsX7_isDigit := by decide +kernel
abbrev rm_X7_isDigit : Room := { frames := 0, cells := 0, slots := 0, locals := 0 }
set_option maxHeartbeats 4000000 in
set_option maxRecDepth 100000 in
theorem c_X7_isDigit (l : Launch) {g : GE} {h : Nat → va_E} {v u kk kc : Nat} {tk fz dp : Int32} {gp gg gs : Nat → Int32} {gd gt gc : Nat → Nat → Int32} (V : VwA g h v u kk kc tk fz dp gp gg gs gd gt gc) (p0 : Int32) : MI l yX7_isDigit wsX7_isDigit rm_X7_isDigit [.ref (g.2.2.1 v), .int p0] g h (fun r h2 => h2 = h ∧ Bq r (0 ≤ p0.toInt ∧ p0.toInt < (mB u : Int))) := by
  refine Met.ofW (cc := cX7_isDigit) (maxL := 2) (ret := (some .boolean)) (by decide) rfl ?_
  intro p e s m args below meth c s₁ B hml hv
  obtain ⟨rfl, w0⟩ := hv
  have hx := B.exec
  have hb := B.bytes
  have hr := B.returns
  have hts := atoms_spec (ws := wsX7_isDigit) B.pre
  have hown : s.vm.findClass RX7 = some m.cls := findClass_of_methodNamed B.named
  have hlocks := B.notSynchronized
  have w := w0.start
  clear w0
  have hl := lv_entry ([.ref (g.2.2.1 v), .int p0]) (n := 2) (Nat.le_of_ble_eq_true rfl)
  rw [lg_entry_eq]
  generalize (lg_sl ([.ref (g.2.2.1 v), .int p0]) ++ List.replicate (2 - (lg_sl ([.ref (g.2.2.1 v), .int p0])).length) Slot.unset).toArray = ls at hl ⊢
  have hl : lv_has ls 2 [(0, .ref (g.2.2.1 v)), (1, .int p0)] := hl
  refine lv_iload_n hx hb dX7_isDigit_0 rfl (lv_at hl 1 rfl) ?_
  refine lv_if_lt (tgt := 16) hx hb dX7_isDigit_1 (by decide) (fun c1 => ?_) (fun c1 => ?_)
  · have c1 : p0.toInt < (0 : Int) := (i_lt (rfl : p0.toInt = p0.toInt) (rfl : (0 : Int32).toInt = 0)).mp c1
    refine lv_iconst (v := 0) hx hb dX7_isDigit_16 (by decide) ?_
    refine r_zret (v := 0) hx hb hr rfl hlocks w dX7_isDigit_17 ?_
    exact ⟨rfl, by first | exact Bq.t (by omega) | exact Bq.f (by omega)⟩
  · have c1 : ¬ (p0.toInt < (0 : Int)) := fun q => c1 ((i_lt (rfl : p0.toInt = p0.toInt) (rfl : (0 : Int32).toInt = 0)).mpr q)
    refine lv_iload_n hx hb dX7_isDigit_4 rfl (lv_at hl 1 rfl) ?_
    refine lv_aload_n hx hb dX7_isDigit_5 rfl (lv_at hl 0 rfl) ?_
    refine r_getV hx hb hts ⟨inX7_isDigit_X0, inX7_isDigit_X4, inX7_isDigit_X6⟩ hown w V.hu (by have := V.hN; omega) V.c0 0 (by decide) (hts (Cond.fieldLink RX7 21 "EarlyValues$View" "base" "I") (List.mem_of_getElem? (i := 1) (by decide +kernel))) rfl rfl dX7_isDigit_6 ?_
    refine lv_icmp_ge (tgt := 16) hx hb dX7_isDigit_9 (by decide) (fun c2 => ?_) (fun c2 => ?_)
    · have c2 : (((mB u) : Nat) : Int) ≤ p0.toInt := (i_le (mB_i u) (rfl : p0.toInt = p0.toInt)).mp c2
      refine lv_iconst (v := 0) hx hb dX7_isDigit_16 (by decide) ?_
      refine r_zret (v := 0) hx hb hr rfl hlocks w dX7_isDigit_17 ?_
      exact ⟨rfl, by first | exact Bq.t (by omega) | exact Bq.f (by omega)⟩
    · have c2 : ¬ ((((mB u) : Nat) : Int) ≤ p0.toInt) := fun q => c2 ((i_le (mB_i u) (rfl : p0.toInt = p0.toInt)).mpr q)
      refine lv_iconst (v := 1) hx hb dX7_isDigit_12 (by decide) ?_
      refine lv_goto (tgt := 17) hx hb dX7_isDigit_13 (by decide) ?_
      refine r_zret (v := 1) hx hb hr rfl hlocks w dX7_isDigit_17 ?_
      exact ⟨rfl, by first | exact Bq.t (by omega) | exact Bq.f (by omega)⟩

theorem inX7_at_X0 : ∀ w ∈ wsX00, w ∈ wsX7_at := by decide +kernel
theorem inX7_at_X4 : ∀ w ∈ wsX40, w ∈ wsX7_at := by decide +kernel
theorem inX7_at_X6 : ∀ w ∈ wsX60, w ∈ wsX7_at := by decide +kernel
abbrev rm_X7_at : Room := { frames := 0, cells := 0, slots := 0, locals := 0 }
set_option maxHeartbeats 4000000 in
set_option maxRecDepth 100000 in
theorem c_X7_at (l : Launch) {g : GE} {h : Nat → va_E} {v u kk kc : Nat} {tk fz dp : Int32} {gp gg gs : Nat → Int32} {gd gt gc : Nat → Nat → Int32} (V : VwA g h v u kk kc tk fz dp gp gg gs gd gt gc) (p0 p1 : Int32) {f row : Nat} (hp0 : p0.toInt = (f : Int)) (hp1 : p1.toInt = (row : Int)) (hf : f < 4) (hrow : row < mR u) : MI l yX7_at wsX7_at rm_X7_at [.ref (g.2.2.1 v), .int p0, .int p1] g h (fun r h2 => h2 = h ∧ r = gt f row) := by
  refine Met.ofW (cc := cX7_at) (maxL := 4) (ret := (some .int)) (by decide) rfl ?_
  intro p e s m args below meth c s₁ B hml hv
  obtain ⟨rfl, w0⟩ := hv
  have hx := B.exec
  have hb := B.bytes
  have hr := B.returns
  have hts := atoms_spec (ws := wsX7_at) B.pre
  have hown : s.vm.findClass RX7 = some m.cls := findClass_of_methodNamed B.named
  have hlocks := B.notSynchronized
  have w := w0.start
  clear w0
  have hl := lv_entry ([.ref (g.2.2.1 v), .int p0, .int p1]) (n := 4) (Nat.le_of_ble_eq_true rfl)
  rw [lg_entry_eq]
  generalize (lg_sl ([.ref (g.2.2.1 v), .int p0, .int p1]) ++ List.replicate (4 - (lg_sl ([.ref (g.2.2.1 v), .int p0, .int p1])).length) Slot.unset).toArray = ls at hl ⊢
  have hl : lv_has ls 4 [(0, .ref (g.2.2.1 v)), (1, .int p0), (2, .int p1)] := hl
  refine lv_iload_n hx hb dX7_at_0 rfl (lv_at hl 1 rfl) ?_
  refine lv_if_lt (tgt := 32) hx hb dX7_at_1 (by decide) (fun c1 => ?_) (fun c1 => ?_)
  · have c1 : ((f : Nat) : Int) < (0 : Int) := (i_lt hp0 (rfl : (0 : Int32).toInt = 0)).mp c1
    exfalso
    omega
  · have c1 : ¬ (((f : Nat) : Int) < (0 : Int)) := fun q => c1 ((i_lt hp0 (rfl : (0 : Int32).toInt = 0)).mpr q)
    refine lv_iload_n hx hb dX7_at_4 rfl (lv_at hl 1 rfl) ?_
    refine lv_aload_n hx hb dX7_at_5 rfl (lv_at hl 0 rfl) ?_
    refine r_getV hx hb hts ⟨inX7_at_X0, inX7_at_X4, inX7_at_X6⟩ hown w V.hu (by have := V.hN; omega) V.c0 6 (by decide) (hts (Cond.fieldLink RX7 45 "EarlyValues$View" "known" "[[B") (List.mem_of_getElem? (i := 1) (by decide +kernel))) rfl rfl dX7_at_6 ?_
    refine r_alen (t := 5) (v := 4) hx hb w (by decide) (by have := V.hN; omega) V.k0 rfl dX7_at_9 ?_
    refine lv_icmp_ge (tgt := 32) hx hb dX7_at_10 (by decide) (fun c2 => ?_) (fun c2 => ?_)
    · have c2 : ((4 : Nat) : Int) ≤ ((f : Nat) : Int) := (i_le (by decide : (4 : Int32).toInt = ((4 : Nat) : Int)) hp0).mp c2
      exfalso
      omega
    · have c2 : ¬ (((4 : Nat) : Int) ≤ ((f : Nat) : Int)) := fun q => c2 ((i_le (by decide : (4 : Int32).toInt = ((4 : Nat) : Int)) hp0).mpr q)
      refine lv_iload_n hx hb dX7_at_13 rfl (lv_at hl 2 rfl) ?_
      refine lv_if_lt (tgt := 32) hx hb dX7_at_14 (by decide) (fun c3 => ?_) (fun c3 => ?_)
      · have c3 : ((row : Nat) : Int) < (0 : Int) := (i_lt hp1 (rfl : (0 : Int32).toInt = 0)).mp c3
        exfalso
        omega
      · have c3 : ¬ (((row : Nat) : Int) < (0 : Int)) := fun q => c3 ((i_lt hp1 (rfl : (0 : Int32).toInt = 0)).mpr q)
        refine lv_iload_n hx hb dX7_at_17 rfl (lv_at hl 2 rfl) ?_
        refine lv_aload_n hx hb dX7_at_18 rfl (lv_at hl 0 rfl) ?_
        refine r_getV hx hb hts ⟨inX7_at_X0, inX7_at_X4, inX7_at_X6⟩ hown w V.hu (by have := V.hN; omega) V.c0 6 (by decide) (hts (Cond.fieldLink RX7 45 "EarlyValues$View" "known" "[[B") (List.mem_of_getElem? (i := 1) (by decide +kernel))) rfl rfl dX7_at_19 ?_
        refine lv_iload_n hx hb dX7_at_22 rfl (lv_at hl 1 rfl) ?_
        refine r_aald (t := 5) (j := f) hx hb w (by decide) (by have := V.hN; omega) V.k0 hp0 (by omega) (rowsF_in (by omega)) dX7_at_23 ?_
        refine r_alen (t := 2) (v := nI (mR u)) hx hb w (by decide) (by have := V.hN; omega) (V.k1 (i := f) (by omega)) rfl dX7_at_24 ?_
        refine lv_icmp_ge (tgt := 32) hx hb dX7_at_25 (by decide) (fun c4 => ?_) (fun c4 => ?_)
        · have c4 : (((mR u) : Nat) : Int) ≤ ((row : Nat) : Int) := (i_le (nI_toInt (mR_lt u)) hp1).mp c4
          exfalso
          omega
        · have c4 : ¬ ((((mR u) : Nat) : Int) ≤ ((row : Nat) : Int)) := fun q => c4 ((i_le (nI_toInt (mR_lt u)) hp1).mpr q)
          refine lv_iconst (v := 1) hx hb dX7_at_28 (by decide) ?_
          refine lv_goto (tgt := 33) hx hb dX7_at_29 (by decide) ?_
          refine lv_istore_n (lv' := [(3, .int 1), (0, .ref (g.2.2.1 v)), (1, .int p0), (2, .int p1)]) hx hb dX7_at_33 rfl hl (by decide) rfl (fun ls hl => ?_)
          refine lv_iload_n hx hb dX7_at_34 rfl (lv_at hl 0 rfl) ?_
          refine lv_if_eq (tgt := 49) hx hb dX7_at_35 (by decide) (fun c5 => ?_) (fun c5 => ?_)
          · have c5 : ((1 : Nat) : Int) = (0 : Int) := (i_eq (by decide : (1 : Int32).toInt = ((1 : Nat) : Int)) (rfl : (0 : Int32).toInt = 0)).mp c5
            exact absurd c5 (by decide)
          · have c5 : ¬ (((1 : Nat) : Int) = (0 : Int)) := fun q => c5 ((i_eq (by decide : (1 : Int32).toInt = ((1 : Nat) : Int)) (rfl : (0 : Int32).toInt = 0)).mpr q)
            refine lv_aload_n hx hb dX7_at_38 rfl (lv_at hl 1 rfl) ?_
            refine r_getV hx hb hts ⟨inX7_at_X0, inX7_at_X4, inX7_at_X6⟩ hown w V.hu (by have := V.hN; omega) V.c0 6 (by decide) (hts (Cond.fieldLink RX7 45 "EarlyValues$View" "known" "[[B") (List.mem_of_getElem? (i := 1) (by decide +kernel))) rfl rfl dX7_at_39 ?_
            refine lv_iload_n hx hb dX7_at_42 rfl (lv_at hl 2 rfl) ?_
            refine r_aald (t := 5) (j := f) hx hb w (by decide) (by have := V.hN; omega) V.k0 hp0 (by omega) (rowsF_in (by omega)) dX7_at_43 ?_
            refine lv_iload_n hx hb dX7_at_44 rfl (lv_at hl 3 rfl) ?_
            refine r_bald (j := row) hx hb w (by have := V.hN; omega) (V.k1 (i := f) (by omega)) hp1 (by omega) dX7_at_45 ?_
            refine lv_goto (tgt := 53) hx hb dX7_at_46 (by decide) ?_
            refine r_iret (v := ((gt f)) row) hx hb hr hlocks w dX7_at_53 ?_
            exact ⟨rfl, rfl⟩

theorem inX7_push_X0 : ∀ w ∈ wsX00, w ∈ wsX7_push := by decide +kernel
theorem inX7_push_X4 : ∀ w ∈ wsX40, w ∈ wsX7_push := by decide +kernel
theorem inX7_push_X6 : ∀ w ∈ wsX60, w ∈ wsX7_push := by decide +kernel
abbrev rm_X7_push : Room := { frames := 0, cells := 0, slots := 0, locals := 0 }
set_option maxHeartbeats 4000000 in
set_option maxRecDepth 100000 in
theorem c_X7_push (l : Launch) {g : GE} {h : Nat → va_E} {v u kk kc : Nat} {tk fz dp : Int32} {gp gg gs : Nat → Int32} {gd gt gc : Nat → Nat → Int32} (V : VwA g h v u kk kc tk fz dp gp gg gs gd gt gc) (p0 : Int32) {d : Nat} (hd : dp.toInt = (d : Int)) (hd24 : d < 24) : MV l yX7_push wsX7_push rm_X7_push [.ref (g.2.2.1 v), .int p0] g h (fun h2 => (∀ k, ¬ (v ≤ k ∧ k < v + 18) → h2 k = h k) ∧ ∃ dp2 : Int32, dp2.toInt = ((d + 1 : Nat) : Int) ∧ VwA g h2 v u kk kc tk fz dp2 gp gg (upd gs d p0) gd gt gc) := by
  refine Met.ofW (cc := cX7_push) (maxL := 2) (ret := none) (by decide) rfl ?_
  intro p e s m args below meth c s₁ B hml hv
  obtain ⟨rfl, w0⟩ := hv
  have hx := B.exec
  have hb := B.bytes
  have hr := B.returns
  have hts := atoms_spec (ws := wsX7_push) B.pre
  have hown : s.vm.findClass RX7 = some m.cls := findClass_of_methodNamed B.named
  have hlocks := B.notSynchronized
  have w := w0.start
  clear w0
  have hl := lv_entry ([.ref (g.2.2.1 v), .int p0]) (n := 2) (Nat.le_of_ble_eq_true rfl)
  rw [lg_entry_eq]
  generalize (lg_sl ([.ref (g.2.2.1 v), .int p0]) ++ List.replicate (2 - (lg_sl ([.ref (g.2.2.1 v), .int p0])).length) Slot.unset).toArray = ls at hl ⊢
  have hl : lv_has ls 2 [(0, .ref (g.2.2.1 v)), (1, .int p0)] := hl
  refine lv_aload_n hx hb dX7_push_0 rfl (lv_at hl 0 rfl) ?_
  refine r_getV hx hb hts ⟨inX7_push_X0, inX7_push_X4, inX7_push_X6⟩ hown w V.hu (by have := V.hN; omega) V.c0 12 (by decide) (hts (Cond.fieldLink RX7 108 "EarlyValues$View" "depth" "I") (List.mem_of_getElem? (i := 1) (by decide +kernel))) rfl rfl dX7_push_1 ?_
  refine lv_aload_n hx hb dX7_push_4 rfl (lv_at hl 0 rfl) ?_
  refine r_getV hx hb hts ⟨inX7_push_X0, inX7_push_X4, inX7_push_X6⟩ hown w V.hu (by have := V.hN; omega) V.c0 11 (by decide) (hts (Cond.fieldLink RX7 18 "EarlyValues$View" "stack" "[I") (List.mem_of_getElem? (i := 2) (by decide +kernel))) rfl rfl dX7_push_5 ?_
  refine r_alen (t := 0) (v := 24) hx hb w (by decide) (by have := V.hN; omega) V.c3 rfl dX7_push_8 ?_
  refine lv_icmp_ge (tgt := 32) hx hb dX7_push_9 (by decide) (fun c1 => ?_) (fun c1 => ?_)
  · have c1 : ((24 : Nat) : Int) ≤ ((d : Nat) : Int) := (i_le (by decide : (24 : Int32).toInt = ((24 : Nat) : Int)) hd).mp c1
    exfalso; omega
  · have c1 : ¬ (((24 : Nat) : Int) ≤ ((d : Nat) : Int)) := fun q => c1 ((i_le (by decide : (24 : Int32).toInt = ((24 : Nat) : Int)) hd).mpr q)
    refine lv_aload_n hx hb dX7_push_12 rfl (lv_at hl 0 rfl) ?_
    refine r_getV hx hb hts ⟨inX7_push_X0, inX7_push_X4, inX7_push_X6⟩ hown w V.hu (by have := V.hN; omega) V.c0 11 (by decide) (hts (Cond.fieldLink RX7 18 "EarlyValues$View" "stack" "[I") (List.mem_of_getElem? (i := 2) (by decide +kernel))) rfl rfl dX7_push_13 ?_
    refine lv_aload_n hx hb dX7_push_16 rfl (lv_at hl 0 rfl) ?_
    refine r_getV hx hb hts ⟨inX7_push_X0, inX7_push_X4, inX7_push_X6⟩ hown w V.hu (by have := V.hN; omega) V.c0 12 (by decide) (hts (Cond.fieldLink RX7 108 "EarlyValues$View" "depth" "I") (List.mem_of_getElem? (i := 1) (by decide +kernel))) rfl rfl dX7_push_17 ?_
    refine lv_iload_n hx hb dX7_push_20 rfl (lv_at hl 1 rfl) ?_
    refine r_iast (j := d) hx hb w (by have := V.hN; omega) V.c3 hd (by omega) dX7_push_21 (fun h2 H locs eh2 w => ?_)
    have V := V.s3 eh2
    generalize egz3 : upd gs d p0 = gz3 at V
    have hfr : ∀ k_, ¬ (v ≤ k_ ∧ k_ < v + 18) → h2 k_ = h k_ := fun k_ hk_ => by rw [eh2, va_up_ne _ _ (by omega)]
    refine lv_aload_n hx hb dX7_push_22 rfl (lv_at hl 0 rfl) ?_
    refine lv_dup hx hb dX7_push_23 rfl ?_
    refine r_getV hx hb hts ⟨inX7_push_X0, inX7_push_X4, inX7_push_X6⟩ hown w V.hu (by have := V.hN; omega) V.c0 12 (by decide) (hts (Cond.fieldLink RX7 108 "EarlyValues$View" "depth" "I") (List.mem_of_getElem? (i := 1) (by decide +kernel))) rfl rfl dX7_push_24 ?_
    refine lv_iconst (v := 1) hx hb dX7_push_27 (by decide) ?_
    refine lv_iadd hx hb dX7_push_28 ?_
    refine lv_topi (fun y4 ey4 => ?_)
    have ty4 : y4.toInt = (((d + 1) : Nat) : Int) := i_addN ey4 hd (by decide : (1 : Int32).toInt = ((1 : Nat) : Int)) (by omega)
    refine r_putV (ty := .int) hx hb hts ⟨inX7_push_X0, inX7_push_X4, inX7_push_X6⟩ hown w V.hu (by have := V.hN; omega) V.c0 12 (by decide) (hts (Cond.fieldLink RX7 108 "EarlyValues$View" "depth" "I") (List.mem_of_getElem? (i := 1) (by decide +kernel))) rfl rfl (by decide +kernel) rfl rfl (Nat.le_of_ble_eq_true rfl) dX7_push_29 (fun h5 H locs eh5 w => ?_)
    have hfr : ∀ k_, ¬ (v ≤ k_ ∧ k_ < v + 18) → h5 k_ = h k_ := fun k_ hk_ => by rw [eh5, va_up_ne _ _ (by omega)]; exact hfr k_ hk_
    have V := V.s0 eh5
    refine r_vret hx hb hr hlocks w dX7_push_32 ?_
    exact ⟨hfr, _, ty4, by first | exact V | (rw [egz3]; exact V)⟩

theorem inX7_pop_X0 : ∀ w ∈ wsX00, w ∈ wsX7_pop := by decide +kernel
theorem inX7_pop_X4 : ∀ w ∈ wsX40, w ∈ wsX7_pop := by decide +kernel
theorem inX7_pop_X6 : ∀ w ∈ wsX60, w ∈ wsX7_pop := by decide +kernel
abbrev rm_X7_pop : Room := { frames := 0, cells := 0, slots := 0, locals := 0 }
set_option maxHeartbeats 4000000 in
set_option maxRecDepth 100000 in
theorem c_X7_pop (l : Launch) {g : GE} {h : Nat → va_E} {v u kk kc : Nat} {tk fz dp : Int32} {gp gg gs : Nat → Int32} {gd gt gc : Nat → Nat → Int32} (V : VwA g h v u kk kc tk fz dp gp gg gs gd gt gc) {d : Nat} (hd : dp.toInt = ((d + 1 : Nat) : Int)) (hd24 : d < 24) : MI l yX7_pop wsX7_pop rm_X7_pop [.ref (g.2.2.1 v)] g h (fun r h2 => (∀ k, ¬ (v ≤ k ∧ k < v + 18) → h2 k = h k) ∧ r = gs d ∧ ∃ dp2 : Int32, dp2.toInt = (d : Int) ∧ VwA g h2 v u kk kc tk fz dp2 gp gg gs gd gt gc) := by
  refine Met.ofW (cc := cX7_pop) (maxL := 1) (ret := (some .int)) (by decide) rfl ?_
  intro p e s m args below meth c s₁ B hml hv
  obtain ⟨rfl, w0⟩ := hv
  have hx := B.exec
  have hb := B.bytes
  have hr := B.returns
  have hts := atoms_spec (ws := wsX7_pop) B.pre
  have hown : s.vm.findClass RX7 = some m.cls := findClass_of_methodNamed B.named
  have hlocks := B.notSynchronized
  have w := w0.start
  clear w0
  have hl := lv_entry ([.ref (g.2.2.1 v)]) (n := 1) (Nat.le_of_ble_eq_true rfl)
  rw [lg_entry_eq]
  generalize (lg_sl ([.ref (g.2.2.1 v)]) ++ List.replicate (1 - (lg_sl ([.ref (g.2.2.1 v)])).length) Slot.unset).toArray = ls at hl ⊢
  have hl : lv_has ls 1 [(0, .ref (g.2.2.1 v))] := hl
  refine lv_aload_n hx hb dX7_pop_0 rfl (lv_at hl 0 rfl) ?_
  refine r_getV hx hb hts ⟨inX7_pop_X0, inX7_pop_X4, inX7_pop_X6⟩ hown w V.hu (by have := V.hN; omega) V.c0 12 (by decide) (hts (Cond.fieldLink RX7 108 "EarlyValues$View" "depth" "I") (List.mem_of_getElem? (i := 1) (by decide +kernel))) rfl rfl dX7_pop_1 ?_
  refine lv_if_gt (tgt := 12) hx hb dX7_pop_4 (by decide) (fun c1 => ?_) (fun c1 => ?_)
  · have c1 : (0 : Int) < (((d + 1) : Nat) : Int) := (i_lt (rfl : (0 : Int32).toInt = 0) hd).mp c1
    refine lv_aload_n hx hb dX7_pop_12 rfl (lv_at hl 0 rfl) ?_
    refine lv_dup hx hb dX7_pop_13 rfl ?_
    refine r_getV hx hb hts ⟨inX7_pop_X0, inX7_pop_X4, inX7_pop_X6⟩ hown w V.hu (by have := V.hN; omega) V.c0 12 (by decide) (hts (Cond.fieldLink RX7 108 "EarlyValues$View" "depth" "I") (List.mem_of_getElem? (i := 1) (by decide +kernel))) rfl rfl dX7_pop_14 ?_
    refine lv_iconst (v := 1) hx hb dX7_pop_17 (by decide) ?_
    refine lv_isub hx hb dX7_pop_18 ?_
    refine lv_topi (fun y2 ey2 => ?_)
    have ty2 : y2.toInt = (((d + 1) : Nat) : Int) - ((1 : Nat) : Int) := i_sub ey2 hd (by decide : (1 : Int32).toInt = ((1 : Nat) : Int)) (by omega)
    refine r_putV (ty := .int) hx hb hts ⟨inX7_pop_X0, inX7_pop_X4, inX7_pop_X6⟩ hown w V.hu (by have := V.hN; omega) V.c0 12 (by decide) (hts (Cond.fieldLink RX7 108 "EarlyValues$View" "depth" "I") (List.mem_of_getElem? (i := 1) (by decide +kernel))) rfl rfl (by decide +kernel) rfl rfl (Nat.le_of_ble_eq_true rfl) dX7_pop_19 (fun h3 H locs eh3 w => ?_)
    have hfr : ∀ k_, ¬ (v ≤ k_ ∧ k_ < v + 18) → h3 k_ = h k_ := fun k_ hk_ => by rw [eh3, va_up_ne _ _ (by omega)]
    have V := V.s0 eh3
    refine lv_aload_n hx hb dX7_pop_22 rfl (lv_at hl 0 rfl) ?_
    refine r_getV hx hb hts ⟨inX7_pop_X0, inX7_pop_X4, inX7_pop_X6⟩ hown w V.hu (by have := V.hN; omega) V.c0 11 (by decide) (hts (Cond.fieldLink RX7 18 "EarlyValues$View" "stack" "[I") (List.mem_of_getElem? (i := 3) (by decide +kernel))) rfl rfl dX7_pop_23 ?_
    refine lv_aload_n hx hb dX7_pop_26 rfl (lv_at hl 0 rfl) ?_
    refine r_getV hx hb hts ⟨inX7_pop_X0, inX7_pop_X4, inX7_pop_X6⟩ hown w V.hu (by have := V.hN; omega) V.c0 12 (by decide) (hts (Cond.fieldLink RX7 108 "EarlyValues$View" "depth" "I") (List.mem_of_getElem? (i := 1) (by decide +kernel))) rfl rfl dX7_pop_27 ?_
    refine r_iald (j := d) hx hb w (by have := V.hN; omega) V.c3 (ty2.trans (by omega)) (by omega) dX7_pop_30 ?_
    refine r_iret (v := gs d) hx hb hr hlocks w dX7_pop_31 ?_
    exact ⟨hfr, rfl, _, ty2.trans (by omega), V⟩
  · have c1 : ¬ ((0 : Int) < (((d + 1) : Nat) : Int)) := fun q => c1 ((i_lt (rfl : (0 : Int32).toInt = 0) hd).mpr q)
    exfalso
    omega

theorem inX7_rowsOf_X0 : ∀ w ∈ wsX00, w ∈ wsX7_rowsOf := by decide +kernel
theorem inX7_rowsOf_X3 : ∀ w ∈ wsX30, w ∈ wsX7_rowsOf := by decide +kernel
theorem inX7_rowsOf_X4 : ∀ w ∈ wsX40, w ∈ wsX7_rowsOf := by decide +kernel
theorem inX7_rowsOf_X6 : ∀ w ∈ wsX60, w ∈ wsX7_rowsOf := by decide +kernel
abbrev rm_X7_rowsOf : Room := { frames := 1, cells := 0, slots := 0, locals := 21 }
set_option maxHeartbeats 4000000 in
set_option maxRecDepth 100000 in
theorem c_X7_rowsOf (l : Launch) {g : GE} {h : Nat → va_E} {v u kk kc : Nat} {tk fz dp : Int32} {gp gg gs : Nat → Int32} {gd gt gc : Nat → Nat → Int32} (V : VwA g h v u kk kc tk fz dp gp gg gs gd gt gc) {o : Nat} {n : Int32} {ga gk gl : Nat → Int32} {gb : Nat → Nat → Int32} (P : PrA g h o n ga gk gl gb) {M : PRG} (S : PrS M n ga gk gl gb) (hP : PV M) (p1 : Int32) {f : Nat} (hp1 : p1.toInt = (f : Int)) (hf : f < pN M) : MI l yX7_rowsOf wsX7_rowsOf rm_X7_rowsOf [.ref (g.2.2.1 v), .ref (g.2.2.1 o), .int p1] g h (fun r h2 => h2 = h ∧ r.toInt = ((mRw u M f : Nat) : Int)) := by
  refine Met.ofW (cc := cX7_rowsOf) (maxL := 3) (ret := (some .int)) (by decide) rfl ?_
  intro p e s m args below meth c s₁ B hml hv
  obtain ⟨rfl, w0⟩ := hv
  have hx := B.exec
  have hb := B.bytes
  have hr := B.returns
  have hts := atoms_spec (ws := wsX7_rowsOf) B.pre
  have hown : s.vm.findClass RX7 = some m.cls := findClass_of_methodNamed B.named
  have hlocks := B.notSynchronized
  have w := w0.start
  clear w0
  have hl := lv_entry ([.ref (g.2.2.1 v), .ref (g.2.2.1 o), .int p1]) (n := 3) (Nat.le_of_ble_eq_true rfl)
  rw [lg_entry_eq]
  generalize (lg_sl ([.ref (g.2.2.1 v), .ref (g.2.2.1 o), .int p1]) ++ List.replicate (3 - (lg_sl ([.ref (g.2.2.1 v), .ref (g.2.2.1 o), .int p1])).length) Slot.unset).toArray = ls at hl ⊢
  have hl : lv_has ls 3 [(0, .ref (g.2.2.1 v)), (1, .ref (g.2.2.1 o)), (2, .int p1)] := hl
  have hn4 := hP.2.1
  have ha3 := (hP.2.2 f hf).1
  refine lv_aload_n hx hb dX7_rowsOf_0 rfl (lv_at hl 1 rfl) ?_
  refine lv_iload_n hx hb dX7_rowsOf_1 rfl (lv_at hl 2 rfl) ?_
  refine r_callI w (va_runV (As := [.int p1]) (rest := []) ⟨hx, hb, hml, hown, hts⟩ (c_X3_has l P p1) (cwV 1 hts gX7_rowsOf_X3_has rfl rfl rfl (by decide +kernel) ⟨Nat.le_of_ble_eq_true rfl, Nat.le_of_ble_eq_true rfl⟩) (r_preV w (by have := P.1; omega) P.c0 rfl) rfl rfl hl.1 rfl (lv_room (Nat.le_of_ble_eq_true rfl)) dX7_rowsOf_2 ⟨Nat.zero_le _, Nat.zero_le _⟩) (fun r2 h1 H locs hp w => ?_)
  obtain ⟨eh_, qq3⟩ := hp
  have eh_ := eh_.symm
  subst eh_
  have b4 : Bq r2 (0 ≤ ((f : Nat) : Int) ∧ ((f : Nat) : Int) < (((pN M) : Nat) : Int)) := qq3.iff (by rw [(hp1 : p1.toInt = _), (S.1 : n.toInt = _)])
  refine lv_if_eq (tgt := 22) hx hb dX7_rowsOf_5 (by decide) (fun c5 => ?_) (fun c5 => ?_)
  · have c5 := b4.eq c5
    exfalso; omega
  · have c5 := b4.ne c5
    refine lv_aload_n hx hb dX7_rowsOf_8 rfl (lv_at hl 0 rfl) ?_
    refine r_getV hx hb hts ⟨inX7_rowsOf_X0, inX7_rowsOf_X4, inX7_rowsOf_X6⟩ hown w V.hu (by have := V.hN; omega) V.c0 4 (by decide) (hts (Cond.fieldLink RX7 9 "EarlyValues$View" "powers" "[I") (List.mem_of_getElem? (i := 1) (by decide +kernel))) rfl rfl dX7_rowsOf_9 ?_
    refine lv_aload_n hx hb dX7_rowsOf_12 rfl (lv_at hl 1 rfl) ?_
    refine r_get (C := RX3) (T := TX3) (N := 5) (ci := 2) hx hb hts inX7_rowsOf_X3 hown w (by have := P.1; omega) P.c0 rfl 1 (by decide) (hts (Cond.fieldLink RX7 55 "EarlyValues$Program" "arguments" "[I") (List.mem_of_getElem? (i := 2) (by decide +kernel))) rfl rfl dX7_rowsOf_13 ?_
    refine lv_iload_n hx hb dX7_rowsOf_16 rfl (lv_at hl 2 rfl) ?_
    refine r_iald (j := f) hx hb w (by have := P.1; omega) P.c1 hp1 (by omega) dX7_rowsOf_17 ?_
    refine r_iald (j := (pA M f)) hx hb w (by have := V.hN; omega) V.c1 (S.2.1 f (by omega)) (by omega) dX7_rowsOf_18 ?_
    refine lv_goto (tgt := 23) hx hb dX7_rowsOf_19 (by decide) ?_
    refine r_iret (v := gp ((pA M f))) hx hb hr hlocks w dX7_rowsOf_23 ?_
    exact ⟨rfl, (V.pw ((pA M f)) (by omega))⟩

theorem inX7_rowOf_X0 : ∀ w ∈ wsX00, w ∈ wsX7_rowOf := by decide +kernel
theorem inX7_rowOf_X4 : ∀ w ∈ wsX40, w ∈ wsX7_rowOf := by decide +kernel
theorem inX7_rowOf_X6 : ∀ w ∈ wsX60, w ∈ wsX7_rowOf := by decide +kernel
abbrev rm_X7_rowOf : Room := { frames := 2, cells := 0, slots := 0, locals := 43 }
set_option maxHeartbeats 4000000 in
set_option maxRecDepth 100000 in
theorem c_X7_rowOf (l : Launch) {g : GE} {h : Nat → va_E} {v u kk kc : Nat} {tk fz dp : Int32} {gp gg gs : Nat → Int32} {gd gt gc : Nat → Nat → Int32} (V : VwA g h v u kk kc tk fz dp gp gg gs gd gt gc) {o : Nat} {n : Int32} {ga gk gl : Nat → Int32} {gb : Nat → Nat → Int32} (P : PrA g h o n ga gk gl gb) {M : PRG} (S : PrS M n ga gk gl gb) (hP : PV M) (p1 p2 p3 p4 : Int32) : MI l yX7_rowOf wsX7_rowOf rm_X7_rowOf [.ref (g.2.2.1 v), .ref (g.2.2.1 o), .int p1, .int p2, .int p3, .int p4] g h (fun r h2 => h2 = h ∧ ((∃ f x y z : Nat, p1.toInt = (f : Int) ∧ p2.toInt = (x : Int) ∧ p3.toInt = (y : Int) ∧ p4.toInt = (z : Int) ∧ f < pN M ∧ x < mB u ∧ y < mB u ∧ z < mB u ∧ x + mB u * y + mB u * mB u * z < mRw u M f ∧ r.toInt = ((x + mB u * y + mB u * mB u * z : Nat) : Int)) ∨ (r.toInt = -1 ∧ ¬ ∃ f x y z : Nat, p1.toInt = (f : Int) ∧ p2.toInt = (x : Int) ∧ p3.toInt = (y : Int) ∧ p4.toInt = (z : Int) ∧ f < pN M ∧ x < mB u ∧ y < mB u ∧ z < mB u ∧ x + mB u * y + mB u * mB u * z < mRw u M f))) := by
  refine Met.ofW (cc := cX7_rowOf) (maxL := 7) (ret := (some .int)) (by decide) rfl ?_
  intro p e s m args below meth c s₁ B hml hv
  obtain ⟨rfl, w0⟩ := hv
  have hx := B.exec
  have hb := B.bytes
  have hr := B.returns
  have hts := atoms_spec (ws := wsX7_rowOf) B.pre
  have hown : s.vm.findClass RX7 = some m.cls := findClass_of_methodNamed B.named
  have hlocks := B.notSynchronized
  have w := w0.start
  clear w0
  have hl := lv_entry ([.ref (g.2.2.1 v), .ref (g.2.2.1 o), .int p1, .int p2, .int p3, .int p4]) (n := 7) (Nat.le_of_ble_eq_true rfl)
  rw [lg_entry_eq]
  generalize (lg_sl ([.ref (g.2.2.1 v), .ref (g.2.2.1 o), .int p1, .int p2, .int p3, .int p4]) ++ List.replicate (7 - (lg_sl ([.ref (g.2.2.1 v), .ref (g.2.2.1 o), .int p1, .int p2, .int p3, .int p4])).length) Slot.unset).toArray = ls at hl ⊢
  have hl : lv_has ls 7 [(0, .ref (g.2.2.1 v)), (1, .ref (g.2.2.1 o)), (2, .int p1), (3, .int p2), (4, .int p3), (5, .int p4)] := hl
  have hn4 := hP.2.1
  refine lv_aload_n hx hb dX7_rowOf_0 rfl (lv_at hl 1 rfl) ?_
  refine lv_iload_n hx hb dX7_rowOf_1 rfl (lv_at hl 2 rfl) ?_
  refine r_callI w (va_runV (As := [.int p1]) (rest := []) ⟨hx, hb, hml, hown, hts⟩ (c_X3_has l P p1) (cwV 1 hts gX7_rowOf_X3_has rfl rfl rfl (by decide +kernel) ⟨Nat.le_of_ble_eq_true rfl, Nat.le_of_ble_eq_true rfl⟩) (r_preV w (by have := P.1; omega) P.c0 rfl) rfl rfl hl.1 rfl (lv_room (Nat.le_of_ble_eq_true rfl)) dX7_rowOf_2 ⟨Nat.zero_le _, Nat.zero_le _⟩) (fun r2 h1 H locs hp w => ?_)
  obtain ⟨eh_, qq3⟩ := hp
  have eh_ := eh_.symm
  subst eh_
  have b4 : Bq r2 (0 ≤ p1.toInt ∧ p1.toInt < (((pN M) : Nat) : Int)) := qq3.iff (by rw [((rfl : p1.toInt = p1.toInt) : p1.toInt = _), (S.1 : n.toInt = _)])
  refine lv_if_eq (tgt := 34) hx hb dX7_rowOf_5 (by decide) (fun c5 => ?_) (fun c5 => ?_)
  · have c5 := b4.eq c5
    refine lv_iconst (v := (-1)) hx hb dX7_rowOf_34 (by decide) ?_
    refine r_iret (v := (-1)) hx hb hr hlocks w dX7_rowOf_35 ?_
    refine ⟨rfl, Or.inr ⟨by decide, ?_⟩⟩
    rintro ⟨f, x, y, z, e1, e2, e3, e4, a1, a2, a3, a4, a5⟩
    omega
  · have c5 := b4.ne c5
    refine lv_aload_n hx hb dX7_rowOf_8 rfl (lv_at hl 0 rfl) ?_
    refine lv_iload_n hx hb dX7_rowOf_9 rfl (lv_at hl 3 rfl) ?_
    refine r_callI w (va_3 V.hu (fun q_ => va_runU (As := [.int p2]) (rest := []) ⟨hx, hb, hml, hown, hts⟩ (c_X7_isDigit l V p2) (va_cwU 1 hts gX7_rowOf_X7_isDigit_u58X6 rfl rfl rfl rfl (by decide +kernel) ⟨Nat.le_of_ble_eq_true rfl, Nat.le_of_ble_eq_true rfl⟩) (r_preV w (by have := V.hN; omega) (V.ob (by subst q_; rfl)) rfl) rfl rfl hl.1 rfl (lv_room (Nat.le_of_ble_eq_true rfl)) dX7_rowOf_10 ⟨Nat.zero_le _, Nat.zero_le _⟩) (fun q_ => va_runU (As := [.int p2]) (rest := []) ⟨hx, hb, hml, hown, hts⟩ (c_X7_isDigit l V p2) (va_cwU 1 hts gX7_rowOf_X7_isDigit_u58X4 rfl rfl rfl rfl (by decide +kernel) ⟨Nat.le_of_ble_eq_true rfl, Nat.le_of_ble_eq_true rfl⟩) (r_preV w (by have := V.hN; omega) (V.ob (by subst q_; rfl)) rfl) rfl rfl hl.1 rfl (lv_room (Nat.le_of_ble_eq_true rfl)) dX7_rowOf_10 ⟨Nat.zero_le _, Nat.zero_le _⟩) (fun q_ => va_runU (As := [.int p2]) (rest := []) ⟨hx, hb, hml, hown, hts⟩ (c_X7_isDigit l V p2) (va_cwU 1 hts gX7_rowOf_X7_isDigit_u58X0 rfl rfl rfl rfl (by decide +kernel) ⟨Nat.le_of_ble_eq_true rfl, Nat.le_of_ble_eq_true rfl⟩) (r_preV w (by have := V.hN; omega) (V.ob (by subst q_; rfl)) rfl) rfl rfl hl.1 rfl (lv_room (Nat.le_of_ble_eq_true rfl)) dX7_rowOf_10 ⟨Nat.zero_le _, Nat.zero_le _⟩)) (fun r7 h6 H locs hp w => ?_)
    obtain ⟨eh_, qq8⟩ := hp
    have eh_ := eh_.symm
    subst eh_
    refine lv_if_eq (tgt := 34) hx hb dX7_rowOf_13 (by decide) (fun c9 => ?_) (fun c9 => ?_)
    · have c9 := qq8.eq c9
      refine lv_iconst (v := (-1)) hx hb dX7_rowOf_34 (by decide) ?_
      refine r_iret (v := (-1)) hx hb hr hlocks w dX7_rowOf_35 ?_
      refine ⟨rfl, Or.inr ⟨by decide, ?_⟩⟩
      rintro ⟨f, x, y, z, e1, e2, e3, e4, a1, a2, a3, a4, a5⟩
      omega
    · have c9 := qq8.ne c9
      refine lv_aload_n hx hb dX7_rowOf_16 rfl (lv_at hl 0 rfl) ?_
      refine lv_iload hx hb dX7_rowOf_17 (lv_at hl 4 rfl) ?_
      refine r_callI w (va_3 V.hu (fun q_ => va_runU (As := [.int p3]) (rest := []) ⟨hx, hb, hml, hown, hts⟩ (c_X7_isDigit l V p3) (va_cwU 1 hts gX7_rowOf_X7_isDigit_u58X6 rfl rfl rfl rfl (by decide +kernel) ⟨Nat.le_of_ble_eq_true rfl, Nat.le_of_ble_eq_true rfl⟩) (r_preV w (by have := V.hN; omega) (V.ob (by subst q_; rfl)) rfl) rfl rfl hl.1 rfl (lv_room (Nat.le_of_ble_eq_true rfl)) dX7_rowOf_19 ⟨Nat.zero_le _, Nat.zero_le _⟩) (fun q_ => va_runU (As := [.int p3]) (rest := []) ⟨hx, hb, hml, hown, hts⟩ (c_X7_isDigit l V p3) (va_cwU 1 hts gX7_rowOf_X7_isDigit_u58X4 rfl rfl rfl rfl (by decide +kernel) ⟨Nat.le_of_ble_eq_true rfl, Nat.le_of_ble_eq_true rfl⟩) (r_preV w (by have := V.hN; omega) (V.ob (by subst q_; rfl)) rfl) rfl rfl hl.1 rfl (lv_room (Nat.le_of_ble_eq_true rfl)) dX7_rowOf_19 ⟨Nat.zero_le _, Nat.zero_le _⟩) (fun q_ => va_runU (As := [.int p3]) (rest := []) ⟨hx, hb, hml, hown, hts⟩ (c_X7_isDigit l V p3) (va_cwU 1 hts gX7_rowOf_X7_isDigit_u58X0 rfl rfl rfl rfl (by decide +kernel) ⟨Nat.le_of_ble_eq_true rfl, Nat.le_of_ble_eq_true rfl⟩) (r_preV w (by have := V.hN; omega) (V.ob (by subst q_; rfl)) rfl) rfl rfl hl.1 rfl (lv_room (Nat.le_of_ble_eq_true rfl)) dX7_rowOf_19 ⟨Nat.zero_le _, Nat.zero_le _⟩)) (fun r11 h10 H locs hp w => ?_)
      obtain ⟨eh_, qq12⟩ := hp
      have eh_ := eh_.symm
      subst eh_
      refine lv_if_eq (tgt := 34) hx hb dX7_rowOf_22 (by decide) (fun c13 => ?_) (fun c13 => ?_)
      · have c13 := qq12.eq c13
        refine lv_iconst (v := (-1)) hx hb dX7_rowOf_34 (by decide) ?_
        refine r_iret (v := (-1)) hx hb hr hlocks w dX7_rowOf_35 ?_
        refine ⟨rfl, Or.inr ⟨by decide, ?_⟩⟩
        rintro ⟨f, x, y, z, e1, e2, e3, e4, a1, a2, a3, a4, a5⟩
        omega
      · have c13 := qq12.ne c13
        refine lv_aload_n hx hb dX7_rowOf_25 rfl (lv_at hl 0 rfl) ?_
        refine lv_iload hx hb dX7_rowOf_26 (lv_at hl 5 rfl) ?_
        refine r_callI w (va_3 V.hu (fun q_ => va_runU (As := [.int p4]) (rest := []) ⟨hx, hb, hml, hown, hts⟩ (c_X7_isDigit l V p4) (va_cwU 1 hts gX7_rowOf_X7_isDigit_u58X6 rfl rfl rfl rfl (by decide +kernel) ⟨Nat.le_of_ble_eq_true rfl, Nat.le_of_ble_eq_true rfl⟩) (r_preV w (by have := V.hN; omega) (V.ob (by subst q_; rfl)) rfl) rfl rfl hl.1 rfl (lv_room (Nat.le_of_ble_eq_true rfl)) dX7_rowOf_28 ⟨Nat.zero_le _, Nat.zero_le _⟩) (fun q_ => va_runU (As := [.int p4]) (rest := []) ⟨hx, hb, hml, hown, hts⟩ (c_X7_isDigit l V p4) (va_cwU 1 hts gX7_rowOf_X7_isDigit_u58X4 rfl rfl rfl rfl (by decide +kernel) ⟨Nat.le_of_ble_eq_true rfl, Nat.le_of_ble_eq_true rfl⟩) (r_preV w (by have := V.hN; omega) (V.ob (by subst q_; rfl)) rfl) rfl rfl hl.1 rfl (lv_room (Nat.le_of_ble_eq_true rfl)) dX7_rowOf_28 ⟨Nat.zero_le _, Nat.zero_le _⟩) (fun q_ => va_runU (As := [.int p4]) (rest := []) ⟨hx, hb, hml, hown, hts⟩ (c_X7_isDigit l V p4) (va_cwU 1 hts gX7_rowOf_X7_isDigit_u58X0 rfl rfl rfl rfl (by decide +kernel) ⟨Nat.le_of_ble_eq_true rfl, Nat.le_of_ble_eq_true rfl⟩) (r_preV w (by have := V.hN; omega) (V.ob (by subst q_; rfl)) rfl) rfl rfl hl.1 rfl (lv_room (Nat.le_of_ble_eq_true rfl)) dX7_rowOf_28 ⟨Nat.zero_le _, Nat.zero_le _⟩)) (fun r15 h14 H locs hp w => ?_)
        obtain ⟨eh_, qq16⟩ := hp
        have eh_ := eh_.symm
        subst eh_
        refine lv_if_ne (tgt := 36) hx hb dX7_rowOf_31 (by decide) (fun c17 => ?_) (fun c17 => ?_)
        · have c17 := qq16.ne c17
          obtain ⟨fN, hfN⟩ : ∃ q : Nat, p1.toInt = (q : Int) := ⟨p1.toInt.toNat, by omega⟩
          obtain ⟨xN, hxN⟩ : ∃ q : Nat, p2.toInt = (q : Int) := ⟨p2.toInt.toNat, by omega⟩
          obtain ⟨yN, hyN⟩ : ∃ q : Nat, p3.toInt = (q : Int) := ⟨p3.toInt.toNat, by omega⟩
          obtain ⟨zN, hzN⟩ : ∃ q : Nat, p4.toInt = (q : Int) := ⟨p4.toInt.toNat, by omega⟩
          have hb5 := mB_le u
          have B1 : mB u * yN ≤ 25 := Nat.le_trans (Nat.mul_le_mul hb5 (show yN ≤ 5 by omega)) (by decide)
          have B2 : mB u * mB u * zN ≤ 125 := Nat.le_trans (Nat.mul_le_mul (Nat.mul_le_mul hb5 hb5) (show zN ≤ 5 by omega)) (by decide)
          refine lv_iload_n hx hb dX7_rowOf_36 rfl (lv_at hl 3 rfl) ?_
          refine lv_aload_n hx hb dX7_rowOf_37 rfl (lv_at hl 0 rfl) ?_
          refine r_getV hx hb hts ⟨inX7_rowOf_X0, inX7_rowOf_X4, inX7_rowOf_X6⟩ hown w V.hu (by have := V.hN; omega) V.c0 4 (by decide) (hts (Cond.fieldLink RX7 9 "EarlyValues$View" "powers" "[I") (List.mem_of_getElem? (i := 1) (by decide +kernel))) rfl rfl dX7_rowOf_38 ?_
          refine lv_iconst (v := 1) hx hb dX7_rowOf_41 (by decide) ?_
          refine r_iald (j := 1) hx hb w (by have := V.hN; omega) V.c1 (by decide : (1 : Int32).toInt = ((1 : Nat) : Int)) (by omega) dX7_rowOf_42 ?_
          refine lv_iload hx hb dX7_rowOf_43 (lv_at hl 4 rfl) ?_
          refine lv_imul hx hb dX7_rowOf_45 ?_
          refine lv_topi (fun y18 ey18 => ?_)
          have ty18 : y18.toInt = ((((mB u) * yN) : Nat) : Int) := i_mulN ey18 V.p1 hyN (Nat.le_trans B1 (by omega))
          refine lv_iadd hx hb dX7_rowOf_46 ?_
          refine lv_topi (fun y19 ey19 => ?_)
          have ty19 : y19.toInt = (((xN + ((mB u) * yN)) : Nat) : Int) := i_addN ey19 hxN ty18 (by omega)
          refine lv_aload_n hx hb dX7_rowOf_47 rfl (lv_at hl 0 rfl) ?_
          refine r_getV hx hb hts ⟨inX7_rowOf_X0, inX7_rowOf_X4, inX7_rowOf_X6⟩ hown w V.hu (by have := V.hN; omega) V.c0 4 (by decide) (hts (Cond.fieldLink RX7 9 "EarlyValues$View" "powers" "[I") (List.mem_of_getElem? (i := 1) (by decide +kernel))) rfl rfl dX7_rowOf_48 ?_
          refine lv_iconst (v := 2) hx hb dX7_rowOf_51 (by decide) ?_
          refine r_iald (j := 2) hx hb w (by have := V.hN; omega) V.c1 (by decide : (2 : Int32).toInt = ((2 : Nat) : Int)) (by omega) dX7_rowOf_52 ?_
          refine lv_iload hx hb dX7_rowOf_53 (lv_at hl 5 rfl) ?_
          refine lv_imul hx hb dX7_rowOf_55 ?_
          refine lv_topi (fun y20 ey20 => ?_)
          have ty20 : y20.toInt = ((((mB u * mB u) * zN) : Nat) : Int) := i_mulN ey20 V.p2 hzN (Nat.le_trans B2 (by omega))
          refine lv_iadd hx hb dX7_rowOf_56 ?_
          refine lv_topi (fun y21 ey21 => ?_)
          have ty21 : y21.toInt = ((((xN + ((mB u) * yN)) + ((mB u * mB u) * zN)) : Nat) : Int) := i_addN ey21 ty19 ty20 (by omega)
          refine lv_istore (lv' := [(6, .int y21), (0, .ref (g.2.2.1 v)), (1, .ref (g.2.2.1 o)), (2, .int p1), (3, .int p2), (4, .int p3), (5, .int p4)]) hx hb dX7_rowOf_57 hl (by decide) rfl (fun ls hl => ?_)
          refine lv_iload hx hb dX7_rowOf_59 (lv_at hl 0 rfl) ?_
          refine lv_aload_n hx hb dX7_rowOf_61 rfl (lv_at hl 1 rfl) ?_
          refine lv_aload_n hx hb dX7_rowOf_62 rfl (lv_at hl 2 rfl) ?_
          refine lv_iload_n hx hb dX7_rowOf_63 rfl (lv_at hl 3 rfl) ?_
          refine r_callI w (va_3 V.hu (fun q_ => va_runU (As := [.ref (g.2.2.1 o), .int p1]) (rest := [.int y21]) ⟨hx, hb, hml, hown, hts⟩ (c_X7_rowsOf l V P S hP p1 hfN (by omega)) (va_cwU 2 hts gX7_rowOf_X7_rowsOf_u61X6 rfl rfl rfl rfl (by decide +kernel) ⟨Nat.le_of_ble_eq_true rfl, Nat.le_of_ble_eq_true rfl⟩) (r_preV w (by have := V.hN; omega) (V.ob (by subst q_; rfl)) rfl) rfl rfl hl.1 rfl (lv_room (Nat.le_of_ble_eq_true rfl)) dX7_rowOf_64 ⟨Nat.zero_le _, Nat.zero_le _⟩) (fun q_ => va_runU (As := [.ref (g.2.2.1 o), .int p1]) (rest := [.int y21]) ⟨hx, hb, hml, hown, hts⟩ (c_X7_rowsOf l V P S hP p1 hfN (by omega)) (va_cwU 2 hts gX7_rowOf_X7_rowsOf_u61X4 rfl rfl rfl rfl (by decide +kernel) ⟨Nat.le_of_ble_eq_true rfl, Nat.le_of_ble_eq_true rfl⟩) (r_preV w (by have := V.hN; omega) (V.ob (by subst q_; rfl)) rfl) rfl rfl hl.1 rfl (lv_room (Nat.le_of_ble_eq_true rfl)) dX7_rowOf_64 ⟨Nat.zero_le _, Nat.zero_le _⟩) (fun q_ => va_runU (As := [.ref (g.2.2.1 o), .int p1]) (rest := [.int y21]) ⟨hx, hb, hml, hown, hts⟩ (c_X7_rowsOf l V P S hP p1 hfN (by omega)) (va_cwU 2 hts gX7_rowOf_X7_rowsOf_u61X0 rfl rfl rfl rfl (by decide +kernel) ⟨Nat.le_of_ble_eq_true rfl, Nat.le_of_ble_eq_true rfl⟩) (r_preV w (by have := V.hN; omega) (V.ob (by subst q_; rfl)) rfl) rfl rfl hl.1 rfl (lv_room (Nat.le_of_ble_eq_true rfl)) dX7_rowOf_64 ⟨Nat.zero_le _, Nat.zero_le _⟩)) (fun r23 h22 H locs hp w => ?_)
          obtain ⟨eh_, qq24⟩ := hp
          have eh_ := eh_.symm
          subst eh_
          refine lv_icmp_ge (tgt := 75) hx hb dX7_rowOf_67 (by decide) (fun c25 => ?_) (fun c25 => ?_)
          · have c25 : (((mRw u M fN) : Nat) : Int) ≤ ((((xN + ((mB u) * yN)) + ((mB u * mB u) * zN)) : Nat) : Int) := (i_le qq24 ty21).mp c25
            refine lv_iconst (v := (-1)) hx hb dX7_rowOf_75 (by decide) ?_
            refine r_iret (v := (-1)) hx hb hr hlocks w dX7_rowOf_76 ?_
            refine ⟨rfl, Or.inr ⟨by decide, ?_⟩⟩
            rintro ⟨f, x, y, z, e1, e2, e3, e4, a1, a2, a3, a4, a5⟩
            obtain rfl : f = fN := by omega
            obtain rfl : x = xN := by omega
            obtain rfl : y = yN := by omega
            obtain rfl : z = zN := by omega
            omega
          · have c25 : ¬ ((((mRw u M fN) : Nat) : Int) ≤ ((((xN + ((mB u) * yN)) + ((mB u * mB u) * zN)) : Nat) : Int)) := fun q => c25 ((i_le qq24 ty21).mpr q)
            refine lv_iload hx hb dX7_rowOf_70 (lv_at hl 0 rfl) ?_
            refine lv_goto (tgt := 76) hx hb dX7_rowOf_72 (by decide) ?_
            refine r_iret (v := y21) hx hb hr hlocks w dX7_rowOf_76 ?_
            exact ⟨rfl, Or.inl ⟨fN, xN, yN, zN, hfN, hxN, hyN, hzN, by omega, by omega, by omega, by omega, by omega, ty21⟩⟩
        · have c17 := qq16.eq c17
          refine lv_iconst (v := (-1)) hx hb dX7_rowOf_34 (by decide) ?_
          refine r_iret (v := (-1)) hx hb hr hlocks w dX7_rowOf_35 ?_
          refine ⟨rfl, Or.inr ⟨by decide, ?_⟩⟩
          rintro ⟨f, x, y, z, e1, e2, e3, e4, a1, a2, a3, a4, a5⟩
          omega

theorem inX7_letterComesTo_X0 : ∀ w ∈ wsX00, w ∈ wsX7_letterComesTo := by decide +kernel
theorem inX7_letterComesTo_X4 : ∀ w ∈ wsX40, w ∈ wsX7_letterComesTo := by decide +kernel
theorem inX7_letterComesTo_X6 : ∀ w ∈ wsX60, w ∈ wsX7_letterComesTo := by decide +kernel
abbrev rm_X7_letterComesTo : Room := { frames := 2, cells := 0, slots := 0, locals := 34 }
set_option maxHeartbeats 4000000 in
set_option maxRecDepth 100000 in
theorem c_X7_letterComesTo (l : Launch) {g : GE} {h : Nat → va_E} {v u kk kc : Nat} {tk fz dp : Int32} {gp gg gs : Nat → Int32} {gd gt gc : Nat → Nat → Int32} (V : VwA g h v u kk kc tk fz dp gp gg gs gd gt gc) {M : PRG} (hP : PV M) {f0 k q0 q1 q2 : Nat} {T : Nat → Nat → Nat} {xs : Nat → Nat} (hT : TbS u M gt T) (hxs : ∀ i, i < pA M f0 → (gg i).toInt = (xs i : Int)) (p0 p1 p2 p3 : Int32) (hp0 : p0.toInt = (k : Int)) (hp1 : p1.toInt = (q0 : Int)) (hp2 : p2.toInt = (q1 : Int)) (hp3 : p3.toInt = (q2 : Int)) (hk : k < 14) (hf0 : f0 < pN M) (hm : mMay (pN M) (pA M) f0 k) (hq0 : q0 < mB u) (hq1 : q1 < mB u) (hq2 : q2 < mB u) (z0 : mParts (pN M) (pA M) k ≤ 0 → q0 = 0) (z1 : mParts (pN M) (pA M) k ≤ 1 → q1 = 0) (z2 : mParts (pN M) (pA M) k ≤ 2 → q2 = 0) : MI l yX7_letterComesTo wsX7_letterComesTo rm_X7_letterComesTo [.ref (g.2.2.1 v), .int p0, .int p1, .int p2, .int p3] g h (fun r h2 => h2 = h ∧ r.toInt = ((mLet u T xs k q0 q1 q2 : Nat) : Int)) := by
  refine Met.ofW (cc := cX7_letterComesTo) (maxL := 6) (ret := (some .int)) (by decide) rfl ?_
  intro p e s m args below meth c s₁ B hml hv
  obtain ⟨rfl, w0⟩ := hv
  have hx := B.exec
  have hb := B.bytes
  have hr := B.returns
  have hts := atoms_spec (ws := wsX7_letterComesTo) B.pre
  have hown : s.vm.findClass RX7 = some m.cls := findClass_of_methodNamed B.named
  have hlocks := B.notSynchronized
  have w := w0.start
  clear w0
  have hl := lv_entry ([.ref (g.2.2.1 v), .int p0, .int p1, .int p2, .int p3]) (n := 6) (Nat.le_of_ble_eq_true rfl)
  rw [lg_entry_eq]
  generalize (lg_sl ([.ref (g.2.2.1 v), .int p0, .int p1, .int p2, .int p3]) ++ List.replicate (6 - (lg_sl ([.ref (g.2.2.1 v), .int p0, .int p1, .int p2, .int p3])).length) Slot.unset).toArray = ls at hl ⊢
  have hl : lv_has ls 6 [(0, .ref (g.2.2.1 v)), (1, .int p0), (2, .int p1), (3, .int p2), (4, .int p3)] := hl
  have hb5 := mB_le u
  have B1 : mB u * q1 ≤ 25 := Nat.le_trans (Nat.mul_le_mul hb5 (show q1 ≤ 5 by omega)) (by decide)
  have B2 : mB u * mB u * q2 ≤ 125 := Nat.le_trans (Nat.mul_le_mul (Nat.mul_le_mul hb5 hb5) (show q2 ≤ 5 by omega)) (by decide)
  have hn4 := hP.2.1
  refine lv_iload_n hx hb dX7_letterComesTo_0 rfl (lv_at hl 1 rfl) ?_
  rcases (show (((k : Nat) : Int) < 0 ∨ 9 < ((k : Nat) : Int)) ∨ ((k : Nat) : Int) = 0 ∨ ((k : Nat) : Int) = 1 ∨ ((k : Nat) : Int) = 2 ∨ ((k : Nat) : Int) = 3 ∨ ((k : Nat) : Int) = 4 ∨ ((k : Nat) : Int) = 5 ∨ ((k : Nat) : Int) = 6 ∨ ((k : Nat) : Int) = 7 ∨ ((k : Nat) : Int) = 8 ∨ ((k : Nat) : Int) = 9 by omega) with c1 | c1 | c1 | c1 | c1 | c1 | c1 | c1 | c1 | c1 | c1
  · refine lv_tableOut (tgt := 163) hx hb dX7_letterComesTo_1 (by rw [hp0]; exact c1) (by decide) ?_
    refine lv_iload_n hx hb dX7_letterComesTo_163 rfl (lv_at hl 1 rfl) ?_
    refine lv_bipush (v := 10) hx hb dX7_letterComesTo_164 (by decide) ?_
    refine lv_icmp_lt (tgt := 198) hx hb dX7_letterComesTo_166 (by decide) (fun c2 => ?_) (fun c2 => ?_)
    · have c2 : ((k : Nat) : Int) < ((10 : Nat) : Int) := (i_lt hp0 (by decide : (10 : Int32).toInt = ((10 : Nat) : Int))).mp c2
      exfalso; omega
    · have c2 : ¬ (((k : Nat) : Int) < ((10 : Nat) : Int)) := fun q => c2 ((i_lt hp0 (by decide : (10 : Int32).toInt = ((10 : Nat) : Int))).mpr q)
      have hcall := hm.call (by omega)
      have ha3 := (hP.2.2 _ hcall).1
      have hidx : q0 + mB u * q1 + mB u * mB u * q2 < mRw u M (k - 10) := by
        rw [mParts_call (by omega) hcall] at z0 z1 z2
        exact mIdx_lt (mB_pos u) ha3 hq0 hq1 hq2 z0 z1 z2
      have hR := mRw_mR V.hu hP hcall
      refine lv_aload_n hx hb dX7_letterComesTo_169 rfl (lv_at hl 0 rfl) ?_
      refine lv_iload_n hx hb dX7_letterComesTo_170 rfl (lv_at hl 1 rfl) ?_
      refine lv_bipush (v := 10) hx hb dX7_letterComesTo_171 (by decide) ?_
      refine lv_isub hx hb dX7_letterComesTo_173 ?_
      refine lv_topi (fun y3 ey3 => ?_)
      have ty3 : y3.toInt = (((k - 10) : Nat) : Int) := i_subN ey3 hp0 (by decide : (10 : Int32).toInt = ((10 : Nat) : Int)) (by omega)
      refine lv_iload_n hx hb dX7_letterComesTo_174 rfl (lv_at hl 2 rfl) ?_
      refine lv_aload_n hx hb dX7_letterComesTo_175 rfl (lv_at hl 0 rfl) ?_
      refine r_getV hx hb hts ⟨inX7_letterComesTo_X0, inX7_letterComesTo_X4, inX7_letterComesTo_X6⟩ hown w V.hu (by have := V.hN; omega) V.c0 4 (by decide) (hts (Cond.fieldLink RX7 9 "EarlyValues$View" "powers" "[I") (List.mem_of_getElem? (i := 4) (by decide +kernel))) rfl rfl dX7_letterComesTo_176 ?_
      refine lv_iconst (v := 1) hx hb dX7_letterComesTo_179 (by decide) ?_
      refine r_iald (j := 1) hx hb w (by have := V.hN; omega) V.c1 (by decide : (1 : Int32).toInt = ((1 : Nat) : Int)) (by omega) dX7_letterComesTo_180 ?_
      refine lv_iload_n hx hb dX7_letterComesTo_181 rfl (lv_at hl 3 rfl) ?_
      refine lv_imul hx hb dX7_letterComesTo_182 ?_
      refine lv_topi (fun y4 ey4 => ?_)
      have ty4 : y4.toInt = ((((mB u) * q1) : Nat) : Int) := i_mulN ey4 V.p1 hp2 (Nat.le_trans B1 (by omega))
      refine lv_iadd hx hb dX7_letterComesTo_183 ?_
      refine lv_topi (fun y5 ey5 => ?_)
      have ty5 : y5.toInt = (((q0 + ((mB u) * q1)) : Nat) : Int) := i_addN ey5 hp1 ty4 (by omega)
      refine lv_aload_n hx hb dX7_letterComesTo_184 rfl (lv_at hl 0 rfl) ?_
      refine r_getV hx hb hts ⟨inX7_letterComesTo_X0, inX7_letterComesTo_X4, inX7_letterComesTo_X6⟩ hown w V.hu (by have := V.hN; omega) V.c0 4 (by decide) (hts (Cond.fieldLink RX7 9 "EarlyValues$View" "powers" "[I") (List.mem_of_getElem? (i := 4) (by decide +kernel))) rfl rfl dX7_letterComesTo_185 ?_
      refine lv_iconst (v := 2) hx hb dX7_letterComesTo_188 (by decide) ?_
      refine r_iald (j := 2) hx hb w (by have := V.hN; omega) V.c1 (by decide : (2 : Int32).toInt = ((2 : Nat) : Int)) (by omega) dX7_letterComesTo_189 ?_
      refine lv_iload hx hb dX7_letterComesTo_190 (lv_at hl 4 rfl) ?_
      refine lv_imul hx hb dX7_letterComesTo_192 ?_
      refine lv_topi (fun y6 ey6 => ?_)
      have ty6 : y6.toInt = ((((mB u * mB u) * q2) : Nat) : Int) := i_mulN ey6 V.p2 hp3 (Nat.le_trans B2 (by omega))
      refine lv_iadd hx hb dX7_letterComesTo_193 ?_
      refine lv_topi (fun y7 ey7 => ?_)
      have ty7 : y7.toInt = ((((q0 + ((mB u) * q1)) + ((mB u * mB u) * q2)) : Nat) : Int) := i_addN ey7 ty5 ty6 (by omega)
      refine r_callI w (va_3 V.hu (fun q_ => va_runU (As := [.int y3, .int y7]) (rest := []) ⟨hx, hb, hml, hown, hts⟩ (c_X7_at l V y3 y7 ty3 ty7 (by omega) (by omega)) (va_cwU 2 hts gX7_letterComesTo_X7_at_u83X6 rfl rfl rfl rfl (by decide +kernel) ⟨Nat.le_of_ble_eq_true rfl, Nat.le_of_ble_eq_true rfl⟩) (r_preV w (by have := V.hN; omega) (V.ob (by subst q_; rfl)) rfl) rfl rfl hl.1 rfl (lv_room (Nat.le_of_ble_eq_true rfl)) dX7_letterComesTo_194 ⟨Nat.zero_le _, Nat.zero_le _⟩) (fun q_ => va_runU (As := [.int y3, .int y7]) (rest := []) ⟨hx, hb, hml, hown, hts⟩ (c_X7_at l V y3 y7 ty3 ty7 (by omega) (by omega)) (va_cwU 2 hts gX7_letterComesTo_X7_at_u83X4 rfl rfl rfl rfl (by decide +kernel) ⟨Nat.le_of_ble_eq_true rfl, Nat.le_of_ble_eq_true rfl⟩) (r_preV w (by have := V.hN; omega) (V.ob (by subst q_; rfl)) rfl) rfl rfl hl.1 rfl (lv_room (Nat.le_of_ble_eq_true rfl)) dX7_letterComesTo_194 ⟨Nat.zero_le _, Nat.zero_le _⟩) (fun q_ => va_runU (As := [.int y3, .int y7]) (rest := []) ⟨hx, hb, hml, hown, hts⟩ (c_X7_at l V y3 y7 ty3 ty7 (by omega) (by omega)) (va_cwU 2 hts gX7_letterComesTo_X7_at_u83X0 rfl rfl rfl rfl (by decide +kernel) ⟨Nat.le_of_ble_eq_true rfl, Nat.le_of_ble_eq_true rfl⟩) (r_preV w (by have := V.hN; omega) (V.ob (by subst q_; rfl)) rfl) rfl rfl hl.1 rfl (lv_room (Nat.le_of_ble_eq_true rfl)) dX7_letterComesTo_194 ⟨Nat.zero_le _, Nat.zero_le _⟩)) (fun r9 h8 H locs hp w => ?_)
      obtain ⟨eh_, qq10⟩ := hp
      have eh_ := eh_.symm
      subst eh_
      subst qq10
      refine r_iret (v := gt ((k - 10)) (((q0 + ((mB u) * q1)) + ((mB u * mB u) * q2)))) hx hb hr hlocks w dX7_letterComesTo_197 ?_
      refine ⟨rfl, ?_⟩
      rw [hT _ _ hcall hidx]
      congr 1
      unfold mLet
      repeat first | rfl | rw [if_pos (by omega)] | rw [if_neg (by omega)]
  · refine lv_tableIn (off := 55) (tgt := 56) hx hb dX7_letterComesTo_1 (by rw [hp0]; omega) (by rw [hp0]; omega) (by rw [hp0, c1]; rfl) (by decide) ?_
    refine lv_aload_n hx hb dX7_letterComesTo_56 rfl (lv_at hl 0 rfl) ?_
    refine r_getV hx hb hts ⟨inX7_letterComesTo_X0, inX7_letterComesTo_X4, inX7_letterComesTo_X6⟩ hown w V.hu (by have := V.hN; omega) V.c0 2 (by decide) (hts (Cond.fieldLink RX7 28 "EarlyValues$View" "zero" "I") (List.mem_of_getElem? (i := 1) (by decide +kernel))) rfl rfl dX7_letterComesTo_57 ?_
    refine r_iret (v := nI (mZ u)) hx hb hr hlocks w dX7_letterComesTo_60 ?_
    refine ⟨rfl, ?_⟩
    rw [(mZ_i u)]
    congr 1
    unfold mLet
    repeat first | rfl | rw [if_pos (by omega)] | rw [if_neg (by omega)]
  · refine lv_tableIn (off := 60) (tgt := 61) hx hb dX7_letterComesTo_1 (by rw [hp0]; omega) (by rw [hp0]; omega) (by rw [hp0, c1]; rfl) (by decide) ?_
    refine lv_aload_n hx hb dX7_letterComesTo_61 rfl (lv_at hl 0 rfl) ?_
    refine r_getV hx hb hts ⟨inX7_letterComesTo_X0, inX7_letterComesTo_X4, inX7_letterComesTo_X6⟩ hown w V.hu (by have := V.hN; omega) V.c0 3 (by decide) (hts (Cond.fieldLink RX7 31 "EarlyValues$View" "one" "I") (List.mem_of_getElem? (i := 2) (by decide +kernel))) rfl rfl dX7_letterComesTo_62 ?_
    refine r_iret (v := nI (mO u)) hx hb hr hlocks w dX7_letterComesTo_65 ?_
    refine ⟨rfl, ?_⟩
    rw [(mO_i u)]
    congr 1
    unfold mLet
    repeat first | rfl | rw [if_pos (by omega)] | rw [if_neg (by omega)]
  · refine lv_tableIn (off := 65) (tgt := 66) hx hb dX7_letterComesTo_1 (by rw [hp0]; omega) (by rw [hp0]; omega) (by rw [hp0, c1]; rfl) (by decide) ?_
    refine lv_aload_n hx hb dX7_letterComesTo_66 rfl (lv_at hl 0 rfl) ?_
    refine r_getV hx hb hts ⟨inX7_letterComesTo_X0, inX7_letterComesTo_X4, inX7_letterComesTo_X6⟩ hown w V.hu (by have := V.hN; omega) V.c0 1 (by decide) (hts (Cond.fieldLink RX7 25 "EarlyValues$View" "never" "I") (List.mem_of_getElem? (i := 3) (by decide +kernel))) rfl rfl dX7_letterComesTo_67 ?_
    refine r_iret (v := nI (mN u)) hx hb hr hlocks w dX7_letterComesTo_70 ?_
    refine ⟨rfl, ?_⟩
    rw [(mN_i u)]
    congr 1
    unfold mLet
    repeat first | rfl | rw [if_pos (by omega)] | rw [if_neg (by omega)]
  · refine lv_tableIn (off := 162) (tgt := 163) hx hb dX7_letterComesTo_1 (by rw [hp0]; omega) (by rw [hp0]; omega) (by rw [hp0, c1]; rfl) (by decide) ?_
    refine lv_iload_n hx hb dX7_letterComesTo_163 rfl (lv_at hl 1 rfl) ?_
    refine lv_bipush (v := 10) hx hb dX7_letterComesTo_164 (by decide) ?_
    refine lv_icmp_lt (tgt := 198) hx hb dX7_letterComesTo_166 (by decide) (fun c11 => ?_) (fun c11 => ?_)
    · have c11 : ((k : Nat) : Int) < ((10 : Nat) : Int) := (i_lt hp0 (by decide : (10 : Int32).toInt = ((10 : Nat) : Int))).mp c11
      have harg := hm.arg (by omega) (by omega)
      have ha3 := (hP.2.2 _ hf0).1
      refine lv_iload_n hx hb dX7_letterComesTo_198 rfl (lv_at hl 1 rfl) ?_
      refine lv_iconst (v := 3) hx hb dX7_letterComesTo_199 (by decide) ?_
      refine lv_isub hx hb dX7_letterComesTo_200 ?_
      refine lv_topi (fun y12 ey12 => ?_)
      have ty12 : y12.toInt = (((k - 3) : Nat) : Int) := i_subN ey12 hp0 (by decide : (3 : Int32).toInt = ((3 : Nat) : Int)) (by omega)
      refine lv_istore (lv' := [(5, .int y12), (0, .ref (g.2.2.1 v)), (1, .int p0), (2, .int p1), (3, .int p2), (4, .int p3)]) hx hb dX7_letterComesTo_201 hl (by decide) rfl (fun ls hl => ?_)
      refine lv_iload hx hb dX7_letterComesTo_203 (lv_at hl 0 rfl) ?_
      refine lv_if_lt (tgt := 228) hx hb dX7_letterComesTo_205 (by decide) (fun c13 => ?_) (fun c13 => ?_)
      · have c13 : (((k - 3) : Nat) : Int) < (0 : Int) := (i_lt ty12 (rfl : (0 : Int32).toInt = 0)).mp c13
        exfalso
        omega
      · have c13 : ¬ ((((k - 3) : Nat) : Int) < (0 : Int)) := fun q => c13 ((i_lt ty12 (rfl : (0 : Int32).toInt = 0)).mpr q)
        refine lv_iload hx hb dX7_letterComesTo_208 (lv_at hl 0 rfl) ?_
        refine lv_aload_n hx hb dX7_letterComesTo_210 rfl (lv_at hl 1 rfl) ?_
        refine r_getV hx hb hts ⟨inX7_letterComesTo_X0, inX7_letterComesTo_X4, inX7_letterComesTo_X6⟩ hown w V.hu (by have := V.hN; omega) V.c0 10 (by decide) (hts (Cond.fieldLink RX7 15 "EarlyValues$View" "given" "[I") (List.mem_of_getElem? (i := 5) (by decide +kernel))) rfl rfl dX7_letterComesTo_211 ?_
        refine r_alen (t := 0) (v := 3) hx hb w (by decide) (by have := V.hN; omega) V.c2 rfl dX7_letterComesTo_214 ?_
        refine lv_icmp_ge (tgt := 228) hx hb dX7_letterComesTo_215 (by decide) (fun c14 => ?_) (fun c14 => ?_)
        · have c14 : ((3 : Nat) : Int) ≤ (((k - 3) : Nat) : Int) := (i_le (by decide : (3 : Int32).toInt = ((3 : Nat) : Int)) ty12).mp c14
          exfalso
          omega
        · have c14 : ¬ (((3 : Nat) : Int) ≤ (((k - 3) : Nat) : Int)) := fun q => c14 ((i_le (by decide : (3 : Int32).toInt = ((3 : Nat) : Int)) ty12).mpr q)
          refine lv_aload_n hx hb dX7_letterComesTo_218 rfl (lv_at hl 1 rfl) ?_
          refine r_getV hx hb hts ⟨inX7_letterComesTo_X0, inX7_letterComesTo_X4, inX7_letterComesTo_X6⟩ hown w V.hu (by have := V.hN; omega) V.c0 10 (by decide) (hts (Cond.fieldLink RX7 15 "EarlyValues$View" "given" "[I") (List.mem_of_getElem? (i := 5) (by decide +kernel))) rfl rfl dX7_letterComesTo_219 ?_
          refine lv_iload hx hb dX7_letterComesTo_222 (lv_at hl 0 rfl) ?_
          refine r_iald (j := (k - 3)) hx hb w (by have := V.hN; omega) V.c2 ty12 (by omega) dX7_letterComesTo_224 ?_
          refine lv_goto (tgt := 232) hx hb dX7_letterComesTo_225 (by decide) ?_
          refine r_iret (v := gg ((k - 3))) hx hb hr hlocks w dX7_letterComesTo_232 ?_
          refine ⟨rfl, ?_⟩
          rw [hxs (k - 3) (hm.arg (by omega) (by omega))]
          congr 1
          unfold mLet
          repeat first | rfl | rw [if_pos (by omega)] | rw [if_neg (by omega)]
    · have c11 : ¬ (((k : Nat) : Int) < ((10 : Nat) : Int)) := fun q => c11 ((i_lt hp0 (by decide : (10 : Int32).toInt = ((10 : Nat) : Int))).mpr q)
      exfalso; omega
  · refine lv_tableIn (off := 162) (tgt := 163) hx hb dX7_letterComesTo_1 (by rw [hp0]; omega) (by rw [hp0]; omega) (by rw [hp0, c1]; rfl) (by decide) ?_
    refine lv_iload_n hx hb dX7_letterComesTo_163 rfl (lv_at hl 1 rfl) ?_
    refine lv_bipush (v := 10) hx hb dX7_letterComesTo_164 (by decide) ?_
    refine lv_icmp_lt (tgt := 198) hx hb dX7_letterComesTo_166 (by decide) (fun c15 => ?_) (fun c15 => ?_)
    · have c15 : ((k : Nat) : Int) < ((10 : Nat) : Int) := (i_lt hp0 (by decide : (10 : Int32).toInt = ((10 : Nat) : Int))).mp c15
      have harg := hm.arg (by omega) (by omega)
      have ha3 := (hP.2.2 _ hf0).1
      refine lv_iload_n hx hb dX7_letterComesTo_198 rfl (lv_at hl 1 rfl) ?_
      refine lv_iconst (v := 3) hx hb dX7_letterComesTo_199 (by decide) ?_
      refine lv_isub hx hb dX7_letterComesTo_200 ?_
      refine lv_topi (fun y16 ey16 => ?_)
      have ty16 : y16.toInt = (((k - 3) : Nat) : Int) := i_subN ey16 hp0 (by decide : (3 : Int32).toInt = ((3 : Nat) : Int)) (by omega)
      refine lv_istore (lv' := [(5, .int y16), (0, .ref (g.2.2.1 v)), (1, .int p0), (2, .int p1), (3, .int p2), (4, .int p3)]) hx hb dX7_letterComesTo_201 hl (by decide) rfl (fun ls hl => ?_)
      refine lv_iload hx hb dX7_letterComesTo_203 (lv_at hl 0 rfl) ?_
      refine lv_if_lt (tgt := 228) hx hb dX7_letterComesTo_205 (by decide) (fun c17 => ?_) (fun c17 => ?_)
      · have c17 : (((k - 3) : Nat) : Int) < (0 : Int) := (i_lt ty16 (rfl : (0 : Int32).toInt = 0)).mp c17
        exfalso
        omega
      · have c17 : ¬ ((((k - 3) : Nat) : Int) < (0 : Int)) := fun q => c17 ((i_lt ty16 (rfl : (0 : Int32).toInt = 0)).mpr q)
        refine lv_iload hx hb dX7_letterComesTo_208 (lv_at hl 0 rfl) ?_
        refine lv_aload_n hx hb dX7_letterComesTo_210 rfl (lv_at hl 1 rfl) ?_
        refine r_getV hx hb hts ⟨inX7_letterComesTo_X0, inX7_letterComesTo_X4, inX7_letterComesTo_X6⟩ hown w V.hu (by have := V.hN; omega) V.c0 10 (by decide) (hts (Cond.fieldLink RX7 15 "EarlyValues$View" "given" "[I") (List.mem_of_getElem? (i := 5) (by decide +kernel))) rfl rfl dX7_letterComesTo_211 ?_
        refine r_alen (t := 0) (v := 3) hx hb w (by decide) (by have := V.hN; omega) V.c2 rfl dX7_letterComesTo_214 ?_
        refine lv_icmp_ge (tgt := 228) hx hb dX7_letterComesTo_215 (by decide) (fun c18 => ?_) (fun c18 => ?_)
        · have c18 : ((3 : Nat) : Int) ≤ (((k - 3) : Nat) : Int) := (i_le (by decide : (3 : Int32).toInt = ((3 : Nat) : Int)) ty16).mp c18
          exfalso
          omega
        · have c18 : ¬ (((3 : Nat) : Int) ≤ (((k - 3) : Nat) : Int)) := fun q => c18 ((i_le (by decide : (3 : Int32).toInt = ((3 : Nat) : Int)) ty16).mpr q)
          refine lv_aload_n hx hb dX7_letterComesTo_218 rfl (lv_at hl 1 rfl) ?_
          refine r_getV hx hb hts ⟨inX7_letterComesTo_X0, inX7_letterComesTo_X4, inX7_letterComesTo_X6⟩ hown w V.hu (by have := V.hN; omega) V.c0 10 (by decide) (hts (Cond.fieldLink RX7 15 "EarlyValues$View" "given" "[I") (List.mem_of_getElem? (i := 5) (by decide +kernel))) rfl rfl dX7_letterComesTo_219 ?_
          refine lv_iload hx hb dX7_letterComesTo_222 (lv_at hl 0 rfl) ?_
          refine r_iald (j := (k - 3)) hx hb w (by have := V.hN; omega) V.c2 ty16 (by omega) dX7_letterComesTo_224 ?_
          refine lv_goto (tgt := 232) hx hb dX7_letterComesTo_225 (by decide) ?_
          refine r_iret (v := gg ((k - 3))) hx hb hr hlocks w dX7_letterComesTo_232 ?_
          refine ⟨rfl, ?_⟩
          rw [hxs (k - 3) (hm.arg (by omega) (by omega))]
          congr 1
          unfold mLet
          repeat first | rfl | rw [if_pos (by omega)] | rw [if_neg (by omega)]
    · have c15 : ¬ (((k : Nat) : Int) < ((10 : Nat) : Int)) := fun q => c15 ((i_lt hp0 (by decide : (10 : Int32).toInt = ((10 : Nat) : Int))).mpr q)
      exfalso; omega
  · refine lv_tableIn (off := 162) (tgt := 163) hx hb dX7_letterComesTo_1 (by rw [hp0]; omega) (by rw [hp0]; omega) (by rw [hp0, c1]; rfl) (by decide) ?_
    refine lv_iload_n hx hb dX7_letterComesTo_163 rfl (lv_at hl 1 rfl) ?_
    refine lv_bipush (v := 10) hx hb dX7_letterComesTo_164 (by decide) ?_
    refine lv_icmp_lt (tgt := 198) hx hb dX7_letterComesTo_166 (by decide) (fun c19 => ?_) (fun c19 => ?_)
    · have c19 : ((k : Nat) : Int) < ((10 : Nat) : Int) := (i_lt hp0 (by decide : (10 : Int32).toInt = ((10 : Nat) : Int))).mp c19
      have harg := hm.arg (by omega) (by omega)
      have ha3 := (hP.2.2 _ hf0).1
      refine lv_iload_n hx hb dX7_letterComesTo_198 rfl (lv_at hl 1 rfl) ?_
      refine lv_iconst (v := 3) hx hb dX7_letterComesTo_199 (by decide) ?_
      refine lv_isub hx hb dX7_letterComesTo_200 ?_
      refine lv_topi (fun y20 ey20 => ?_)
      have ty20 : y20.toInt = (((k - 3) : Nat) : Int) := i_subN ey20 hp0 (by decide : (3 : Int32).toInt = ((3 : Nat) : Int)) (by omega)
      refine lv_istore (lv' := [(5, .int y20), (0, .ref (g.2.2.1 v)), (1, .int p0), (2, .int p1), (3, .int p2), (4, .int p3)]) hx hb dX7_letterComesTo_201 hl (by decide) rfl (fun ls hl => ?_)
      refine lv_iload hx hb dX7_letterComesTo_203 (lv_at hl 0 rfl) ?_
      refine lv_if_lt (tgt := 228) hx hb dX7_letterComesTo_205 (by decide) (fun c21 => ?_) (fun c21 => ?_)
      · have c21 : (((k - 3) : Nat) : Int) < (0 : Int) := (i_lt ty20 (rfl : (0 : Int32).toInt = 0)).mp c21
        exfalso
        omega
      · have c21 : ¬ ((((k - 3) : Nat) : Int) < (0 : Int)) := fun q => c21 ((i_lt ty20 (rfl : (0 : Int32).toInt = 0)).mpr q)
        refine lv_iload hx hb dX7_letterComesTo_208 (lv_at hl 0 rfl) ?_
        refine lv_aload_n hx hb dX7_letterComesTo_210 rfl (lv_at hl 1 rfl) ?_
        refine r_getV hx hb hts ⟨inX7_letterComesTo_X0, inX7_letterComesTo_X4, inX7_letterComesTo_X6⟩ hown w V.hu (by have := V.hN; omega) V.c0 10 (by decide) (hts (Cond.fieldLink RX7 15 "EarlyValues$View" "given" "[I") (List.mem_of_getElem? (i := 5) (by decide +kernel))) rfl rfl dX7_letterComesTo_211 ?_
        refine r_alen (t := 0) (v := 3) hx hb w (by decide) (by have := V.hN; omega) V.c2 rfl dX7_letterComesTo_214 ?_
        refine lv_icmp_ge (tgt := 228) hx hb dX7_letterComesTo_215 (by decide) (fun c22 => ?_) (fun c22 => ?_)
        · have c22 : ((3 : Nat) : Int) ≤ (((k - 3) : Nat) : Int) := (i_le (by decide : (3 : Int32).toInt = ((3 : Nat) : Int)) ty20).mp c22
          exfalso
          omega
        · have c22 : ¬ (((3 : Nat) : Int) ≤ (((k - 3) : Nat) : Int)) := fun q => c22 ((i_le (by decide : (3 : Int32).toInt = ((3 : Nat) : Int)) ty20).mpr q)
          refine lv_aload_n hx hb dX7_letterComesTo_218 rfl (lv_at hl 1 rfl) ?_
          refine r_getV hx hb hts ⟨inX7_letterComesTo_X0, inX7_letterComesTo_X4, inX7_letterComesTo_X6⟩ hown w V.hu (by have := V.hN; omega) V.c0 10 (by decide) (hts (Cond.fieldLink RX7 15 "EarlyValues$View" "given" "[I") (List.mem_of_getElem? (i := 5) (by decide +kernel))) rfl rfl dX7_letterComesTo_219 ?_
          refine lv_iload hx hb dX7_letterComesTo_222 (lv_at hl 0 rfl) ?_
          refine r_iald (j := (k - 3)) hx hb w (by have := V.hN; omega) V.c2 ty20 (by omega) dX7_letterComesTo_224 ?_
          refine lv_goto (tgt := 232) hx hb dX7_letterComesTo_225 (by decide) ?_
          refine r_iret (v := gg ((k - 3))) hx hb hr hlocks w dX7_letterComesTo_232 ?_
          refine ⟨rfl, ?_⟩
          rw [hxs (k - 3) (hm.arg (by omega) (by omega))]
          congr 1
          unfold mLet
          repeat first | rfl | rw [if_pos (by omega)] | rw [if_neg (by omega)]
    · have c19 : ¬ (((k : Nat) : Int) < ((10 : Nat) : Int)) := fun q => c19 ((i_lt hp0 (by decide : (10 : Int32).toInt = ((10 : Nat) : Int))).mpr q)
      exfalso; omega
  · refine lv_tableIn (off := 70) (tgt := 71) hx hb dX7_letterComesTo_1 (by rw [hp0]; omega) (by rw [hp0]; omega) (by rw [hp0, c1]; rfl) (by decide) ?_
    refine lv_iload_n hx hb dX7_letterComesTo_71 rfl (lv_at hl 2 rfl) ?_
    refine lv_aload_n hx hb dX7_letterComesTo_72 rfl (lv_at hl 0 rfl) ?_
    refine r_getV hx hb hts ⟨inX7_letterComesTo_X0, inX7_letterComesTo_X4, inX7_letterComesTo_X6⟩ hown w V.hu (by have := V.hN; omega) V.c0 1 (by decide) (hts (Cond.fieldLink RX7 25 "EarlyValues$View" "never" "I") (List.mem_of_getElem? (i := 3) (by decide +kernel))) rfl rfl dX7_letterComesTo_73 ?_
    refine lv_icmp_ne (tgt := 86) hx hb dX7_letterComesTo_76 (by decide) (fun c23 => ?_) (fun c23 => ?_)
    · have c23 : ¬ (((q0 : Nat) : Int) = (((mN u) : Nat) : Int)) := fun q => c23 ((i_eq hp1 (mN_i u)).mpr q)
      refine lv_aload_n hx hb dX7_letterComesTo_86 rfl (lv_at hl 0 rfl) ?_
      refine lv_iload_n hx hb dX7_letterComesTo_87 rfl (lv_at hl 2 rfl) ?_
      refine r_callI w (va_3 V.hu (fun q_ => va_runU (As := [.int p1]) (rest := []) ⟨hx, hb, hml, hown, hts⟩ ((show MI l yX6_less wsX6_less rm_X6_less [.ref (g.2.2.1 v), .int p1] g h (fun r h2 => h2 = h ∧ r.toInt = (mLess u q0 : Int)) from by subst q_; exact c_X6_less l p1 hp1 (by have := mB_0; have := mB_1; have := mB_2; omega))) (va_cwA 1 hts gX7_letterComesTo_X6_less_u132X6 rfl rfl rfl w.2.2.2.2.1 (by decide +kernel) ⟨Nat.le_of_ble_eq_true rfl, Nat.le_of_ble_eq_true rfl⟩) (r_preV w (by have := V.hN; omega) (V.ob (by subst q_; rfl)) rfl) rfl rfl hl.1 rfl (lv_room (Nat.le_of_ble_eq_true rfl)) dX7_letterComesTo_88 ⟨Nat.zero_le _, Nat.zero_le _⟩) (fun q_ => va_runU (As := [.int p1]) (rest := []) ⟨hx, hb, hml, hown, hts⟩ ((show MI l yX4_less wsX4_less rm_X4_less [.ref (g.2.2.1 v), .int p1] g h (fun r h2 => h2 = h ∧ r.toInt = (mLess u q0 : Int)) from by subst q_; exact c_X4_less l p1 hp1 (by have := mB_0; have := mB_1; have := mB_2; omega))) (va_cwA 1 hts gX7_letterComesTo_X4_less_u132X4 rfl rfl rfl w.2.2.2.2.1 (by decide +kernel) ⟨Nat.le_of_ble_eq_true rfl, Nat.le_of_ble_eq_true rfl⟩) (r_preV w (by have := V.hN; omega) (V.ob (by subst q_; rfl)) rfl) rfl rfl hl.1 rfl (lv_room (Nat.le_of_ble_eq_true rfl)) dX7_letterComesTo_88 ⟨Nat.zero_le _, Nat.zero_le _⟩) (fun q_ => va_runU (As := [.int p1]) (rest := []) ⟨hx, hb, hml, hown, hts⟩ ((show MI l yX0_less wsX0_less rm_X0_less [.ref (g.2.2.1 v), .int p1] g h (fun r h2 => h2 = h ∧ r.toInt = (mLess u q0 : Int)) from by subst q_; exact c_X0_less l p1 hp1 (by have := mB_0; have := mB_1; have := mB_2; omega))) (va_cwA 1 hts gX7_letterComesTo_X0_less_u132X0 rfl rfl rfl w.2.2.2.2.1 (by decide +kernel) ⟨Nat.le_of_ble_eq_true rfl, Nat.le_of_ble_eq_true rfl⟩) (r_preV w (by have := V.hN; omega) (V.ob (by subst q_; rfl)) rfl) rfl rfl hl.1 rfl (lv_room (Nat.le_of_ble_eq_true rfl)) dX7_letterComesTo_88 ⟨Nat.zero_le _, Nat.zero_le _⟩)) (fun r25 h24 H locs hp w => ?_)
      obtain ⟨eh_, qq26⟩ := hp
      have eh_ := eh_.symm
      subst eh_
      refine r_iret (v := r25) hx hb hr hlocks w dX7_letterComesTo_91 ?_
      refine ⟨rfl, ?_⟩
      rw [qq26]
      congr 1
      unfold mLet
      repeat first | rfl | rw [if_pos (by omega)] | rw [if_neg (by omega)]
    · have c23 : ((q0 : Nat) : Int) = (((mN u) : Nat) : Int) := (i_eq hp1 (mN_i u)).mp c23
      refine lv_aload_n hx hb dX7_letterComesTo_79 rfl (lv_at hl 0 rfl) ?_
      refine r_getV hx hb hts ⟨inX7_letterComesTo_X0, inX7_letterComesTo_X4, inX7_letterComesTo_X6⟩ hown w V.hu (by have := V.hN; omega) V.c0 1 (by decide) (hts (Cond.fieldLink RX7 25 "EarlyValues$View" "never" "I") (List.mem_of_getElem? (i := 3) (by decide +kernel))) rfl rfl dX7_letterComesTo_80 ?_
      refine lv_goto (tgt := 91) hx hb dX7_letterComesTo_83 (by decide) ?_
      refine r_iret (v := nI (mN u)) hx hb hr hlocks w dX7_letterComesTo_91 ?_
      refine ⟨rfl, ?_⟩
      rw [(mN_i u)]
      congr 1
      unfold mLet
      repeat first | rfl | rw [if_pos (by omega)] | rw [if_neg (by omega)]
  · refine lv_tableIn (off := 91) (tgt := 92) hx hb dX7_letterComesTo_1 (by rw [hp0]; omega) (by rw [hp0]; omega) (by rw [hp0, c1]; rfl) (by decide) ?_
    refine lv_iload_n hx hb dX7_letterComesTo_92 rfl (lv_at hl 2 rfl) ?_
    refine lv_aload_n hx hb dX7_letterComesTo_93 rfl (lv_at hl 0 rfl) ?_
    refine r_getV hx hb hts ⟨inX7_letterComesTo_X0, inX7_letterComesTo_X4, inX7_letterComesTo_X6⟩ hown w V.hu (by have := V.hN; omega) V.c0 1 (by decide) (hts (Cond.fieldLink RX7 25 "EarlyValues$View" "never" "I") (List.mem_of_getElem? (i := 3) (by decide +kernel))) rfl rfl dX7_letterComesTo_94 ?_
    refine lv_icmp_eq (tgt := 108) hx hb dX7_letterComesTo_97 (by decide) (fun c27 => ?_) (fun c27 => ?_)
    · have c27 : ((q0 : Nat) : Int) = (((mN u) : Nat) : Int) := (i_eq hp1 (mN_i u)).mp c27
      refine lv_aload_n hx hb dX7_letterComesTo_108 rfl (lv_at hl 0 rfl) ?_
      refine r_getV hx hb hts ⟨inX7_letterComesTo_X0, inX7_letterComesTo_X4, inX7_letterComesTo_X6⟩ hown w V.hu (by have := V.hN; omega) V.c0 1 (by decide) (hts (Cond.fieldLink RX7 25 "EarlyValues$View" "never" "I") (List.mem_of_getElem? (i := 3) (by decide +kernel))) rfl rfl dX7_letterComesTo_109 ?_
      refine lv_goto (tgt := 121) hx hb dX7_letterComesTo_112 (by decide) ?_
      refine r_iret (v := nI (mN u)) hx hb hr hlocks w dX7_letterComesTo_121 ?_
      refine ⟨rfl, ?_⟩
      rw [(mN_i u)]
      congr 1
      unfold mLet
      repeat first | rfl | rw [if_pos (by omega)] | rw [if_neg (by omega)]
    · have c27 : ¬ (((q0 : Nat) : Int) = (((mN u) : Nat) : Int)) := fun q => c27 ((i_eq hp1 (mN_i u)).mpr q)
      refine lv_iload_n hx hb dX7_letterComesTo_100 rfl (lv_at hl 3 rfl) ?_
      refine lv_aload_n hx hb dX7_letterComesTo_101 rfl (lv_at hl 0 rfl) ?_
      refine r_getV hx hb hts ⟨inX7_letterComesTo_X0, inX7_letterComesTo_X4, inX7_letterComesTo_X6⟩ hown w V.hu (by have := V.hN; omega) V.c0 1 (by decide) (hts (Cond.fieldLink RX7 25 "EarlyValues$View" "never" "I") (List.mem_of_getElem? (i := 3) (by decide +kernel))) rfl rfl dX7_letterComesTo_102 ?_
      refine lv_icmp_ne (tgt := 115) hx hb dX7_letterComesTo_105 (by decide) (fun c28 => ?_) (fun c28 => ?_)
      · have c28 : ¬ (((q1 : Nat) : Int) = (((mN u) : Nat) : Int)) := fun q => c28 ((i_eq hp2 (mN_i u)).mpr q)
        refine lv_aload_n hx hb dX7_letterComesTo_115 rfl (lv_at hl 0 rfl) ?_
        refine lv_iload_n hx hb dX7_letterComesTo_116 rfl (lv_at hl 2 rfl) ?_
        refine lv_iload_n hx hb dX7_letterComesTo_117 rfl (lv_at hl 3 rfl) ?_
        refine r_callI w (va_3 V.hu (fun q_ => va_runU (As := [.int p1, .int p2]) (rest := []) ⟨hx, hb, hml, hown, hts⟩ ((show MI l yX6_sum wsX6_sum rm_X6_sum [.ref (g.2.2.1 v), .int p1, .int p2] g h (fun r h2 => h2 = h ∧ r.toInt = (mSum u q0 q1 : Int)) from by subst q_; exact c_X6_sum l p1 p2 hp1 hp2 (by have := mB_0; have := mB_1; have := mB_2; omega) (by have := mB_0; have := mB_1; have := mB_2; omega))) (va_cwA 2 hts gX7_letterComesTo_X6_sum_u135X6 rfl rfl rfl w.2.2.2.2.2.1 (by decide +kernel) ⟨Nat.le_of_ble_eq_true rfl, Nat.le_of_ble_eq_true rfl⟩) (r_preV w (by have := V.hN; omega) (V.ob (by subst q_; rfl)) rfl) rfl rfl hl.1 rfl (lv_room (Nat.le_of_ble_eq_true rfl)) dX7_letterComesTo_118 ⟨Nat.zero_le _, Nat.zero_le _⟩) (fun q_ => va_runU (As := [.int p1, .int p2]) (rest := []) ⟨hx, hb, hml, hown, hts⟩ ((show MI l yX4_sum wsX4_sum rm_X4_sum [.ref (g.2.2.1 v), .int p1, .int p2] g h (fun r h2 => h2 = h ∧ r.toInt = (mSum u q0 q1 : Int)) from by subst q_; exact c_X4_sum l p1 p2 hp1 hp2 (by have := mB_0; have := mB_1; have := mB_2; omega) (by have := mB_0; have := mB_1; have := mB_2; omega))) (va_cwA 2 hts gX7_letterComesTo_X4_sum_u135X4 rfl rfl rfl w.2.2.2.2.2.1 (by decide +kernel) ⟨Nat.le_of_ble_eq_true rfl, Nat.le_of_ble_eq_true rfl⟩) (r_preV w (by have := V.hN; omega) (V.ob (by subst q_; rfl)) rfl) rfl rfl hl.1 rfl (lv_room (Nat.le_of_ble_eq_true rfl)) dX7_letterComesTo_118 ⟨Nat.zero_le _, Nat.zero_le _⟩) (fun q_ => va_runU (As := [.int p1, .int p2]) (rest := []) ⟨hx, hb, hml, hown, hts⟩ ((show MI l yX0_sum wsX0_sum rm_X0_sum [.ref (g.2.2.1 v), .int p1, .int p2] g h (fun r h2 => h2 = h ∧ r.toInt = (mSum u q0 q1 : Int)) from by subst q_; exact c_X0_sum l p1 p2 hp1 hp2 (by have := mB_0; have := mB_1; have := mB_2; omega) (by have := mB_0; have := mB_1; have := mB_2; omega))) (va_cwA 2 hts gX7_letterComesTo_X0_sum_u135X0 rfl rfl rfl w.2.2.2.2.2.1 (by decide +kernel) ⟨Nat.le_of_ble_eq_true rfl, Nat.le_of_ble_eq_true rfl⟩) (r_preV w (by have := V.hN; omega) (V.ob (by subst q_; rfl)) rfl) rfl rfl hl.1 rfl (lv_room (Nat.le_of_ble_eq_true rfl)) dX7_letterComesTo_118 ⟨Nat.zero_le _, Nat.zero_le _⟩)) (fun r30 h29 H locs hp w => ?_)
        obtain ⟨eh_, qq31⟩ := hp
        have eh_ := eh_.symm
        subst eh_
        refine r_iret (v := r30) hx hb hr hlocks w dX7_letterComesTo_121 ?_
        refine ⟨rfl, ?_⟩
        rw [qq31]
        congr 1
        unfold mLet
        repeat first | rfl | rw [if_pos (by omega)] | rw [if_neg (by omega)]
      · have c28 : ((q1 : Nat) : Int) = (((mN u) : Nat) : Int) := (i_eq hp2 (mN_i u)).mp c28
        refine lv_aload_n hx hb dX7_letterComesTo_108 rfl (lv_at hl 0 rfl) ?_
        refine r_getV hx hb hts ⟨inX7_letterComesTo_X0, inX7_letterComesTo_X4, inX7_letterComesTo_X6⟩ hown w V.hu (by have := V.hN; omega) V.c0 1 (by decide) (hts (Cond.fieldLink RX7 25 "EarlyValues$View" "never" "I") (List.mem_of_getElem? (i := 3) (by decide +kernel))) rfl rfl dX7_letterComesTo_109 ?_
        refine lv_goto (tgt := 121) hx hb dX7_letterComesTo_112 (by decide) ?_
        refine r_iret (v := nI (mN u)) hx hb hr hlocks w dX7_letterComesTo_121 ?_
        refine ⟨rfl, ?_⟩
        rw [(mN_i u)]
        congr 1
        unfold mLet
        repeat first | rfl | rw [if_pos (by omega)] | rw [if_neg (by omega)]
  · refine lv_tableIn (off := 121) (tgt := 122) hx hb dX7_letterComesTo_1 (by rw [hp0]; omega) (by rw [hp0]; omega) (by rw [hp0, c1]; rfl) (by decide) ?_
    refine lv_iload_n hx hb dX7_letterComesTo_122 rfl (lv_at hl 2 rfl) ?_
    refine lv_aload_n hx hb dX7_letterComesTo_123 rfl (lv_at hl 0 rfl) ?_
    refine r_getV hx hb hts ⟨inX7_letterComesTo_X0, inX7_letterComesTo_X4, inX7_letterComesTo_X6⟩ hown w V.hu (by have := V.hN; omega) V.c0 1 (by decide) (hts (Cond.fieldLink RX7 25 "EarlyValues$View" "never" "I") (List.mem_of_getElem? (i := 3) (by decide +kernel))) rfl rfl dX7_letterComesTo_124 ?_
    refine lv_icmp_ne (tgt := 137) hx hb dX7_letterComesTo_127 (by decide) (fun c32 => ?_) (fun c32 => ?_)
    · have c32 : ¬ (((q0 : Nat) : Int) = (((mN u) : Nat) : Int)) := fun q => c32 ((i_eq hp1 (mN_i u)).mpr q)
      refine lv_iload_n hx hb dX7_letterComesTo_137 rfl (lv_at hl 3 rfl) ?_
      refine r_iret (v := p2) hx hb hr hlocks w dX7_letterComesTo_138 ?_
      refine ⟨rfl, ?_⟩
      rw [hp2]
      congr 1
      unfold mLet
      repeat first | rfl | rw [if_pos (by omega)] | rw [if_neg (by omega)]
    · have c32 : ((q0 : Nat) : Int) = (((mN u) : Nat) : Int) := (i_eq hp1 (mN_i u)).mp c32
      refine lv_aload_n hx hb dX7_letterComesTo_130 rfl (lv_at hl 0 rfl) ?_
      refine r_getV hx hb hts ⟨inX7_letterComesTo_X0, inX7_letterComesTo_X4, inX7_letterComesTo_X6⟩ hown w V.hu (by have := V.hN; omega) V.c0 1 (by decide) (hts (Cond.fieldLink RX7 25 "EarlyValues$View" "never" "I") (List.mem_of_getElem? (i := 3) (by decide +kernel))) rfl rfl dX7_letterComesTo_131 ?_
      refine lv_goto (tgt := 138) hx hb dX7_letterComesTo_134 (by decide) ?_
      refine r_iret (v := nI (mN u)) hx hb hr hlocks w dX7_letterComesTo_138 ?_
      refine ⟨rfl, ?_⟩
      rw [(mN_i u)]
      congr 1
      unfold mLet
      repeat first | rfl | rw [if_pos (by omega)] | rw [if_neg (by omega)]
  · refine lv_tableIn (off := 138) (tgt := 139) hx hb dX7_letterComesTo_1 (by rw [hp0]; omega) (by rw [hp0]; omega) (by rw [hp0, c1]; rfl) (by decide) ?_
    refine lv_iload_n hx hb dX7_letterComesTo_139 rfl (lv_at hl 2 rfl) ?_
    refine lv_aload_n hx hb dX7_letterComesTo_140 rfl (lv_at hl 0 rfl) ?_
    refine r_getV hx hb hts ⟨inX7_letterComesTo_X0, inX7_letterComesTo_X4, inX7_letterComesTo_X6⟩ hown w V.hu (by have := V.hN; omega) V.c0 1 (by decide) (hts (Cond.fieldLink RX7 25 "EarlyValues$View" "never" "I") (List.mem_of_getElem? (i := 3) (by decide +kernel))) rfl rfl dX7_letterComesTo_141 ?_
    refine lv_icmp_ne (tgt := 154) hx hb dX7_letterComesTo_144 (by decide) (fun c33 => ?_) (fun c33 => ?_)
    · have c33 : ¬ (((q0 : Nat) : Int) = (((mN u) : Nat) : Int)) := fun q => c33 ((i_eq hp1 (mN_i u)).mpr q)
      refine lv_aload_n hx hb dX7_letterComesTo_154 rfl (lv_at hl 0 rfl) ?_
      refine lv_iload_n hx hb dX7_letterComesTo_155 rfl (lv_at hl 2 rfl) ?_
      refine lv_iload_n hx hb dX7_letterComesTo_156 rfl (lv_at hl 3 rfl) ?_
      refine lv_iload hx hb dX7_letterComesTo_157 (lv_at hl 4 rfl) ?_
      refine r_callI w (va_3 V.hu (fun q_ => va_runU (As := [.int p1, .int p2, .int p3]) (rest := []) ⟨hx, hb, hml, hown, hts⟩ ((show MI l yX6_chosen wsX6_chosen rm_X6_chosen [.ref (g.2.2.1 v), .int p1, .int p2, .int p3] g h (fun r h2 => h2 = h ∧ r.toInt = (mCh u q0 q1 q2 : Int)) from by subst q_; exact c_X6_chosen l p1 p2 p3 hp1 hp2 hp3 (by have := mB_0; have := mB_1; have := mB_2; omega) (by have := mB_0; have := mB_1; have := mB_2; omega) (by have := mB_0; have := mB_1; have := mB_2; omega))) (va_cwA 3 hts gX7_letterComesTo_X6_chosen_u138X6 rfl rfl rfl w.2.2.2.2.2.2.1 (by decide +kernel) ⟨Nat.le_of_ble_eq_true rfl, Nat.le_of_ble_eq_true rfl⟩) (r_preV w (by have := V.hN; omega) (V.ob (by subst q_; rfl)) rfl) rfl rfl hl.1 rfl (lv_room (Nat.le_of_ble_eq_true rfl)) dX7_letterComesTo_159 ⟨Nat.zero_le _, Nat.zero_le _⟩) (fun q_ => va_runU (As := [.int p1, .int p2, .int p3]) (rest := []) ⟨hx, hb, hml, hown, hts⟩ ((show MI l yX4_chosen wsX4_chosen rm_X4_chosen [.ref (g.2.2.1 v), .int p1, .int p2, .int p3] g h (fun r h2 => h2 = h ∧ r.toInt = (mCh u q0 q1 q2 : Int)) from by subst q_; exact c_X4_chosen l p1 p2 p3 hp1 hp2 hp3 (by have := mB_0; have := mB_1; have := mB_2; omega) (by have := mB_0; have := mB_1; have := mB_2; omega) (by have := mB_0; have := mB_1; have := mB_2; omega))) (va_cwA 3 hts gX7_letterComesTo_X4_chosen_u138X4 rfl rfl rfl w.2.2.2.2.2.2.1 (by decide +kernel) ⟨Nat.le_of_ble_eq_true rfl, Nat.le_of_ble_eq_true rfl⟩) (r_preV w (by have := V.hN; omega) (V.ob (by subst q_; rfl)) rfl) rfl rfl hl.1 rfl (lv_room (Nat.le_of_ble_eq_true rfl)) dX7_letterComesTo_159 ⟨Nat.zero_le _, Nat.zero_le _⟩) (fun q_ => va_runU (As := [.int p1, .int p2, .int p3]) (rest := []) ⟨hx, hb, hml, hown, hts⟩ ((show MI l yX0_chosen wsX0_chosen rm_X0_chosen [.ref (g.2.2.1 v), .int p1, .int p2, .int p3] g h (fun r h2 => h2 = h ∧ r.toInt = (mCh u q0 q1 q2 : Int)) from by subst q_; exact c_X0_chosen l p1 p2 p3 hp1 hp2 hp3 (by have := mB_0; have := mB_1; have := mB_2; omega) (by have := mB_0; have := mB_1; have := mB_2; omega) (by have := mB_0; have := mB_1; have := mB_2; omega))) (va_cwA 3 hts gX7_letterComesTo_X0_chosen_u138X0 rfl rfl rfl w.2.2.2.2.2.2.1 (by decide +kernel) ⟨Nat.le_of_ble_eq_true rfl, Nat.le_of_ble_eq_true rfl⟩) (r_preV w (by have := V.hN; omega) (V.ob (by subst q_; rfl)) rfl) rfl rfl hl.1 rfl (lv_room (Nat.le_of_ble_eq_true rfl)) dX7_letterComesTo_159 ⟨Nat.zero_le _, Nat.zero_le _⟩)) (fun r35 h34 H locs hp w => ?_)
      obtain ⟨eh_, qq36⟩ := hp
      have eh_ := eh_.symm
      subst eh_
      refine r_iret (v := r35) hx hb hr hlocks w dX7_letterComesTo_162 ?_
      refine ⟨rfl, ?_⟩
      rw [qq36]
      congr 1
      unfold mLet
      repeat first | rfl | rw [if_pos (by omega)] | rw [if_neg (by omega)]
    · have c33 : ((q0 : Nat) : Int) = (((mN u) : Nat) : Int) := (i_eq hp1 (mN_i u)).mp c33
      refine lv_aload_n hx hb dX7_letterComesTo_147 rfl (lv_at hl 0 rfl) ?_
      refine r_getV hx hb hts ⟨inX7_letterComesTo_X0, inX7_letterComesTo_X4, inX7_letterComesTo_X6⟩ hown w V.hu (by have := V.hN; omega) V.c0 1 (by decide) (hts (Cond.fieldLink RX7 25 "EarlyValues$View" "never" "I") (List.mem_of_getElem? (i := 3) (by decide +kernel))) rfl rfl dX7_letterComesTo_148 ?_
      refine lv_goto (tgt := 162) hx hb dX7_letterComesTo_151 (by decide) ?_
      refine r_iret (v := nI (mN u)) hx hb hr hlocks w dX7_letterComesTo_162 ?_
      refine ⟨rfl, ?_⟩
      rw [(mN_i u)]
      congr 1
      unfold mLet
      repeat first | rfl | rw [if_pos (by omega)] | rw [if_neg (by omega)]

theorem inX7_bodyComesTo_X0 : ∀ w ∈ wsX00, w ∈ wsX7_bodyComesTo := by decide +kernel
theorem inX7_bodyComesTo_X3 : ∀ w ∈ wsX30, w ∈ wsX7_bodyComesTo := by decide +kernel
theorem inX7_bodyComesTo_X4 : ∀ w ∈ wsX40, w ∈ wsX7_bodyComesTo := by decide +kernel
theorem inX7_bodyComesTo_X6 : ∀ w ∈ wsX60, w ∈ wsX7_bodyComesTo := by decide +kernel
abbrev rm_X7_bodyComesTo : Room := { frames := 3, cells := 0, slots := 0, locals := 59 }
set_option maxHeartbeats 4000000 in
set_option maxRecDepth 100000 in
theorem c_X7_bodyComesTo (l : Launch) {g : GE} {h : Nat → va_E} {v u kk kc : Nat} {tk fz dp : Int32} {gp gg gs : Nat → Int32} {gd gt gc : Nat → Nat → Int32} (V : VwA g h v u kk kc tk fz dp gp gg gs gd gt gc) {o : Nat} {n : Int32} {ga gk gl : Nat → Int32} {gb : Nat → Nat → Int32} (P : PrA g h o n ga gk gl gb) {M : PRG} (S : PrS M n ga gk gl gb) (hP : PV M) (p1 : Int32) {f : Nat} (hp1 : p1.toInt = (f : Int)) (hf : f < pN M) {T : Nat → Nat → Nat} {xs : Nat → Nat} (hL : TLt u M T) (hT : TbS u M gt T) (hxs : ∀ i, i < pA M f → (gg i).toInt = (xs i : Int)) (hxl : ∀ i, xs i < mB u) (hdis : o + 9 ≤ v ∨ v + 18 ≤ o) : MI l yX7_bodyComesTo wsX7_bodyComesTo rm_X7_bodyComesTo [.ref (g.2.2.1 v), .ref (g.2.2.1 o), .int p1] g h (fun r h2 => (∀ k, ¬ (v ≤ k ∧ k < v + 18) → h2 k = h k) ∧ r.toInt = ((mBody u M T xs f : Nat) : Int) ∧ ∃ (dp2 : Int32) (gs2 : Nat → Int32), VwA g h2 v u kk kc tk fz dp2 gp gg gs2 gd gt gc) := by
  refine Met.ofW (cc := cX7_bodyComesTo) (maxL := 9) (ret := (some .int)) (by decide) rfl ?_
  intro p e s m args below meth c s₁ B hml hv
  obtain ⟨rfl, w0⟩ := hv
  have hx := B.exec
  have hb := B.bytes
  have hr := B.returns
  have hts := atoms_spec (ws := wsX7_bodyComesTo) B.pre
  have hown : s.vm.findClass RX7 = some m.cls := findClass_of_methodNamed B.named
  have hlocks := B.notSynchronized
  have w := w0.start
  clear w0
  have hl := lv_entry ([.ref (g.2.2.1 v), .ref (g.2.2.1 o), .int p1]) (n := 9) (Nat.le_of_ble_eq_true rfl)
  rw [lg_entry_eq]
  generalize (lg_sl ([.ref (g.2.2.1 v), .ref (g.2.2.1 o), .int p1]) ++ List.replicate (9 - (lg_sl ([.ref (g.2.2.1 v), .ref (g.2.2.1 o), .int p1])).length) Slot.unset).toArray = ls at hl ⊢
  have hl : lv_has ls 9 [(0, .ref (g.2.2.1 v)), (1, .ref (g.2.2.1 o)), (2, .int p1)] := hl
  have hn4 := hP.2.1
  obtain ⟨ha3, hk3, hl1, hl24, hpl, -⟩ := hP.2.2 f hf
  have cuts : ∀ N : Nat, (∀ (j : Nat) (x3 : Int32) (dp1 : Int32) (gs1 : Nat → Int32) (hc : Nat → va_E) (H : Heap) (locs : List Loc) (ls : Array Slot), WD g (inW g) s hc H locs → lv_has ls 9 [(0, .ref (g.2.2.1 v)), (1, .ref (g.2.2.1 o)), (2, .int p1), (3, .int x3)] → (j ≤ pL M f) → (x3.toInt = (pL M f : Int) - 1 - (j : Int)) → (dp1.toInt = (((mStk u M T xs f j).length : Nat) : Int)) → (StkR gs1 (mStk u M T xs f j)) → (VwA g hc v u kk kc tk fz dp1 gp gg gs1 gd gt gc) → (PrA g hc o n ga gk gl gb) → (∀ k, ¬ (v ≤ k ∧ k < v + 18) → hc k = h k) → (pL M f - j) * 2 + 1 < N → W p l e (headSpec wsX7_bodyComesTo rm_X7_bodyComesTo).room s m ([.ref (g.2.2.1 v), .ref (g.2.2.1 o), .int p1] : List Value).toArray below meth c H locs 0 0 (MQ below (va_Qi (fun r h2 => (∀ k, ¬ (v ≤ k ∧ k < v + 18) → h2 k = h k) ∧ r.toInt = ((mBody u M T xs f : Nat) : Int) ∧ ∃ (dp2 : Int32) (gs2 : Nat → Int32), VwA g h2 v u kk kc tk fz dp2 gp gg gs2 gd gt gc) (Wd g) (inW g)) ([.ref (g.2.2.1 v), .ref (g.2.2.1 o), .int p1] : List Value).toArray s 0 0 (inW g)) (F0 m 14 ls [])) ∧ (∀ (j : Nat) (x3 : Int32) (dp1 : Int32) (gs1 : Nat → Int32) (x4 : Int32) (x5 : Int32) (x6 : Int32) (x7 : Int32) (x8 : Int32) (hc : Nat → va_E) (H : Heap) (locs : List Loc) (ls : Array Slot), WD g (inW g) s hc H locs → lv_has ls 9 [(0, .ref (g.2.2.1 v)), (1, .ref (g.2.2.1 o)), (2, .int p1), (3, .int x3), (4, .int x4), (5, .int x5), (6, .int x6), (7, .int x7), (8, .int x8)] → (j ≤ pL M f) → (j < pL M f) → (x3.toInt = (pL M f : Int) - 1 - (j : Int)) → (x4.toInt = ((pB M f (pL M f - 1 - j)) : Int)) → (x5.toInt = ((mParts (pN M) (pA M) (pB M f (pL M f - 1 - j))) : Int)) → (x6.toInt = ((mPt (mParts (pN M) (pA M) (pB M f (pL M f - 1 - j))) 0 (mStk u M T xs f j) : Nat) : Int)) → (x7.toInt = ((mPt (mParts (pN M) (pA M) (pB M f (pL M f - 1 - j))) 1 (mStk u M T xs f j) : Nat) : Int)) → (x8.toInt = ((mPt (mParts (pN M) (pA M) (pB M f (pL M f - 1 - j))) 2 (mStk u M T xs f j) : Nat) : Int)) → (dp1.toInt = (((mStk u M T xs f j).length - (mParts (pN M) (pA M) (pB M f (pL M f - 1 - j))) : Nat) : Int)) → (StkR gs1 (mStk u M T xs f j)) → ((mParts (pN M) (pA M) (pB M f (pL M f - 1 - j))) ≤ (mStk u M T xs f j).length) → (VwA g hc v u kk kc tk fz dp1 gp gg gs1 gd gt gc) → (PrA g hc o n ga gk gl gb) → (∀ k, ¬ (v ≤ k ∧ k < v + 18) → hc k = h k) → (pL M f - j) * 2 < N → W p l e (headSpec wsX7_bodyComesTo rm_X7_bodyComesTo).room s m ([.ref (g.2.2.1 v), .ref (g.2.2.1 o), .int p1] : List Value).toArray below meth c H locs 0 0 (MQ below (va_Qi (fun r h2 => (∀ k, ¬ (v ≤ k ∧ k < v + 18) → h2 k = h k) ∧ r.toInt = ((mBody u M T xs f : Nat) : Int) ∧ ∃ (dp2 : Int32) (gs2 : Nat → Int32), VwA g h2 v u kk kc tk fz dp2 gp gg gs2 gd gt gc) (Wd g) (inW g)) ([.ref (g.2.2.1 v), .ref (g.2.2.1 o), .int p1] : List Value).toArray s 0 0 (inW g)) (F0 m 83 ls [])) := by
    intro N
    induction N with
    | zero => exact ⟨by intros; omega, by intros; omega⟩
    | succ N ih =>
      obtain ⟨ih14, ih83⟩ := ih
      refine ⟨?_, ?_⟩
      · intro j x3 dp1 gs1 hc H locs ls w hl hj hx3 hdp1 hst V P hfr hN_
        have hlen := mStk_len (u := u) (T := T) (xs := xs) hP hf j hj
        have hLj := mStk_le (u := u) (P := M) (T := T) (xs := xs) (f := f) j
        refine lv_iload_n hx hb dX7_bodyComesTo_14 rfl (lv_at hl 3 rfl) ?_
        refine lv_if_lt (tgt := 105) hx hb dX7_bodyComesTo_15 (by decide) (fun c1 => ?_) (fun c1 => ?_)
        · have c1 : ((pL M f : Int) - 1 - (j : Int)) < (0 : Int) := (i_lt hx3 (rfl : (0 : Int32).toInt = 0)).mp c1
          have hjl : j = pL M f := by omega
          have hlen : (mStk u M T xs f j).length = 1 := by rw [hlen, hjl, Nat.sub_self]; rfl
          refine lv_aload_n hx hb dX7_bodyComesTo_105 rfl (lv_at hl 0 rfl) ?_
          refine r_callI w (va_3 V.hu (fun q_ => va_runU (As := []) (rest := []) ⟨hx, hb, hml, hown, hts⟩ (c_X7_pop l V (d := (mStk u M T xs f j).length - 1) (hdp1.trans (by omega)) (by omega)) (va_cwU 0 hts gX7_bodyComesTo_X7_pop_u121X6 rfl rfl rfl rfl (by decide +kernel) ⟨Nat.le_of_ble_eq_true rfl, Nat.le_of_ble_eq_true rfl⟩) (r_preV w (by have := V.hN; omega) (V.ob (by subst q_; rfl)) rfl) rfl rfl hl.1 rfl (lv_room (Nat.le_of_ble_eq_true rfl)) dX7_bodyComesTo_106 ⟨Nat.zero_le _, Nat.zero_le _⟩) (fun q_ => va_runU (As := []) (rest := []) ⟨hx, hb, hml, hown, hts⟩ (c_X7_pop l V (d := (mStk u M T xs f j).length - 1) (hdp1.trans (by omega)) (by omega)) (va_cwU 0 hts gX7_bodyComesTo_X7_pop_u121X4 rfl rfl rfl rfl (by decide +kernel) ⟨Nat.le_of_ble_eq_true rfl, Nat.le_of_ble_eq_true rfl⟩) (r_preV w (by have := V.hN; omega) (V.ob (by subst q_; rfl)) rfl) rfl rfl hl.1 rfl (lv_room (Nat.le_of_ble_eq_true rfl)) dX7_bodyComesTo_106 ⟨Nat.zero_le _, Nat.zero_le _⟩) (fun q_ => va_runU (As := []) (rest := []) ⟨hx, hb, hml, hown, hts⟩ (c_X7_pop l V (d := (mStk u M T xs f j).length - 1) (hdp1.trans (by omega)) (by omega)) (va_cwU 0 hts gX7_bodyComesTo_X7_pop_u121X0 rfl rfl rfl rfl (by decide +kernel) ⟨Nat.le_of_ble_eq_true rfl, Nat.le_of_ble_eq_true rfl⟩) (r_preV w (by have := V.hN; omega) (V.ob (by subst q_; rfl)) rfl) rfl rfl hl.1 rfl (lv_room (Nat.le_of_ble_eq_true rfl)) dX7_bodyComesTo_106 ⟨Nat.zero_le _, Nat.zero_le _⟩)) (fun r3 h2 H locs hp w => ?_)
          obtain ⟨hfk4, hrk4, dpk4, hdk4, V⟩ := hp
          have P := P.fr (h' := h2) (fun k_ h1_ h2_ => hfk4 k_ (by omega))
          have hfr : ∀ k_, ¬ (v ≤ k_ ∧ k_ < v + 18) → h2 k_ = h k_ := fun k_ hk_ => (hfk4 k_ (by omega)).trans (hfr k_ hk_)
          refine r_iret (v := r3) hx hb hr hlocks w dX7_bodyComesTo_109 ?_
          refine ⟨hfr, ?_, _, _, V⟩
          have hz := hst 0 (by omega)
          rw [hrk4, show (mStk u M T xs f j).length - 1 = (mStk u M T xs f j).length - 1 - 0 by omega, hz, hjl]
          rfl
        · have c1 : ¬ (((pL M f : Int) - 1 - (j : Int)) < (0 : Int)) := fun q => c1 ((i_lt hx3 (rfl : (0 : Int32).toInt = 0)).mpr q)
          have hle := mStk_enough (u := u) (T := T) (xs := xs) hP hf (show j < pL M f by omega)
          have hb14 := (hpl (pL M f - 1 - j) (by omega)).1
          have hp3 : (mParts (pN M) (pA M) (pB M f (pL M f - 1 - j))) ≤ 3 := mParts_le (fun i_ hi_ => (hP.2.2 i_ hi_).1)
          refine lv_aload_n hx hb dX7_bodyComesTo_18 rfl (lv_at hl 1 rfl) ?_
          refine r_get (C := RX3) (T := TX3) (N := 5) (ci := 2) hx hb hts inX7_bodyComesTo_X3 hown w (by have := P.1; omega) P.c0 rfl 4 (by decide) (hts (Cond.fieldLink RX7 114 "EarlyValues$Program" "bodies" "[[I") (List.mem_of_getElem? (i := 3) (by decide +kernel))) rfl rfl dX7_bodyComesTo_19 ?_
          refine lv_iload_n hx hb dX7_bodyComesTo_22 rfl (lv_at hl 2 rfl) ?_
          refine r_aald (t := 4) (j := f) hx hb w (by decide) (by have := P.1; omega) P.c4 hp1 (by omega) (rowsF_in (by omega)) dX7_bodyComesTo_23 ?_
          refine lv_iload_n hx hb dX7_bodyComesTo_24 rfl (lv_at hl 3 rfl) ?_
          refine r_iald (j := (pL M f - 1 - j)) hx hb w (by have := P.1; omega) (P.c5 (i := f) (by omega)) (hx3.trans (by omega)) (by omega) dX7_bodyComesTo_25 ?_
          refine lv_istore (lv' := [(4, .int (gb f ((pL M f - 1 - j)))), (0, .ref (g.2.2.1 v)), (1, .ref (g.2.2.1 o)), (2, .int p1), (3, .int x3)]) hx hb dX7_bodyComesTo_26 hl (by decide) rfl (fun ls hl => ?_)
          refine lv_aload_n hx hb dX7_bodyComesTo_28 rfl (lv_at hl 2 rfl) ?_
          refine lv_iload hx hb dX7_bodyComesTo_29 (lv_at hl 0 rfl) ?_
          refine r_callI w (va_runV (As := [.int (gb f ((pL M f - 1 - j)))]) (rest := []) ⟨hx, hb, hml, hown, hts⟩ (c_X3_partsOf l P S.1 hn4 (S.ha hP) (gb f ((pL M f - 1 - j))) (S.2.2.2.2 f (by omega) (((pL M f - 1 - j))) (by omega)) (by omega)) (cwV 1 hts gX7_bodyComesTo_X3_partsOf rfl rfl rfl (by decide +kernel) ⟨Nat.le_of_ble_eq_true rfl, Nat.le_of_ble_eq_true rfl⟩) (r_preV w (by have := P.1; omega) P.c0 rfl) rfl rfl hl.1 rfl (lv_room (Nat.le_of_ble_eq_true rfl)) dX7_bodyComesTo_31 ⟨Nat.zero_le _, Nat.zero_le _⟩) (fun r6 h5 H locs hp w => ?_)
          obtain ⟨eh_, qq7⟩ := hp
          have eh_ := eh_.symm
          subst eh_
          refine lv_istore (lv' := [(5, .int r6), (4, .int (gb f ((pL M f - 1 - j)))), (0, .ref (g.2.2.1 v)), (1, .ref (g.2.2.1 o)), (2, .int p1), (3, .int x3)]) hx hb dX7_bodyComesTo_34 hl (by decide) rfl (fun ls hl => ?_)
          refine lv_iload hx hb dX7_bodyComesTo_36 (lv_at hl 0 rfl) ?_
          refine lv_if_le (tgt := 48) hx hb dX7_bodyComesTo_38 (by decide) (fun c8 => ?_) (fun c8 => ?_)
          · have c8 : (((mParts (pN M) (pA M) (pB M f (((pL M f - 1 - j))))) : Nat) : Int) ≤ (0 : Int) := (i_le qq7 (rfl : (0 : Int32).toInt = 0)).mp c8
            refine lv_iconst (v := 0) hx hb dX7_bodyComesTo_48 (by decide) ?_
            refine lv_istore (lv' := [(6, .int 0), (5, .int r6), (4, .int (gb f ((pL M f - 1 - j)))), (0, .ref (g.2.2.1 v)), (1, .ref (g.2.2.1 o)), (2, .int p1), (3, .int x3)]) hx hb dX7_bodyComesTo_49 hl (by decide) rfl (fun ls hl => ?_)
            refine lv_iload hx hb dX7_bodyComesTo_51 (lv_at hl 1 rfl) ?_
            refine lv_iconst (v := 1) hx hb dX7_bodyComesTo_53 (by decide) ?_
            refine lv_icmp_le (tgt := 64) hx hb dX7_bodyComesTo_54 (by decide) (fun c9 => ?_) (fun c9 => ?_)
            · have c9 : (((mParts (pN M) (pA M) (pB M f (((pL M f - 1 - j))))) : Nat) : Int) ≤ ((1 : Nat) : Int) := (i_le qq7 (by decide : (1 : Int32).toInt = ((1 : Nat) : Int))).mp c9
              refine lv_iconst (v := 0) hx hb dX7_bodyComesTo_64 (by decide) ?_
              refine lv_istore (lv' := [(7, .int 0), (6, .int 0), (5, .int r6), (4, .int (gb f ((pL M f - 1 - j)))), (0, .ref (g.2.2.1 v)), (1, .ref (g.2.2.1 o)), (2, .int p1), (3, .int x3)]) hx hb dX7_bodyComesTo_65 hl (by decide) rfl (fun ls hl => ?_)
              refine lv_iload hx hb dX7_bodyComesTo_67 (lv_at hl 2 rfl) ?_
              refine lv_iconst (v := 2) hx hb dX7_bodyComesTo_69 (by decide) ?_
              refine lv_icmp_le (tgt := 80) hx hb dX7_bodyComesTo_70 (by decide) (fun c10 => ?_) (fun c10 => ?_)
              · have c10 : (((mParts (pN M) (pA M) (pB M f (((pL M f - 1 - j))))) : Nat) : Int) ≤ ((2 : Nat) : Int) := (i_le qq7 (by decide : (2 : Int32).toInt = ((2 : Nat) : Int))).mp c10
                refine lv_iconst (v := 0) hx hb dX7_bodyComesTo_80 (by decide) ?_
                refine lv_istore (lv' := [(8, .int 0), (7, .int 0), (6, .int 0), (5, .int r6), (4, .int (gb f ((pL M f - 1 - j)))), (0, .ref (g.2.2.1 v)), (1, .ref (g.2.2.1 o)), (2, .int p1), (3, .int x3)]) hx hb dX7_bodyComesTo_81 hl (by decide) rfl (fun ls hl => ?_)
                exact ih83 j x3 dp1 gs1 (gb f ((pL M f - 1 - j))) r6 0 0 0 hc _ _ _ w (lv_sub hl [5, 6, 7, 8, 4, 3, 2, 1, 0] rfl) hj (by omega) hx3 ((S.2.2.2.2 f (by omega) (((pL M f - 1 - j))) (by omega))) qq7 ((by rw [mPt_0 (by omega)]; rfl)) ((by rw [mPt_0 (by omega)]; rfl)) ((by rw [mPt_0 (by omega)]; rfl)) (hdp1.trans (by omega)) hst hle V P hfr (by omega)
              · have c10 : ¬ ((((mParts (pN M) (pA M) (pB M f (((pL M f - 1 - j))))) : Nat) : Int) ≤ ((2 : Nat) : Int)) := fun q => c10 ((i_le qq7 (by decide : (2 : Int32).toInt = ((2 : Nat) : Int))).mpr q)
                exfalso; omega
            · have c9 : ¬ ((((mParts (pN M) (pA M) (pB M f (((pL M f - 1 - j))))) : Nat) : Int) ≤ ((1 : Nat) : Int)) := fun q => c9 ((i_le qq7 (by decide : (1 : Int32).toInt = ((1 : Nat) : Int))).mpr q)
              exfalso; omega
          · have c8 : ¬ ((((mParts (pN M) (pA M) (pB M f (((pL M f - 1 - j))))) : Nat) : Int) ≤ (0 : Int)) := fun q => c8 ((i_le qq7 (rfl : (0 : Int32).toInt = 0)).mpr q)
            refine lv_aload_n hx hb dX7_bodyComesTo_41 rfl (lv_at hl 2 rfl) ?_
            refine r_callI w (va_3 V.hu (fun q_ => va_runU (As := []) (rest := []) ⟨hx, hb, hml, hown, hts⟩ (c_X7_pop l V (d := (mStk u M T xs f j).length - 1) (hdp1.trans (by omega)) (by omega)) (va_cwU 0 hts gX7_bodyComesTo_X7_pop_u121X6 rfl rfl rfl rfl (by decide +kernel) ⟨Nat.le_of_ble_eq_true rfl, Nat.le_of_ble_eq_true rfl⟩) (r_preV w (by have := V.hN; omega) (V.ob (by subst q_; rfl)) rfl) rfl rfl hl.1 rfl (lv_room (Nat.le_of_ble_eq_true rfl)) dX7_bodyComesTo_42 ⟨Nat.zero_le _, Nat.zero_le _⟩) (fun q_ => va_runU (As := []) (rest := []) ⟨hx, hb, hml, hown, hts⟩ (c_X7_pop l V (d := (mStk u M T xs f j).length - 1) (hdp1.trans (by omega)) (by omega)) (va_cwU 0 hts gX7_bodyComesTo_X7_pop_u121X4 rfl rfl rfl rfl (by decide +kernel) ⟨Nat.le_of_ble_eq_true rfl, Nat.le_of_ble_eq_true rfl⟩) (r_preV w (by have := V.hN; omega) (V.ob (by subst q_; rfl)) rfl) rfl rfl hl.1 rfl (lv_room (Nat.le_of_ble_eq_true rfl)) dX7_bodyComesTo_42 ⟨Nat.zero_le _, Nat.zero_le _⟩) (fun q_ => va_runU (As := []) (rest := []) ⟨hx, hb, hml, hown, hts⟩ (c_X7_pop l V (d := (mStk u M T xs f j).length - 1) (hdp1.trans (by omega)) (by omega)) (va_cwU 0 hts gX7_bodyComesTo_X7_pop_u121X0 rfl rfl rfl rfl (by decide +kernel) ⟨Nat.le_of_ble_eq_true rfl, Nat.le_of_ble_eq_true rfl⟩) (r_preV w (by have := V.hN; omega) (V.ob (by subst q_; rfl)) rfl) rfl rfl hl.1 rfl (lv_room (Nat.le_of_ble_eq_true rfl)) dX7_bodyComesTo_42 ⟨Nat.zero_le _, Nat.zero_le _⟩)) (fun r12 h11 H locs hp w => ?_)
            obtain ⟨hfk13, hrk13, dpk13, hdk13, V⟩ := hp
            have P := P.fr (h' := h11) (fun k_ h1_ h2_ => hfk13 k_ (by omega))
            have hfr : ∀ k_, ¬ (v ≤ k_ ∧ k_ < v + 18) → h11 k_ = h k_ := fun k_ hk_ => (hfk13 k_ (by omega)).trans (hfr k_ hk_)
            refine lv_goto (tgt := 49) hx hb dX7_bodyComesTo_45 (by decide) ?_
            refine lv_istore (lv' := [(6, .int r12), (5, .int r6), (4, .int (gb f ((pL M f - 1 - j)))), (0, .ref (g.2.2.1 v)), (1, .ref (g.2.2.1 o)), (2, .int p1), (3, .int x3)]) hx hb dX7_bodyComesTo_49 hl (by decide) rfl (fun ls hl => ?_)
            refine lv_iload hx hb dX7_bodyComesTo_51 (lv_at hl 1 rfl) ?_
            refine lv_iconst (v := 1) hx hb dX7_bodyComesTo_53 (by decide) ?_
            refine lv_icmp_le (tgt := 64) hx hb dX7_bodyComesTo_54 (by decide) (fun c14 => ?_) (fun c14 => ?_)
            · have c14 : (((mParts (pN M) (pA M) (pB M f (((pL M f - 1 - j))))) : Nat) : Int) ≤ ((1 : Nat) : Int) := (i_le qq7 (by decide : (1 : Int32).toInt = ((1 : Nat) : Int))).mp c14
              refine lv_iconst (v := 0) hx hb dX7_bodyComesTo_64 (by decide) ?_
              refine lv_istore (lv' := [(7, .int 0), (6, .int r12), (5, .int r6), (4, .int (gb f ((pL M f - 1 - j)))), (0, .ref (g.2.2.1 v)), (1, .ref (g.2.2.1 o)), (2, .int p1), (3, .int x3)]) hx hb dX7_bodyComesTo_65 hl (by decide) rfl (fun ls hl => ?_)
              refine lv_iload hx hb dX7_bodyComesTo_67 (lv_at hl 2 rfl) ?_
              refine lv_iconst (v := 2) hx hb dX7_bodyComesTo_69 (by decide) ?_
              refine lv_icmp_le (tgt := 80) hx hb dX7_bodyComesTo_70 (by decide) (fun c15 => ?_) (fun c15 => ?_)
              · have c15 : (((mParts (pN M) (pA M) (pB M f (((pL M f - 1 - j))))) : Nat) : Int) ≤ ((2 : Nat) : Int) := (i_le qq7 (by decide : (2 : Int32).toInt = ((2 : Nat) : Int))).mp c15
                refine lv_iconst (v := 0) hx hb dX7_bodyComesTo_80 (by decide) ?_
                refine lv_istore (lv' := [(8, .int 0), (7, .int 0), (6, .int r12), (5, .int r6), (4, .int (gb f ((pL M f - 1 - j)))), (0, .ref (g.2.2.1 v)), (1, .ref (g.2.2.1 o)), (2, .int p1), (3, .int x3)]) hx hb dX7_bodyComesTo_81 hl (by decide) rfl (fun ls hl => ?_)
                exact ih83 j x3 dpk13 gs1 (gb f ((pL M f - 1 - j))) r6 r12 0 0 h11 _ _ _ w (lv_sub hl [5, 6, 7, 8, 4, 3, 2, 1, 0] rfl) hj (by omega) hx3 ((S.2.2.2.2 f (by omega) (((pL M f - 1 - j))) (by omega))) qq7 (((congrArg Int32.toInt hrk13).trans (hst.at (by omega) hle (by omega)))) ((by rw [mPt_0 (by omega)]; rfl)) ((by rw [mPt_0 (by omega)]; rfl)) (hdk13.trans (by omega)) hst hle V P hfr (by omega)
              · have c15 : ¬ ((((mParts (pN M) (pA M) (pB M f (((pL M f - 1 - j))))) : Nat) : Int) ≤ ((2 : Nat) : Int)) := fun q => c15 ((i_le qq7 (by decide : (2 : Int32).toInt = ((2 : Nat) : Int))).mpr q)
                exfalso; omega
            · have c14 : ¬ ((((mParts (pN M) (pA M) (pB M f (((pL M f - 1 - j))))) : Nat) : Int) ≤ ((1 : Nat) : Int)) := fun q => c14 ((i_le qq7 (by decide : (1 : Int32).toInt = ((1 : Nat) : Int))).mpr q)
              refine lv_aload_n hx hb dX7_bodyComesTo_57 rfl (lv_at hl 3 rfl) ?_
              refine r_callI w (va_3 V.hu (fun q_ => va_runU (As := []) (rest := []) ⟨hx, hb, hml, hown, hts⟩ (c_X7_pop l V (d := ((mStk u M T xs f j).length - 1) - 1) (hdk13.trans (by omega)) (by omega)) (va_cwU 0 hts gX7_bodyComesTo_X7_pop_u121X6 rfl rfl rfl rfl (by decide +kernel) ⟨Nat.le_of_ble_eq_true rfl, Nat.le_of_ble_eq_true rfl⟩) (r_preV w (by have := V.hN; omega) (V.ob (by subst q_; rfl)) rfl) rfl rfl hl.1 rfl (lv_room (Nat.le_of_ble_eq_true rfl)) dX7_bodyComesTo_58 ⟨Nat.zero_le _, Nat.zero_le _⟩) (fun q_ => va_runU (As := []) (rest := []) ⟨hx, hb, hml, hown, hts⟩ (c_X7_pop l V (d := ((mStk u M T xs f j).length - 1) - 1) (hdk13.trans (by omega)) (by omega)) (va_cwU 0 hts gX7_bodyComesTo_X7_pop_u121X4 rfl rfl rfl rfl (by decide +kernel) ⟨Nat.le_of_ble_eq_true rfl, Nat.le_of_ble_eq_true rfl⟩) (r_preV w (by have := V.hN; omega) (V.ob (by subst q_; rfl)) rfl) rfl rfl hl.1 rfl (lv_room (Nat.le_of_ble_eq_true rfl)) dX7_bodyComesTo_58 ⟨Nat.zero_le _, Nat.zero_le _⟩) (fun q_ => va_runU (As := []) (rest := []) ⟨hx, hb, hml, hown, hts⟩ (c_X7_pop l V (d := ((mStk u M T xs f j).length - 1) - 1) (hdk13.trans (by omega)) (by omega)) (va_cwU 0 hts gX7_bodyComesTo_X7_pop_u121X0 rfl rfl rfl rfl (by decide +kernel) ⟨Nat.le_of_ble_eq_true rfl, Nat.le_of_ble_eq_true rfl⟩) (r_preV w (by have := V.hN; omega) (V.ob (by subst q_; rfl)) rfl) rfl rfl hl.1 rfl (lv_room (Nat.le_of_ble_eq_true rfl)) dX7_bodyComesTo_58 ⟨Nat.zero_le _, Nat.zero_le _⟩)) (fun r17 h16 H locs hp w => ?_)
              obtain ⟨hfk18, hrk18, dpk18, hdk18, V⟩ := hp
              have P := P.fr (h' := h16) (fun k_ h1_ h2_ => hfk18 k_ (by omega))
              have hfr : ∀ k_, ¬ (v ≤ k_ ∧ k_ < v + 18) → h16 k_ = h k_ := fun k_ hk_ => (hfk18 k_ (by omega)).trans (hfr k_ hk_)
              refine lv_goto (tgt := 65) hx hb dX7_bodyComesTo_61 (by decide) ?_
              refine lv_istore (lv' := [(7, .int r17), (6, .int r12), (5, .int r6), (4, .int (gb f ((pL M f - 1 - j)))), (0, .ref (g.2.2.1 v)), (1, .ref (g.2.2.1 o)), (2, .int p1), (3, .int x3)]) hx hb dX7_bodyComesTo_65 hl (by decide) rfl (fun ls hl => ?_)
              refine lv_iload hx hb dX7_bodyComesTo_67 (lv_at hl 2 rfl) ?_
              refine lv_iconst (v := 2) hx hb dX7_bodyComesTo_69 (by decide) ?_
              refine lv_icmp_le (tgt := 80) hx hb dX7_bodyComesTo_70 (by decide) (fun c19 => ?_) (fun c19 => ?_)
              · have c19 : (((mParts (pN M) (pA M) (pB M f (((pL M f - 1 - j))))) : Nat) : Int) ≤ ((2 : Nat) : Int) := (i_le qq7 (by decide : (2 : Int32).toInt = ((2 : Nat) : Int))).mp c19
                refine lv_iconst (v := 0) hx hb dX7_bodyComesTo_80 (by decide) ?_
                refine lv_istore (lv' := [(8, .int 0), (7, .int r17), (6, .int r12), (5, .int r6), (4, .int (gb f ((pL M f - 1 - j)))), (0, .ref (g.2.2.1 v)), (1, .ref (g.2.2.1 o)), (2, .int p1), (3, .int x3)]) hx hb dX7_bodyComesTo_81 hl (by decide) rfl (fun ls hl => ?_)
                exact ih83 j x3 dpk18 gs1 (gb f ((pL M f - 1 - j))) r6 r12 r17 0 h16 _ _ _ w (lv_sub hl [5, 6, 7, 8, 4, 3, 2, 1, 0] rfl) hj (by omega) hx3 ((S.2.2.2.2 f (by omega) (((pL M f - 1 - j))) (by omega))) qq7 (((congrArg Int32.toInt hrk13).trans (hst.at (by omega) hle (by omega)))) (((congrArg Int32.toInt hrk18).trans (hst.at (by omega) hle (by omega)))) ((by rw [mPt_0 (by omega)]; rfl)) (hdk18.trans (by omega)) hst hle V P hfr (by omega)
              · have c19 : ¬ ((((mParts (pN M) (pA M) (pB M f (((pL M f - 1 - j))))) : Nat) : Int) ≤ ((2 : Nat) : Int)) := fun q => c19 ((i_le qq7 (by decide : (2 : Int32).toInt = ((2 : Nat) : Int))).mpr q)
                refine lv_aload_n hx hb dX7_bodyComesTo_73 rfl (lv_at hl 4 rfl) ?_
                refine r_callI w (va_3 V.hu (fun q_ => va_runU (As := []) (rest := []) ⟨hx, hb, hml, hown, hts⟩ (c_X7_pop l V (d := (((mStk u M T xs f j).length - 1) - 1) - 1) (hdk18.trans (by omega)) (by omega)) (va_cwU 0 hts gX7_bodyComesTo_X7_pop_u121X6 rfl rfl rfl rfl (by decide +kernel) ⟨Nat.le_of_ble_eq_true rfl, Nat.le_of_ble_eq_true rfl⟩) (r_preV w (by have := V.hN; omega) (V.ob (by subst q_; rfl)) rfl) rfl rfl hl.1 rfl (lv_room (Nat.le_of_ble_eq_true rfl)) dX7_bodyComesTo_74 ⟨Nat.zero_le _, Nat.zero_le _⟩) (fun q_ => va_runU (As := []) (rest := []) ⟨hx, hb, hml, hown, hts⟩ (c_X7_pop l V (d := (((mStk u M T xs f j).length - 1) - 1) - 1) (hdk18.trans (by omega)) (by omega)) (va_cwU 0 hts gX7_bodyComesTo_X7_pop_u121X4 rfl rfl rfl rfl (by decide +kernel) ⟨Nat.le_of_ble_eq_true rfl, Nat.le_of_ble_eq_true rfl⟩) (r_preV w (by have := V.hN; omega) (V.ob (by subst q_; rfl)) rfl) rfl rfl hl.1 rfl (lv_room (Nat.le_of_ble_eq_true rfl)) dX7_bodyComesTo_74 ⟨Nat.zero_le _, Nat.zero_le _⟩) (fun q_ => va_runU (As := []) (rest := []) ⟨hx, hb, hml, hown, hts⟩ (c_X7_pop l V (d := (((mStk u M T xs f j).length - 1) - 1) - 1) (hdk18.trans (by omega)) (by omega)) (va_cwU 0 hts gX7_bodyComesTo_X7_pop_u121X0 rfl rfl rfl rfl (by decide +kernel) ⟨Nat.le_of_ble_eq_true rfl, Nat.le_of_ble_eq_true rfl⟩) (r_preV w (by have := V.hN; omega) (V.ob (by subst q_; rfl)) rfl) rfl rfl hl.1 rfl (lv_room (Nat.le_of_ble_eq_true rfl)) dX7_bodyComesTo_74 ⟨Nat.zero_le _, Nat.zero_le _⟩)) (fun r21 h20 H locs hp w => ?_)
                obtain ⟨hfk22, hrk22, dpk22, hdk22, V⟩ := hp
                have P := P.fr (h' := h20) (fun k_ h1_ h2_ => hfk22 k_ (by omega))
                have hfr : ∀ k_, ¬ (v ≤ k_ ∧ k_ < v + 18) → h20 k_ = h k_ := fun k_ hk_ => (hfk22 k_ (by omega)).trans (hfr k_ hk_)
                refine lv_goto (tgt := 81) hx hb dX7_bodyComesTo_77 (by decide) ?_
                refine lv_istore (lv' := [(8, .int r21), (7, .int r17), (6, .int r12), (5, .int r6), (4, .int (gb f ((pL M f - 1 - j)))), (0, .ref (g.2.2.1 v)), (1, .ref (g.2.2.1 o)), (2, .int p1), (3, .int x3)]) hx hb dX7_bodyComesTo_81 hl (by decide) rfl (fun ls hl => ?_)
                exact ih83 j x3 dpk22 gs1 (gb f ((pL M f - 1 - j))) r6 r12 r17 r21 h20 _ _ _ w (lv_sub hl [5, 6, 7, 8, 4, 3, 2, 1, 0] rfl) hj (by omega) hx3 ((S.2.2.2.2 f (by omega) (((pL M f - 1 - j))) (by omega))) qq7 (((congrArg Int32.toInt hrk13).trans (hst.at (by omega) hle (by omega)))) (((congrArg Int32.toInt hrk18).trans (hst.at (by omega) hle (by omega)))) (((congrArg Int32.toInt hrk22).trans (hst.at (by omega) hle (by omega)))) (hdk22.trans (by omega)) hst hle V P hfr (by omega)
      · intro j x3 dp1 gs1 x4 x5 x6 x7 x8 hc H locs ls w hl hj hjl hx3 hx4 hx5 hx6 hx7 hx8 hdp1 hst hle V P hfr hN_
        have hsl := mStk_lt V.hu hP hf hL hxl j hj
        have hb_ := hpl (pL M f - 1 - j) (by omega)
        have hLj := mStk_le (u := u) (P := M) (T := T) (xs := xs) (f := f) j
        refine lv_aload_n hx hb dX7_bodyComesTo_83 rfl (lv_at hl 0 rfl) ?_
        refine lv_aload_n hx hb dX7_bodyComesTo_84 rfl (lv_at hl 0 rfl) ?_
        refine lv_iload hx hb dX7_bodyComesTo_85 (lv_at hl 4 rfl) ?_
        refine lv_iload hx hb dX7_bodyComesTo_87 (lv_at hl 6 rfl) ?_
        refine lv_iload hx hb dX7_bodyComesTo_89 (lv_at hl 7 rfl) ?_
        refine lv_iload hx hb dX7_bodyComesTo_91 (lv_at hl 8 rfl) ?_
        refine r_callI w (va_3 V.hu (fun q_ => va_runU (As := [.int x4, .int x6, .int x7, .int x8]) (rest := [.ref (g.2.2.1 v)]) ⟨hx, hb, hml, hown, hts⟩ (c_X7_letterComesTo l V hP (f0 := f) hT hxs x4 x6 x7 x8 hx4 hx6 hx7 hx8 hb_.1 hf hb_.2.1 (mPt_lt (mB_pos u) hsl) (mPt_lt (mB_pos u) hsl) (mPt_lt (mB_pos u) hsl) (fun q => mPt_0 q) (fun q => mPt_0 q) (fun q => mPt_0 q)) (va_cwU 4 hts gX7_bodyComesTo_X7_letterComesTo_u125X6 rfl rfl rfl rfl (by decide +kernel) ⟨Nat.le_of_ble_eq_true rfl, Nat.le_of_ble_eq_true rfl⟩) (r_preV w (by have := V.hN; omega) (V.ob (by subst q_; rfl)) rfl) rfl rfl hl.1 rfl (lv_room (Nat.le_of_ble_eq_true rfl)) dX7_bodyComesTo_93 ⟨Nat.zero_le _, Nat.zero_le _⟩) (fun q_ => va_runU (As := [.int x4, .int x6, .int x7, .int x8]) (rest := [.ref (g.2.2.1 v)]) ⟨hx, hb, hml, hown, hts⟩ (c_X7_letterComesTo l V hP (f0 := f) hT hxs x4 x6 x7 x8 hx4 hx6 hx7 hx8 hb_.1 hf hb_.2.1 (mPt_lt (mB_pos u) hsl) (mPt_lt (mB_pos u) hsl) (mPt_lt (mB_pos u) hsl) (fun q => mPt_0 q) (fun q => mPt_0 q) (fun q => mPt_0 q)) (va_cwU 4 hts gX7_bodyComesTo_X7_letterComesTo_u125X4 rfl rfl rfl rfl (by decide +kernel) ⟨Nat.le_of_ble_eq_true rfl, Nat.le_of_ble_eq_true rfl⟩) (r_preV w (by have := V.hN; omega) (V.ob (by subst q_; rfl)) rfl) rfl rfl hl.1 rfl (lv_room (Nat.le_of_ble_eq_true rfl)) dX7_bodyComesTo_93 ⟨Nat.zero_le _, Nat.zero_le _⟩) (fun q_ => va_runU (As := [.int x4, .int x6, .int x7, .int x8]) (rest := [.ref (g.2.2.1 v)]) ⟨hx, hb, hml, hown, hts⟩ (c_X7_letterComesTo l V hP (f0 := f) hT hxs x4 x6 x7 x8 hx4 hx6 hx7 hx8 hb_.1 hf hb_.2.1 (mPt_lt (mB_pos u) hsl) (mPt_lt (mB_pos u) hsl) (mPt_lt (mB_pos u) hsl) (fun q => mPt_0 q) (fun q => mPt_0 q) (fun q => mPt_0 q)) (va_cwU 4 hts gX7_bodyComesTo_X7_letterComesTo_u125X0 rfl rfl rfl rfl (by decide +kernel) ⟨Nat.le_of_ble_eq_true rfl, Nat.le_of_ble_eq_true rfl⟩) (r_preV w (by have := V.hN; omega) (V.ob (by subst q_; rfl)) rfl) rfl rfl hl.1 rfl (lv_room (Nat.le_of_ble_eq_true rfl)) dX7_bodyComesTo_93 ⟨Nat.zero_le _, Nat.zero_le _⟩)) (fun r24 h23 H locs hp w => ?_)
        obtain ⟨eh_, qq25⟩ := hp
        have eh_ := eh_.symm
        subst eh_
        refine r_callV w (va_3 V.hu (fun q_ => va_runU (As := [.int r24]) (rest := []) ⟨hx, hb, hml, hown, hts⟩ (c_X7_push l V r24 hdp1 (by omega)) (va_cwU 1 hts gX7_bodyComesTo_X7_push_u129X6 rfl rfl rfl rfl (by decide +kernel) ⟨Nat.le_of_ble_eq_true rfl, Nat.le_of_ble_eq_true rfl⟩) (r_preV w (by have := V.hN; omega) (V.ob (by subst q_; rfl)) rfl) rfl rfl hl.1 rfl (lv_room (Nat.le_of_ble_eq_true rfl)) dX7_bodyComesTo_96 ⟨Nat.zero_le _, Nat.zero_le _⟩) (fun q_ => va_runU (As := [.int r24]) (rest := []) ⟨hx, hb, hml, hown, hts⟩ (c_X7_push l V r24 hdp1 (by omega)) (va_cwU 1 hts gX7_bodyComesTo_X7_push_u129X4 rfl rfl rfl rfl (by decide +kernel) ⟨Nat.le_of_ble_eq_true rfl, Nat.le_of_ble_eq_true rfl⟩) (r_preV w (by have := V.hN; omega) (V.ob (by subst q_; rfl)) rfl) rfl rfl hl.1 rfl (lv_room (Nat.le_of_ble_eq_true rfl)) dX7_bodyComesTo_96 ⟨Nat.zero_le _, Nat.zero_le _⟩) (fun q_ => va_runU (As := [.int r24]) (rest := []) ⟨hx, hb, hml, hown, hts⟩ (c_X7_push l V r24 hdp1 (by omega)) (va_cwU 1 hts gX7_bodyComesTo_X7_push_u129X0 rfl rfl rfl rfl (by decide +kernel) ⟨Nat.le_of_ble_eq_true rfl, Nat.le_of_ble_eq_true rfl⟩) (r_preV w (by have := V.hN; omega) (V.ob (by subst q_; rfl)) rfl) rfl rfl hl.1 rfl (lv_room (Nat.le_of_ble_eq_true rfl)) dX7_bodyComesTo_96 ⟨Nat.zero_le _, Nat.zero_le _⟩)) (fun h26 H locs hp w => ?_)
        obtain ⟨hfk27, dpk27, hdk27, V⟩ := hp
        have P := P.fr (h' := h26) (fun k_ h1_ h2_ => hfk27 k_ (by omega))
        have hfr : ∀ k_, ¬ (v ≤ k_ ∧ k_ < v + 18) → h26 k_ = h k_ := fun k_ hk_ => (hfk27 k_ (by omega)).trans (hfr k_ hk_)
        obtain ⟨y28, ey28⟩ : ∃ y : Int32, y = x3 + (-1) := ⟨_, rfl⟩
        have ty28 : y28.toInt = ((pL M f : Int) - 1 - (j : Int)) + (-1 : Int) := i_add ey28 hx3 (by decide : (-1 : Int32).toInt = (-1 : Int)) (by omega)
        refine lv_iinc (v := y28) (lv' := [(3, .int y28), (0, .ref (g.2.2.1 v)), (1, .ref (g.2.2.1 o)), (2, .int p1), (4, .int x4), (5, .int x5), (6, .int x6), (7, .int x7), (8, .int x8)]) hx hb dX7_bodyComesTo_99 hl (k := 3) rfl (by rw [ey28]; rfl) (by decide) rfl (fun ls hl => ?_)
        refine lv_goto (tgt := 14) hx hb dX7_bodyComesTo_102 (by decide) ?_
        exact ih14 (j + 1) y28 dpk27 ((upd gs1 ((mStk u M T xs f j).length - (mParts (pN M) (pA M) (pB M f (pL M f - 1 - j)))) r24)) h26 _ _ _ w (lv_sub hl [1, 2, 3, 0] rfl) (by omega) (ty28.trans (by omega)) (hdk27.trans (by rw [mStk_succ_len])) (hst.push hle qq25) V P hfr (by omega)
  have cut0 := cuts ((pL M f) * 2 + 2)
  obtain ⟨ih14, ih83⟩ := cut0
  refine lv_aload_n hx hb dX7_bodyComesTo_0 rfl (lv_at hl 0 rfl) ?_
  refine lv_iconst (v := 0) hx hb dX7_bodyComesTo_1 (by decide) ?_
  refine r_putV (ty := .int) hx hb hts ⟨inX7_bodyComesTo_X0, inX7_bodyComesTo_X4, inX7_bodyComesTo_X6⟩ hown w V.hu (by have := V.hN; omega) V.c0 12 (by decide) (hts (Cond.fieldLink RX7 108 "EarlyValues$View" "depth" "I") (List.mem_of_getElem? (i := 1) (by decide +kernel))) rfl rfl (by decide +kernel) rfl rfl (Nat.le_of_ble_eq_true rfl) dX7_bodyComesTo_2 (fun h29 H locs eh29 w => ?_)
  have hfr : ∀ k_, ¬ (v ≤ k_ ∧ k_ < v + 18) → h29 k_ = h k_ := fun k_ hk_ => by rw [eh29, va_up_ne _ _ (by omega)]
  have P := P.fr (h' := h29) (fun k_ h1_ h2_ => by rw [eh29, va_up_ne _ _ (by omega)])
  have V := V.s0 eh29
  refine lv_aload_n hx hb dX7_bodyComesTo_5 rfl (lv_at hl 1 rfl) ?_
  refine r_get (C := RX3) (T := TX3) (N := 5) (ci := 2) hx hb hts inX7_bodyComesTo_X3 hown w (by have := P.1; omega) P.c0 rfl 3 (by decide) (hts (Cond.fieldLink RX7 111 "EarlyValues$Program" "lengths" "[I") (List.mem_of_getElem? (i := 2) (by decide +kernel))) rfl rfl dX7_bodyComesTo_6 ?_
  refine lv_iload_n hx hb dX7_bodyComesTo_9 rfl (lv_at hl 2 rfl) ?_
  refine r_iald (j := f) hx hb w (by have := P.1; omega) P.c3 hp1 (by omega) dX7_bodyComesTo_10 ?_
  refine lv_iconst (v := 1) hx hb dX7_bodyComesTo_11 (by decide) ?_
  refine lv_isub hx hb dX7_bodyComesTo_12 ?_
  refine lv_topi (fun y30 ey30 => ?_)
  have ty30 : y30.toInt = (((pL M f) : Nat) : Int) - ((1 : Nat) : Int) := i_sub ey30 (S.2.2.2.1 f (by omega)) (by decide : (1 : Int32).toInt = ((1 : Nat) : Int)) (by omega)
  refine lv_istore_n (lv' := [(3, .int y30), (0, .ref (g.2.2.1 v)), (1, .ref (g.2.2.1 o)), (2, .int p1)]) hx hb dX7_bodyComesTo_13 rfl hl (by decide) rfl (fun ls hl => ?_)
  exact ih14 0 y30 0 gs h29 _ _ _ w (lv_sub hl [1, 2, 3, 0] rfl) (Nat.zero_le _) (ty30.trans (by omega)) rfl (fun i hi => absurd hi (Nat.not_lt_zero _)) V P hfr (by omega)

theorem inX7_handOver_X0 : ∀ w ∈ wsX00, w ∈ wsX7_handOver := by decide +kernel
theorem inX7_handOver_X3 : ∀ w ∈ wsX30, w ∈ wsX7_handOver := by decide +kernel
theorem inX7_handOver_X4 : ∀ w ∈ wsX40, w ∈ wsX7_handOver := by decide +kernel
theorem inX7_handOver_X6 : ∀ w ∈ wsX60, w ∈ wsX7_handOver := by decide +kernel
abbrev rm_X7_handOver : Room := { frames := 0, cells := 0, slots := 0, locals := 0 }
set_option maxHeartbeats 4000000 in
set_option maxRecDepth 100000 in
theorem c_X7_handOver (l : Launch) {g : GE} {h : Nat → va_E} {v u kk kc : Nat} {tk fz dp : Int32} {gp gg gs : Nat → Int32} {gd gt gc : Nat → Nat → Int32} (V : VwA g h v u kk kc tk fz dp gp gg gs gd gt gc) {o : Nat} {n : Int32} {ga gk gl : Nat → Int32} {gb : Nat → Nat → Int32} (P : PrA g h o n ga gk gl gb) {M : PRG} (S : PrS M n ga gk gl gb) (hP : PV M) (p1 p2 : Int32) {f row : Nat} (hp1 : p1.toInt = (f : Int)) (hp2 : p2.toInt = (row : Int)) (hf : f < pN M) (hrow : row < mRw u M f) (hdis : o + 9 ≤ v ∨ v + 18 ≤ o) : MI l yX7_handOver wsX7_handOver rm_X7_handOver [.ref (g.2.2.1 v), .ref (g.2.2.1 o), .int p1, .int p2] g h (fun r h2 => (∀ k, ¬ (v ≤ k ∧ k < v + 18) → h2 k = h k) ∧ Bq r (¬ mStop u M f row) ∧ ∃ gg2 : Nat → Int32, VwA g h2 v u kk kc tk fz dp gp gg2 gs gd gt gc ∧ (r = 1 → ∀ i, i < pA M f → (gg2 i).toInt = ((mArg u M f row i : Nat) : Int))) := by
  refine Met.ofW (cc := cX7_handOver) (maxL := 9) (ret := (some .boolean)) (by decide) rfl ?_
  intro p e s m args below meth c s₁ B hml hv
  obtain ⟨rfl, w0⟩ := hv
  have hx := B.exec
  have hb := B.bytes
  have hr := B.returns
  have hts := atoms_spec (ws := wsX7_handOver) B.pre
  have hown : s.vm.findClass RX7 = some m.cls := findClass_of_methodNamed B.named
  have hlocks := B.notSynchronized
  have w := w0.start
  clear w0
  have hl := lv_entry ([.ref (g.2.2.1 v), .ref (g.2.2.1 o), .int p1, .int p2]) (n := 9) (Nat.le_of_ble_eq_true rfl)
  rw [lg_entry_eq]
  generalize (lg_sl ([.ref (g.2.2.1 v), .ref (g.2.2.1 o), .int p1, .int p2]) ++ List.replicate (9 - (lg_sl ([.ref (g.2.2.1 v), .ref (g.2.2.1 o), .int p1, .int p2])).length) Slot.unset).toArray = ls at hl ⊢
  have hl : lv_has ls 9 [(0, .ref (g.2.2.1 v)), (1, .ref (g.2.2.1 o)), (2, .int p1), (3, .int p2)] := hl
  have hn4 := hP.2.1
  obtain ⟨ha3, hk3, hl1, hl24, hpl, -⟩ := hP.2.2 f hf
  have hR := mRw_mR V.hu hP hf
  have cuts : ∀ N : Nat, (∀ (i : Nat) (x7 : Int32) (x6 : Int32) (gg1 : Nat → Int32) (x5 : Int32) (hc : Nat → va_E) (H : Heap) (locs : List Loc) (ls : Array Slot), WD g (inW g) s hc H locs → lv_has ls 9 [(0, .ref (g.2.2.1 v)), (1, .ref (g.2.2.1 o)), (2, .int p1), (3, .int p2), (4, .int ((gk f))), (5, .int x5), (6, .int x6), (7, .int x7)] → (i ≤ pA M f) → (x7.toInt = ((i : Nat) : Int)) → (x5.toInt = (pA M f : Int) - 1) → (Bq x6 (pK M f = 1 ∨ pK M f = 3)) → (∀ i_ : Nat, i_ < i → ¬ ((pK M f = 1 ∨ pK M f = 3) ∧ mDig u row i_ = mN u) ∧ ¬ (pK M f = 2 ∧ i_ = 0 ∧ mDig u row 0 = mN u)) → (∀ i_ : Nat, i_ < i → (gg1 (if pK M f = 3 then pA M f - 1 - i_ else i_)).toInt = ((mDig u row i_ : Nat) : Int)) → (VwA g hc v u kk kc tk fz dp gp gg1 gs gd gt gc) → (PrA g hc o n ga gk gl gb) → (∀ k, ¬ (v ≤ k ∧ k < v + 18) → hc k = h k) → pA M f - i < N → W p l e (headSpec wsX7_handOver rm_X7_handOver).room s m ([.ref (g.2.2.1 v), .ref (g.2.2.1 o), .int p1, .int p2] : List Value).toArray below meth c H locs 0 0 (MQ below (va_Qi (fun r h2 => (∀ k, ¬ (v ≤ k ∧ k < v + 18) → h2 k = h k) ∧ Bq r (¬ mStop u M f row) ∧ ∃ gg2 : Nat → Int32, VwA g h2 v u kk kc tk fz dp gp gg2 gs gd gt gc ∧ (r = 1 → ∀ i, i < pA M f → (gg2 i).toInt = ((mArg u M f row i : Nat) : Int))) (Wd g) (inW g)) ([.ref (g.2.2.1 v), .ref (g.2.2.1 o), .int p1, .int p2] : List Value).toArray s 0 0 (inW g)) (F0 m 40 ls [])) := by
    intro N
    induction N with
    | zero => exact by intros; omega
    | succ N ih =>
      have ih40 := ih
      · intro i x7 x6 gg1 x5 hc H locs ls w hl hi hx7 hx5 hx6 hns hgg V P hfr hN_
        refine lv_iload hx hb dX7_handOver_40 (lv_at hl 7 rfl) ?_
        refine lv_iload hx hb dX7_handOver_42 (lv_at hl 5 rfl) ?_
        refine lv_icmp_gt (tgt := 114) hx hb dX7_handOver_44 (by decide) (fun c1 => ?_) (fun c1 => ?_)
        · have c1 : ((pA M f : Int) - 1) < ((i : Nat) : Int) := (i_lt hx5 hx7).mp c1
          refine lv_iconst (v := 1) hx hb dX7_handOver_114 (by decide) ?_
          refine r_zret (v := 1) hx hb hr rfl hlocks w dX7_handOver_115 ?_
          exact ⟨hfr, Bq.t (hand_no (by rw [show pA M f = i by omega]; exact hns)), _, V, fun _ => hand_fin (by rw [show pA M f = i by omega]; exact (by rw [show pA M f = i by omega] at hgg; exact hgg))⟩
        · have c1 : ¬ (((pA M f : Int) - 1) < ((i : Nat) : Int)) := fun q => c1 ((i_lt hx5 hx7).mpr q)
          refine lv_aload_n hx hb dX7_handOver_47 rfl (lv_at hl 0 rfl) ?_
          refine r_getV hx hb hts ⟨inX7_handOver_X0, inX7_handOver_X4, inX7_handOver_X6⟩ hown w V.hu (by have := V.hN; omega) V.c0 5 (by decide) (hts (Cond.fieldLink RX7 36 "EarlyValues$View" "digits" "[[I") (List.mem_of_getElem? (i := 3) (by decide +kernel))) rfl rfl dX7_handOver_48 ?_
          refine lv_iload hx hb dX7_handOver_51 (lv_at hl 7 rfl) ?_
          refine r_aald (t := 4) (j := i) hx hb w (by decide) (by have := V.hN; omega) V.c4 hx7 (by omega) (rowsF_in (by omega)) dX7_handOver_53 ?_
          refine lv_iload_n hx hb dX7_handOver_54 rfl (lv_at hl 3 rfl) ?_
          refine r_iald (j := row) hx hb w (by have := V.hN; omega) (V.c5 (i := i) (by omega)) hp2 (by omega) dX7_handOver_55 ?_
          refine lv_istore (lv' := [(8, .int (((gd i)) row)), (0, .ref (g.2.2.1 v)), (1, .ref (g.2.2.1 o)), (2, .int p1), (3, .int p2), (4, .int ((gk f))), (5, .int x5), (6, .int x6), (7, .int x7)]) hx hb dX7_handOver_56 hl (by decide) rfl (fun ls hl => ?_)
          refine lv_iload hx hb dX7_handOver_58 (lv_at hl 0 rfl) ?_
          refine lv_aload_n hx hb dX7_handOver_60 rfl (lv_at hl 1 rfl) ?_
          refine r_getV hx hb hts ⟨inX7_handOver_X0, inX7_handOver_X4, inX7_handOver_X6⟩ hown w V.hu (by have := V.hN; omega) V.c0 1 (by decide) (hts (Cond.fieldLink RX7 25 "EarlyValues$View" "never" "I") (List.mem_of_getElem? (i := 4) (by decide +kernel))) rfl rfl dX7_handOver_61 ?_
          refine lv_icmp_ne (tgt := 85) hx hb dX7_handOver_64 (by decide) (fun c2 => ?_) (fun c2 => ?_)
          · have c2 : ¬ ((((mDig u row i) : Nat) : Int) = (((mN u) : Nat) : Int)) := fun q => c2 ((i_eq (V.dg i row (by omega) (by omega)) (mN_i u)).mpr q)
            refine lv_aload_n hx hb dX7_handOver_85 rfl (lv_at hl 1 rfl) ?_
            refine r_getV hx hb hts ⟨inX7_handOver_X0, inX7_handOver_X4, inX7_handOver_X6⟩ hown w V.hu (by have := V.hN; omega) V.c0 10 (by decide) (hts (Cond.fieldLink RX7 15 "EarlyValues$View" "given" "[I") (List.mem_of_getElem? (i := 5) (by decide +kernel))) rfl rfl dX7_handOver_86 ?_
            refine lv_iload hx hb dX7_handOver_89 (lv_at hl 5 rfl) ?_
            refine lv_iconst (v := 3) hx hb dX7_handOver_91 (by decide) ?_
            refine lv_icmp_ne (tgt := 103) hx hb dX7_handOver_92 (by decide) (fun c3 => ?_) (fun c3 => ?_)
            · have c3 : ¬ ((((pK M f) : Nat) : Int) = ((3 : Nat) : Int)) := fun q => c3 ((i_eq (S.2.2.1 f (by omega)) (by decide : (3 : Int32).toInt = ((3 : Nat) : Int))).mpr q)
              refine lv_iload hx hb dX7_handOver_103 (lv_at hl 8 rfl) ?_
              refine lv_iload hx hb dX7_handOver_105 (lv_at hl 0 rfl) ?_
              refine r_iast (j := i) hx hb w (by have := V.hN; omega) V.c2 hx7 (by omega) dX7_handOver_107 (fun h4 H locs eh4 w => ?_)
              have V := V.s2 eh4
              generalize egz5 : upd gg1 i (((gd i)) row) = gz5 at V
              have hfr : ∀ k_, ¬ (v ≤ k_ ∧ k_ < v + 18) → h4 k_ = h k_ := fun k_ hk_ => by rw [eh4, va_up_ne _ _ (by omega)]; exact hfr k_ hk_
              have P := P.fr (h' := h4) (fun k_ h1_ h2_ => by rw [eh4, va_up_ne _ _ (by omega)])
              obtain ⟨y6, ey6⟩ : ∃ y : Int32, y = x7 + (1) := ⟨_, rfl⟩
              have ty6 : y6.toInt = (((i + 1) : Nat) : Int) := i_addN ey6 hx7 (by decide : (1 : Int32).toInt = ((1 : Nat) : Int)) (by omega)
              refine lv_iinc (v := y6) (lv' := [(7, .int y6), (8, .int (((gd i)) row)), (0, .ref (g.2.2.1 v)), (1, .ref (g.2.2.1 o)), (2, .int p1), (3, .int p2), (4, .int ((gk f))), (5, .int x5), (6, .int x6)]) hx hb dX7_handOver_108 hl (k := 8) rfl (by rw [ey6]; rfl) (by decide) rfl (fun ls hl => ?_)
              refine lv_goto (tgt := 40) hx hb dX7_handOver_111 (by decide) ?_
              exact ih40 (i + 1) y6 x6 gz5 x5 h4 _ _ _ w (lv_sub hl [2, 3, 4, 5, 6, 7, 8, 0] rfl) (by omega) ty6 (hx5.trans (by omega)) hx6 (fun i_ hi_ => by rcases Nat.lt_succ_iff_lt_or_eq.mp hi_ with q_ | q_; exact hns i_ q_; exact ⟨fun z_ => by have e1_ : mDig u row i_ = mDig u row i := (by rw [q_]); omega, fun z_ => by have e1_ : mDig u row i = mDig u row 0 := (by rw [← q_, z_.2.1]); omega⟩) (by rw [← egz5]; exact hand_up hgg (by omega) (V.dg i row (by omega) (by omega)) (by first | rw [if_pos (by omega)] | rw [if_neg (by omega)])) V P hfr (by omega)
            · have c3 : (((pK M f) : Nat) : Int) = ((3 : Nat) : Int) := (i_eq (S.2.2.1 f (by omega)) (by decide : (3 : Int32).toInt = ((3 : Nat) : Int))).mp c3
              refine lv_iload hx hb dX7_handOver_95 (lv_at hl 6 rfl) ?_
              refine lv_iload hx hb dX7_handOver_97 (lv_at hl 8 rfl) ?_
              refine lv_isub hx hb dX7_handOver_99 ?_
              refine lv_topi (fun y7 ey7 => ?_)
              have ty7 : y7.toInt = ((pA M f : Int) - 1) - ((i : Nat) : Int) := i_sub ey7 hx5 hx7 (by omega)
              refine lv_goto (tgt := 105) hx hb dX7_handOver_100 (by decide) ?_
              refine lv_iload hx hb dX7_handOver_105 (lv_at hl 0 rfl) ?_
              refine r_iast (j := (pA M f - 1 - i)) hx hb w (by have := V.hN; omega) V.c2 (ty7.trans (by omega)) (by omega) dX7_handOver_107 (fun h8 H locs eh8 w => ?_)
              have V := V.s2 eh8
              generalize egz9 : upd gg1 ((pA M f - 1 - i)) (((gd i)) row) = gz9 at V
              have hfr : ∀ k_, ¬ (v ≤ k_ ∧ k_ < v + 18) → h8 k_ = h k_ := fun k_ hk_ => by rw [eh8, va_up_ne _ _ (by omega)]; exact hfr k_ hk_
              have P := P.fr (h' := h8) (fun k_ h1_ h2_ => by rw [eh8, va_up_ne _ _ (by omega)])
              obtain ⟨y10, ey10⟩ : ∃ y : Int32, y = x7 + (1) := ⟨_, rfl⟩
              have ty10 : y10.toInt = (((i + 1) : Nat) : Int) := i_addN ey10 hx7 (by decide : (1 : Int32).toInt = ((1 : Nat) : Int)) (by omega)
              refine lv_iinc (v := y10) (lv' := [(7, .int y10), (8, .int (((gd i)) row)), (0, .ref (g.2.2.1 v)), (1, .ref (g.2.2.1 o)), (2, .int p1), (3, .int p2), (4, .int ((gk f))), (5, .int x5), (6, .int x6)]) hx hb dX7_handOver_108 hl (k := 8) rfl (by rw [ey10]; rfl) (by decide) rfl (fun ls hl => ?_)
              refine lv_goto (tgt := 40) hx hb dX7_handOver_111 (by decide) ?_
              exact ih40 (i + 1) y10 x6 gz9 x5 h8 _ _ _ w (lv_sub hl [2, 3, 4, 5, 6, 7, 8, 0] rfl) (by omega) ty10 (hx5.trans (by omega)) hx6 (fun i_ hi_ => by rcases Nat.lt_succ_iff_lt_or_eq.mp hi_ with q_ | q_; exact hns i_ q_; exact ⟨fun z_ => by have e1_ : mDig u row i_ = mDig u row i := (by rw [q_]); omega, fun z_ => by have e1_ : mDig u row i = mDig u row 0 := (by rw [← q_, z_.2.1]); omega⟩) (by rw [← egz9]; exact hand_up hgg (by omega) (V.dg i row (by omega) (by omega)) (by first | rw [if_pos (by omega)] | rw [if_neg (by omega)])) V P hfr (by omega)
          · have c2 : (((mDig u row i) : Nat) : Int) = (((mN u) : Nat) : Int) := (i_eq (V.dg i row (by omega) (by omega)) (mN_i u)).mp c2
            refine lv_iload hx hb dX7_handOver_67 (lv_at hl 7 rfl) ?_
            refine lv_if_ne (tgt := 83) hx hb dX7_handOver_69 (by decide) (fun c11 => ?_) (fun c11 => ?_)
            · have c11 := hx6.ne c11
              refine lv_iconst (v := 0) hx hb dX7_handOver_83 (by decide) ?_
              refine r_zret (v := 0) hx hb hr rfl hlocks w dX7_handOver_84 ?_
              exact ⟨hfr, Bq.f (fun q => q (Or.inl ⟨by omega, i, by omega, by omega⟩)), _, V, fun q => absurd q (by decide)⟩
            · have c11 := hx6.eq c11
              refine lv_iload hx hb dX7_handOver_72 (lv_at hl 5 rfl) ?_
              refine lv_iconst (v := 2) hx hb dX7_handOver_74 (by decide) ?_
              refine lv_icmp_ne (tgt := 85) hx hb dX7_handOver_75 (by decide) (fun c12 => ?_) (fun c12 => ?_)
              · have c12 : ¬ ((((pK M f) : Nat) : Int) = ((2 : Nat) : Int)) := fun q => c12 ((i_eq (S.2.2.1 f (by omega)) (by decide : (2 : Int32).toInt = ((2 : Nat) : Int))).mpr q)
                refine lv_aload_n hx hb dX7_handOver_85 rfl (lv_at hl 1 rfl) ?_
                refine r_getV hx hb hts ⟨inX7_handOver_X0, inX7_handOver_X4, inX7_handOver_X6⟩ hown w V.hu (by have := V.hN; omega) V.c0 10 (by decide) (hts (Cond.fieldLink RX7 15 "EarlyValues$View" "given" "[I") (List.mem_of_getElem? (i := 5) (by decide +kernel))) rfl rfl dX7_handOver_86 ?_
                refine lv_iload hx hb dX7_handOver_89 (lv_at hl 5 rfl) ?_
                refine lv_iconst (v := 3) hx hb dX7_handOver_91 (by decide) ?_
                refine lv_icmp_ne (tgt := 103) hx hb dX7_handOver_92 (by decide) (fun c13 => ?_) (fun c13 => ?_)
                · have c13 : ¬ ((((pK M f) : Nat) : Int) = ((3 : Nat) : Int)) := fun q => c13 ((i_eq (S.2.2.1 f (by omega)) (by decide : (3 : Int32).toInt = ((3 : Nat) : Int))).mpr q)
                  refine lv_iload hx hb dX7_handOver_103 (lv_at hl 8 rfl) ?_
                  refine lv_iload hx hb dX7_handOver_105 (lv_at hl 0 rfl) ?_
                  refine r_iast (j := i) hx hb w (by have := V.hN; omega) V.c2 hx7 (by omega) dX7_handOver_107 (fun h14 H locs eh14 w => ?_)
                  have V := V.s2 eh14
                  generalize egz15 : upd gg1 i (((gd i)) row) = gz15 at V
                  have hfr : ∀ k_, ¬ (v ≤ k_ ∧ k_ < v + 18) → h14 k_ = h k_ := fun k_ hk_ => by rw [eh14, va_up_ne _ _ (by omega)]; exact hfr k_ hk_
                  have P := P.fr (h' := h14) (fun k_ h1_ h2_ => by rw [eh14, va_up_ne _ _ (by omega)])
                  obtain ⟨y16, ey16⟩ : ∃ y : Int32, y = x7 + (1) := ⟨_, rfl⟩
                  have ty16 : y16.toInt = (((i + 1) : Nat) : Int) := i_addN ey16 hx7 (by decide : (1 : Int32).toInt = ((1 : Nat) : Int)) (by omega)
                  refine lv_iinc (v := y16) (lv' := [(7, .int y16), (8, .int (((gd i)) row)), (0, .ref (g.2.2.1 v)), (1, .ref (g.2.2.1 o)), (2, .int p1), (3, .int p2), (4, .int ((gk f))), (5, .int x5), (6, .int x6)]) hx hb dX7_handOver_108 hl (k := 8) rfl (by rw [ey16]; rfl) (by decide) rfl (fun ls hl => ?_)
                  refine lv_goto (tgt := 40) hx hb dX7_handOver_111 (by decide) ?_
                  exact ih40 (i + 1) y16 x6 gz15 x5 h14 _ _ _ w (lv_sub hl [2, 3, 4, 5, 6, 7, 8, 0] rfl) (by omega) ty16 (hx5.trans (by omega)) hx6 (fun i_ hi_ => by rcases Nat.lt_succ_iff_lt_or_eq.mp hi_ with q_ | q_; exact hns i_ q_; exact ⟨fun z_ => by have e1_ : mDig u row i_ = mDig u row i := (by rw [q_]); omega, fun z_ => by have e1_ : mDig u row i = mDig u row 0 := (by rw [← q_, z_.2.1]); omega⟩) (by rw [← egz15]; exact hand_up hgg (by omega) (V.dg i row (by omega) (by omega)) (by first | rw [if_pos (by omega)] | rw [if_neg (by omega)])) V P hfr (by omega)
                · have c13 : (((pK M f) : Nat) : Int) = ((3 : Nat) : Int) := (i_eq (S.2.2.1 f (by omega)) (by decide : (3 : Int32).toInt = ((3 : Nat) : Int))).mp c13
                  refine lv_iload hx hb dX7_handOver_95 (lv_at hl 6 rfl) ?_
                  refine lv_iload hx hb dX7_handOver_97 (lv_at hl 8 rfl) ?_
                  refine lv_isub hx hb dX7_handOver_99 ?_
                  refine lv_topi (fun y17 ey17 => ?_)
                  have ty17 : y17.toInt = ((pA M f : Int) - 1) - ((i : Nat) : Int) := i_sub ey17 hx5 hx7 (by omega)
                  refine lv_goto (tgt := 105) hx hb dX7_handOver_100 (by decide) ?_
                  refine lv_iload hx hb dX7_handOver_105 (lv_at hl 0 rfl) ?_
                  refine r_iast (j := (pA M f - 1 - i)) hx hb w (by have := V.hN; omega) V.c2 (ty17.trans (by omega)) (by omega) dX7_handOver_107 (fun h18 H locs eh18 w => ?_)
                  have V := V.s2 eh18
                  generalize egz19 : upd gg1 ((pA M f - 1 - i)) (((gd i)) row) = gz19 at V
                  have hfr : ∀ k_, ¬ (v ≤ k_ ∧ k_ < v + 18) → h18 k_ = h k_ := fun k_ hk_ => by rw [eh18, va_up_ne _ _ (by omega)]; exact hfr k_ hk_
                  have P := P.fr (h' := h18) (fun k_ h1_ h2_ => by rw [eh18, va_up_ne _ _ (by omega)])
                  obtain ⟨y20, ey20⟩ : ∃ y : Int32, y = x7 + (1) := ⟨_, rfl⟩
                  have ty20 : y20.toInt = (((i + 1) : Nat) : Int) := i_addN ey20 hx7 (by decide : (1 : Int32).toInt = ((1 : Nat) : Int)) (by omega)
                  refine lv_iinc (v := y20) (lv' := [(7, .int y20), (8, .int (((gd i)) row)), (0, .ref (g.2.2.1 v)), (1, .ref (g.2.2.1 o)), (2, .int p1), (3, .int p2), (4, .int ((gk f))), (5, .int x5), (6, .int x6)]) hx hb dX7_handOver_108 hl (k := 8) rfl (by rw [ey20]; rfl) (by decide) rfl (fun ls hl => ?_)
                  refine lv_goto (tgt := 40) hx hb dX7_handOver_111 (by decide) ?_
                  exact ih40 (i + 1) y20 x6 gz19 x5 h18 _ _ _ w (lv_sub hl [2, 3, 4, 5, 6, 7, 8, 0] rfl) (by omega) ty20 (hx5.trans (by omega)) hx6 (fun i_ hi_ => by rcases Nat.lt_succ_iff_lt_or_eq.mp hi_ with q_ | q_; exact hns i_ q_; exact ⟨fun z_ => by have e1_ : mDig u row i_ = mDig u row i := (by rw [q_]); omega, fun z_ => by have e1_ : mDig u row i = mDig u row 0 := (by rw [← q_, z_.2.1]); omega⟩) (by rw [← egz19]; exact hand_up hgg (by omega) (V.dg i row (by omega) (by omega)) (by first | rw [if_pos (by omega)] | rw [if_neg (by omega)])) V P hfr (by omega)
              · have c12 : (((pK M f) : Nat) : Int) = ((2 : Nat) : Int) := (i_eq (S.2.2.1 f (by omega)) (by decide : (2 : Int32).toInt = ((2 : Nat) : Int))).mp c12
                refine lv_iload hx hb dX7_handOver_78 (lv_at hl 8 rfl) ?_
                refine lv_if_ne (tgt := 85) hx hb dX7_handOver_80 (by decide) (fun c21 => ?_) (fun c21 => ?_)
                · have c21 : ¬ (((i : Nat) : Int) = (0 : Int)) := fun q => c21 ((i_eq hx7 (rfl : (0 : Int32).toInt = 0)).mpr q)
                  refine lv_aload_n hx hb dX7_handOver_85 rfl (lv_at hl 1 rfl) ?_
                  refine r_getV hx hb hts ⟨inX7_handOver_X0, inX7_handOver_X4, inX7_handOver_X6⟩ hown w V.hu (by have := V.hN; omega) V.c0 10 (by decide) (hts (Cond.fieldLink RX7 15 "EarlyValues$View" "given" "[I") (List.mem_of_getElem? (i := 5) (by decide +kernel))) rfl rfl dX7_handOver_86 ?_
                  refine lv_iload hx hb dX7_handOver_89 (lv_at hl 5 rfl) ?_
                  refine lv_iconst (v := 3) hx hb dX7_handOver_91 (by decide) ?_
                  refine lv_icmp_ne (tgt := 103) hx hb dX7_handOver_92 (by decide) (fun c22 => ?_) (fun c22 => ?_)
                  · have c22 : ¬ ((((pK M f) : Nat) : Int) = ((3 : Nat) : Int)) := fun q => c22 ((i_eq (S.2.2.1 f (by omega)) (by decide : (3 : Int32).toInt = ((3 : Nat) : Int))).mpr q)
                    refine lv_iload hx hb dX7_handOver_103 (lv_at hl 8 rfl) ?_
                    refine lv_iload hx hb dX7_handOver_105 (lv_at hl 0 rfl) ?_
                    refine r_iast (j := i) hx hb w (by have := V.hN; omega) V.c2 hx7 (by omega) dX7_handOver_107 (fun h23 H locs eh23 w => ?_)
                    have V := V.s2 eh23
                    generalize egz24 : upd gg1 i (((gd i)) row) = gz24 at V
                    have hfr : ∀ k_, ¬ (v ≤ k_ ∧ k_ < v + 18) → h23 k_ = h k_ := fun k_ hk_ => by rw [eh23, va_up_ne _ _ (by omega)]; exact hfr k_ hk_
                    have P := P.fr (h' := h23) (fun k_ h1_ h2_ => by rw [eh23, va_up_ne _ _ (by omega)])
                    obtain ⟨y25, ey25⟩ : ∃ y : Int32, y = x7 + (1) := ⟨_, rfl⟩
                    have ty25 : y25.toInt = (((i + 1) : Nat) : Int) := i_addN ey25 hx7 (by decide : (1 : Int32).toInt = ((1 : Nat) : Int)) (by omega)
                    refine lv_iinc (v := y25) (lv' := [(7, .int y25), (8, .int (((gd i)) row)), (0, .ref (g.2.2.1 v)), (1, .ref (g.2.2.1 o)), (2, .int p1), (3, .int p2), (4, .int ((gk f))), (5, .int x5), (6, .int x6)]) hx hb dX7_handOver_108 hl (k := 8) rfl (by rw [ey25]; rfl) (by decide) rfl (fun ls hl => ?_)
                    refine lv_goto (tgt := 40) hx hb dX7_handOver_111 (by decide) ?_
                    exact ih40 (i + 1) y25 x6 gz24 x5 h23 _ _ _ w (lv_sub hl [2, 3, 4, 5, 6, 7, 8, 0] rfl) (by omega) ty25 (hx5.trans (by omega)) hx6 (fun i_ hi_ => by rcases Nat.lt_succ_iff_lt_or_eq.mp hi_ with q_ | q_; exact hns i_ q_; exact ⟨fun z_ => by have e1_ : mDig u row i_ = mDig u row i := (by rw [q_]); omega, fun z_ => by have e1_ : mDig u row i = mDig u row 0 := (by rw [← q_, z_.2.1]); omega⟩) (by rw [← egz24]; exact hand_up hgg (by omega) (V.dg i row (by omega) (by omega)) (by first | rw [if_pos (by omega)] | rw [if_neg (by omega)])) V P hfr (by omega)
                  · have c22 : (((pK M f) : Nat) : Int) = ((3 : Nat) : Int) := (i_eq (S.2.2.1 f (by omega)) (by decide : (3 : Int32).toInt = ((3 : Nat) : Int))).mp c22
                    refine lv_iload hx hb dX7_handOver_95 (lv_at hl 6 rfl) ?_
                    refine lv_iload hx hb dX7_handOver_97 (lv_at hl 8 rfl) ?_
                    refine lv_isub hx hb dX7_handOver_99 ?_
                    refine lv_topi (fun y26 ey26 => ?_)
                    have ty26 : y26.toInt = ((pA M f : Int) - 1) - ((i : Nat) : Int) := i_sub ey26 hx5 hx7 (by omega)
                    refine lv_goto (tgt := 105) hx hb dX7_handOver_100 (by decide) ?_
                    refine lv_iload hx hb dX7_handOver_105 (lv_at hl 0 rfl) ?_
                    refine r_iast (j := (pA M f - 1 - i)) hx hb w (by have := V.hN; omega) V.c2 (ty26.trans (by omega)) (by omega) dX7_handOver_107 (fun h27 H locs eh27 w => ?_)
                    have V := V.s2 eh27
                    generalize egz28 : upd gg1 ((pA M f - 1 - i)) (((gd i)) row) = gz28 at V
                    have hfr : ∀ k_, ¬ (v ≤ k_ ∧ k_ < v + 18) → h27 k_ = h k_ := fun k_ hk_ => by rw [eh27, va_up_ne _ _ (by omega)]; exact hfr k_ hk_
                    have P := P.fr (h' := h27) (fun k_ h1_ h2_ => by rw [eh27, va_up_ne _ _ (by omega)])
                    obtain ⟨y29, ey29⟩ : ∃ y : Int32, y = x7 + (1) := ⟨_, rfl⟩
                    have ty29 : y29.toInt = (((i + 1) : Nat) : Int) := i_addN ey29 hx7 (by decide : (1 : Int32).toInt = ((1 : Nat) : Int)) (by omega)
                    refine lv_iinc (v := y29) (lv' := [(7, .int y29), (8, .int (((gd i)) row)), (0, .ref (g.2.2.1 v)), (1, .ref (g.2.2.1 o)), (2, .int p1), (3, .int p2), (4, .int ((gk f))), (5, .int x5), (6, .int x6)]) hx hb dX7_handOver_108 hl (k := 8) rfl (by rw [ey29]; rfl) (by decide) rfl (fun ls hl => ?_)
                    refine lv_goto (tgt := 40) hx hb dX7_handOver_111 (by decide) ?_
                    exact ih40 (i + 1) y29 x6 gz28 x5 h27 _ _ _ w (lv_sub hl [2, 3, 4, 5, 6, 7, 8, 0] rfl) (by omega) ty29 (hx5.trans (by omega)) hx6 (fun i_ hi_ => by rcases Nat.lt_succ_iff_lt_or_eq.mp hi_ with q_ | q_; exact hns i_ q_; exact ⟨fun z_ => by have e1_ : mDig u row i_ = mDig u row i := (by rw [q_]); omega, fun z_ => by have e1_ : mDig u row i = mDig u row 0 := (by rw [← q_, z_.2.1]); omega⟩) (by rw [← egz28]; exact hand_up hgg (by omega) (V.dg i row (by omega) (by omega)) (by first | rw [if_pos (by omega)] | rw [if_neg (by omega)])) V P hfr (by omega)
                · have c21 : ((i : Nat) : Int) = (0 : Int) := (i_eq hx7 (rfl : (0 : Int32).toInt = 0)).mp c21
                  refine lv_iconst (v := 0) hx hb dX7_handOver_83 (by decide) ?_
                  refine r_zret (v := 0) hx hb hr rfl hlocks w dX7_handOver_84 ?_
                  have hi0 : i = 0 := by omega
                  subst hi0
                  exact ⟨hfr, Bq.f (fun q => q (Or.inr ⟨by omega, by omega, by omega⟩)), _, V, fun q => absurd q (by decide)⟩
  have ih40 := cuts ((pA M f) + 1)
  refine lv_aload_n hx hb dX7_handOver_0 rfl (lv_at hl 1 rfl) ?_
  refine r_get (C := RX3) (T := TX3) (N := 5) (ci := 2) hx hb hts inX7_handOver_X3 hown w (by have := P.1; omega) P.c0 rfl 2 (by decide) (hts (Cond.fieldLink RX7 105 "EarlyValues$Program" "kinds" "[I") (List.mem_of_getElem? (i := 1) (by decide +kernel))) rfl rfl dX7_handOver_1 ?_
  refine lv_iload_n hx hb dX7_handOver_4 rfl (lv_at hl 2 rfl) ?_
  refine r_iald (j := f) hx hb w (by have := P.1; omega) P.c2 hp1 (by omega) dX7_handOver_5 ?_
  refine lv_istore (lv' := [(4, .int (gk f)), (0, .ref (g.2.2.1 v)), (1, .ref (g.2.2.1 o)), (2, .int p1), (3, .int p2)]) hx hb dX7_handOver_6 hl (by decide) rfl (fun ls hl => ?_)
  refine lv_aload_n hx hb dX7_handOver_8 rfl (lv_at hl 2 rfl) ?_
  refine r_get (C := RX3) (T := TX3) (N := 5) (ci := 2) hx hb hts inX7_handOver_X3 hown w (by have := P.1; omega) P.c0 rfl 1 (by decide) (hts (Cond.fieldLink RX7 55 "EarlyValues$Program" "arguments" "[I") (List.mem_of_getElem? (i := 2) (by decide +kernel))) rfl rfl dX7_handOver_9 ?_
  refine lv_iload_n hx hb dX7_handOver_12 rfl (lv_at hl 3 rfl) ?_
  refine r_iald (j := f) hx hb w (by have := P.1; omega) P.c1 hp1 (by omega) dX7_handOver_13 ?_
  refine lv_iconst (v := 1) hx hb dX7_handOver_14 (by decide) ?_
  refine lv_isub hx hb dX7_handOver_15 ?_
  refine lv_topi (fun y30 ey30 => ?_)
  have ty30 : y30.toInt = (((pA M f) : Nat) : Int) - ((1 : Nat) : Int) := i_sub ey30 (S.2.1 f (by omega)) (by decide : (1 : Int32).toInt = ((1 : Nat) : Int)) (by omega)
  refine lv_istore (lv' := [(5, .int y30), (4, .int (gk f)), (0, .ref (g.2.2.1 v)), (1, .ref (g.2.2.1 o)), (2, .int p1), (3, .int p2)]) hx hb dX7_handOver_16 hl (by decide) rfl (fun ls hl => ?_)
  refine lv_iload hx hb dX7_handOver_18 (lv_at hl 1 rfl) ?_
  refine lv_iconst (v := 1) hx hb dX7_handOver_20 (by decide) ?_
  refine lv_icmp_eq (tgt := 30) hx hb dX7_handOver_21 (by decide) (fun c31 => ?_) (fun c31 => ?_)
  · have c31 : (((pK M f) : Nat) : Int) = ((1 : Nat) : Int) := (i_eq (S.2.2.1 f (by omega)) (by decide : (1 : Int32).toInt = ((1 : Nat) : Int))).mp c31
    refine lv_iconst (v := 1) hx hb dX7_handOver_30 (by decide) ?_
    refine lv_goto (tgt := 35) hx hb dX7_handOver_31 (by decide) ?_
    refine lv_istore (lv' := [(6, .int 1), (5, .int y30), (4, .int (gk f)), (0, .ref (g.2.2.1 v)), (1, .ref (g.2.2.1 o)), (2, .int p1), (3, .int p2)]) hx hb dX7_handOver_35 hl (by decide) rfl (fun ls hl => ?_)
    refine lv_iconst (v := 0) hx hb dX7_handOver_37 (by decide) ?_
    refine lv_istore (lv' := [(7, .int 0), (6, .int 1), (5, .int y30), (4, .int (gk f)), (0, .ref (g.2.2.1 v)), (1, .ref (g.2.2.1 o)), (2, .int p1), (3, .int p2)]) hx hb dX7_handOver_38 hl (by decide) rfl (fun ls hl => ?_)
    exact ih40 0 0 1 gg y30 h _ _ _ w (lv_sub hl [4, 5, 6, 7, 3, 2, 1, 0] rfl) (Nat.zero_le _) ((by decide : (0 : Int32).toInt = ((0 : Nat) : Int))) (ty30.trans (by omega)) (by first | exact Bq.t (by omega) | exact Bq.f (by omega)) (fun i_ hi_ => absurd hi_ (Nat.not_lt_zero _)) (fun i_ hi_ => absurd hi_ (Nat.not_lt_zero _)) V P (fun k_ _ => rfl) (by omega)
  · have c31 : ¬ ((((pK M f) : Nat) : Int) = ((1 : Nat) : Int)) := fun q => c31 ((i_eq (S.2.2.1 f (by omega)) (by decide : (1 : Int32).toInt = ((1 : Nat) : Int))).mpr q)
    refine lv_iload hx hb dX7_handOver_24 (lv_at hl 1 rfl) ?_
    refine lv_iconst (v := 3) hx hb dX7_handOver_26 (by decide) ?_
    refine lv_icmp_ne (tgt := 34) hx hb dX7_handOver_27 (by decide) (fun c32 => ?_) (fun c32 => ?_)
    · have c32 : ¬ ((((pK M f) : Nat) : Int) = ((3 : Nat) : Int)) := fun q => c32 ((i_eq (S.2.2.1 f (by omega)) (by decide : (3 : Int32).toInt = ((3 : Nat) : Int))).mpr q)
      refine lv_iconst (v := 0) hx hb dX7_handOver_34 (by decide) ?_
      refine lv_istore (lv' := [(6, .int 0), (5, .int y30), (4, .int (gk f)), (0, .ref (g.2.2.1 v)), (1, .ref (g.2.2.1 o)), (2, .int p1), (3, .int p2)]) hx hb dX7_handOver_35 hl (by decide) rfl (fun ls hl => ?_)
      refine lv_iconst (v := 0) hx hb dX7_handOver_37 (by decide) ?_
      refine lv_istore (lv' := [(7, .int 0), (6, .int 0), (5, .int y30), (4, .int (gk f)), (0, .ref (g.2.2.1 v)), (1, .ref (g.2.2.1 o)), (2, .int p1), (3, .int p2)]) hx hb dX7_handOver_38 hl (by decide) rfl (fun ls hl => ?_)
      exact ih40 0 0 0 gg y30 h _ _ _ w (lv_sub hl [4, 5, 6, 7, 3, 2, 1, 0] rfl) (Nat.zero_le _) ((by decide : (0 : Int32).toInt = ((0 : Nat) : Int))) (ty30.trans (by omega)) (by first | exact Bq.t (by omega) | exact Bq.f (by omega)) (fun i_ hi_ => absurd hi_ (Nat.not_lt_zero _)) (fun i_ hi_ => absurd hi_ (Nat.not_lt_zero _)) V P (fun k_ _ => rfl) (by omega)
    · have c32 : (((pK M f) : Nat) : Int) = ((3 : Nat) : Int) := (i_eq (S.2.2.1 f (by omega)) (by decide : (3 : Int32).toInt = ((3 : Nat) : Int))).mp c32
      refine lv_iconst (v := 1) hx hb dX7_handOver_30 (by decide) ?_
      refine lv_goto (tgt := 35) hx hb dX7_handOver_31 (by decide) ?_
      refine lv_istore (lv' := [(6, .int 1), (5, .int y30), (4, .int (gk f)), (0, .ref (g.2.2.1 v)), (1, .ref (g.2.2.1 o)), (2, .int p1), (3, .int p2)]) hx hb dX7_handOver_35 hl (by decide) rfl (fun ls hl => ?_)
      refine lv_iconst (v := 0) hx hb dX7_handOver_37 (by decide) ?_
      refine lv_istore (lv' := [(7, .int 0), (6, .int 1), (5, .int y30), (4, .int (gk f)), (0, .ref (g.2.2.1 v)), (1, .ref (g.2.2.1 o)), (2, .int p1), (3, .int p2)]) hx hb dX7_handOver_38 hl (by decide) rfl (fun ls hl => ?_)
      exact ih40 0 0 1 gg y30 h _ _ _ w (lv_sub hl [4, 5, 6, 7, 3, 2, 1, 0] rfl) (Nat.zero_le _) ((by decide : (0 : Int32).toInt = ((0 : Nat) : Int))) (ty30.trans (by omega)) (by first | exact Bq.t (by omega) | exact Bq.f (by omega)) (fun i_ hi_ => absurd hi_ (Nat.not_lt_zero _)) (fun i_ hi_ => absurd hi_ (Nat.not_lt_zero _)) V P (fun k_ _ => rfl) (by omega)

