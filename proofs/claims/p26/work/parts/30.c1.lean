theorem PrS.put_e {M : PRG} {n : Int32} {ga gk gl : Nat → Int32} {gb gb2 : Nat → Nat → Int32} (S : PrS M n ga gk gl gb) {f pl k : Nat} {x : Int32} (hx : x.toInt = ((k : Nat) : Int)) (e : va_up gb f (upd (gb f) pl x) = gb2) : PrS (mSet M f pl k) n ga gk gl gb2 := by
  subst e; exact S.put hx
theorem PrS.kind_e {M : PRG} {n : Int32} {ga gk gl gk2 : Nat → Int32} {gb : Nat → Nat → Int32} (S : PrS M n ga gk gl gb) {f k : Nat} {x : Int32} (hx : x.toInt = ((k : Nat) : Int)) (e : upd gk f x = gk2) : PrS (mKind M f k) n ga gk2 gl gb := by
  subst e; exact S.kind hx
/-- a Text at t: the object and its signs; told is a Program at t + 1 -/
def TxA (g : GE) (h : Nat → va_E) (t : Nat) (ln at_ bd : Int32) (gs : Nat → Int32) : Prop :=
  t + 11 ≤ g.2.2.2 ∧ h t = .inr (4, [.ref (g.2.2.1 (t + 1)), .int ln, .ref (g.2.2.1 (t + 10)), .int at_, .int bd]) ∧ h (t + 10) = .inl (g.2.1 1, 200, .inl gs)
section TXS
variable {g : GE} {h h' : Nat → va_E} {t : Nat} {ln at_ bd ln' at' bd' : Int32} {gs gz : Nat → Int32}
theorem TxA.fr (T : TxA g h t ln at_ bd gs) (hf : ∀ k, t ≤ k → k < t + 11 → (k < t + 1 ∨ t + 10 ≤ k) → h' k = h k) : TxA g h' t ln at_ bd gs := by
  obtain ⟨a0, a1, a2⟩ := T
  exact ⟨a0, by rw [hf _ (by omega) (by omega) (by omega)]; exact a1, by rw [hf _ (by omega) (by omega) (by omega)]; exact a2⟩
theorem TxA.s0 (T : TxA g h t ln at_ bd gs) (e : h' = va_up h t (.inr (4, [.ref (g.2.2.1 (t + 1)), .int ln', .ref (g.2.2.1 (t + 10)), .int at', .int bd']))) : TxA g h' t ln' at' bd' gs := by
  obtain ⟨a0, a1, a2⟩ := T
  subst e
  exact ⟨a0, va_up_self _ _ _, by rw [va_up_ne _ _ (by omega)]; exact a2⟩
theorem TxA.s1 (T : TxA g h t ln at_ bd gs) (e : h' = va_up h (t + 10) (.inl (g.2.1 1, 200, .inl gz))) : TxA g h' t ln at_ bd gz := by
  obtain ⟨a0, a1, a2⟩ := T
  subst e
  exact ⟨a0, by rw [va_up_ne _ _ (by omega)]; exact a1, va_up_self _ _ _⟩
end TXS
theorem c8_id : (List.range 128).all (fun k => vp_nar .char (nI k) == nI k) = true := by decide +kernel
theorem nar_c {x : Int32} {a : Nat} (h : x.toInt = ((a : Nat) : Int)) (ha : a < 128) : vp_nar .char x = x := by
  rw [i_ofN h]
  exact eq_of_beq (all_range c8_id ha)
theorem nar_C {x : Int32} {a : Nat} (h : x.toInt = ((a : Nat) : Int)) (ha : a < 128) : narrow .char (.int x) = .int x := by
  have e : narrow .char (.int x) = .int (vp_nar .char x) := rfl
  rw [e, nar_c h ha]
theorem inX1_takeBack_X1 : ∀ w ∈ wsX10, w ∈ wsX1_takeBack := by decide +kernel
theorem inX1_takeBack_X3 : ∀ w ∈ wsX30, w ∈ wsX1_takeBack := by decide +kernel
abbrev rm_X1_takeBack : Room := { frames := 2, cells := 0, slots := 0, locals := 43 }
set_option maxHeartbeats 4000000 in
set_option maxRecDepth 100000 in
theorem c_X1_takeBack (l : Launch) {g : GE} {h : Nat → va_E} {t : Nat} {c : Int32} {gf gp gq : Nat → Int32} (K : HiA g h t c gf gp gq) {o : Nat} {n : Int32} {ga gk gl : Nat → Int32} {gb : Nat → Nat → Int32} (P : PrA g h o n ga gk gl gb) {M : PRG} (S : PrS M n ga gk gl gb) (hP : PV M) {c9n f b9 : Nat} {z : Int} (hc : c.toInt = ((c9n + 1 : Nat) : Int)) (hn8 : c9n < 8) (hgf : (gf c9n).toInt = ((f : Nat) : Int)) (hgp : (gp c9n).toInt = z) (hq : (gq c9n).toInt = ((b9 : Nat) : Int)) (hf : f < pN M) (hz : z = -1 ∨ (0 ≤ z ∧ z < ((pL M f : Nat) : Int))) (hdis : t + 4 ≤ o ∨ o + 9 ≤ t) : MV l yX1_takeBack wsX1_takeBack rm_X1_takeBack [.ref (g.2.2.1 t), .ref (g.2.2.1 o)] g h (fun h2 => (∀ k, ¬ ((t ≤ k ∧ k < t + 4) ∨ (o ≤ k ∧ k < o + 9)) → h2 k = h k) ∧ ∃ (c2 : Int32) (gk2 : Nat → Int32) (gb2 : Nat → Nat → Int32), HiA g h2 t c2 gf gp gq ∧ c2.toInt = ((c9n : Nat) : Int) ∧ PrA g h2 o n ga gk2 gl gb2 ∧ (z = -1 → PrS (mKind M f b9) n ga gk2 gl gb2) ∧ ∀ pl : Nat, z = ((pl : Nat) : Int) → PrS (mSet M f pl b9) n ga gk2 gl gb2) := by
  refine Met.ofW (cc := cX1_takeBack) (maxL := 4) (ret := none) (by decide) rfl ?_
  intro p e s m args below meth c s₁ B hml hv
  obtain ⟨rfl, w0⟩ := hv
  have hx := B.exec
  have hb := B.bytes
  have hr := B.returns
  have hts := atoms_spec (ws := wsX1_takeBack) B.pre
  have hown : s.vm.findClass RX1 = some m.cls := findClass_of_methodNamed B.named
  have hlocks := B.notSynchronized
  have w := w0.start
  clear w0
  have hl := lv_entry ([.ref (g.2.2.1 t), .ref (g.2.2.1 o)]) (n := 4) (Nat.le_of_ble_eq_true rfl)
  rw [lg_entry_eq]
  generalize (lg_sl ([.ref (g.2.2.1 t), .ref (g.2.2.1 o)]) ++ List.replicate (4 - (lg_sl ([.ref (g.2.2.1 t), .ref (g.2.2.1 o)])).length) Slot.unset).toArray = ls at hl ⊢
  have hl : lv_has ls 4 [(0, .ref (g.2.2.1 t)), (1, .ref (g.2.2.1 o))] := hl
  have hn4 := hP.2.1
  obtain ⟨ha3, hk3, hl1, hl24, -⟩ := hP.2.2 f hf
  have hglf_ := S.2.2.2.1 f hf
  have hnS_ := S.1
  refine lv_aload_n hx hb dX1_takeBack_0 rfl (lv_at hl 0 rfl) ?_
  refine r_get (C := RX1) (T := TX1) (N := 4) (ci := 1) hx hb hts inX1_takeBack_X1 hown w (by have := K.1; omega) K.2.1 rfl 3 (by decide) (hts (Cond.fieldLink RX1 19 "EarlyValues$History" "count" "I") (List.mem_of_getElem? (i := 1) (by decide +kernel))) rfl rfl dX1_takeBack_1 ?_
  refine lv_if_le (tgt := 16) hx hb dX1_takeBack_4 (by decide) (fun c1 => ?_) (fun c1 => ?_)
  · have c1 : (((c9n + 1) : Nat) : Int) ≤ (0 : Int) := (i_le hc (rfl : (0 : Int32).toInt = 0)).mp c1
    exfalso; omega
  · have c1 : ¬ ((((c9n + 1) : Nat) : Int) ≤ (0 : Int)) := fun q => c1 ((i_le hc (rfl : (0 : Int32).toInt = 0)).mpr q)
    refine lv_aload_n hx hb dX1_takeBack_7 rfl (lv_at hl 0 rfl) ?_
    refine r_get (C := RX1) (T := TX1) (N := 4) (ci := 1) hx hb hts inX1_takeBack_X1 hown w (by have := K.1; omega) K.2.1 rfl 3 (by decide) (hts (Cond.fieldLink RX1 19 "EarlyValues$History" "count" "I") (List.mem_of_getElem? (i := 1) (by decide +kernel))) rfl rfl dX1_takeBack_8 ?_
    refine lv_bipush (v := 8) hx hb dX1_takeBack_11 (by decide) ?_
    refine lv_icmp_le (tgt := 17) hx hb dX1_takeBack_13 (by decide) (fun c2 => ?_) (fun c2 => ?_)
    · have c2 : (((c9n + 1) : Nat) : Int) ≤ ((8 : Nat) : Int) := (i_le hc (by decide : (8 : Int32).toInt = ((8 : Nat) : Int))).mp c2
      refine lv_aload_n hx hb dX1_takeBack_17 rfl (lv_at hl 0 rfl) ?_
      refine lv_dup hx hb dX1_takeBack_18 rfl ?_
      refine r_get (C := RX1) (T := TX1) (N := 4) (ci := 1) hx hb hts inX1_takeBack_X1 hown w (by have := K.1; omega) K.2.1 rfl 3 (by decide) (hts (Cond.fieldLink RX1 19 "EarlyValues$History" "count" "I") (List.mem_of_getElem? (i := 1) (by decide +kernel))) rfl rfl dX1_takeBack_19 ?_
      refine lv_iconst (v := 1) hx hb dX1_takeBack_22 (by decide) ?_
      refine lv_isub hx hb dX1_takeBack_23 ?_
      refine lv_topi (fun y3 ey3 => ?_)
      have ty3 : y3.toInt = ((((c9n + 1) - 1) : Nat) : Int) := i_subN ey3 hc (by decide : (1 : Int32).toInt = ((1 : Nat) : Int)) (by omega)
      refine r_put (ty := .int) (C := RX1) (T := TX1) (N := 4) (ci := 1) hx hb hts inX1_takeBack_X1 tyX1 tyX1_ok nmX1 hown w (by have := K.1; omega) K.2.1 rfl 3 (by decide) (hts (Cond.fieldLink RX1 19 "EarlyValues$History" "count" "I") (List.mem_of_getElem? (i := 1) (by decide +kernel))) rfl rfl (by decide +kernel) rfl rfl (Nat.le_of_ble_eq_true rfl) dX1_takeBack_24 (fun h4 H locs eh4 w => ?_)
      have K := K.s0 eh4
      have hfr : ∀ k_, ¬ ((t ≤ k_ ∧ k_ < t + 4) ∨ (o ≤ k_ ∧ k_ < o + 9)) → h4 k_ = h k_ := fun k_ hk_ => by rw [eh4, va_up_ne _ _ (by omega)]
      have P := P.fr (h' := h4) (fun k_ h1_ h2_ => by rw [eh4, va_up_ne _ _ (by omega)])
      refine lv_aload_n hx hb dX1_takeBack_27 rfl (lv_at hl 0 rfl) ?_
      refine r_get (C := RX1) (T := TX1) (N := 4) (ci := 1) hx hb hts inX1_takeBack_X1 hown w (by have := K.1; omega) K.2.1 rfl 0 (by decide) (hts (Cond.fieldLink RX1 9 "EarlyValues$History" "functions" "[I") (List.mem_of_getElem? (i := 2) (by decide +kernel))) rfl rfl dX1_takeBack_28 ?_
      refine lv_aload_n hx hb dX1_takeBack_31 rfl (lv_at hl 0 rfl) ?_
      refine r_get (C := RX1) (T := TX1) (N := 4) (ci := 1) hx hb hts inX1_takeBack_X1 hown w (by have := K.1; omega) K.2.1 rfl 3 (by decide) (hts (Cond.fieldLink RX1 19 "EarlyValues$History" "count" "I") (List.mem_of_getElem? (i := 1) (by decide +kernel))) rfl rfl dX1_takeBack_32 ?_
      refine r_iald (j := c9n) hx hb w (by have := K.1; omega) K.2.2.1 (ty3.trans (by omega)) (by omega) dX1_takeBack_35 ?_
      refine lv_istore_n (lv' := [(2, .int (gf c9n)), (0, .ref (g.2.2.1 t)), (1, .ref (g.2.2.1 o))]) hx hb dX1_takeBack_36 rfl hl (by decide) rfl (fun ls hl => ?_)
      refine lv_aload_n hx hb dX1_takeBack_37 rfl (lv_at hl 1 rfl) ?_
      refine r_get (C := RX1) (T := TX1) (N := 4) (ci := 1) hx hb hts inX1_takeBack_X1 hown w (by have := K.1; omega) K.2.1 rfl 1 (by decide) (hts (Cond.fieldLink RX1 13 "EarlyValues$History" "places" "[I") (List.mem_of_getElem? (i := 3) (by decide +kernel))) rfl rfl dX1_takeBack_38 ?_
      refine lv_aload_n hx hb dX1_takeBack_41 rfl (lv_at hl 1 rfl) ?_
      refine r_get (C := RX1) (T := TX1) (N := 4) (ci := 1) hx hb hts inX1_takeBack_X1 hown w (by have := K.1; omega) K.2.1 rfl 3 (by decide) (hts (Cond.fieldLink RX1 19 "EarlyValues$History" "count" "I") (List.mem_of_getElem? (i := 1) (by decide +kernel))) rfl rfl dX1_takeBack_42 ?_
      refine r_iald (j := c9n) hx hb w (by have := K.1; omega) K.2.2.2.1 (ty3.trans (by omega)) (by omega) dX1_takeBack_45 ?_
      refine lv_istore_n (lv' := [(3, .int (gp c9n)), (2, .int (gf c9n)), (0, .ref (g.2.2.1 t)), (1, .ref (g.2.2.1 o))]) hx hb dX1_takeBack_46 rfl hl (by decide) rfl (fun ls hl => ?_)
      refine lv_iload_n hx hb dX1_takeBack_47 rfl (lv_at hl 0 rfl) ?_
      refine lv_iconst (v := (-1)) hx hb dX1_takeBack_48 (by decide) ?_
      refine lv_icmp_ne (tgt := 78) hx hb dX1_takeBack_49 (by decide) (fun c5 => ?_) (fun c5 => ?_)
      · have c5 : ¬ (z = (-1 : Int)) := fun q => c5 ((i_eq hgp (by decide : (-1 : Int32).toInt = (-1 : Int))).mpr q)
        refine lv_aload_n hx hb dX1_takeBack_78 rfl (lv_at hl 3 rfl) ?_
        refine lv_iload_n hx hb dX1_takeBack_79 rfl (lv_at hl 1 rfl) ?_
        refine lv_iload_n hx hb dX1_takeBack_80 rfl (lv_at hl 0 rfl) ?_
        refine r_callI w (va_runV (As := [.int (gf c9n), .int (gp c9n)]) (rest := []) ⟨hx, hb, hml, hown, hts⟩ (c_X3_hasPlace l P (gf c9n) (gp c9n) (by omega)) (cwV 2 hts gX1_takeBack_X3_hasPlace rfl rfl rfl (by decide +kernel) ⟨Nat.le_of_ble_eq_true rfl, Nat.le_of_ble_eq_true rfl⟩) (r_preV w (by have := P.1; omega) P.c0 rfl) rfl rfl hl.1 rfl (lv_room (Nat.le_of_ble_eq_true rfl)) dX1_takeBack_81 ⟨Nat.zero_le _, Nat.zero_le _⟩) (fun r7 h6 H locs hp w => ?_)
        obtain ⟨eh_, qq8⟩ := hp
        have eh_ := eh_.symm
        subst eh_
        refine lv_if_eq (tgt := 104) hx hb dX1_takeBack_84 (by decide) (fun c9 => ?_) (fun c9 => ?_)
        · have c9 := qq8.eq c9
          exfalso; rw [(hgf : (gf c9n).toInt = _), Int.toNat_natCast, (hgp : (gp c9n).toInt = _), hglf_, S.1] at c9; omega
        · have c9 := qq8.ne c9
          refine lv_aload_n hx hb dX1_takeBack_87 rfl (lv_at hl 3 rfl) ?_
          refine r_get (C := RX3) (T := TX3) (N := 5) (ci := 2) hx hb hts inX1_takeBack_X3 hown w (by have := P.1; omega) P.c0 rfl 4 (by decide) (hts (Cond.fieldLink RX1 42 "EarlyValues$Program" "bodies" "[[I") (List.mem_of_getElem? (i := 6) (by decide +kernel))) rfl rfl dX1_takeBack_88 ?_
          refine lv_iload_n hx hb dX1_takeBack_91 rfl (lv_at hl 1 rfl) ?_
          refine r_aald (t := 4) (j := f) hx hb w (by decide) (by have := P.1; omega) P.c4 hgf (by omega) (rowsF_in (by omega)) dX1_takeBack_92 ?_
          refine lv_iload_n hx hb dX1_takeBack_93 rfl (lv_at hl 0 rfl) ?_
          refine lv_aload_n hx hb dX1_takeBack_94 rfl (lv_at hl 2 rfl) ?_
          refine r_get (C := RX1) (T := TX1) (N := 4) (ci := 1) hx hb hts inX1_takeBack_X1 hown w (by have := K.1; omega) K.2.1 rfl 2 (by decide) (hts (Cond.fieldLink RX1 16 "EarlyValues$History" "befores" "[I") (List.mem_of_getElem? (i := 5) (by decide +kernel))) rfl rfl dX1_takeBack_95 ?_
          refine lv_aload_n hx hb dX1_takeBack_98 rfl (lv_at hl 2 rfl) ?_
          refine r_get (C := RX1) (T := TX1) (N := 4) (ci := 1) hx hb hts inX1_takeBack_X1 hown w (by have := K.1; omega) K.2.1 rfl 3 (by decide) (hts (Cond.fieldLink RX1 19 "EarlyValues$History" "count" "I") (List.mem_of_getElem? (i := 1) (by decide +kernel))) rfl rfl dX1_takeBack_99 ?_
          refine r_iald (j := c9n) hx hb w (by have := K.1; omega) K.2.2.2.2 (ty3.trans (by omega)) (by omega) dX1_takeBack_102 ?_
          refine r_iast (j := (z.toNat)) hx hb w (by have := P.1; omega) (P.c5 (i := f) (by omega)) (hgp.trans (by omega)) (by omega) dX1_takeBack_103 (fun h10 H locs eh10 w => ?_)
          have P := P.s5 (i := f) (by omega) eh10
          generalize egb11 : va_up gb f (upd (gb f) ((z.toNat)) (gq c9n)) = gb11 at P
          have hfr : ∀ k_, ¬ ((t ≤ k_ ∧ k_ < t + 4) ∨ (o ≤ k_ ∧ k_ < o + 9)) → h10 k_ = h k_ := fun k_ hk_ => by rw [eh10, va_up_ne _ _ (by omega)]; exact hfr k_ hk_
          have K := K.fr (h' := h10) (fun k_ h1_ h2_ => by rw [eh10, va_up_ne _ _ (by omega)])
          refine r_vret hx hb hr hlocks w dX1_takeBack_104 ?_
          exact ⟨hfr, _, _, _, K, ty3.trans (by omega), P, fun z_ => by omega, fun pl_ z_ => by have z2_ : pl_ = z.toNat := (by omega); rw [z2_]; exact S.put_e hq egb11⟩
      · have c5 : z = (-1 : Int) := (i_eq hgp (by decide : (-1 : Int32).toInt = (-1 : Int))).mp c5
        refine lv_aload_n hx hb dX1_takeBack_52 rfl (lv_at hl 3 rfl) ?_
        refine lv_iload_n hx hb dX1_takeBack_53 rfl (lv_at hl 1 rfl) ?_
        refine r_callI w (va_runV (As := [.int (gf c9n)]) (rest := []) ⟨hx, hb, hml, hown, hts⟩ (c_X3_has l P (gf c9n)) (cwV 1 hts gX1_takeBack_X3_has rfl rfl rfl (by decide +kernel) ⟨Nat.le_of_ble_eq_true rfl, Nat.le_of_ble_eq_true rfl⟩) (r_preV w (by have := P.1; omega) P.c0 rfl) rfl rfl hl.1 rfl (lv_room (Nat.le_of_ble_eq_true rfl)) dX1_takeBack_54 ⟨Nat.zero_le _, Nat.zero_le _⟩) (fun r13 h12 H locs hp w => ?_)
        obtain ⟨eh_, qq14⟩ := hp
        have eh_ := eh_.symm
        subst eh_
        have b15 : Bq r13 (0 ≤ ((f : Nat) : Int) ∧ ((f : Nat) : Int) < (((pN M) : Nat) : Int)) := qq14.iff (by rw [(hgf : (gf c9n).toInt = _), (S.1 : n.toInt = _)])
        refine lv_if_eq (tgt := 78) hx hb dX1_takeBack_57 (by decide) (fun c16 => ?_) (fun c16 => ?_)
        · have c16 := b15.eq c16
          exfalso; omega
        · have c16 := b15.ne c16
          refine lv_aload_n hx hb dX1_takeBack_60 rfl (lv_at hl 3 rfl) ?_
          refine r_get (C := RX3) (T := TX3) (N := 5) (ci := 2) hx hb hts inX1_takeBack_X3 hown w (by have := P.1; omega) P.c0 rfl 2 (by decide) (hts (Cond.fieldLink RX1 35 "EarlyValues$Program" "kinds" "[I") (List.mem_of_getElem? (i := 4) (by decide +kernel))) rfl rfl dX1_takeBack_61 ?_
          refine lv_iload_n hx hb dX1_takeBack_64 rfl (lv_at hl 1 rfl) ?_
          refine lv_aload_n hx hb dX1_takeBack_65 rfl (lv_at hl 2 rfl) ?_
          refine r_get (C := RX1) (T := TX1) (N := 4) (ci := 1) hx hb hts inX1_takeBack_X1 hown w (by have := K.1; omega) K.2.1 rfl 2 (by decide) (hts (Cond.fieldLink RX1 16 "EarlyValues$History" "befores" "[I") (List.mem_of_getElem? (i := 5) (by decide +kernel))) rfl rfl dX1_takeBack_66 ?_
          refine lv_aload_n hx hb dX1_takeBack_69 rfl (lv_at hl 2 rfl) ?_
          refine r_get (C := RX1) (T := TX1) (N := 4) (ci := 1) hx hb hts inX1_takeBack_X1 hown w (by have := K.1; omega) K.2.1 rfl 3 (by decide) (hts (Cond.fieldLink RX1 19 "EarlyValues$History" "count" "I") (List.mem_of_getElem? (i := 1) (by decide +kernel))) rfl rfl dX1_takeBack_70 ?_
          refine r_iald (j := c9n) hx hb w (by have := K.1; omega) K.2.2.2.2 (ty3.trans (by omega)) (by omega) dX1_takeBack_73 ?_
          refine r_iast (j := f) hx hb w (by have := P.1; omega) P.c2 hgf (by omega) dX1_takeBack_74 (fun h17 H locs eh17 w => ?_)
          have P := P.s2 eh17
          generalize egz18 : upd gk f (gq c9n) = gz18 at P
          have hfr : ∀ k_, ¬ ((t ≤ k_ ∧ k_ < t + 4) ∨ (o ≤ k_ ∧ k_ < o + 9)) → h17 k_ = h k_ := fun k_ hk_ => by rw [eh17, va_up_ne _ _ (by omega)]; exact hfr k_ hk_
          have K := K.fr (h' := h17) (fun k_ h1_ h2_ => by rw [eh17, va_up_ne _ _ (by omega)])
          refine lv_goto (tgt := 104) hx hb dX1_takeBack_75 (by decide) ?_
          refine r_vret hx hb hr hlocks w dX1_takeBack_104 ?_
          exact ⟨hfr, _, _, _, K, ty3.trans (by omega), P, fun _ => S.kind_e hq egz18, fun pl_ z_ => by omega⟩
    · have c2 : ¬ ((((c9n + 1) : Nat) : Int) ≤ ((8 : Nat) : Int)) := fun q => c2 ((i_le hc (by decide : (8 : Int32).toInt = ((8 : Nat) : Int))).mpr q)
      exfalso; omega

