/-- a View on its way: the object, digits and its rows -/
def VdA (g : GE) (h : Nat → va_E) (v u : Nat) (gd : Nat → Nat → Int32) : Prop :=
  (v + 8 ≤ g.2.2.2 ∧ u < 3) ∧ h v = .inr (mCi u, [.int (nI (mB u)), .int (nI (mN u)), .int (nI (mZ u)), .int (nI (mO u)), .ref (g.2.2.1 (v + 1)), .ref (g.2.2.1 (v + 4)), .null, .null, .int 0, .int 0, .ref (g.2.2.1 (v + 2)), .ref (g.2.2.1 (v + 3)), .int 0]) ∧
  h (v + 4) = .inl (g.2.1 4, 3, .inr (.inr (.inr (.inr (rowsF g (v + 5) 3))))) ∧ ∀ i, i < 3 → h (v + 5 + i) = .inl (g.2.1 0, mR u, .inl (gd i))
theorem VdA.s5 {g : GE} {h h' : Nat → va_E} {v u : Nat} {gd : Nat → Nat → Int32} {gz : Nat → Int32} (V : VdA g h v u gd) {i : Nat} (hi : i < 3) (e : h' = va_up h (v + 5 + i) (.inl (g.2.1 0, mR u, .inl gz))) : VdA g h' v u (va_up gd i gz) := by
  obtain ⟨a0, a1, a2, a3⟩ := V
  subst e
  refine ⟨a0, by rw [va_up_ne _ _ (by omega)]; exact a1, by rw [va_up_ne _ _ (by omega)]; exact a2, fun j hj => ?_⟩
  by_cases q : j = i
  · rw [q, va_up_self, va_up_self]
  · rw [va_up_ne _ _ (by omega), va_up_ne _ _ q]; exact a3 j hj
/-- the digits of rows below r, and of row r below digit i -/
def DgQ (u : Nat) (gd : Nat → Nat → Int32) (r i : Nat) : Prop := ∀ j q, j < 3 → (q < r ∨ (q = r ∧ j < i)) → (gd j q).toInt = ((mDig u q j : Nat) : Int)
theorem DgQ.up {u r i : Nat} {gd gz : Nat → Nat → Int32} {x : Int32} (h : DgQ u gd r i) (hx : x.toInt = ((mDig u r i : Nat) : Int)) (e : va_up gd i (upd (gd i) r x) = gz) : DgQ u gz r (i + 1) := by
  subst e
  intro j q hj hq
  by_cases z : j = i
  · subst z
    rw [va_up_self]
    by_cases y : q = r
    · rw [y, pk_us]; exact hx
    · rw [pk_un y]; exact h j q hj (by omega)
  · rw [va_up_ne _ _ z]; exact h j q hj (by omega)
theorem DgQ.nx {u r : Nat} {gd : Nat → Nat → Int32} (h : DgQ u gd r 3) : DgQ u gd (r + 1) 0 := fun j q hj hq => h j q hj (by omega)
theorem cu_all : (List.range 3).all (fun u => (List.range (mR u)).all fun r => (List.range 3).all fun i => r == 0 || ((mDig u r i == (if mDig u (r - 1) i + (if r % mB u ^ i = 0 then 1 else 0) = mB u then 0 else mDig u (r - 1) i + (if r % mB u ^ i = 0 then 1 else 0))) && (decide (mDig u (r - 1) i + (if r % mB u ^ i = 0 then 1 else 0) = mB u) == decide (r % mB u ^ (i + 1) = 0)))) = true := by decide +kernel
theorem cu_step {u r i d : Nat} (hu : u < 3) (hr : r < mR u) (h1 : 1 ≤ r) (hi : i < 3) (hd : (r % mB u ^ i = 0 ∧ d = mDig u (r - 1) i + 1) ∨ (r % mB u ^ i ≠ 0 ∧ d = mDig u (r - 1) i)) : (d = mB u → mDig u r i = 0 ∧ r % mB u ^ (i + 1) = 0) ∧ (d ≠ mB u → mDig u r i = d ∧ r % mB u ^ (i + 1) ≠ 0) := by
  have h := all_range (all_range (all_range cu_all hu) hr) hi
  have h0 : (r == 0) = false := beq_eq_false_iff_ne.mpr (by omega)
  rw [h0, Bool.false_or, Bool.and_eq_true, beq_iff_eq, beq_iff_eq] at h
  have e : mDig u (r - 1) i + (if r % mB u ^ i = 0 then 1 else 0) = d := by
    rcases hd with ⟨a, b⟩ | ⟨a, b⟩
    · rw [if_pos a, b]
    · rw [if_neg a, b, Nat.add_zero]
  rw [e] at h
  obtain ⟨ha, hb⟩ := h
  refine ⟨fun q => ⟨by rw [ha, if_pos q], ?_⟩, fun q => ⟨by rw [ha, if_neg q], ?_⟩⟩
  · rw [decide_eq_true q] at hb; exact of_decide_eq_true hb.symm
  · rw [decide_eq_false q] at hb; exact of_decide_eq_false hb.symm
/-- the powers so far -/
def PwQ (u : Nat) (gp : Nat → Int32) (i : Nat) : Prop := ∀ j, j < i → (gp j).toInt = ((mB u ^ j : Nat) : Int)
theorem PwQ.up {u i : Nat} {gp gz : Nat → Int32} {x : Int32} (h : PwQ u gp i) (hx : x.toInt = ((mB u ^ i : Nat) : Int)) (e : gz = upd gp i x) : PwQ u gz (i + 1) := by
  subst e
  intro j hj
  by_cases q : j = i
  · rw [q, pk_us]; exact hx
  · rw [pk_un q]; exact h j (by omega)
theorem mDig_z (u j : Nat) : mDig u 0 j = 0 := by unfold mDig; rw [Nat.zero_div, Nat.zero_mod]
theorem mR_pos (u : Nat) : 1 ≤ mR u := by
  unfold mR mB
  split <;> (try split) <;> decide
theorem pw_succ {u i : Nat} (h : 1 ≤ i) : mB u ^ (i - 1) * mB u = mB u ^ i := by
  obtain ⟨j, rfl⟩ : ∃ j, i = j + 1 := ⟨i - 1, by omega⟩
  rw [Nat.add_sub_cancel, Nat.pow_succ]
theorem pw_le (u i : Nat) (hi : i ≤ 3) : mB u ^ i ≤ 125 := by
  have h := mR_le u
  have h2 : mB u ^ i ≤ mB u ^ 3 := Nat.pow_le_pow_right (mB_pos u) hi
  unfold mR at h
  omega
section HRVF
variable {p : Program} {l : Launch} {e : Env} {R : Room} {s : State} {m : MethodId} {args : Array Value} {below : List Frame} {meth : Method} {c : Code} {H : Heap} {locs : List Loc} {cells slots : Nat} {Q : State → Prop}
variable {cc : ByteArray} {pc : Nat} {ls : Array Slot} {rest : List Value} {g : GE} {A : Nat → Prop} {h : Nat → va_E}
theorem r_putVF (hx : p.tables.exec = Jvm.exec) (hb : c.code = cc) {own : String} {index : Nat} {Ts : List Cond} (hts : ∀ w ∈ Ts, w.before args s = true) (hin : (∀ w ∈ wsX00, w ∈ Ts) ∧ (∀ w ∈ wsX40, w ∈ Ts) ∧ ∀ w ∈ wsX60, w ∈ Ts) (hown : s.vm.findClass own = some m.cls) (w : WD g A s h H locs) {o u : Nat} (hu : u < 3) (ho : o < g.2.2.2) {fs : List Value} (he : h o = .inr (mCi u, fs)) (k : Nat) (hk : k < 13) (hlink : (Cond.fieldLink own index "EarlyValues$View" (TX0 k).2.1 (TX0 k).2.2.1).before args s = true) (hsame : (TX0 k).1 = "EarlyValues$View") (hfin : (TX0 k).2.2.2 = true) (hin2 : meth.name = "<init>") (hdecl : (TX0 k).1 = own) {ty : FieldType} {v : Value} (hd : parseFieldDescriptor (TX0 k).2.2.1 = some ty) (hn : narrow ty v = v) (hfit : fits ty v = true) (hl : k < fs.length)
    (hdg : decode cc pc = .ok (.putfield index, 3)) (kk : ∀ (h' : Nat → va_E) (H1 : Heap) (locs1 : List Loc), h' = va_up h o (.inr (mCi u, fs.set k v)) → WD g A s h' H1 locs1 → W p l e R s m args below meth c H1 locs1 cells slots Q (F0 m (pc + 3) ls rest)) : W p l e R s m args below meth c H locs cells slots Q (F0 m pc ls (v :: .ref (g.2.2.1 o) :: rest)) := by
  rcases (show u = 0 ∨ u = 1 ∨ u = 2 by omega) with rfl | rfl | rfl
  · exact r_putF (C := RX6) (T := TX6) (N := 13) (ci := 5) hx hb hts hin.2.2 tyX6 tyX6_ok nmX6 hown w ho he rfl k hk (by rw [tx60 k hk]; exact hlink) (by rw [tx60 k hk]; exact hsame) (by rw [tx60 k hk]; exact hfin) hin2 (by rw [tx60 k hk]; exact hdecl) (by rw [tx60 k hk]; exact hd) hn hfit hl hdg kk
  · exact r_putF (C := RX4) (T := TX4) (N := 13) (ci := 3) hx hb hts hin.2.1 tyX4 tyX4_ok nmX4 hown w ho he rfl k hk (by rw [tx40 k hk]; exact hlink) (by rw [tx40 k hk]; exact hsame) (by rw [tx40 k hk]; exact hfin) hin2 (by rw [tx40 k hk]; exact hdecl) (by rw [tx40 k hk]; exact hd) hn hfit hl hdg kk
  · exact r_putF (C := RX0) (T := TX0) (N := 13) (ci := 0) hx hb hts hin.1 tyX0 tyX0_ok nmX0 hown w ho he rfl k hk hlink hsame hfin hin2 hdecl hd hn hfit hl hdg kk
end HRVF
theorem inX7_countUp_X0 : ∀ w ∈ wsX00, w ∈ wsX7_countUp := by decide +kernel
theorem inX7_countUp_X4 : ∀ w ∈ wsX40, w ∈ wsX7_countUp := by decide +kernel
theorem inX7_countUp_X6 : ∀ w ∈ wsX60, w ∈ wsX7_countUp := by decide +kernel
abbrev rm_X7_countUp : Room := { frames := 0, cells := 0, slots := 0, locals := 0 }
set_option maxHeartbeats 4000000 in
set_option maxRecDepth 100000 in
theorem c_X7_countUp (l : Launch) {g : GE} {h : Nat → va_E} {v u : Nat} {gd : Nat → Nat → Int32} (V : VdA g h v u gd) {r9 : Nat} (p1 : Int32) (hp1 : p1.toInt = (r9 : Int)) (h1r : 1 ≤ r9) (hr1 : r9 < mR u) (hg0 : DgQ u gd r9 0) : MV l yX7_countUp wsX7_countUp rm_X7_countUp [.ref (g.2.2.1 v), .int p1] g h (fun h2 => (∀ k, ¬ (v + 5 ≤ k ∧ k < v + 8) → h2 k = h k) ∧ ∃ gd2 : Nat → Nat → Int32, VdA g h2 v u gd2 ∧ DgQ u gd2 (r9 + 1) 0) := by
  refine Met.ofW (cc := cX7_countUp) (maxL := 5) (ret := none) (by decide) rfl ?_
  intro p e s m args below meth c s₁ B hml hv
  obtain ⟨rfl, w0⟩ := hv
  have hx := B.exec
  have hb := B.bytes
  have hr := B.returns
  have hts := atoms_spec (ws := wsX7_countUp) B.pre
  have hown : s.vm.findClass RX7 = some m.cls := findClass_of_methodNamed B.named
  have hlocks := B.notSynchronized
  have w := w0.start
  clear w0
  have hl := lv_entry ([.ref (g.2.2.1 v), .int p1]) (n := 5) (Nat.le_of_ble_eq_true rfl)
  rw [lg_entry_eq]
  generalize (lg_sl ([.ref (g.2.2.1 v), .int p1]) ++ List.replicate (5 - (lg_sl ([.ref (g.2.2.1 v), .int p1])).length) Slot.unset).toArray = ls at hl ⊢
  have hl : lv_has ls 5 [(0, .ref (g.2.2.1 v)), (1, .int p1)] := hl
  have hu := V.1.2
  have hR5 := mR_le u
  have cuts : ∀ N : Nat, (∀ (i : Nat) (x2 : Int32) (x3 : Int32) (gd1 : Nat → Nat → Int32) (hc : Nat → va_E) (H : Heap) (locs : List Loc) (ls : Array Slot), WD g (inW g) s hc H locs → lv_has ls 5 [(0, .ref (g.2.2.1 v)), (1, .int p1), (2, .int x2), (3, .int x3)] → (i ≤ 3) → (Bq x2 (r9 % mB u ^ i = 0)) → (x3.toInt = ((i : Nat) : Int)) → (DgQ u gd1 r9 i) → (VdA g hc v u gd1) → (∀ k, ¬ (v + 5 ≤ k ∧ k < v + 8) → hc k = h k) → 4 - i < N → W p l e (headSpec wsX7_countUp rm_X7_countUp).room s m ([.ref (g.2.2.1 v), .int p1] : List Value).toArray below meth c H locs 0 0 (MQ below (va_Qv (fun h2 => (∀ k, ¬ (v + 5 ≤ k ∧ k < v + 8) → h2 k = h k) ∧ ∃ gd2 : Nat → Nat → Int32, VdA g h2 v u gd2 ∧ DgQ u gd2 (r9 + 1) 0) (Wd g) (inW g)) ([.ref (g.2.2.1 v), .int p1] : List Value).toArray s 0 0 (inW g)) (F0 m 4 ls [])) := by
    intro N
    induction N with
    | zero => exact by intros; omega
    | succ N ih =>
      have ih4 := ih
      · intro i x2 x3 gd1 hc H locs ls w hl hi hx2 hx3 hgd V hfr hN_
        refine lv_iload_n hx hb dX7_countUp_4 rfl (lv_at hl 3 rfl) ?_
        refine lv_iconst (v := 3) hx hb dX7_countUp_5 (by decide) ?_
        refine lv_icmp_ge (tgt := 70) hx hb dX7_countUp_6 (by decide) (fun c1 => ?_) (fun c1 => ?_)
        · have c1 : ((3 : Nat) : Int) ≤ ((i : Nat) : Int) := (i_le (by decide : (3 : Int32).toInt = ((3 : Nat) : Int)) hx3).mp c1
          refine r_vret hx hb hr hlocks w dX7_countUp_70 ?_
          rw [show i = 3 by omega] at hgd
          exact ⟨hfr, _, V, hgd.nx⟩
        · have c1 : ¬ (((3 : Nat) : Int) ≤ ((i : Nat) : Int)) := fun q => c1 ((i_le (by decide : (3 : Int32).toInt = ((3 : Nat) : Int)) hx3).mpr q)
          have hdl_ := mDig_lt u (r9 - 1) i
          have hb5_ := mB_le u
          refine lv_aload_n hx hb dX7_countUp_9 rfl (lv_at hl 0 rfl) ?_
          refine r_getV hx hb hts ⟨inX7_countUp_X0, inX7_countUp_X4, inX7_countUp_X6⟩ hown w V.1.2 (by have := V.1.1; omega) V.2.1 5 (by decide) (hts (Cond.fieldLink RX7 36 "EarlyValues$View" "digits" "[[I") (List.mem_of_getElem? (i := 1) (by decide +kernel))) rfl rfl dX7_countUp_10 ?_
          refine lv_iload_n hx hb dX7_countUp_13 rfl (lv_at hl 3 rfl) ?_
          refine r_aald (t := 4) (j := i) hx hb w (by decide) (by have := V.1.1; omega) V.2.2.1 hx3 (by omega) (rowsF_in (by omega)) dX7_countUp_14 ?_
          refine lv_iload_n hx hb dX7_countUp_15 rfl (lv_at hl 1 rfl) ?_
          refine lv_iconst (v := 1) hx hb dX7_countUp_16 (by decide) ?_
          refine lv_isub hx hb dX7_countUp_17 ?_
          refine lv_topi (fun y2 ey2 => ?_)
          have ty2 : y2.toInt = (((r9 - 1) : Nat) : Int) := i_subN ey2 hp1 (by decide : (1 : Int32).toInt = ((1 : Nat) : Int)) (by omega)
          refine r_iald (j := (r9 - 1)) hx hb w (by have := V.1.1; omega) (V.2.2.2 i (by omega)) ty2 (by omega) dX7_countUp_18 ?_
          refine lv_iload_n hx hb dX7_countUp_19 rfl (lv_at hl 2 rfl) ?_
          refine lv_if_eq (tgt := 27) hx hb dX7_countUp_20 (by decide) (fun c3 => ?_) (fun c3 => ?_)
          · have c3 := hx2.eq c3
            refine lv_iconst (v := 0) hx hb dX7_countUp_27 (by decide) ?_
            refine lv_iadd hx hb dX7_countUp_28 ?_
            refine lv_topi (fun y4 ey4 => ?_)
            have ty4 : y4.toInt = ((((mDig u (r9 - 1) i) + 0) : Nat) : Int) := i_addN ey4 (hgd i (r9 - 1) (by omega) (Or.inl (by omega))) (by decide : (0 : Int32).toInt = ((0 : Nat) : Int)) (by omega)
            refine lv_istore (lv' := [(4, .int y4), (0, .ref (g.2.2.1 v)), (1, .int p1), (2, .int x2), (3, .int x3)]) hx hb dX7_countUp_29 hl (by decide) rfl (fun ls hl => ?_)
            refine lv_iload hx hb dX7_countUp_31 (lv_at hl 0 rfl) ?_
            refine lv_aload_n hx hb dX7_countUp_33 rfl (lv_at hl 1 rfl) ?_
            refine r_getV hx hb hts ⟨inX7_countUp_X0, inX7_countUp_X4, inX7_countUp_X6⟩ hown w V.1.2 (by have := V.1.1; omega) V.2.1 0 (by decide) (hts (Cond.fieldLink RX7 21 "EarlyValues$View" "base" "I") (List.mem_of_getElem? (i := 2) (by decide +kernel))) rfl rfl dX7_countUp_34 ?_
            refine lv_icmp_ne (tgt := 44) hx hb dX7_countUp_37 (by decide) (fun c5 => ?_) (fun c5 => ?_)
            · have c5 : ¬ (((((mDig u (r9 - 1) i) + 0) : Nat) : Int) = (((mB u) : Nat) : Int)) := fun q => c5 ((i_eq ty4 (mB_i u)).mpr q)
              refine lv_iconst (v := 0) hx hb dX7_countUp_44 (by decide) ?_
              refine lv_istore_n (lv' := [(2, .int 0), (4, .int y4), (0, .ref (g.2.2.1 v)), (1, .int p1), (3, .int x3)]) hx hb dX7_countUp_45 rfl hl (by decide) rfl (fun ls hl => ?_)
              refine lv_aload_n hx hb dX7_countUp_46 rfl (lv_at hl 2 rfl) ?_
              refine r_getV hx hb hts ⟨inX7_countUp_X0, inX7_countUp_X4, inX7_countUp_X6⟩ hown w V.1.2 (by have := V.1.1; omega) V.2.1 5 (by decide) (hts (Cond.fieldLink RX7 36 "EarlyValues$View" "digits" "[[I") (List.mem_of_getElem? (i := 1) (by decide +kernel))) rfl rfl dX7_countUp_47 ?_
              refine lv_iload_n hx hb dX7_countUp_50 rfl (lv_at hl 4 rfl) ?_
              refine r_aald (t := 4) (j := i) hx hb w (by decide) (by have := V.1.1; omega) V.2.2.1 hx3 (by omega) (rowsF_in (by omega)) dX7_countUp_51 ?_
              refine lv_iload_n hx hb dX7_countUp_52 rfl (lv_at hl 3 rfl) ?_
              refine lv_iload_n hx hb dX7_countUp_53 rfl (lv_at hl 0 rfl) ?_
              refine lv_if_eq (tgt := 61) hx hb dX7_countUp_54 (by decide) (fun c6 => ?_) (fun c6 => ?_)
              · have c6 : ((0 : Nat) : Int) = (0 : Int) := (i_eq (by decide : (0 : Int32).toInt = ((0 : Nat) : Int)) (rfl : (0 : Int32).toInt = 0)).mp c6
                refine lv_iload hx hb dX7_countUp_61 (lv_at hl 1 rfl) ?_
                refine r_iast (j := r9) hx hb w (by have := V.1.1; omega) (V.2.2.2 i (by omega)) hp1 (by omega) dX7_countUp_63 (fun h7 H locs eh7 w => ?_)
                have V := V.s5 (i := i) (by omega) eh7
                generalize egz8 : va_up gd1 i (upd (gd1 i) r9 y4) = gz8 at V
                have hfr : ∀ k_, ¬ (v + 5 ≤ k_ ∧ k_ < v + 8) → h7 k_ = h k_ := fun k_ hk_ => by rw [eh7, va_up_ne _ _ (by omega)]; exact hfr k_ hk_
                obtain ⟨y9, ey9⟩ : ∃ y : Int32, y = x3 + (1) := ⟨_, rfl⟩
                have ty9 : y9.toInt = (((i + 1) : Nat) : Int) := i_addN ey9 hx3 (by decide : (1 : Int32).toInt = ((1 : Nat) : Int)) (by omega)
                refine lv_iinc (v := y9) (lv' := [(3, .int y9), (2, .int 0), (4, .int y4), (0, .ref (g.2.2.1 v)), (1, .int p1)]) hx hb dX7_countUp_64 hl (k := 4) rfl (by rw [ey9]; rfl) (by decide) rfl (fun ls hl => ?_)
                refine lv_goto (tgt := 4) hx hb dX7_countUp_67 (by decide) ?_
                have cs_ := cu_step (i := i) (d := ((mDig u (r9 - 1) i) + 0)) hu hr1 h1r (by omega) (Or.inr ⟨c3, by omega⟩)
                have cq_ := cs_.2 (by omega)
                exact ih4 (i + 1) 0 y9 gz8 h7 _ _ _ w (lv_sub hl [3, 4, 1, 0] rfl) (by omega) (Or.inr ⟨rfl, cq_.2⟩) ty9 (hgd.up (by rw [cq_.1]; exact ty4) egz8) V hfr (by omega)
              · have c6 : ¬ (((0 : Nat) : Int) = (0 : Int)) := fun q => c6 ((i_eq (by decide : (0 : Int32).toInt = ((0 : Nat) : Int)) (rfl : (0 : Int32).toInt = 0)).mpr q)
                exfalso; omega
            · have c5 : ((((mDig u (r9 - 1) i) + 0) : Nat) : Int) = (((mB u) : Nat) : Int) := (i_eq ty4 (mB_i u)).mp c5
              refine lv_iconst (v := 1) hx hb dX7_countUp_40 (by decide) ?_
              refine lv_goto (tgt := 45) hx hb dX7_countUp_41 (by decide) ?_
              refine lv_istore_n (lv' := [(2, .int 1), (4, .int y4), (0, .ref (g.2.2.1 v)), (1, .int p1), (3, .int x3)]) hx hb dX7_countUp_45 rfl hl (by decide) rfl (fun ls hl => ?_)
              refine lv_aload_n hx hb dX7_countUp_46 rfl (lv_at hl 2 rfl) ?_
              refine r_getV hx hb hts ⟨inX7_countUp_X0, inX7_countUp_X4, inX7_countUp_X6⟩ hown w V.1.2 (by have := V.1.1; omega) V.2.1 5 (by decide) (hts (Cond.fieldLink RX7 36 "EarlyValues$View" "digits" "[[I") (List.mem_of_getElem? (i := 1) (by decide +kernel))) rfl rfl dX7_countUp_47 ?_
              refine lv_iload_n hx hb dX7_countUp_50 rfl (lv_at hl 4 rfl) ?_
              refine r_aald (t := 4) (j := i) hx hb w (by decide) (by have := V.1.1; omega) V.2.2.1 hx3 (by omega) (rowsF_in (by omega)) dX7_countUp_51 ?_
              refine lv_iload_n hx hb dX7_countUp_52 rfl (lv_at hl 3 rfl) ?_
              refine lv_iload_n hx hb dX7_countUp_53 rfl (lv_at hl 0 rfl) ?_
              refine lv_if_eq (tgt := 61) hx hb dX7_countUp_54 (by decide) (fun c10 => ?_) (fun c10 => ?_)
              · have c10 : ((1 : Nat) : Int) = (0 : Int) := (i_eq (by decide : (1 : Int32).toInt = ((1 : Nat) : Int)) (rfl : (0 : Int32).toInt = 0)).mp c10
                exfalso; omega
              · have c10 : ¬ (((1 : Nat) : Int) = (0 : Int)) := fun q => c10 ((i_eq (by decide : (1 : Int32).toInt = ((1 : Nat) : Int)) (rfl : (0 : Int32).toInt = 0)).mpr q)
                refine lv_iconst (v := 0) hx hb dX7_countUp_57 (by decide) ?_
                refine lv_goto (tgt := 63) hx hb dX7_countUp_58 (by decide) ?_
                refine r_iast (j := r9) hx hb w (by have := V.1.1; omega) (V.2.2.2 i (by omega)) hp1 (by omega) dX7_countUp_63 (fun h11 H locs eh11 w => ?_)
                have V := V.s5 (i := i) (by omega) eh11
                generalize egz12 : va_up gd1 i (upd (gd1 i) r9 0) = gz12 at V
                have hfr : ∀ k_, ¬ (v + 5 ≤ k_ ∧ k_ < v + 8) → h11 k_ = h k_ := fun k_ hk_ => by rw [eh11, va_up_ne _ _ (by omega)]; exact hfr k_ hk_
                obtain ⟨y13, ey13⟩ : ∃ y : Int32, y = x3 + (1) := ⟨_, rfl⟩
                have ty13 : y13.toInt = (((i + 1) : Nat) : Int) := i_addN ey13 hx3 (by decide : (1 : Int32).toInt = ((1 : Nat) : Int)) (by omega)
                refine lv_iinc (v := y13) (lv' := [(3, .int y13), (2, .int 1), (4, .int y4), (0, .ref (g.2.2.1 v)), (1, .int p1)]) hx hb dX7_countUp_64 hl (k := 4) rfl (by rw [ey13]; rfl) (by decide) rfl (fun ls hl => ?_)
                refine lv_goto (tgt := 4) hx hb dX7_countUp_67 (by decide) ?_
                have cs_ := cu_step (i := i) (d := ((mDig u (r9 - 1) i) + 0)) hu hr1 h1r (by omega) (Or.inr ⟨c3, by omega⟩)
                have cq_ := cs_.1 (by omega)
                exact ih4 (i + 1) 1 y13 gz12 h11 _ _ _ w (lv_sub hl [3, 4, 1, 0] rfl) (by omega) (Or.inl ⟨rfl, cq_.2⟩) ty13 (hgd.up (by rw [cq_.1]; rfl) egz12) V hfr (by omega)
          · have c3 := hx2.ne c3
            refine lv_iconst (v := 1) hx hb dX7_countUp_23 (by decide) ?_
            refine lv_goto (tgt := 28) hx hb dX7_countUp_24 (by decide) ?_
            refine lv_iadd hx hb dX7_countUp_28 ?_
            refine lv_topi (fun y14 ey14 => ?_)
            have ty14 : y14.toInt = ((((mDig u (r9 - 1) i) + 1) : Nat) : Int) := i_addN ey14 (hgd i (r9 - 1) (by omega) (Or.inl (by omega))) (by decide : (1 : Int32).toInt = ((1 : Nat) : Int)) (by omega)
            refine lv_istore (lv' := [(4, .int y14), (0, .ref (g.2.2.1 v)), (1, .int p1), (2, .int x2), (3, .int x3)]) hx hb dX7_countUp_29 hl (by decide) rfl (fun ls hl => ?_)
            refine lv_iload hx hb dX7_countUp_31 (lv_at hl 0 rfl) ?_
            refine lv_aload_n hx hb dX7_countUp_33 rfl (lv_at hl 1 rfl) ?_
            refine r_getV hx hb hts ⟨inX7_countUp_X0, inX7_countUp_X4, inX7_countUp_X6⟩ hown w V.1.2 (by have := V.1.1; omega) V.2.1 0 (by decide) (hts (Cond.fieldLink RX7 21 "EarlyValues$View" "base" "I") (List.mem_of_getElem? (i := 2) (by decide +kernel))) rfl rfl dX7_countUp_34 ?_
            refine lv_icmp_ne (tgt := 44) hx hb dX7_countUp_37 (by decide) (fun c15 => ?_) (fun c15 => ?_)
            · have c15 : ¬ (((((mDig u (r9 - 1) i) + 1) : Nat) : Int) = (((mB u) : Nat) : Int)) := fun q => c15 ((i_eq ty14 (mB_i u)).mpr q)
              refine lv_iconst (v := 0) hx hb dX7_countUp_44 (by decide) ?_
              refine lv_istore_n (lv' := [(2, .int 0), (4, .int y14), (0, .ref (g.2.2.1 v)), (1, .int p1), (3, .int x3)]) hx hb dX7_countUp_45 rfl hl (by decide) rfl (fun ls hl => ?_)
              refine lv_aload_n hx hb dX7_countUp_46 rfl (lv_at hl 2 rfl) ?_
              refine r_getV hx hb hts ⟨inX7_countUp_X0, inX7_countUp_X4, inX7_countUp_X6⟩ hown w V.1.2 (by have := V.1.1; omega) V.2.1 5 (by decide) (hts (Cond.fieldLink RX7 36 "EarlyValues$View" "digits" "[[I") (List.mem_of_getElem? (i := 1) (by decide +kernel))) rfl rfl dX7_countUp_47 ?_
              refine lv_iload_n hx hb dX7_countUp_50 rfl (lv_at hl 4 rfl) ?_
              refine r_aald (t := 4) (j := i) hx hb w (by decide) (by have := V.1.1; omega) V.2.2.1 hx3 (by omega) (rowsF_in (by omega)) dX7_countUp_51 ?_
              refine lv_iload_n hx hb dX7_countUp_52 rfl (lv_at hl 3 rfl) ?_
              refine lv_iload_n hx hb dX7_countUp_53 rfl (lv_at hl 0 rfl) ?_
              refine lv_if_eq (tgt := 61) hx hb dX7_countUp_54 (by decide) (fun c16 => ?_) (fun c16 => ?_)
              · have c16 : ((0 : Nat) : Int) = (0 : Int) := (i_eq (by decide : (0 : Int32).toInt = ((0 : Nat) : Int)) (rfl : (0 : Int32).toInt = 0)).mp c16
                refine lv_iload hx hb dX7_countUp_61 (lv_at hl 1 rfl) ?_
                refine r_iast (j := r9) hx hb w (by have := V.1.1; omega) (V.2.2.2 i (by omega)) hp1 (by omega) dX7_countUp_63 (fun h17 H locs eh17 w => ?_)
                have V := V.s5 (i := i) (by omega) eh17
                generalize egz18 : va_up gd1 i (upd (gd1 i) r9 y14) = gz18 at V
                have hfr : ∀ k_, ¬ (v + 5 ≤ k_ ∧ k_ < v + 8) → h17 k_ = h k_ := fun k_ hk_ => by rw [eh17, va_up_ne _ _ (by omega)]; exact hfr k_ hk_
                obtain ⟨y19, ey19⟩ : ∃ y : Int32, y = x3 + (1) := ⟨_, rfl⟩
                have ty19 : y19.toInt = (((i + 1) : Nat) : Int) := i_addN ey19 hx3 (by decide : (1 : Int32).toInt = ((1 : Nat) : Int)) (by omega)
                refine lv_iinc (v := y19) (lv' := [(3, .int y19), (2, .int 0), (4, .int y14), (0, .ref (g.2.2.1 v)), (1, .int p1)]) hx hb dX7_countUp_64 hl (k := 4) rfl (by rw [ey19]; rfl) (by decide) rfl (fun ls hl => ?_)
                refine lv_goto (tgt := 4) hx hb dX7_countUp_67 (by decide) ?_
                have cs_ := cu_step (i := i) (d := ((mDig u (r9 - 1) i) + 1)) hu hr1 h1r (by omega) (Or.inl ⟨c3, by omega⟩)
                have cq_ := cs_.2 (by omega)
                exact ih4 (i + 1) 0 y19 gz18 h17 _ _ _ w (lv_sub hl [3, 4, 1, 0] rfl) (by omega) (Or.inr ⟨rfl, cq_.2⟩) ty19 (hgd.up (by rw [cq_.1]; exact ty14) egz18) V hfr (by omega)
              · have c16 : ¬ (((0 : Nat) : Int) = (0 : Int)) := fun q => c16 ((i_eq (by decide : (0 : Int32).toInt = ((0 : Nat) : Int)) (rfl : (0 : Int32).toInt = 0)).mpr q)
                exfalso; omega
            · have c15 : ((((mDig u (r9 - 1) i) + 1) : Nat) : Int) = (((mB u) : Nat) : Int) := (i_eq ty14 (mB_i u)).mp c15
              refine lv_iconst (v := 1) hx hb dX7_countUp_40 (by decide) ?_
              refine lv_goto (tgt := 45) hx hb dX7_countUp_41 (by decide) ?_
              refine lv_istore_n (lv' := [(2, .int 1), (4, .int y14), (0, .ref (g.2.2.1 v)), (1, .int p1), (3, .int x3)]) hx hb dX7_countUp_45 rfl hl (by decide) rfl (fun ls hl => ?_)
              refine lv_aload_n hx hb dX7_countUp_46 rfl (lv_at hl 2 rfl) ?_
              refine r_getV hx hb hts ⟨inX7_countUp_X0, inX7_countUp_X4, inX7_countUp_X6⟩ hown w V.1.2 (by have := V.1.1; omega) V.2.1 5 (by decide) (hts (Cond.fieldLink RX7 36 "EarlyValues$View" "digits" "[[I") (List.mem_of_getElem? (i := 1) (by decide +kernel))) rfl rfl dX7_countUp_47 ?_
              refine lv_iload_n hx hb dX7_countUp_50 rfl (lv_at hl 4 rfl) ?_
              refine r_aald (t := 4) (j := i) hx hb w (by decide) (by have := V.1.1; omega) V.2.2.1 hx3 (by omega) (rowsF_in (by omega)) dX7_countUp_51 ?_
              refine lv_iload_n hx hb dX7_countUp_52 rfl (lv_at hl 3 rfl) ?_
              refine lv_iload_n hx hb dX7_countUp_53 rfl (lv_at hl 0 rfl) ?_
              refine lv_if_eq (tgt := 61) hx hb dX7_countUp_54 (by decide) (fun c20 => ?_) (fun c20 => ?_)
              · have c20 : ((1 : Nat) : Int) = (0 : Int) := (i_eq (by decide : (1 : Int32).toInt = ((1 : Nat) : Int)) (rfl : (0 : Int32).toInt = 0)).mp c20
                exfalso; omega
              · have c20 : ¬ (((1 : Nat) : Int) = (0 : Int)) := fun q => c20 ((i_eq (by decide : (1 : Int32).toInt = ((1 : Nat) : Int)) (rfl : (0 : Int32).toInt = 0)).mpr q)
                refine lv_iconst (v := 0) hx hb dX7_countUp_57 (by decide) ?_
                refine lv_goto (tgt := 63) hx hb dX7_countUp_58 (by decide) ?_
                refine r_iast (j := r9) hx hb w (by have := V.1.1; omega) (V.2.2.2 i (by omega)) hp1 (by omega) dX7_countUp_63 (fun h21 H locs eh21 w => ?_)
                have V := V.s5 (i := i) (by omega) eh21
                generalize egz22 : va_up gd1 i (upd (gd1 i) r9 0) = gz22 at V
                have hfr : ∀ k_, ¬ (v + 5 ≤ k_ ∧ k_ < v + 8) → h21 k_ = h k_ := fun k_ hk_ => by rw [eh21, va_up_ne _ _ (by omega)]; exact hfr k_ hk_
                obtain ⟨y23, ey23⟩ : ∃ y : Int32, y = x3 + (1) := ⟨_, rfl⟩
                have ty23 : y23.toInt = (((i + 1) : Nat) : Int) := i_addN ey23 hx3 (by decide : (1 : Int32).toInt = ((1 : Nat) : Int)) (by omega)
                refine lv_iinc (v := y23) (lv' := [(3, .int y23), (2, .int 1), (4, .int y14), (0, .ref (g.2.2.1 v)), (1, .int p1)]) hx hb dX7_countUp_64 hl (k := 4) rfl (by rw [ey23]; rfl) (by decide) rfl (fun ls hl => ?_)
                refine lv_goto (tgt := 4) hx hb dX7_countUp_67 (by decide) ?_
                have cs_ := cu_step (i := i) (d := ((mDig u (r9 - 1) i) + 1)) hu hr1 h1r (by omega) (Or.inl ⟨c3, by omega⟩)
                have cq_ := cs_.1 (by omega)
                exact ih4 (i + 1) 1 y23 gz22 h21 _ _ _ w (lv_sub hl [3, 4, 1, 0] rfl) (by omega) (Or.inl ⟨rfl, cq_.2⟩) ty23 (hgd.up (by rw [cq_.1]; rfl) egz22) V hfr (by omega)
  have ih4 := cuts (10)
  refine lv_iconst (v := 1) hx hb dX7_countUp_0 (by decide) ?_
  refine lv_istore_n (lv' := [(2, .int 1), (0, .ref (g.2.2.1 v)), (1, .int p1)]) hx hb dX7_countUp_1 rfl hl (by decide) rfl (fun ls hl => ?_)
  refine lv_iconst (v := 0) hx hb dX7_countUp_2 (by decide) ?_
  refine lv_istore_n (lv' := [(3, .int 0), (2, .int 1), (0, .ref (g.2.2.1 v)), (1, .int p1)]) hx hb dX7_countUp_3 rfl hl (by decide) rfl (fun ls hl => ?_)
  exact ih4 0 1 0 gd h _ _ _ w (lv_sub hl [2, 3, 1, 0] rfl) (Nat.zero_le _) (Or.inl ⟨rfl, by rw [Nat.pow_zero]; exact Nat.mod_one _⟩) ((by decide : (0 : Int32).toInt = ((0 : Nat) : Int))) hg0 V (fun _ _ => rfl) (by omega)

theorem inX7_init_X0 : ∀ w ∈ wsX00, w ∈ wsX7_init := by decide +kernel
theorem inX7_init_X4 : ∀ w ∈ wsX40, w ∈ wsX7_init := by decide +kernel
theorem inX7_init_X6 : ∀ w ∈ wsX60, w ∈ wsX7_init := by decide +kernel
abbrev rm_X7_init (u : Nat) : Room := { frames := 1, cells := 17, slots := 42 + 11 * mR u, locals := 24 }
set_option maxHeartbeats 8000000 in
set_option maxRecDepth 100000 in
theorem c_X7_init (l : Launch) {g0 : GE} {h0 : Nat → va_E} {sz v : Nat} {u : Nat} (hu : u < 3) (ho : v + 1 = g0.2.2.2) (hO : h0 v = .inr (mCi u, [.int 0, .int 0, .int 0, .int 0, .null, .null, .null, .null, .int 0, .int 0, .null, .null, .int 0])) : MN l yX7_init wsX7_init (rm_X7_init u) [.ref (g0.2.2.1 v), .int ((nI (mB u))), .int ((nI (mN u))), .int ((nI (mZ u))), .int ((nI (mO u)))] g0 h0 sz (fun u_ : GE × (Nat → va_E) => (fun g2 h2 => g2.2.2.2 = v + 18 ∧ (∀ k, k < v → h2 k = h0 k) ∧ VwZ g2 h2 v u) u_.1 u_.2) (17) (42 + 11 * mR u) := by
  refine Met.ofW (cc := cX7_init) (maxL := 7) (ret := none) (by decide) rfl ?_
  intro p e s m args below meth c s₁ B hml hv
  obtain ⟨rfl, hPN⟩ := hv
  have hx := B.exec
  have hb := B.bytes
  have hr := B.returns
  have hts := atoms_spec (ws := wsX7_init) B.pre
  have hown : s.vm.findClass RX7 = some m.cls := findClass_of_methodNamed B.named
  have hlocks := B.notSynchronized
  have hin2 : meth.name = "<init>" := (name_of_methodNamed B.named B.method).1
  have hsz : s.heap.size = sz := hPN.1
  subst hsz
  obtain ⟨w, hX, hA⟩ := hPN.start
  have hl := lv_entry ([.ref (g0.2.2.1 v), .int ((nI (mB u))), .int ((nI (mN u))), .int ((nI (mZ u))), .int ((nI (mO u)))]) (n := 7) (Nat.le_of_ble_eq_true rfl)
  rw [lg_entry_eq]
  generalize (lg_sl ([.ref (g0.2.2.1 v), .int ((nI (mB u))), .int ((nI (mN u))), .int ((nI (mZ u))), .int ((nI (mO u)))]) ++ List.replicate (7 - (lg_sl ([.ref (g0.2.2.1 v), .int ((nI (mB u))), .int ((nI (mN u))), .int ((nI (mZ u))), .int ((nI (mO u)))])).length) Slot.unset).toArray = ls at hl ⊢
  have hl : lv_has ls 7 [(0, .ref (g0.2.2.1 v)), (1, .int ((nI (mB u)))), (2, .int ((nI (mN u)))), (3, .int ((nI (mZ u)))), (4, .int ((nI (mO u))))] := hl
  obtain ⟨g, hg9⟩ : ∃ g_ : GE, g_ = g0 := ⟨_, rfl⟩
  obtain ⟨h, hh9⟩ : ∃ h_ : Nat → va_E, h_ = h0 := ⟨_, rfl⟩
  have hfr : ∀ k_, k_ < v → h k_ = h0 k_ := fun _ _ => by rw [hh9]
  have hE0 : Ext g0 g := by rw [hg9]; exact Ext.rf
  have w : WD g (inA g0 s.heap.size) s h s.heap [] := by rw [hg9, hh9]; exact w
  have hl : lv_has ls 7 [(0, .ref (g.2.2.1 v)), (1, .int ((nI (mB u)))), (2, .int ((nI (mN u)))), (3, .int ((nI (mZ u)))), (4, .int ((nI (mO u))))] := by rw [hg9]; exact hl
  have hO : h v = .inr (mCi u, [.int 0, .int 0, .int 0, .int 0, .null, .null, .null, .null, .int 0, .int 0, .null, .null, .int 0]) := by rw [hh9]; (try rw [hg9]); exact hO
  have hN : g.2.2.2 = v + 1 := by rw [hg9]; omega
  refine lv_aload_n hx hb dX7_init_0 rfl (lv_at hl 0 rfl) ?_
  refine W.objInit hx hb hown (hts (Cond.methodLink RX7 1 objectInit) (List.mem_of_getElem? (i := 1) (by decide +kernel))) (hts (Cond.instanceMethod objectInit) (List.mem_of_getElem? (i := 2) (by decide +kernel))) (hts (Cond.code objectInit ⟨#[0xb1]⟩ 1 none) (List.mem_of_getElem? (i := 3) (by decide +kernel))) rfl (by rw [hml]; exact hl.1) rfl dX7_init_1 (Nat.le_of_ble_eq_true rfl) (Nat.le_of_ble_eq_true rfl) ?_
  refine W.eq (g2 := F0 m 4 ls []) rfl ?_
  refine lv_aload_n hx hb dX7_init_4 rfl (lv_at hl 0 rfl) ?_
  refine lv_iconst (v := 4) hx hb dX7_init_5 (by decide) ?_
  refine r_newi hx hb (hts (Cond.arrayClass .int) (List.mem_of_getElem? (i := 4) (by decide +kernel))) w hA (by decide : (4 : Int32).toInt = ((4 : Nat) : Int)) (Nat.le_of_ble_eq_true rfl) (Nat.le_of_ble_eq_true rfl) (by show _ ≤ 42 + 11 * mR u; omega) dX7_init_6 (fun g1 h2 H hEk3 hNk3 hfk3 hck3 w2_ => ?_)
  replace w := w2_
  clear w2_
  rw [hN] at hck3 hNk3 hfk3
  rw [hN]
  rw [← hEk3.at (k := v) (by omega)]
  replace hl : lv_has ls 7 [(0, .ref (g1.2.2.1 v)), (1, .int ((nI (mB u)))), (2, .int ((nI (mN u)))), (3, .int ((nI (mZ u)))), (4, .int ((nI (mO u))))] := by rw [hEk3.at (k := v) (by omega)]; exact hl
  replace hO : h2 v = .inr (mCi u, [.int 0, .int 0, .int 0, .int 0, .null, .null, .null, .null, .int 0, .int 0, .null, .null, .int 0]) := by rw [hfk3 _ (by omega), hO]
  replace hfr : ∀ k_, k_ < v → h2 k_ = h0 k_ := fun k_ hk_ => (hfk3 k_ (by omega)).trans (hfr k_ hk_)
  replace hE0 := hE0.trans hEk3
  clear hEk3 hfk3
  replace hN : g1.2.2.2 = v + 2 := by omega
  clear hNk3
  refine r_putVF (ty := .array .int) hx hb hts ⟨inX7_init_X0, inX7_init_X4, inX7_init_X6⟩ hown w hu (by omega) hO 4 (by decide) (hts (Cond.fieldLink RX7 9 "EarlyValues$View" "powers" "[I") (List.mem_of_getElem? (i := 5) (by decide +kernel))) rfl rfl hin2 rfl (by decide +kernel) rfl rfl (Nat.le_of_ble_eq_true rfl) dX7_init_8 (fun h4 H locs eh4 w2_ => ?_)
  replace w := w2_
  clear w2_
  replace hO : h4 v = .inr (mCi u, [.int 0, .int 0, .int 0, .int 0, .ref (g1.2.2.1 (v + 1)), .null, .null, .null, .int 0, .int 0, .null, .null, .int 0]) := by rw [eh4, va_up_self]; (try rfl)
  replace hck3 : h4 (v + 1) = .inl (g1.2.1 0, 4, .inl ((fun _ => 0))) := by rw [eh4, va_up_ne _ _ (by omega)]; exact hck3
  replace hfr : ∀ k_, k_ < v → h4 k_ = h0 k_ := fun k_ hk_ => by rw [eh4, va_up_ne _ _ (by omega)]; exact hfr k_ hk_
  refine lv_aload_n hx hb dX7_init_11 rfl (lv_at hl 0 rfl) ?_
  refine lv_iconst (v := 3) hx hb dX7_init_12 (by decide) ?_
  refine r_newi hx hb (hts (Cond.arrayClass .int) (List.mem_of_getElem? (i := 4) (by decide +kernel))) w hA (by decide : (3 : Int32).toInt = ((3 : Nat) : Int)) (Nat.le_of_ble_eq_true rfl) (Nat.le_of_ble_eq_true rfl) (by show _ ≤ 42 + 11 * mR u; omega) dX7_init_13 (fun g5 h6 H hEk7 hNk7 hfk7 hck7 w2_ => ?_)
  replace w := w2_
  clear w2_
  rw [hN] at hck7 hNk7 hfk7
  rw [hN]
  rw [← hEk7.at (k := v) (by omega)]
  replace hl : lv_has ls 7 [(0, .ref (g5.2.2.1 v)), (1, .int ((nI (mB u)))), (2, .int ((nI (mN u)))), (3, .int ((nI (mZ u)))), (4, .int ((nI (mO u))))] := by rw [hEk7.at (k := v) (by omega)]; exact hl
  replace hO : h6 v = .inr (mCi u, [.int 0, .int 0, .int 0, .int 0, .ref (g5.2.2.1 (v + 1)), .null, .null, .null, .int 0, .int 0, .null, .null, .int 0]) := by rw [hfk7 _ (by omega), hO, hEk7.at (k := (v + 1)) (by omega)]
  replace hck3 : h6 (v + 1) = .inl (g5.2.1 0, 4, .inl ((fun _ => 0))) := by rw [hfk7 _ (by omega), hck3, hEk7.ct 0]
  replace hfr : ∀ k_, k_ < v → h6 k_ = h0 k_ := fun k_ hk_ => (hfk7 k_ (by omega)).trans (hfr k_ hk_)
  replace hE0 := hE0.trans hEk7
  clear hEk7 hfk7
  replace hN : g5.2.2.2 = v + 3 := by omega
  clear hNk7
  refine r_putVF (ty := .array .int) hx hb hts ⟨inX7_init_X0, inX7_init_X4, inX7_init_X6⟩ hown w hu (by omega) hO 10 (by decide) (hts (Cond.fieldLink RX7 15 "EarlyValues$View" "given" "[I") (List.mem_of_getElem? (i := 6) (by decide +kernel))) rfl rfl hin2 rfl (by decide +kernel) rfl rfl (Nat.le_of_ble_eq_true rfl) dX7_init_15 (fun h8 H locs eh8 w2_ => ?_)
  replace w := w2_
  clear w2_
  replace hO : h8 v = .inr (mCi u, [.int 0, .int 0, .int 0, .int 0, .ref (g5.2.2.1 (v + 1)), .null, .null, .null, .int 0, .int 0, .ref (g5.2.2.1 (v + 2)), .null, .int 0]) := by rw [eh8, va_up_self]; (try rfl)
  replace hck3 : h8 (v + 1) = .inl (g5.2.1 0, 4, .inl ((fun _ => 0))) := by rw [eh8, va_up_ne _ _ (by omega)]; exact hck3
  replace hck7 : h8 (v + 2) = .inl (g5.2.1 0, 3, .inl ((fun _ => 0))) := by rw [eh8, va_up_ne _ _ (by omega)]; exact hck7
  replace hfr : ∀ k_, k_ < v → h8 k_ = h0 k_ := fun k_ hk_ => by rw [eh8, va_up_ne _ _ (by omega)]; exact hfr k_ hk_
  refine lv_aload_n hx hb dX7_init_18 rfl (lv_at hl 0 rfl) ?_
  refine lv_bipush (v := 24) hx hb dX7_init_19 (by decide) ?_
  refine r_newi hx hb (hts (Cond.arrayClass .int) (List.mem_of_getElem? (i := 4) (by decide +kernel))) w hA (by decide : (24 : Int32).toInt = ((24 : Nat) : Int)) (Nat.le_of_ble_eq_true rfl) (Nat.le_of_ble_eq_true rfl) (by show _ ≤ 42 + 11 * mR u; omega) dX7_init_21 (fun g9 h10 H hEk11 hNk11 hfk11 hck11 w2_ => ?_)
  replace w := w2_
  clear w2_
  rw [hN] at hck11 hNk11 hfk11
  rw [hN]
  rw [← hEk11.at (k := v) (by omega)]
  replace hl : lv_has ls 7 [(0, .ref (g9.2.2.1 v)), (1, .int ((nI (mB u)))), (2, .int ((nI (mN u)))), (3, .int ((nI (mZ u)))), (4, .int ((nI (mO u))))] := by rw [hEk11.at (k := v) (by omega)]; exact hl
  replace hO : h10 v = .inr (mCi u, [.int 0, .int 0, .int 0, .int 0, .ref (g9.2.2.1 (v + 1)), .null, .null, .null, .int 0, .int 0, .ref (g9.2.2.1 (v + 2)), .null, .int 0]) := by rw [hfk11 _ (by omega), hO, hEk11.at (k := (v + 1)) (by omega), hEk11.at (k := (v + 2)) (by omega)]
  replace hck3 : h10 (v + 1) = .inl (g9.2.1 0, 4, .inl ((fun _ => 0))) := by rw [hfk11 _ (by omega), hck3, hEk11.ct 0]
  replace hck7 : h10 (v + 2) = .inl (g9.2.1 0, 3, .inl ((fun _ => 0))) := by rw [hfk11 _ (by omega), hck7, hEk11.ct 0]
  replace hfr : ∀ k_, k_ < v → h10 k_ = h0 k_ := fun k_ hk_ => (hfk11 k_ (by omega)).trans (hfr k_ hk_)
  replace hE0 := hE0.trans hEk11
  clear hEk11 hfk11
  replace hN : g9.2.2.2 = v + 4 := by omega
  clear hNk11
  refine r_putVF (ty := .array .int) hx hb hts ⟨inX7_init_X0, inX7_init_X4, inX7_init_X6⟩ hown w hu (by omega) hO 11 (by decide) (hts (Cond.fieldLink RX7 18 "EarlyValues$View" "stack" "[I") (List.mem_of_getElem? (i := 7) (by decide +kernel))) rfl rfl hin2 rfl (by decide +kernel) rfl rfl (Nat.le_of_ble_eq_true rfl) dX7_init_23 (fun h12 H locs eh12 w2_ => ?_)
  replace w := w2_
  clear w2_
  replace hO : h12 v = .inr (mCi u, [.int 0, .int 0, .int 0, .int 0, .ref (g9.2.2.1 (v + 1)), .null, .null, .null, .int 0, .int 0, .ref (g9.2.2.1 (v + 2)), .ref (g9.2.2.1 (v + 3)), .int 0]) := by rw [eh12, va_up_self]; (try rfl)
  replace hck3 : h12 (v + 1) = .inl (g9.2.1 0, 4, .inl ((fun _ => 0))) := by rw [eh12, va_up_ne _ _ (by omega)]; exact hck3
  replace hck7 : h12 (v + 2) = .inl (g9.2.1 0, 3, .inl ((fun _ => 0))) := by rw [eh12, va_up_ne _ _ (by omega)]; exact hck7
  replace hck11 : h12 (v + 3) = .inl (g9.2.1 0, 24, .inl ((fun _ => 0))) := by rw [eh12, va_up_ne _ _ (by omega)]; exact hck11
  replace hfr : ∀ k_, k_ < v → h12 k_ = h0 k_ := fun k_ hk_ => by rw [eh12, va_up_ne _ _ (by omega)]; exact hfr k_ hk_
  refine lv_aload_n hx hb dX7_init_26 rfl (lv_at hl 0 rfl) ?_
  refine lv_iload_n hx hb dX7_init_27 rfl (lv_at hl 1 rfl) ?_
  refine r_putVF (ty := .int) hx hb hts ⟨inX7_init_X0, inX7_init_X4, inX7_init_X6⟩ hown w hu (by omega) hO 0 (by decide) (hts (Cond.fieldLink RX7 21 "EarlyValues$View" "base" "I") (List.mem_of_getElem? (i := 8) (by decide +kernel))) rfl rfl hin2 rfl (by decide +kernel) rfl rfl (Nat.le_of_ble_eq_true rfl) dX7_init_28 (fun h13 H locs eh13 w2_ => ?_)
  replace w := w2_
  clear w2_
  replace hO : h13 v = .inr (mCi u, [.int ((nI (mB u))), .int 0, .int 0, .int 0, .ref (g9.2.2.1 (v + 1)), .null, .null, .null, .int 0, .int 0, .ref (g9.2.2.1 (v + 2)), .ref (g9.2.2.1 (v + 3)), .int 0]) := by rw [eh13, va_up_self]; (try rfl)
  replace hck3 : h13 (v + 1) = .inl (g9.2.1 0, 4, .inl ((fun _ => 0))) := by rw [eh13, va_up_ne _ _ (by omega)]; exact hck3
  replace hck7 : h13 (v + 2) = .inl (g9.2.1 0, 3, .inl ((fun _ => 0))) := by rw [eh13, va_up_ne _ _ (by omega)]; exact hck7
  replace hck11 : h13 (v + 3) = .inl (g9.2.1 0, 24, .inl ((fun _ => 0))) := by rw [eh13, va_up_ne _ _ (by omega)]; exact hck11
  replace hfr : ∀ k_, k_ < v → h13 k_ = h0 k_ := fun k_ hk_ => by rw [eh13, va_up_ne _ _ (by omega)]; exact hfr k_ hk_
  refine lv_aload_n hx hb dX7_init_31 rfl (lv_at hl 0 rfl) ?_
  refine lv_iload_n hx hb dX7_init_32 rfl (lv_at hl 2 rfl) ?_
  refine r_putVF (ty := .int) hx hb hts ⟨inX7_init_X0, inX7_init_X4, inX7_init_X6⟩ hown w hu (by omega) hO 1 (by decide) (hts (Cond.fieldLink RX7 25 "EarlyValues$View" "never" "I") (List.mem_of_getElem? (i := 9) (by decide +kernel))) rfl rfl hin2 rfl (by decide +kernel) rfl rfl (Nat.le_of_ble_eq_true rfl) dX7_init_33 (fun h14 H locs eh14 w2_ => ?_)
  replace w := w2_
  clear w2_
  replace hO : h14 v = .inr (mCi u, [.int ((nI (mB u))), .int ((nI (mN u))), .int 0, .int 0, .ref (g9.2.2.1 (v + 1)), .null, .null, .null, .int 0, .int 0, .ref (g9.2.2.1 (v + 2)), .ref (g9.2.2.1 (v + 3)), .int 0]) := by rw [eh14, va_up_self]; (try rfl)
  replace hck3 : h14 (v + 1) = .inl (g9.2.1 0, 4, .inl ((fun _ => 0))) := by rw [eh14, va_up_ne _ _ (by omega)]; exact hck3
  replace hck7 : h14 (v + 2) = .inl (g9.2.1 0, 3, .inl ((fun _ => 0))) := by rw [eh14, va_up_ne _ _ (by omega)]; exact hck7
  replace hck11 : h14 (v + 3) = .inl (g9.2.1 0, 24, .inl ((fun _ => 0))) := by rw [eh14, va_up_ne _ _ (by omega)]; exact hck11
  replace hfr : ∀ k_, k_ < v → h14 k_ = h0 k_ := fun k_ hk_ => by rw [eh14, va_up_ne _ _ (by omega)]; exact hfr k_ hk_
  refine lv_aload_n hx hb dX7_init_36 rfl (lv_at hl 0 rfl) ?_
  refine lv_iload_n hx hb dX7_init_37 rfl (lv_at hl 3 rfl) ?_
  refine r_putVF (ty := .int) hx hb hts ⟨inX7_init_X0, inX7_init_X4, inX7_init_X6⟩ hown w hu (by omega) hO 2 (by decide) (hts (Cond.fieldLink RX7 28 "EarlyValues$View" "zero" "I") (List.mem_of_getElem? (i := 10) (by decide +kernel))) rfl rfl hin2 rfl (by decide +kernel) rfl rfl (Nat.le_of_ble_eq_true rfl) dX7_init_38 (fun h15 H locs eh15 w2_ => ?_)
  replace w := w2_
  clear w2_
  replace hO : h15 v = .inr (mCi u, [.int ((nI (mB u))), .int ((nI (mN u))), .int ((nI (mZ u))), .int 0, .ref (g9.2.2.1 (v + 1)), .null, .null, .null, .int 0, .int 0, .ref (g9.2.2.1 (v + 2)), .ref (g9.2.2.1 (v + 3)), .int 0]) := by rw [eh15, va_up_self]; (try rfl)
  replace hck3 : h15 (v + 1) = .inl (g9.2.1 0, 4, .inl ((fun _ => 0))) := by rw [eh15, va_up_ne _ _ (by omega)]; exact hck3
  replace hck7 : h15 (v + 2) = .inl (g9.2.1 0, 3, .inl ((fun _ => 0))) := by rw [eh15, va_up_ne _ _ (by omega)]; exact hck7
  replace hck11 : h15 (v + 3) = .inl (g9.2.1 0, 24, .inl ((fun _ => 0))) := by rw [eh15, va_up_ne _ _ (by omega)]; exact hck11
  replace hfr : ∀ k_, k_ < v → h15 k_ = h0 k_ := fun k_ hk_ => by rw [eh15, va_up_ne _ _ (by omega)]; exact hfr k_ hk_
  refine lv_aload_n hx hb dX7_init_41 rfl (lv_at hl 0 rfl) ?_
  refine lv_iload hx hb dX7_init_42 (lv_at hl 4 rfl) ?_
  refine r_putVF (ty := .int) hx hb hts ⟨inX7_init_X0, inX7_init_X4, inX7_init_X6⟩ hown w hu (by omega) hO 3 (by decide) (hts (Cond.fieldLink RX7 31 "EarlyValues$View" "one" "I") (List.mem_of_getElem? (i := 11) (by decide +kernel))) rfl rfl hin2 rfl (by decide +kernel) rfl rfl (Nat.le_of_ble_eq_true rfl) dX7_init_44 (fun h16 H locs eh16 w2_ => ?_)
  replace w := w2_
  clear w2_
  replace hO : h16 v = .inr (mCi u, [.int ((nI (mB u))), .int ((nI (mN u))), .int ((nI (mZ u))), .int ((nI (mO u))), .ref (g9.2.2.1 (v + 1)), .null, .null, .null, .int 0, .int 0, .ref (g9.2.2.1 (v + 2)), .ref (g9.2.2.1 (v + 3)), .int 0]) := by rw [eh16, va_up_self]; (try rfl)
  replace hck3 : h16 (v + 1) = .inl (g9.2.1 0, 4, .inl ((fun _ => 0))) := by rw [eh16, va_up_ne _ _ (by omega)]; exact hck3
  replace hck7 : h16 (v + 2) = .inl (g9.2.1 0, 3, .inl ((fun _ => 0))) := by rw [eh16, va_up_ne _ _ (by omega)]; exact hck7
  replace hck11 : h16 (v + 3) = .inl (g9.2.1 0, 24, .inl ((fun _ => 0))) := by rw [eh16, va_up_ne _ _ (by omega)]; exact hck11
  replace hfr : ∀ k_, k_ < v → h16 k_ = h0 k_ := fun k_ hk_ => by rw [eh16, va_up_ne _ _ (by omega)]; exact hfr k_ hk_
  refine lv_aload_n hx hb dX7_init_47 rfl (lv_at hl 0 rfl) ?_
  refine r_getV hx hb hts ⟨inX7_init_X0, inX7_init_X4, inX7_init_X6⟩ hown w hu (by omega) hO 4 (by decide) (hts (Cond.fieldLink RX7 9 "EarlyValues$View" "powers" "[I") (List.mem_of_getElem? (i := 5) (by decide +kernel))) rfl rfl dX7_init_48 ?_
  refine lv_iconst (v := 0) hx hb dX7_init_51 (by decide) ?_
  refine lv_iconst (v := 1) hx hb dX7_init_52 (by decide) ?_
  refine r_iast (j := 0) hx hb w (by omega) hck3 (by decide : (0 : Int32).toInt = ((0 : Nat) : Int)) (by omega) dX7_init_53 (fun h17 H locs eh17 w2_ => ?_)
  obtain ⟨gz18, egz18⟩ : ∃ z_, z_ = upd ((fun _ => 0)) 0 1 := ⟨_, rfl⟩
  rw [← egz18] at eh17
  replace w := w2_
  clear w2_
  replace hO : h17 v = .inr (mCi u, [.int ((nI (mB u))), .int ((nI (mN u))), .int ((nI (mZ u))), .int ((nI (mO u))), .ref (g9.2.2.1 (v + 1)), .null, .null, .null, .int 0, .int 0, .ref (g9.2.2.1 (v + 2)), .ref (g9.2.2.1 (v + 3)), .int 0]) := by rw [eh17, va_up_ne _ _ (by omega)]; exact hO
  replace hck3 : h17 (v + 1) = .inl (g9.2.1 0, 4, .inl gz18) := by rw [eh17, va_up_self]; (try rfl)
  replace hck7 : h17 (v + 2) = .inl (g9.2.1 0, 3, .inl ((fun _ => 0))) := by rw [eh17, va_up_ne _ _ (by omega)]; exact hck7
  replace hck11 : h17 (v + 3) = .inl (g9.2.1 0, 24, .inl ((fun _ => 0))) := by rw [eh17, va_up_ne _ _ (by omega)]; exact hck11
  replace hfr : ∀ k_, k_ < v → h17 k_ = h0 k_ := fun k_ hk_ => by rw [eh17, va_up_ne _ _ (by omega)]; exact hfr k_ hk_
  refine lv_iconst (v := 1) hx hb dX7_init_54 (by decide) ?_
  refine lv_istore (lv' := [(5, .int 1), (0, .ref (g9.2.2.1 v)), (1, .int ((nI (mB u)))), (2, .int ((nI (mN u)))), (3, .int ((nI (mZ u)))), (4, .int ((nI (mO u))))]) hx hb dX7_init_55 hl (by decide) rfl (fun ls hl => ?_)
  refine W.widen (k := 3) (n := 4 + 3 + 24) (by omega) (by omega) ?_
  have cut57 : ∀ N_ : Nat, ∀ (i9 : Nat) (x5 : Int32) (gp1 : Nat → Int32) (hc : Nat → va_E) (H : Heap) (locs : List Loc) (ls : Array Slot), WD g9 (inA g0 s.heap.size) s hc H locs → lv_has ls 7 [(0, .ref (g9.2.2.1 v)), (1, .int ((nI (mB u)))), (5, .int x5)] → (∀ k_, k_ < v → hc k_ = h0 k_) → (hc v = .inr (mCi u, [.int ((nI (mB u))), .int ((nI (mN u))), .int ((nI (mZ u))), .int ((nI (mO u))), .ref (g9.2.2.1 (v + 1)), .null, .null, .null, .int 0, .int 0, .ref (g9.2.2.1 (v + 2)), .ref (g9.2.2.1 (v + 3)), .int 0])) → (hc (v + 1) = .inl (g9.2.1 0, 4, .inl gp1)) → (hc (v + 2) = .inl (g9.2.1 0, 3, .inl ((fun _ => 0)))) → (hc (v + 3) = .inl (g9.2.1 0, 24, .inl ((fun _ => 0)))) → (1 ≤ i9) → (i9 ≤ 4) → (PwQ u gp1 i9) → (x5.toInt = ((i9 : Nat) : Int)) → 5 - i9 < N_ → W p l e (headSpec wsX7_init (rm_X7_init u)).room s m ([.ref (g0.2.2.1 v), .int ((nI (mB u))), .int ((nI (mN u))), .int ((nI (mZ u))), .int ((nI (mO u)))] : List Value).toArray below meth c H locs (3) (4 + 3 + 24) (MQ below (va_Qv (fun w_ : GE × (Nat → va_E) => Ext g0 w_.1 ∧ (fun u_ : GE × (Nat → va_E) => (fun g2 h2 => g2.2.2.2 = v + 18 ∧ (∀ k, k < v → h2 k = h0 k) ∧ VwZ g2 h2 v u) u_.1 u_.2) w_) (fun w_ t => va_P w_.1.1 vwCl (hw w_.1 w_.2) t.heap ∧ va_D (inA g0 s.heap.size) (hw w_.1 w_.2)) (inA g0 s.heap.size)) ([.ref (g0.2.2.1 v), .int ((nI (mB u))), .int ((nI (mN u))), .int ((nI (mZ u))), .int ((nI (mO u)))] : List Value).toArray s (17) (42 + 11 * mR u) (inA g0 s.heap.size)) (F0 m 57 ls []) := by
    intro N_
    induction N_ with
    | zero => intros; omega
    | succ N_ ih57 =>
      intro i9 x5 gp1 hc H locs ls w hl hfr hO hck3 hck7 hck11 h1i hi4 hpw hx5 hN_
      refine lv_iload hx hb dX7_init_57 (lv_at hl 2 rfl) ?_
      refine lv_aload_n hx hb dX7_init_59 rfl (lv_at hl 0 rfl) ?_
      refine r_getV hx hb hts ⟨inX7_init_X0, inX7_init_X4, inX7_init_X6⟩ hown w hu (by omega) hO 4 (by decide) (hts (Cond.fieldLink RX7 9 "EarlyValues$View" "powers" "[I") (List.mem_of_getElem? (i := 5) (by decide +kernel))) rfl rfl dX7_init_60 ?_
      refine r_alen (t := 0) (v := 4) hx hb w (by decide) (by omega) hck3 rfl dX7_init_63 ?_
      refine lv_icmp_ge (tgt := 91) hx hb dX7_init_64 (by decide) (fun c19 => ?_) (fun c19 => ?_)
      · have c19 : ((4 : Nat) : Int) ≤ ((i9 : Nat) : Int) := (i_le (by decide : (4 : Int32).toInt = ((4 : Nat) : Int)) hx5).mp c19
        obtain rfl : i9 = 4 := by omega
        have hpw4_ := hpw
        have hR125_ := mR_le u
        have hRp_ := mR_pos u
        refine lv_aload_n hx hb dX7_init_91 rfl (lv_at hl 0 rfl) ?_
        refine r_getV hx hb hts ⟨inX7_init_X0, inX7_init_X4, inX7_init_X6⟩ hown w hu (by omega) hO 4 (by decide) (hts (Cond.fieldLink RX7 9 "EarlyValues$View" "powers" "[I") (List.mem_of_getElem? (i := 5) (by decide +kernel))) rfl rfl dX7_init_92 ?_
        refine lv_iconst (v := 3) hx hb dX7_init_95 (by decide) ?_
        refine r_iald (j := 3) hx hb w (by omega) hck3 (by decide : (3 : Int32).toInt = ((3 : Nat) : Int)) (by omega) dX7_init_96 ?_
        refine lv_istore (lv' := [(5, .int (gp1 3)), (0, .ref (g9.2.2.1 v)), (1, .int ((nI (mB u))))]) hx hb dX7_init_97 hl (by decide) rfl (fun ls hl => ?_)
        refine lv_aload_n hx hb dX7_init_99 rfl (lv_at hl 1 rfl) ?_
        refine lv_iconst (v := 3) hx hb dX7_init_100 (by decide) ?_
        refine lv_iload hx hb dX7_init_101 (lv_at hl 0 rfl) ?_
        refine r_mn2 (N' := 3) (K' := (mR u)) (t1 := 4) (t2 := 0) (ty := .int) (z := ((mR u), .inl (fun _ => 0))) hx hb hown (by first | exact (hts (Cond.classLink RX7 34 "[[I") (List.mem_of_getElem? (i := 12) (by decide +kernel))) | (rw [show "[" ++ (FieldType.array .int).toString = "[[I" from by decide]; exact (hts (Cond.classLink RX7 34 "[[I") (List.mem_of_getElem? (i := 12) (by decide +kernel))))) hX.1 (hts (Cond.arrayClass .int) (List.mem_of_getElem? (i := 4) (by decide +kernel))) (fc_int w) (fun _ q => ra_ints w q) w hA (by decide : (3 : Int32).toInt = ((3 : Nat) : Int)) (show _ = ((mR u : Nat) : Int) from hpw 3 (by omega)) (Nat.le_of_ble_eq_true rfl) (by have := mR_le u; first | (show mR u * 4 ≤ 536870912; omega) | (show mR u * 1 ≤ 536870912; omega) | (show mR u ≤ 536870912; omega)) (by have := mR_le u; first | (show mR u * 4 ≤ 536870912; omega) | (show mR u * 1 ≤ 536870912; omega) | (show mR u ≤ 536870912; omega)) rfl rfl (Nat.le_of_ble_eq_true rfl) (by show _ ≤ 42 + 11 * mR u; omega) (inner_int _) dX7_init_103 (fun g20 h21 H hEk22 hNk22 hfk22 hck22 hrk22 w2_ => ?_)
        replace w := w2_
        clear w2_
        rw [hN] at hck22 hrk22 hNk22 hfk22
        rw [hN]
        rw [← hEk22.at (k := v) (by omega)]
        replace hl : lv_has ls 7 [(5, .int (gp1 3)), (0, .ref (g20.2.2.1 v)), (1, .int ((nI (mB u))))] := by rw [hEk22.at (k := v) (by omega)]; exact hl
        replace hO : h21 v = .inr (mCi u, [.int ((nI (mB u))), .int ((nI (mN u))), .int ((nI (mZ u))), .int ((nI (mO u))), .ref (g20.2.2.1 (v + 1)), .null, .null, .null, .int 0, .int 0, .ref (g20.2.2.1 (v + 2)), .ref (g20.2.2.1 (v + 3)), .int 0]) := by rw [hfk22 _ (by omega), hO, hEk22.at (k := (v + 1)) (by omega), hEk22.at (k := (v + 2)) (by omega), hEk22.at (k := (v + 3)) (by omega)]
        replace hck3 : h21 (v + 1) = .inl (g20.2.1 0, 4, .inl gp1) := by rw [hfk22 _ (by omega), hck3, hEk22.ct 0]
        replace hck7 : h21 (v + 2) = .inl (g20.2.1 0, 3, .inl ((fun _ => 0))) := by rw [hfk22 _ (by omega), hck7, hEk22.ct 0]
        replace hck11 : h21 (v + 3) = .inl (g20.2.1 0, 24, .inl ((fun _ => 0))) := by rw [hfk22 _ (by omega), hck11, hEk22.ct 0]
        replace hfr : ∀ k_, k_ < v → h21 k_ = h0 k_ := fun k_ hk_ => (hfk22 k_ (by omega)).trans (hfr k_ hk_)
        replace hE0 := hE0.trans hEk22
        clear hEk22 hfk22
        have hck22 : h21 (v + 4) = .inl (g20.2.1 4, 3, .inr (.inr (.inr (.inr (rowsF g20 (v + 5) 3))))) := by rw [hck22]
        have hrk22 : ∀ i, i < 3 → h21 ((v + 5) + i) = .inl (g20.2.1 0, (mR u), .inl (((fun _ _ => 0)) i)) := fun i hi => hrk22 i hi
        replace hN : g20.2.2.2 = v + 8 := by omega
        clear hNk22
        refine r_putVF (ty := .array (.array .int)) hx hb hts ⟨inX7_init_X0, inX7_init_X4, inX7_init_X6⟩ hown w hu (by omega) hO 5 (by decide) (hts (Cond.fieldLink RX7 36 "EarlyValues$View" "digits" "[[I") (List.mem_of_getElem? (i := 13) (by decide +kernel))) rfl rfl hin2 rfl (by decide +kernel) rfl rfl (Nat.le_of_ble_eq_true rfl) dX7_init_107 (fun h23 H locs eh23 w2_ => ?_)
        replace w := w2_
        clear w2_
        replace hO : h23 v = .inr (mCi u, [.int ((nI (mB u))), .int ((nI (mN u))), .int ((nI (mZ u))), .int ((nI (mO u))), .ref (g20.2.2.1 (v + 1)), .ref (g20.2.2.1 (v + 4)), .null, .null, .int 0, .int 0, .ref (g20.2.2.1 (v + 2)), .ref (g20.2.2.1 (v + 3)), .int 0]) := by rw [eh23, va_up_self]; (try rfl)
        replace hck3 : h23 (v + 1) = .inl (g20.2.1 0, 4, .inl gp1) := by rw [eh23, va_up_ne _ _ (by omega)]; exact hck3
        replace hck7 : h23 (v + 2) = .inl (g20.2.1 0, 3, .inl ((fun _ => 0))) := by rw [eh23, va_up_ne _ _ (by omega)]; exact hck7
        replace hck11 : h23 (v + 3) = .inl (g20.2.1 0, 24, .inl ((fun _ => 0))) := by rw [eh23, va_up_ne _ _ (by omega)]; exact hck11
        replace hck22 : h23 (v + 4) = .inl (g20.2.1 4, 3, .inr (.inr (.inr (.inr (rowsF g20 (v + 5) 3))))) := by rw [eh23, va_up_ne _ _ (by omega)]; exact hck22
        replace hrk22 : ∀ i, i < 3 → h23 ((v + 5) + i) = .inl (g20.2.1 0, (mR u), .inl (((fun _ _ => 0)) i)) := fun i hi => by rw [eh23, va_up_ne _ _ (by omega)]; exact hrk22 i hi
        replace hfr : ∀ k_, k_ < v → h23 k_ = h0 k_ := fun k_ hk_ => by rw [eh23, va_up_ne _ _ (by omega)]; exact hfr k_ hk_
        refine lv_iconst (v := 1) hx hb dX7_init_110 (by decide) ?_
        refine lv_istore (lv' := [(6, .int 1), (5, .int (gp1 3)), (0, .ref (g20.2.2.1 v)), (1, .int ((nI (mB u))))]) hx hb dX7_init_111 hl (by decide) rfl (fun ls hl => ?_)
        refine W.widen (k := 7) (n := 4 + 3 + 24 + 3 + 3 * (mR u)) (by omega) (by omega) ?_
        have cut113 : ∀ N_ : Nat, ∀ (r9 : Nat) (x5 : Int32) (x6 : Int32) (gd1 : Nat → Nat → Int32) (hc : Nat → va_E) (H : Heap) (locs : List Loc) (ls : Array Slot), WD g20 (inA g0 s.heap.size) s hc H locs → lv_has ls 7 [(0, .ref (g20.2.2.1 v)), (5, .int x5), (6, .int x6)] → (∀ k_, k_ < v → hc k_ = h0 k_) → (hc v = .inr (mCi u, [.int ((nI (mB u))), .int ((nI (mN u))), .int ((nI (mZ u))), .int ((nI (mO u))), .ref (g20.2.2.1 (v + 1)), .ref (g20.2.2.1 (v + 4)), .null, .null, .int 0, .int 0, .ref (g20.2.2.1 (v + 2)), .ref (g20.2.2.1 (v + 3)), .int 0])) → (hc (v + 1) = .inl (g20.2.1 0, 4, .inl gp1)) → (hc (v + 2) = .inl (g20.2.1 0, 3, .inl ((fun _ => 0)))) → (hc (v + 3) = .inl (g20.2.1 0, 24, .inl ((fun _ => 0)))) → (hc (v + 4) = .inl (g20.2.1 4, 3, .inr (.inr (.inr (.inr (rowsF g20 (v + 5) 3)))))) → (∀ i, i < 3 → hc ((v + 5) + i) = .inl (g20.2.1 0, (mR u), .inl (gd1 i))) → (1 ≤ r9) → (r9 ≤ mR u) → (x5.toInt = ((mR u : Nat) : Int)) → (x6.toInt = ((r9 : Nat) : Int)) → (DgQ u gd1 r9 0) → mR u + 1 - r9 < N_ → W p l e (headSpec wsX7_init (rm_X7_init u)).room s m ([.ref (g0.2.2.1 v), .int ((nI (mB u))), .int ((nI (mN u))), .int ((nI (mZ u))), .int ((nI (mO u)))] : List Value).toArray below meth c H locs (7) (4 + 3 + 24 + 3 + 3 * (mR u)) (MQ below (va_Qv (fun w_ : GE × (Nat → va_E) => Ext g0 w_.1 ∧ (fun u_ : GE × (Nat → va_E) => (fun g2 h2 => g2.2.2.2 = v + 18 ∧ (∀ k, k < v → h2 k = h0 k) ∧ VwZ g2 h2 v u) u_.1 u_.2) w_) (fun w_ t => va_P w_.1.1 vwCl (hw w_.1 w_.2) t.heap ∧ va_D (inA g0 s.heap.size) (hw w_.1 w_.2)) (inA g0 s.heap.size)) ([.ref (g0.2.2.1 v), .int ((nI (mB u))), .int ((nI (mN u))), .int ((nI (mZ u))), .int ((nI (mO u)))] : List Value).toArray s (17) (42 + 11 * mR u) (inA g0 s.heap.size)) (F0 m 113 ls []) := by
          intro N_
          induction N_ with
          | zero => intros; omega
          | succ N_ ih113 =>
            intro r9 x5 x6 gd1 hc H locs ls w hl hfr hO hck3 hck7 hck11 hck22 hrk22 h1r hr9 hx5 hx6 hdg hN_
            have hR125_ := mR_le u
            refine lv_iload hx hb dX7_init_113 (lv_at hl 2 rfl) ?_
            refine lv_iload hx hb dX7_init_115 (lv_at hl 1 rfl) ?_
            refine lv_icmp_ge (tgt := 132) hx hb dX7_init_117 (by decide) (fun c24 => ?_) (fun c24 => ?_)
            · have c24 : (((mR u) : Nat) : Int) ≤ ((r9 : Nat) : Int) := (i_le hx5 hx6).mp c24
              refine lv_aload_n hx hb dX7_init_132 rfl (lv_at hl 0 rfl) ?_
              refine lv_iconst (v := 4) hx hb dX7_init_133 (by decide) ?_
              refine lv_iload hx hb dX7_init_134 (lv_at hl 1 rfl) ?_
              refine r_mn2 (N' := 4) (K' := (mR u)) (t1 := 5) (t2 := 2) (ty := .byte) (z := ((mR u), .inl (fun _ => 0))) hx hb hown (by first | exact (hts (Cond.classLink RX7 43 "[[B") (List.mem_of_getElem? (i := 14) (by decide +kernel))) | (rw [show "[" ++ (FieldType.array .byte).toString = "[[B" from by decide]; exact (hts (Cond.classLink RX7 43 "[[B") (List.mem_of_getElem? (i := 14) (by decide +kernel))))) hX.2.1 (hts (Cond.arrayClass .byte) (List.mem_of_getElem? (i := 15) (by decide +kernel))) (fc_byte w) (fun _ q => ra_bytes w q) w hA (by decide : (4 : Int32).toInt = ((4 : Nat) : Int)) hx5 (Nat.le_of_ble_eq_true rfl) (by have := mR_le u; first | (show mR u * 4 ≤ 536870912; omega) | (show mR u * 1 ≤ 536870912; omega) | (show mR u ≤ 536870912; omega)) (by have := mR_le u; first | (show mR u * 4 ≤ 536870912; omega) | (show mR u * 1 ≤ 536870912; omega) | (show mR u ≤ 536870912; omega)) rfl rfl (Nat.le_of_ble_eq_true rfl) (by show _ ≤ 42 + 11 * mR u; omega) (inner_byte _) dX7_init_136 (fun g25 h26 H hEk27 hNk27 hfk27 hck27 hrk27 w2_ => ?_)
              replace w := w2_
              clear w2_
              rw [hN] at hck27 hrk27 hNk27 hfk27
              rw [hN]
              rw [← hEk27.at (k := v) (by omega)]
              replace hl : lv_has ls 7 [(0, .ref (g25.2.2.1 v)), (5, .int x5), (6, .int x6)] := by rw [hEk27.at (k := v) (by omega)]; exact hl
              replace hO : h26 v = .inr (mCi u, [.int ((nI (mB u))), .int ((nI (mN u))), .int ((nI (mZ u))), .int ((nI (mO u))), .ref (g25.2.2.1 (v + 1)), .ref (g25.2.2.1 (v + 4)), .null, .null, .int 0, .int 0, .ref (g25.2.2.1 (v + 2)), .ref (g25.2.2.1 (v + 3)), .int 0]) := by rw [hfk27 _ (by omega), hO, hEk27.at (k := (v + 1)) (by omega), hEk27.at (k := (v + 4)) (by omega), hEk27.at (k := (v + 2)) (by omega), hEk27.at (k := (v + 3)) (by omega)]
              replace hck3 : h26 (v + 1) = .inl (g25.2.1 0, 4, .inl gp1) := by rw [hfk27 _ (by omega), hck3, hEk27.ct 0]
              replace hck7 : h26 (v + 2) = .inl (g25.2.1 0, 3, .inl ((fun _ => 0))) := by rw [hfk27 _ (by omega), hck7, hEk27.ct 0]
              replace hck11 : h26 (v + 3) = .inl (g25.2.1 0, 24, .inl ((fun _ => 0))) := by rw [hfk27 _ (by omega), hck11, hEk27.ct 0]
              replace hck22 : h26 (v + 4) = .inl (g25.2.1 4, 3, .inr (.inr (.inr (.inr (rowsF g25 (v + 5) 3))))) := by rw [hfk27 _ (by omega), hck22, hEk27.ct 4, rowsF.ext hEk27 (by omega)]
              replace hrk22 : ∀ i, i < 3 → h26 ((v + 5) + i) = .inl (g25.2.1 0, (mR u), .inl (gd1 i)) := fun i hi => by rw [hfk27 _ (by omega), hrk22 i hi, hEk27.ct 0]
              replace hfr : ∀ k_, k_ < v → h26 k_ = h0 k_ := fun k_ hk_ => (hfk27 k_ (by omega)).trans (hfr k_ hk_)
              replace hE0 := hE0.trans hEk27
              clear hEk27 hfk27
              have hck27 : h26 (v + 8) = .inl (g25.2.1 5, 4, .inr (.inr (.inr (.inr (rowsF g25 (v + 9) 4))))) := by rw [hck27]
              have hrk27 : ∀ i, i < 4 → h26 ((v + 9) + i) = .inl (g25.2.1 2, (mR u), .inl (((fun _ _ => 0)) i)) := fun i hi => hrk27 i hi
              replace hN : g25.2.2.2 = v + 13 := by omega
              clear hNk27
              refine r_putV (ty := .array (.array .byte)) hx hb hts ⟨inX7_init_X0, inX7_init_X4, inX7_init_X6⟩ hown w hu (by omega) hO 6 (by decide) (hts (Cond.fieldLink RX7 45 "EarlyValues$View" "known" "[[B") (List.mem_of_getElem? (i := 16) (by decide +kernel))) rfl rfl (by decide +kernel) rfl rfl (Nat.le_of_ble_eq_true rfl) dX7_init_140 (fun h28 H locs eh28 w2_ => ?_)
              replace w := w2_
              clear w2_
              replace hO : h28 v = .inr (mCi u, [.int ((nI (mB u))), .int ((nI (mN u))), .int ((nI (mZ u))), .int ((nI (mO u))), .ref (g25.2.2.1 (v + 1)), .ref (g25.2.2.1 (v + 4)), .ref (g25.2.2.1 (v + 8)), .null, .int 0, .int 0, .ref (g25.2.2.1 (v + 2)), .ref (g25.2.2.1 (v + 3)), .int 0]) := by rw [eh28, va_up_self]; (try rfl)
              replace hck3 : h28 (v + 1) = .inl (g25.2.1 0, 4, .inl gp1) := by rw [eh28, va_up_ne _ _ (by omega)]; exact hck3
              replace hck7 : h28 (v + 2) = .inl (g25.2.1 0, 3, .inl ((fun _ => 0))) := by rw [eh28, va_up_ne _ _ (by omega)]; exact hck7
              replace hck11 : h28 (v + 3) = .inl (g25.2.1 0, 24, .inl ((fun _ => 0))) := by rw [eh28, va_up_ne _ _ (by omega)]; exact hck11
              replace hck22 : h28 (v + 4) = .inl (g25.2.1 4, 3, .inr (.inr (.inr (.inr (rowsF g25 (v + 5) 3))))) := by rw [eh28, va_up_ne _ _ (by omega)]; exact hck22
              replace hrk22 : ∀ i, i < 3 → h28 ((v + 5) + i) = .inl (g25.2.1 0, (mR u), .inl (gd1 i)) := fun i hi => by rw [eh28, va_up_ne _ _ (by omega)]; exact hrk22 i hi
              replace hck27 : h28 (v + 8) = .inl (g25.2.1 5, 4, .inr (.inr (.inr (.inr (rowsF g25 (v + 9) 4))))) := by rw [eh28, va_up_ne _ _ (by omega)]; exact hck27
              replace hrk27 : ∀ i, i < 4 → h28 ((v + 9) + i) = .inl (g25.2.1 2, (mR u), .inl (((fun _ _ => 0)) i)) := fun i hi => by rw [eh28, va_up_ne _ _ (by omega)]; exact hrk27 i hi
              replace hfr : ∀ k_, k_ < v → h28 k_ = h0 k_ := fun k_ hk_ => by rw [eh28, va_up_ne _ _ (by omega)]; exact hfr k_ hk_
              refine lv_aload_n hx hb dX7_init_143 rfl (lv_at hl 0 rfl) ?_
              refine lv_iconst (v := 4) hx hb dX7_init_144 (by decide) ?_
              refine lv_iload hx hb dX7_init_145 (lv_at hl 1 rfl) ?_
              refine r_mn2 (N' := 4) (K' := (mR u)) (t1 := 5) (t2 := 2) (ty := .byte) (z := ((mR u), .inl (fun _ => 0))) hx hb hown (by first | exact (hts (Cond.classLink RX7 43 "[[B") (List.mem_of_getElem? (i := 14) (by decide +kernel))) | (rw [show "[" ++ (FieldType.array .byte).toString = "[[B" from by decide]; exact (hts (Cond.classLink RX7 43 "[[B") (List.mem_of_getElem? (i := 14) (by decide +kernel))))) hX.2.1 (hts (Cond.arrayClass .byte) (List.mem_of_getElem? (i := 15) (by decide +kernel))) (fc_byte w) (fun _ q => ra_bytes w q) w hA (by decide : (4 : Int32).toInt = ((4 : Nat) : Int)) hx5 (Nat.le_of_ble_eq_true rfl) (by have := mR_le u; first | (show mR u * 4 ≤ 536870912; omega) | (show mR u * 1 ≤ 536870912; omega) | (show mR u ≤ 536870912; omega)) (by have := mR_le u; first | (show mR u * 4 ≤ 536870912; omega) | (show mR u * 1 ≤ 536870912; omega) | (show mR u ≤ 536870912; omega)) rfl rfl (Nat.le_of_ble_eq_true rfl) (by show _ ≤ 42 + 11 * mR u; omega) (inner_byte _) dX7_init_147 (fun g29 h30 H hEk31 hNk31 hfk31 hck31 hrk31 w2_ => ?_)
              replace w := w2_
              clear w2_
              rw [hN] at hck31 hrk31 hNk31 hfk31
              rw [hN]
              rw [← hEk31.at (k := v) (by omega)]
              replace hl : lv_has ls 7 [(0, .ref (g29.2.2.1 v)), (5, .int x5), (6, .int x6)] := by rw [hEk31.at (k := v) (by omega)]; exact hl
              replace hO : h30 v = .inr (mCi u, [.int ((nI (mB u))), .int ((nI (mN u))), .int ((nI (mZ u))), .int ((nI (mO u))), .ref (g29.2.2.1 (v + 1)), .ref (g29.2.2.1 (v + 4)), .ref (g29.2.2.1 (v + 8)), .null, .int 0, .int 0, .ref (g29.2.2.1 (v + 2)), .ref (g29.2.2.1 (v + 3)), .int 0]) := by rw [hfk31 _ (by omega), hO, hEk31.at (k := (v + 1)) (by omega), hEk31.at (k := (v + 4)) (by omega), hEk31.at (k := (v + 8)) (by omega), hEk31.at (k := (v + 2)) (by omega), hEk31.at (k := (v + 3)) (by omega)]
              replace hck3 : h30 (v + 1) = .inl (g29.2.1 0, 4, .inl gp1) := by rw [hfk31 _ (by omega), hck3, hEk31.ct 0]
              replace hck7 : h30 (v + 2) = .inl (g29.2.1 0, 3, .inl ((fun _ => 0))) := by rw [hfk31 _ (by omega), hck7, hEk31.ct 0]
              replace hck11 : h30 (v + 3) = .inl (g29.2.1 0, 24, .inl ((fun _ => 0))) := by rw [hfk31 _ (by omega), hck11, hEk31.ct 0]
              replace hck22 : h30 (v + 4) = .inl (g29.2.1 4, 3, .inr (.inr (.inr (.inr (rowsF g29 (v + 5) 3))))) := by rw [hfk31 _ (by omega), hck22, hEk31.ct 4, rowsF.ext hEk31 (by omega)]
              replace hrk22 : ∀ i, i < 3 → h30 ((v + 5) + i) = .inl (g29.2.1 0, (mR u), .inl (gd1 i)) := fun i hi => by rw [hfk31 _ (by omega), hrk22 i hi, hEk31.ct 0]
              replace hck27 : h30 (v + 8) = .inl (g29.2.1 5, 4, .inr (.inr (.inr (.inr (rowsF g29 (v + 9) 4))))) := by rw [hfk31 _ (by omega), hck27, hEk31.ct 5, rowsF.ext hEk31 (by omega)]
              replace hrk27 : ∀ i, i < 4 → h30 ((v + 9) + i) = .inl (g29.2.1 2, (mR u), .inl (((fun _ _ => 0)) i)) := fun i hi => by rw [hfk31 _ (by omega), hrk27 i hi, hEk31.ct 2]
              replace hfr : ∀ k_, k_ < v → h30 k_ = h0 k_ := fun k_ hk_ => (hfk31 k_ (by omega)).trans (hfr k_ hk_)
              replace hE0 := hE0.trans hEk31
              clear hEk31 hfk31
              have hck31 : h30 (v + 13) = .inl (g29.2.1 5, 4, .inr (.inr (.inr (.inr (rowsF g29 (v + 14) 4))))) := by rw [hck31]
              have hrk31 : ∀ i, i < 4 → h30 ((v + 14) + i) = .inl (g29.2.1 2, (mR u), .inl (((fun _ _ => 0)) i)) := fun i hi => hrk31 i hi
              replace hN : g29.2.2.2 = v + 18 := by omega
              clear hNk31
              refine r_putV (ty := .array (.array .byte)) hx hb hts ⟨inX7_init_X0, inX7_init_X4, inX7_init_X6⟩ hown w hu (by omega) hO 7 (by decide) (hts (Cond.fieldLink RX7 48 "EarlyValues$View" "coming" "[[B") (List.mem_of_getElem? (i := 17) (by decide +kernel))) rfl rfl (by decide +kernel) rfl rfl (Nat.le_of_ble_eq_true rfl) dX7_init_151 (fun h32 H locs eh32 w2_ => ?_)
              replace w := w2_
              clear w2_
              replace hO : h32 v = .inr (mCi u, [.int ((nI (mB u))), .int ((nI (mN u))), .int ((nI (mZ u))), .int ((nI (mO u))), .ref (g29.2.2.1 (v + 1)), .ref (g29.2.2.1 (v + 4)), .ref (g29.2.2.1 (v + 8)), .ref (g29.2.2.1 (v + 13)), .int 0, .int 0, .ref (g29.2.2.1 (v + 2)), .ref (g29.2.2.1 (v + 3)), .int 0]) := by rw [eh32, va_up_self]; (try rfl)
              replace hck3 : h32 (v + 1) = .inl (g29.2.1 0, 4, .inl gp1) := by rw [eh32, va_up_ne _ _ (by omega)]; exact hck3
              replace hck7 : h32 (v + 2) = .inl (g29.2.1 0, 3, .inl ((fun _ => 0))) := by rw [eh32, va_up_ne _ _ (by omega)]; exact hck7
              replace hck11 : h32 (v + 3) = .inl (g29.2.1 0, 24, .inl ((fun _ => 0))) := by rw [eh32, va_up_ne _ _ (by omega)]; exact hck11
              replace hck22 : h32 (v + 4) = .inl (g29.2.1 4, 3, .inr (.inr (.inr (.inr (rowsF g29 (v + 5) 3))))) := by rw [eh32, va_up_ne _ _ (by omega)]; exact hck22
              replace hrk22 : ∀ i, i < 3 → h32 ((v + 5) + i) = .inl (g29.2.1 0, (mR u), .inl (gd1 i)) := fun i hi => by rw [eh32, va_up_ne _ _ (by omega)]; exact hrk22 i hi
              replace hck27 : h32 (v + 8) = .inl (g29.2.1 5, 4, .inr (.inr (.inr (.inr (rowsF g29 (v + 9) 4))))) := by rw [eh32, va_up_ne _ _ (by omega)]; exact hck27
              replace hrk27 : ∀ i, i < 4 → h32 ((v + 9) + i) = .inl (g29.2.1 2, (mR u), .inl (((fun _ _ => 0)) i)) := fun i hi => by rw [eh32, va_up_ne _ _ (by omega)]; exact hrk27 i hi
              replace hck31 : h32 (v + 13) = .inl (g29.2.1 5, 4, .inr (.inr (.inr (.inr (rowsF g29 (v + 14) 4))))) := by rw [eh32, va_up_ne _ _ (by omega)]; exact hck31
              replace hrk31 : ∀ i, i < 4 → h32 ((v + 14) + i) = .inl (g29.2.1 2, (mR u), .inl (((fun _ _ => 0)) i)) := fun i hi => by rw [eh32, va_up_ne _ _ (by omega)]; exact hrk31 i hi
              replace hfr : ∀ k_, k_ < v → h32 k_ = h0 k_ := fun k_ hk_ => by rw [eh32, va_up_ne _ _ (by omega)]; exact hfr k_ hk_
              refine W.widen (k := 17) (n := 42 + 11 * mR u) (Nat.le_of_ble_eq_true rfl) (by omega) ?_
              refine r_nret hx hb hr hlocks w dX7_init_154 hE0 ?_
              dsimp only
              rw [show r9 = mR u by omega] at hdg
              exact ⟨hN, hfr, _, _, _, _, _, _, _, _, _, _, ⟨by omega, hu, Or.inl ⟨rfl, rfl⟩⟩, hO, hck3, hck7, hck11, hck22, hrk22, hck27, hrk27, hck31, hrk31, hpw4_, fun i r hi hr => hdg i r hi (Or.inl hr)⟩
            · have c24 : ¬ ((((mR u) : Nat) : Int) ≤ ((r9 : Nat) : Int)) := fun q => c24 ((i_le hx5 hx6).mpr q)
              refine lv_aload_n hx hb dX7_init_120 rfl (lv_at hl 0 rfl) ?_
              refine lv_iload hx hb dX7_init_121 (lv_at hl 2 rfl) ?_
              refine r_callV w (va_3 hu (fun q_ => va_runU (As := [.int x6]) (rest := []) ⟨hx, hb, hml, hown, hts⟩ (c_X7_countUp l ⟨⟨by omega, hu⟩, hO, hck22, hrk22⟩ x6 hx6 (by omega) (by omega) hdg) (va_cwU 1 hts gX7_init_X7_countUp_u39X6 rfl rfl rfl rfl (by decide +kernel) ⟨Nat.le_of_ble_eq_true rfl, Nat.le_of_ble_eq_true rfl⟩) (r_preV w (by omega) (show hc v = .inr (5, _) from by rw [show (5 : Nat) = mCi u by subst q_; rfl]; exact hO) rfl) rfl rfl hl.1 rfl (lv_room (Nat.le_of_ble_eq_true rfl)) dX7_init_123 ⟨Nat.le_of_ble_eq_true rfl, (by show _ ≤ 42 + 11 * mR u; omega)⟩) (fun q_ => va_runU (As := [.int x6]) (rest := []) ⟨hx, hb, hml, hown, hts⟩ (c_X7_countUp l ⟨⟨by omega, hu⟩, hO, hck22, hrk22⟩ x6 hx6 (by omega) (by omega) hdg) (va_cwU 1 hts gX7_init_X7_countUp_u39X4 rfl rfl rfl rfl (by decide +kernel) ⟨Nat.le_of_ble_eq_true rfl, Nat.le_of_ble_eq_true rfl⟩) (r_preV w (by omega) (show hc v = .inr (3, _) from by rw [show (3 : Nat) = mCi u by subst q_; rfl]; exact hO) rfl) rfl rfl hl.1 rfl (lv_room (Nat.le_of_ble_eq_true rfl)) dX7_init_123 ⟨Nat.le_of_ble_eq_true rfl, (by show _ ≤ 42 + 11 * mR u; omega)⟩) (fun q_ => va_runU (As := [.int x6]) (rest := []) ⟨hx, hb, hml, hown, hts⟩ (c_X7_countUp l ⟨⟨by omega, hu⟩, hO, hck22, hrk22⟩ x6 hx6 (by omega) (by omega) hdg) (va_cwU 1 hts gX7_init_X7_countUp_u39X0 rfl rfl rfl rfl (by decide +kernel) ⟨Nat.le_of_ble_eq_true rfl, Nat.le_of_ble_eq_true rfl⟩) (r_preV w (by omega) (show hc v = .inr (0, _) from by rw [show (0 : Nat) = mCi u by subst q_; rfl]; exact hO) rfl) rfl rfl hl.1 rfl (lv_room (Nat.le_of_ble_eq_true rfl)) dX7_init_123 ⟨Nat.le_of_ble_eq_true rfl, (by show _ ≤ 42 + 11 * mR u; omega)⟩)) (fun h33 H locs hp w => ?_)
              obtain ⟨hfk34, gd2, V2_, hdq_⟩ := hp
              have hO : h33 v = .inr (mCi u, [.int ((nI (mB u))), .int ((nI (mN u))), .int ((nI (mZ u))), .int ((nI (mO u))), .ref (g20.2.2.1 (v + 1)), .ref (g20.2.2.1 (v + 4)), .null, .null, .int 0, .int 0, .ref (g20.2.2.1 (v + 2)), .ref (g20.2.2.1 (v + 3)), .int 0]) := by rw [hfk34 _ (by omega)]; exact hO
              have hck3 : h33 (v + 1) = .inl (g20.2.1 0, 4, .inl gp1) := by rw [hfk34 _ (by omega)]; exact hck3
              have hck7 : h33 (v + 2) = .inl (g20.2.1 0, 3, .inl ((fun _ => 0))) := by rw [hfk34 _ (by omega)]; exact hck7
              have hck11 : h33 (v + 3) = .inl (g20.2.1 0, 24, .inl ((fun _ => 0))) := by rw [hfk34 _ (by omega)]; exact hck11
              have hck22 : h33 (v + 4) = .inl (g20.2.1 4, 3, .inr (.inr (.inr (.inr (rowsF g20 (v + 5) 3))))) := by rw [hfk34 _ (by omega)]; exact hck22
              have hrk22 : ∀ i, i < 3 → h33 ((v + 5) + i) = .inl (g20.2.1 0, (mR u), .inl (gd2 i)) := V2_.2.2.2
              have hfr : ∀ k_, k_ < v → h33 k_ = h0 k_ := fun k_ hk_ => (hfk34 k_ (by omega)).trans (hfr k_ hk_)
              obtain ⟨y35, ey35⟩ : ∃ y : Int32, y = x6 + (1) := ⟨_, rfl⟩
              have ty35 : y35.toInt = (((r9 + 1) : Nat) : Int) := i_addN ey35 hx6 (by decide : (1 : Int32).toInt = ((1 : Nat) : Int)) (by omega)
              refine lv_iinc (v := y35) (lv' := [(6, .int y35), (0, .ref (g20.2.2.1 v)), (5, .int x5)]) hx hb dX7_init_126 hl (k := 2) rfl (by rw [ey35]; rfl) (by decide) rfl (fun ls hl => ?_)
              refine lv_goto (tgt := 113) hx hb dX7_init_129 (by decide) ?_
              exact ih113 (r9 + 1) x5 y35 gd2 h33 _ _ _ w (lv_sub hl [1, 2, 0] rfl) hfr hO hck3 hck7 hck11 hck22 hrk22 (by omega) (by omega) hx5 ty35 hdq_ (by omega)
        exact cut113 (200) 1 (gp1 3) 1 ((fun _ _ => 0)) h23 _ _ _ w (lv_sub hl [2, 1, 0] rfl) hfr hO hck3 hck7 hck11 hck22 hrk22 (Nat.le_refl _) (by omega) ((show _ = ((mR u : Nat) : Int) from hpw 3 (by omega))) ((by decide : (1 : Int32).toInt = ((1 : Nat) : Int))) ((fun j q hj hq => by (obtain rfl : q = 0 := (by omega)); show (0 : Int32).toInt = _; rw [mDig_z]; rfl)) (by omega)
      · have c19 : ¬ (((4 : Nat) : Int) ≤ ((i9 : Nat) : Int)) := fun q => c19 ((i_le (by decide : (4 : Int32).toInt = ((4 : Nat) : Int)) hx5).mpr q)
        have hpl_ := pw_le u (i9 - 1) (by omega)
        have hb5_ := mB_le u
        have hmm_ : mB u ^ (i9 - 1) * mB u ≤ 125 * 5 := Nat.mul_le_mul hpl_ hb5_
        refine lv_aload_n hx hb dX7_init_67 rfl (lv_at hl 0 rfl) ?_
        refine r_getV hx hb hts ⟨inX7_init_X0, inX7_init_X4, inX7_init_X6⟩ hown w hu (by omega) hO 4 (by decide) (hts (Cond.fieldLink RX7 9 "EarlyValues$View" "powers" "[I") (List.mem_of_getElem? (i := 5) (by decide +kernel))) rfl rfl dX7_init_68 ?_
        refine lv_iload hx hb dX7_init_71 (lv_at hl 2 rfl) ?_
        refine lv_aload_n hx hb dX7_init_73 rfl (lv_at hl 0 rfl) ?_
        refine r_getV hx hb hts ⟨inX7_init_X0, inX7_init_X4, inX7_init_X6⟩ hown w hu (by omega) hO 4 (by decide) (hts (Cond.fieldLink RX7 9 "EarlyValues$View" "powers" "[I") (List.mem_of_getElem? (i := 5) (by decide +kernel))) rfl rfl dX7_init_74 ?_
        refine lv_iload hx hb dX7_init_77 (lv_at hl 2 rfl) ?_
        refine lv_iconst (v := 1) hx hb dX7_init_79 (by decide) ?_
        refine lv_isub hx hb dX7_init_80 ?_
        refine lv_topi (fun y36 ey36 => ?_)
        have ty36 : y36.toInt = (((i9 - 1) : Nat) : Int) := i_subN ey36 hx5 (by decide : (1 : Int32).toInt = ((1 : Nat) : Int)) (by omega)
        refine r_iald (j := (i9 - 1)) hx hb w (by omega) hck3 ty36 (by omega) dX7_init_81 ?_
        refine lv_iload_n hx hb dX7_init_82 rfl (lv_at hl 1 rfl) ?_
        refine lv_imul hx hb dX7_init_83 ?_
        refine lv_topi (fun y37 ey37 => ?_)
        have ty37 : y37.toInt = ((((mB u ^ (i9 - 1)) * (mB u)) : Nat) : Int) := i_mulN ey37 (hpw (i9 - 1) (by omega)) (mB_i u) (Nat.le_trans hmm_ (by decide))
        have hpv_ : y37.toInt = ((mB u ^ i9 : Nat) : Int) := by rw [ty37, pw_succ h1i]
        refine r_iast (j := i9) hx hb w (by omega) hck3 hx5 (by omega) dX7_init_84 (fun h38 H locs eh38 w2_ => ?_)
        obtain ⟨gz39, egz39⟩ : ∃ z_, z_ = upd gp1 i9 y37 := ⟨_, rfl⟩
        rw [← egz39] at eh38
        replace w := w2_
        clear w2_
        replace hO : h38 v = .inr (mCi u, [.int ((nI (mB u))), .int ((nI (mN u))), .int ((nI (mZ u))), .int ((nI (mO u))), .ref (g9.2.2.1 (v + 1)), .null, .null, .null, .int 0, .int 0, .ref (g9.2.2.1 (v + 2)), .ref (g9.2.2.1 (v + 3)), .int 0]) := by rw [eh38, va_up_ne _ _ (by omega)]; exact hO
        replace hck3 : h38 (v + 1) = .inl (g9.2.1 0, 4, .inl gz39) := by rw [eh38, va_up_self]; (try rfl)
        replace hck7 : h38 (v + 2) = .inl (g9.2.1 0, 3, .inl ((fun _ => 0))) := by rw [eh38, va_up_ne _ _ (by omega)]; exact hck7
        replace hck11 : h38 (v + 3) = .inl (g9.2.1 0, 24, .inl ((fun _ => 0))) := by rw [eh38, va_up_ne _ _ (by omega)]; exact hck11
        replace hfr : ∀ k_, k_ < v → h38 k_ = h0 k_ := fun k_ hk_ => by rw [eh38, va_up_ne _ _ (by omega)]; exact hfr k_ hk_
        obtain ⟨y40, ey40⟩ : ∃ y : Int32, y = x5 + (1) := ⟨_, rfl⟩
        have ty40 : y40.toInt = (((i9 + 1) : Nat) : Int) := i_addN ey40 hx5 (by decide : (1 : Int32).toInt = ((1 : Nat) : Int)) (by omega)
        refine lv_iinc (v := y40) (lv' := [(5, .int y40), (0, .ref (g9.2.2.1 v)), (1, .int ((nI (mB u))))]) hx hb dX7_init_85 hl (k := 2) rfl (by rw [ey40]; rfl) (by decide) rfl (fun ls hl => ?_)
        refine lv_goto (tgt := 57) hx hb dX7_init_88 (by decide) ?_
        exact ih57 (i9 + 1) y40 gz39 h38 _ _ _ w (lv_sub hl [1, 2, 0] rfl) hfr hO hck3 hck7 hck11 (by omega) (by omega) (hpw.up hpv_ egz39) ty40 (by omega)
  exact cut57 (10) 1 1 gz18 h17 _ _ _ w (lv_sub hl [1, 2, 0] rfl) hfr hO hck3 hck7 hck11 (Nat.le_refl _) (by omega) ((show PwQ u gz18 1 from PwQ.up (i := 0) (gp := fun _ => 0) (fun j hj => absurd hj (Nat.not_lt_zero _)) (by rw [Nat.pow_zero]; decide) egz18)) ((by decide : (1 : Int32).toInt = ((1 : Nat) : Int))) (by omega)

abbrev rm_X6_init : Room := { frames := 2, cells := 17, slots := 1417, locals := 50 }
set_option maxHeartbeats 8000000 in
set_option maxRecDepth 100000 in
theorem c_X6_init (l : Launch) {g0 : GE} {h0 : Nat → va_E} {sz v : Nat} (ho : v + 1 = g0.2.2.2) (hO : h0 v = .inr (5, [.int 0, .int 0, .int 0, .int 0, .null, .null, .null, .null, .int 0, .int 0, .null, .null, .int 0])) : MN l yX6_init wsX6_init rm_X6_init [.ref (g0.2.2.1 v)] g0 h0 sz (fun u_ : GE × (Nat → va_E) => (fun g2 h2 => g2.2.2.2 = v + 18 ∧ (∀ k, k < v → h2 k = h0 k) ∧ VwZ g2 h2 v 0) u_.1 u_.2) (17) (1417) := by
  refine Met.ofW (cc := cX6_init) (maxL := 1) (ret := none) (by decide) rfl ?_
  intro p e s m args below meth c s₁ B hml hv
  obtain ⟨rfl, hPN⟩ := hv
  have hx := B.exec
  have hb := B.bytes
  have hr := B.returns
  have hts := atoms_spec (ws := wsX6_init) B.pre
  have hown : s.vm.findClass RX6 = some m.cls := findClass_of_methodNamed B.named
  have hlocks := B.notSynchronized
  have hin2 : meth.name = "<init>" := (name_of_methodNamed B.named B.method).1
  have hsz : s.heap.size = sz := hPN.1
  subst hsz
  obtain ⟨w, hX, hA⟩ := hPN.start
  have hl := lv_entry ([.ref (g0.2.2.1 v)]) (n := 1) (Nat.le_of_ble_eq_true rfl)
  rw [lg_entry_eq]
  generalize (lg_sl ([.ref (g0.2.2.1 v)]) ++ List.replicate (1 - (lg_sl ([.ref (g0.2.2.1 v)])).length) Slot.unset).toArray = ls at hl ⊢
  have hl : lv_has ls 1 [(0, .ref (g0.2.2.1 v))] := hl
  obtain ⟨g, hg9⟩ : ∃ g_ : GE, g_ = g0 := ⟨_, rfl⟩
  obtain ⟨h, hh9⟩ : ∃ h_ : Nat → va_E, h_ = h0 := ⟨_, rfl⟩
  have hfr : ∀ k_, k_ < v → h k_ = h0 k_ := fun _ _ => by rw [hh9]
  have hE0 : Ext g0 g := by rw [hg9]; exact Ext.rf
  have w : WD g (inA g0 s.heap.size) s h s.heap [] := by rw [hg9, hh9]; exact w
  have hl : lv_has ls 1 [(0, .ref (g.2.2.1 v))] := by rw [hg9]; exact hl
  have hO : h v = .inr (5, [.int 0, .int 0, .int 0, .int 0, .null, .null, .null, .null, .int 0, .int 0, .null, .null, .int 0]) := by rw [hh9]; (try rw [hg9]); exact hO
  have hN : g.2.2.2 = v + 1 := by rw [hg9]; omega
  refine lv_aload_n hx hb dX6_init_0 rfl (lv_at hl 0 rfl) ?_
  refine lv_iconst (v := 5) hx hb dX6_init_1 (by decide) ?_
  refine lv_iconst (v := 4) hx hb dX6_init_2 (by decide) ?_
  refine lv_iconst (v := 0) hx hb dX6_init_3 (by decide) ?_
  refine lv_iconst (v := 1) hx hb dX6_init_4 (by decide) ?_
  refine r_callN w hA (va_runI (As := [.int 5, .int 4, .int 0, .int 1]) (rest := []) ⟨hx, hb, hml, hown, hts⟩ (c_X7_init l (g0 := g) (h0 := h) (v := v) (u := 0) (by decide) (by omega) hO) (cwI 4 hts gX6_init_X7_init rfl rfl rfl (hts (Cond.initialized RX7) (List.mem_of_getElem? (i := 3) (by decide +kernel))) (hts (Cond.methodLink RX6 3 yX7_init) (List.mem_of_getElem? (i := 1) (by decide +kernel))) (hts (Cond.instanceMethod yX7_init) (List.mem_of_getElem? (i := 2) (by decide +kernel))) rfl (by decide +kernel) ⟨Nat.le_of_ble_eq_true rfl, Nat.le_of_ble_eq_true rfl⟩) (r_preN w hA hX) rfl rfl hl.1 rfl (lv_room (Nat.le_of_ble_eq_true rfl)) dX6_init_5 ⟨Nat.le_of_ble_eq_true rfl, (by decide)⟩) (fun g1 h2 H locs hEk3 hp w2_ => ?_)
  replace w := w2_
  clear w2_
  dsimp only at hp
  replace hl : lv_has ls 1 [(0, .ref (g1.2.2.1 v))] := by rw [hEk3.at (k := v) (by omega)]; exact hl
  obtain ⟨hNk3, hfk3, Fk3⟩ := hp
  replace hfr : ∀ k_, k_ < v → h2 k_ = h0 k_ := fun k_ hk_ => (hfk3 k_ (by omega)).trans (hfr k_ hk_)
  replace hE0 := hE0.trans hEk3
  clear hEk3 hfk3
  replace hN : g1.2.2.2 = v + 18 := by omega
  clear hNk3
  refine W.widen (k := 17) (n := 1417) (Nat.le_of_ble_eq_true rfl) (by decide) ?_
  refine r_nret hx hb hr hlocks w dX6_init_8 hE0 ?_
  dsimp only
  exact ⟨hN, hfr, Fk3⟩

abbrev rm_X4_init : Room := { frames := 2, cells := 17, slots := 130, locals := 50 }
set_option maxHeartbeats 8000000 in
set_option maxRecDepth 100000 in
theorem c_X4_init (l : Launch) {g0 : GE} {h0 : Nat → va_E} {sz v : Nat} (ho : v + 1 = g0.2.2.2) (hO : h0 v = .inr (3, [.int 0, .int 0, .int 0, .int 0, .null, .null, .null, .null, .int 0, .int 0, .null, .null, .int 0])) : MN l yX4_init wsX4_init rm_X4_init [.ref (g0.2.2.1 v)] g0 h0 sz (fun u_ : GE × (Nat → va_E) => (fun g2 h2 => g2.2.2.2 = v + 18 ∧ (∀ k, k < v → h2 k = h0 k) ∧ VwZ g2 h2 v 1) u_.1 u_.2) (17) (130) := by
  refine Met.ofW (cc := cX4_init) (maxL := 1) (ret := none) (by decide) rfl ?_
  intro p e s m args below meth c s₁ B hml hv
  obtain ⟨rfl, hPN⟩ := hv
  have hx := B.exec
  have hb := B.bytes
  have hr := B.returns
  have hts := atoms_spec (ws := wsX4_init) B.pre
  have hown : s.vm.findClass RX4 = some m.cls := findClass_of_methodNamed B.named
  have hlocks := B.notSynchronized
  have hin2 : meth.name = "<init>" := (name_of_methodNamed B.named B.method).1
  have hsz : s.heap.size = sz := hPN.1
  subst hsz
  obtain ⟨w, hX, hA⟩ := hPN.start
  have hl := lv_entry ([.ref (g0.2.2.1 v)]) (n := 1) (Nat.le_of_ble_eq_true rfl)
  rw [lg_entry_eq]
  generalize (lg_sl ([.ref (g0.2.2.1 v)]) ++ List.replicate (1 - (lg_sl ([.ref (g0.2.2.1 v)])).length) Slot.unset).toArray = ls at hl ⊢
  have hl : lv_has ls 1 [(0, .ref (g0.2.2.1 v))] := hl
  obtain ⟨g, hg9⟩ : ∃ g_ : GE, g_ = g0 := ⟨_, rfl⟩
  obtain ⟨h, hh9⟩ : ∃ h_ : Nat → va_E, h_ = h0 := ⟨_, rfl⟩
  have hfr : ∀ k_, k_ < v → h k_ = h0 k_ := fun _ _ => by rw [hh9]
  have hE0 : Ext g0 g := by rw [hg9]; exact Ext.rf
  have w : WD g (inA g0 s.heap.size) s h s.heap [] := by rw [hg9, hh9]; exact w
  have hl : lv_has ls 1 [(0, .ref (g.2.2.1 v))] := by rw [hg9]; exact hl
  have hO : h v = .inr (3, [.int 0, .int 0, .int 0, .int 0, .null, .null, .null, .null, .int 0, .int 0, .null, .null, .int 0]) := by rw [hh9]; (try rw [hg9]); exact hO
  have hN : g.2.2.2 = v + 1 := by rw [hg9]; omega
  refine lv_aload_n hx hb dX4_init_0 rfl (lv_at hl 0 rfl) ?_
  refine lv_iconst (v := 2) hx hb dX4_init_1 (by decide) ?_
  refine lv_iconst (v := 0) hx hb dX4_init_2 (by decide) ?_
  refine lv_iconst (v := 1) hx hb dX4_init_3 (by decide) ?_
  refine lv_iconst (v := 1) hx hb dX4_init_4 (by decide) ?_
  refine r_callN w hA (va_runI (As := [.int 2, .int 0, .int 1, .int 1]) (rest := []) ⟨hx, hb, hml, hown, hts⟩ (c_X7_init l (g0 := g) (h0 := h) (v := v) (u := 1) (by decide) (by omega) hO) (cwI 4 hts gX4_init_X7_init rfl rfl rfl (hts (Cond.initialized RX7) (List.mem_of_getElem? (i := 3) (by decide +kernel))) (hts (Cond.methodLink RX4 1 yX7_init) (List.mem_of_getElem? (i := 1) (by decide +kernel))) (hts (Cond.instanceMethod yX7_init) (List.mem_of_getElem? (i := 2) (by decide +kernel))) rfl (by decide +kernel) ⟨Nat.le_of_ble_eq_true rfl, Nat.le_of_ble_eq_true rfl⟩) (r_preN w hA hX) rfl rfl hl.1 rfl (lv_room (Nat.le_of_ble_eq_true rfl)) dX4_init_5 ⟨Nat.le_of_ble_eq_true rfl, (by decide)⟩) (fun g1 h2 H locs hEk3 hp w2_ => ?_)
  replace w := w2_
  clear w2_
  dsimp only at hp
  replace hl : lv_has ls 1 [(0, .ref (g1.2.2.1 v))] := by rw [hEk3.at (k := v) (by omega)]; exact hl
  obtain ⟨hNk3, hfk3, Fk3⟩ := hp
  replace hfr : ∀ k_, k_ < v → h2 k_ = h0 k_ := fun k_ hk_ => (hfk3 k_ (by omega)).trans (hfr k_ hk_)
  replace hE0 := hE0.trans hEk3
  clear hEk3 hfk3
  replace hN : g1.2.2.2 = v + 18 := by omega
  clear hNk3
  refine W.widen (k := 17) (n := 130) (Nat.le_of_ble_eq_true rfl) (by decide) ?_
  refine r_nret hx hb hr hlocks w dX4_init_8 hE0 ?_
  dsimp only
  exact ⟨hN, hfr, Fk3⟩

abbrev rm_X0_init : Room := { frames := 2, cells := 17, slots := 746, locals := 50 }
set_option maxHeartbeats 8000000 in
set_option maxRecDepth 100000 in
theorem c_X0_init (l : Launch) {g0 : GE} {h0 : Nat → va_E} {sz v : Nat} (ho : v + 1 = g0.2.2.2) (hO : h0 v = .inr (0, [.int 0, .int 0, .int 0, .int 0, .null, .null, .null, .null, .int 0, .int 0, .null, .null, .int 0])) : MN l yX0_init wsX0_init rm_X0_init [.ref (g0.2.2.1 v)] g0 h0 sz (fun u_ : GE × (Nat → va_E) => (fun g2 h2 => g2.2.2.2 = v + 18 ∧ (∀ k, k < v → h2 k = h0 k) ∧ VwZ g2 h2 v 2) u_.1 u_.2) (17) (746) := by
  refine Met.ofW (cc := cX0_init) (maxL := 1) (ret := none) (by decide) rfl ?_
  intro p e s m args below meth c s₁ B hml hv
  obtain ⟨rfl, hPN⟩ := hv
  have hx := B.exec
  have hb := B.bytes
  have hr := B.returns
  have hts := atoms_spec (ws := wsX0_init) B.pre
  have hown : s.vm.findClass RX0 = some m.cls := findClass_of_methodNamed B.named
  have hlocks := B.notSynchronized
  have hin2 : meth.name = "<init>" := (name_of_methodNamed B.named B.method).1
  have hsz : s.heap.size = sz := hPN.1
  subst hsz
  obtain ⟨w, hX, hA⟩ := hPN.start
  have hl := lv_entry ([.ref (g0.2.2.1 v)]) (n := 1) (Nat.le_of_ble_eq_true rfl)
  rw [lg_entry_eq]
  generalize (lg_sl ([.ref (g0.2.2.1 v)]) ++ List.replicate (1 - (lg_sl ([.ref (g0.2.2.1 v)])).length) Slot.unset).toArray = ls at hl ⊢
  have hl : lv_has ls 1 [(0, .ref (g0.2.2.1 v))] := hl
  obtain ⟨g, hg9⟩ : ∃ g_ : GE, g_ = g0 := ⟨_, rfl⟩
  obtain ⟨h, hh9⟩ : ∃ h_ : Nat → va_E, h_ = h0 := ⟨_, rfl⟩
  have hfr : ∀ k_, k_ < v → h k_ = h0 k_ := fun _ _ => by rw [hh9]
  have hE0 : Ext g0 g := by rw [hg9]; exact Ext.rf
  have w : WD g (inA g0 s.heap.size) s h s.heap [] := by rw [hg9, hh9]; exact w
  have hl : lv_has ls 1 [(0, .ref (g.2.2.1 v))] := by rw [hg9]; exact hl
  have hO : h v = .inr (0, [.int 0, .int 0, .int 0, .int 0, .null, .null, .null, .null, .int 0, .int 0, .null, .null, .int 0]) := by rw [hh9]; (try rw [hg9]); exact hO
  have hN : g.2.2.2 = v + 1 := by rw [hg9]; omega
  refine lv_aload_n hx hb dX0_init_0 rfl (lv_at hl 0 rfl) ?_
  refine lv_iconst (v := 4) hx hb dX0_init_1 (by decide) ?_
  refine lv_iconst (v := 0) hx hb dX0_init_2 (by decide) ?_
  refine lv_iconst (v := 1) hx hb dX0_init_3 (by decide) ?_
  refine lv_iconst (v := 2) hx hb dX0_init_4 (by decide) ?_
  refine r_callN w hA (va_runI (As := [.int 4, .int 0, .int 1, .int 2]) (rest := []) ⟨hx, hb, hml, hown, hts⟩ (c_X7_init l (g0 := g) (h0 := h) (v := v) (u := 2) (by decide) (by omega) hO) (cwI 4 hts gX0_init_X7_init rfl rfl rfl (hts (Cond.initialized RX7) (List.mem_of_getElem? (i := 3) (by decide +kernel))) (hts (Cond.methodLink RX0 3 yX7_init) (List.mem_of_getElem? (i := 1) (by decide +kernel))) (hts (Cond.instanceMethod yX7_init) (List.mem_of_getElem? (i := 2) (by decide +kernel))) rfl (by decide +kernel) ⟨Nat.le_of_ble_eq_true rfl, Nat.le_of_ble_eq_true rfl⟩) (r_preN w hA hX) rfl rfl hl.1 rfl (lv_room (Nat.le_of_ble_eq_true rfl)) dX0_init_5 ⟨Nat.le_of_ble_eq_true rfl, (by decide)⟩) (fun g1 h2 H locs hEk3 hp w2_ => ?_)
  replace w := w2_
  clear w2_
  dsimp only at hp
  replace hl : lv_has ls 1 [(0, .ref (g1.2.2.1 v))] := by rw [hEk3.at (k := v) (by omega)]; exact hl
  obtain ⟨hNk3, hfk3, Fk3⟩ := hp
  replace hfr : ∀ k_, k_ < v → h2 k_ = h0 k_ := fun k_ hk_ => (hfk3 k_ (by omega)).trans (hfr k_ hk_)
  replace hE0 := hE0.trans hEk3
  clear hEk3 hfk3
  replace hN : g1.2.2.2 = v + 18 := by omega
  clear hNk3
  refine W.widen (k := 17) (n := 746) (Nat.le_of_ble_eq_true rfl) (by decide) ?_
  refine r_nret hx hb hr hlocks w dX0_init_8 hE0 ?_
  dsimp only
  exact ⟨hN, hfr, Fk3⟩

