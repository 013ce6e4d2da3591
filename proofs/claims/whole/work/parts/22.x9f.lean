theorem inX9_sets_X9 : ∀ w ∈ wsX90, w ∈ wsX9_sets := by decide +kernel
abbrev rm_X9_sets : Room := { frames := 5, cells := 0, slots := 0, locals := 137 }
set_option maxHeartbeats 4000000 in
set_option maxRecDepth 100000 in
theorem c_X9_sets (l : Launch) {g : GE} {h : Nat → va_E} {r : Nat} {nm kn um sv sz ra rm : Int32} {ga gk gl gB gt gn gr gp gh gv gs gx gf : Nat → Int32} (D : MdA g h r nm kn um sv sz ra rm ga gk gl gB gt gn gr gp gh gv gs gx gf) {M : PRG} (S : RS M nm ga gk gl gB) (hP : PV M) {u : Nat} (hu : u < 3) (p0 : Int32) (hp0 : p0.toInt = (u : Int)) : MV l yX9_sets wsX9_sets rm_X9_sets [.ref (g.2.2.1 r), .int p0] g h (fun h2 => (∀ k, ¬ (r ≤ k ∧ k < r + 14) → h2 k = h k) ∧ ∃ (gt2 gn2 gp2 gr2 : Nat → Int32) (K : Nat), MdA g h2 r nm kn um sv sz ra rm ga gk gl gB gt2 gn2 gr2 gp2 gh gv gs gx gf ∧ IsK u M K ∧ RT u M gt2 (mTab u M K) ∧ (gr2 u).toInt = ((K : Nat) : Int) ∧ (∀ q, q ≠ u → gr2 q = gr q) ∧ ∀ q, ¬ (500 * u ≤ q ∧ q < 500 * u + 500) → gt2 q = gt q) := by
  refine Met.ofW (cc := cX9_sets) (maxL := 3) (ret := none) (by decide) rfl ?_
  intro p e s m args below meth c s₁ B hml hv
  obtain ⟨rfl, w0⟩ := hv
  have hx := B.exec
  have hb := B.bytes
  have hr := B.returns
  have hts := atoms_spec (ws := wsX9_sets) B.pre
  have hown : s.vm.findClass RX9 = some m.cls := findClass_of_methodNamed B.named
  have hlocks := B.notSynchronized
  have w := w0.start
  clear w0
  have hl := lv_entry ([.ref (g.2.2.1 r), .int p0]) (n := 3) (Nat.le_of_ble_eq_true rfl)
  rw [lg_entry_eq]
  generalize (lg_sl ([.ref (g.2.2.1 r), .int p0]) ++ List.replicate (3 - (lg_sl ([.ref (g.2.2.1 r), .int p0])).length) Slot.unset).toArray = ls at hl ⊢
  have hl : lv_has ls 3 [(0, .ref (g.2.2.1 r)), (1, .int p0)] := hl
  have cuts : ∀ N : Nat, (∀ (i : Nat) (x2 : Int32) (gt1 : Nat → Int32) (hc : Nat → va_E) (H : Heap) (locs : List Loc) (ls : Array Slot), WD g (inW g) s hc H locs → lv_has ls 3 [(0, .ref (g.2.2.1 r)), (1, .int p0), (2, .int x2)] → (i ≤ 500) → (x2.toInt = ((i : Nat) : Int)) → (∀ q, (500 * u ≤ q ∧ q < 500 * u + i → (gt1 q).toInt = ((mN u : Nat) : Int)) ∧ (¬ (500 * u ≤ q ∧ q < 500 * u + i) → gt1 q = gt q)) → (MdA g hc r nm kn um sv sz ra rm ga gk gl gB gt1 gn gr gp gh gv gs gx gf) → (∀ k, ¬ (r ≤ k ∧ k < r + 14) → hc k = h k) → 1600 - i < N → W p l e (headSpec wsX9_sets rm_X9_sets).room s m ([.ref (g.2.2.1 r), .int p0] : List Value).toArray below meth c H locs 0 0 (MQ below (va_Qv (fun h2 => (∀ k, ¬ (r ≤ k ∧ k < r + 14) → h2 k = h k) ∧ ∃ (gt2 gn2 gp2 gr2 : Nat → Int32) (K : Nat), MdA g h2 r nm kn um sv sz ra rm ga gk gl gB gt2 gn2 gr2 gp2 gh gv gs gx gf ∧ IsK u M K ∧ RT u M gt2 (mTab u M K) ∧ (gr2 u).toInt = ((K : Nat) : Int) ∧ (∀ q, q ≠ u → gr2 q = gr q) ∧ ∀ q, ¬ (500 * u ≤ q ∧ q < 500 * u + 500) → gt2 q = gt q) (Wd g) (inW g)) ([.ref (g.2.2.1 r), .int p0] : List Value).toArray s 0 0 (inW g)) (F0 m 2 ls [])) ∧ (∀ (k : Nat) (gt1 : Nat → Int32) (gn1 : Nat → Int32) (gp1 : Nat → Int32) (gr1 : Nat → Int32) (hc : Nat → va_E) (H : Heap) (locs : List Loc) (ls : Array Slot), WD g (inW g) s hc H locs → lv_has ls 3 [(0, .ref (g.2.2.1 r)), (1, .int p0)] → (k ≤ 513) → (∀ j_, j_ < k → ¬ Stable u M j_) → (RT u M gt1 (mTab u M k)) → ((gr1 u).toInt = ((k : Nat) : Int)) → (∀ q, q ≠ u → gr1 q = gr q) → (∀ q, ¬ (500 * u ≤ q ∧ q < 500 * u + 500) → gt1 q = gt q) → (MdA g hc r nm kn um sv sz ra rm ga gk gl gB gt1 gn1 gr1 gp1 gh gv gs gx gf) → (∀ k, ¬ (r ≤ k ∧ k < r + 14) → hc k = h k) → 1000 - k < N → W p l e (headSpec wsX9_sets rm_X9_sets).room s m ([.ref (g.2.2.1 r), .int p0] : List Value).toArray below meth c H locs 0 0 (MQ below (va_Qv (fun h2 => (∀ k, ¬ (r ≤ k ∧ k < r + 14) → h2 k = h k) ∧ ∃ (gt2 gn2 gp2 gr2 : Nat → Int32) (K : Nat), MdA g h2 r nm kn um sv sz ra rm ga gk gl gB gt2 gn2 gr2 gp2 gh gv gs gx gf ∧ IsK u M K ∧ RT u M gt2 (mTab u M K) ∧ (gr2 u).toInt = ((K : Nat) : Int) ∧ (∀ q, q ≠ u → gr2 q = gr q) ∧ ∀ q, ¬ (500 * u ≤ q ∧ q < 500 * u + 500) → gt2 q = gt q) (Wd g) (inW g)) ([.ref (g.2.2.1 r), .int p0] : List Value).toArray s 0 0 (inW g)) (F0 m 38 ls [])) := by
    intro N
    induction N with
    | zero => exact ⟨by intros; omega, by intros; omega⟩
    | succ N ih =>
      obtain ⟨ih2, ih38⟩ := ih
      refine ⟨?_, ?_⟩
      · intro i x2 gt1 hc H locs ls w hl hi hx2 hfl D hfr hN_
        refine lv_iload_n hx hb dX9_sets_2 rfl (lv_at hl 2 rfl) ?_
        refine lv_sipush (v := 500) hx hb dX9_sets_3 (by decide) ?_
        refine lv_icmp_ge (tgt := 31) hx hb dX9_sets_6 (by decide) (fun c1 => ?_) (fun c1 => ?_)
        · have c1 : ((500 : Nat) : Int) ≤ ((i : Nat) : Int) := (i_le (by decide : (500 : Int32).toInt = ((500 : Nat) : Int)) hx2).mp c1
          refine lv_aload_n hx hb dX9_sets_31 rfl (lv_at hl 0 rfl) ?_
          refine r_get (C := RX9) (T := TX9) (N := 20) (ci := 7) hx hb hts inX9_sets_X9 hown w (by have := D.1; omega) D.c0 rfl 7 (by decide) (hts (Cond.fieldLink RX9 28 "EarlyValuesModel" "roundsOf" "[I") (List.mem_of_getElem? (i := 2) (by decide +kernel))) rfl rfl dX9_sets_32 ?_
          refine lv_iload_n hx hb dX9_sets_35 rfl (lv_at hl 1 rfl) ?_
          refine lv_iconst (v := 0) hx hb dX9_sets_36 (by decide) ?_
          refine r_iast (j := u) hx hb w (by have := D.1; omega) D.c7 hp0 (by omega) dX9_sets_37 (fun h2 H locs eh2 w => ?_)
          have D := D.s7 eh2
          generalize egz3 : upd gr u 0 = gz3 at D
          have hfr : ∀ k_, ¬ (r ≤ k_ ∧ k_ < r + 14) → h2 k_ = h k_ := fun k_ hk_ => by rw [eh2, va_up_ne _ _ (by omega)]; exact hfr k_ hk_
          exact ih38 0 gt1 gn gp gz3 h2 _ _ _ w (lv_sub hl [0, 1] rfl) (by omega) (fun j_ hj_ => absurd hj_ (Nat.not_lt_zero _)) (fl_rt (gt := gt) hP (fun q_ => by have e_ : i = 500 := by {omega}; rw [e_] at hfl; exact hfl q_)) (by rw [← egz3, pk_us]; rfl) (fun q hq => by rw [← egz3, pk_un hq]) (fun q hq => (hfl q).2 (by omega)) D hfr (by omega)
        · have c1 : ¬ (((500 : Nat) : Int) ≤ ((i : Nat) : Int)) := fun q => c1 ((i_le (by decide : (500 : Int32).toInt = ((500 : Nat) : Int)) hx2).mpr q)
          refine lv_aload_n hx hb dX9_sets_9 rfl (lv_at hl 0 rfl) ?_
          refine r_get (C := RX9) (T := TX9) (N := 20) (ci := 7) hx hb hts inX9_sets_X9 hown w (by have := D.1; omega) D.c0 rfl 5 (by decide) (hts (Cond.fieldLink RX9 22 "EarlyValuesModel" "table" "[I") (List.mem_of_getElem? (i := 1) (by decide +kernel))) rfl rfl dX9_sets_10 ?_
          refine lv_sipush (v := 500) hx hb dX9_sets_13 (by decide) ?_
          refine lv_iload_n hx hb dX9_sets_16 rfl (lv_at hl 1 rfl) ?_
          refine lv_imul hx hb dX9_sets_17 ?_
          refine lv_topi (fun y4 ey4 => ?_)
          have ty4 : y4.toInt = (((500 * u) : Nat) : Int) := i_mulN ey4 (by decide : (500 : Int32).toInt = ((500 : Nat) : Int)) hp0 (by omega)
          refine lv_iload_n hx hb dX9_sets_18 rfl (lv_at hl 2 rfl) ?_
          refine lv_iadd hx hb dX9_sets_19 ?_
          refine lv_topi (fun y5 ey5 => ?_)
          have ty5 : y5.toInt = ((((500 * u) + i) : Nat) : Int) := i_addN ey5 ty4 hx2 (by omega)
          refine lv_iload_n hx hb dX9_sets_20 rfl (lv_at hl 1 rfl) ?_
          refine r_callI w (va_runS (As := [.int p0]) (rest := [.int y5, .ref (g.2.2.1 (r + 5))]) ⟨hx, hb, hml, hown, hts⟩ (c_X9_neverOf l hu p0 hp0) (va_cwS 1 hts gX9_sets_X9_neverOf rfl rfl rfl (by decide +kernel) ⟨Nat.le_of_ble_eq_true rfl, Nat.le_of_ble_eq_true rfl⟩) (r_preS w) rfl rfl hl.1 rfl (lv_room (Nat.le_of_ble_eq_true rfl)) dX9_sets_21 ⟨Nat.zero_le _, Nat.zero_le _⟩) (fun r7 h6 H locs hp w => ?_)
          obtain ⟨eh_, qq8⟩ := hp
          have eh_ := eh_.symm
          subst eh_
          refine r_iast (j := ((500 * u) + i)) hx hb w (by have := D.1; omega) D.c5 ty5 (by omega) dX9_sets_24 (fun h9 H locs eh9 w => ?_)
          have D := D.s5 eh9
          generalize egz10 : upd gt1 (((500 * u) + i)) r7 = gz10 at D
          have hfr : ∀ k_, ¬ (r ≤ k_ ∧ k_ < r + 14) → h9 k_ = h k_ := fun k_ hk_ => by rw [eh9, va_up_ne _ _ (by omega)]; exact hfr k_ hk_
          obtain ⟨y11, ey11⟩ : ∃ y : Int32, y = x2 + (1) := ⟨_, rfl⟩
          have ty11 : y11.toInt = (((i + 1) : Nat) : Int) := i_addN ey11 hx2 (by decide : (1 : Int32).toInt = ((1 : Nat) : Int)) (by omega)
          refine lv_iinc (v := y11) (lv' := [(2, .int y11), (0, .ref (g.2.2.1 r)), (1, .int p0)]) hx hb dX9_sets_25 hl (k := 2) rfl (by rw [ey11]; rfl) (by decide) rfl (fun ls hl => ?_)
          refine lv_goto (tgt := 2) hx hb dX9_sets_28 (by decide) ?_
          exact ih2 (i + 1) y11 gz10 h9 _ _ _ w (lv_sub hl [1, 2, 0] rfl) (by omega) ty11 (fl_up hfl qq8 egz10) D hfr (by omega)
      · intro k gt1 gn1 gp1 gr1 hc H locs ls w hl hk5 hns hT hgr hgo hto D hfr hN_
        refine lv_aload_n hx hb dX9_sets_38 rfl (lv_at hl 0 rfl) ?_
        refine lv_iload_n hx hb dX9_sets_39 rfl (lv_at hl 1 rfl) ?_
        refine r_callI w (va_runV (As := [.int p0]) (rest := []) ⟨hx, hb, hml, hown, hts⟩ (c_X9_changes l D S hP hu hT p0 hp0) (cwV 1 hts gX9_sets_X9_changes rfl rfl rfl (by decide +kernel) ⟨Nat.le_of_ble_eq_true rfl, Nat.le_of_ble_eq_true rfl⟩) (r_preV w (by have := D.1; omega) D.c0 rfl) rfl rfl hl.1 rfl (lv_room (Nat.le_of_ble_eq_true rfl)) dX9_sets_40 ⟨Nat.zero_le _, Nat.zero_le _⟩) (fun r13 h12 H locs hp w => ?_)
        obtain ⟨hfk14, hbk14, gtk14, gnk14, gpk14, D, hTk14, hok14⟩ := hp
        have hfr : ∀ k_, ¬ (r ≤ k_ ∧ k_ < r + 14) → h12 k_ = h k_ := fun k_ hk_ => (hfk14 k_ (by omega)).trans (hfr k_ hk_)
        refine lv_if_eq (tgt := 59) hx hb dX9_sets_43 (by decide) (fun c15 => ?_) (fun c15 => ?_)
        · have c15 := hbk14.eq c15
          refine r_vret hx hb hr hlocks w dX9_sets_59 ?_
          have hst_ := Classical.not_not.mp c15
          have hK_ : IsK u M k := ⟨hst_, hns⟩
          exact ⟨hfr, _, _, _, _, k, D, hK_, (fun f_ row_ a_ b_ => ⟨fun i_ => by rw [((hTk14 f_ row_ a_ b_).1 i_), hst_ f_ _ a_ (mIx_in (hP.2.2 f_ a_).1 i_)], (hTk14 f_ row_ a_ b_).2⟩), hgr, hgo, fun q hq => (hok14 q hq).trans (hto q hq)⟩
        · have c15 := hbk14.ne c15
          have hnsk14 : ∀ j_, j_ < k + 1 → ¬ Stable u M j_ := fun j_ hj_ => by
            rcases Nat.lt_succ_iff_lt_or_eq.mp hj_ with z_ | z_
            · exact hns j_ z_
            · rw [z_]; exact c15
          refine lv_aload_n hx hb dX9_sets_46 rfl (lv_at hl 0 rfl) ?_
          refine r_get (C := RX9) (T := TX9) (N := 20) (ci := 7) hx hb hts inX9_sets_X9 hown w (by have := D.1; omega) D.c0 rfl 7 (by decide) (hts (Cond.fieldLink RX9 28 "EarlyValuesModel" "roundsOf" "[I") (List.mem_of_getElem? (i := 2) (by decide +kernel))) rfl rfl dX9_sets_47 ?_
          refine lv_iload_n hx hb dX9_sets_50 rfl (lv_at hl 1 rfl) ?_
          refine lv_dup2_11 hx hb dX9_sets_51 rfl rfl ?_
          refine r_iald (j := u) hx hb w (by have := D.1; omega) D.c7 hp0 (by omega) dX9_sets_52 ?_
          refine lv_iconst (v := 1) hx hb dX9_sets_53 (by decide) ?_
          refine lv_iadd hx hb dX9_sets_54 ?_
          refine lv_topi (fun y16 ey16 => ?_)
          have ty16 : y16.toInt = (((k + 1) : Nat) : Int) := i_addN ey16 hgr (by decide : (1 : Int32).toInt = ((1 : Nat) : Int)) (by omega)
          refine r_iast (j := u) hx hb w (by have := D.1; omega) D.c7 hp0 (by omega) dX9_sets_55 (fun h17 H locs eh17 w => ?_)
          have D := D.s7 eh17
          generalize egz18 : upd gr1 u y16 = gz18 at D
          have hfr : ∀ k_, ¬ (r ≤ k_ ∧ k_ < r + 14) → h17 k_ = h k_ := fun k_ hk_ => by rw [eh17, va_up_ne _ _ (by omega)]; exact hfr k_ hk_
          refine lv_goto (tgt := 38) hx hb dX9_sets_56 (by decide) ?_
          exact ih38 (k + 1) gtk14 gnk14 gpk14 gz18 h17 _ _ _ w (lv_sub hl [0, 1] rfl) ((by have := noStable_512 hu hP hnsk14; omega)) (fun j_ hj_ => hnsk14 j_ (by omega)) hTk14 (by rw [← egz18, pk_us]; exact ty16) (fun q hq => by rw [← egz18, pk_un hq]; exact hgo q hq) (fun q hq => (hok14 q hq).trans (hto q hq)) D hfr (by omega)
  have cut0 := cuts (3000)
  obtain ⟨ih2, ih38⟩ := cut0
  refine lv_iconst (v := 0) hx hb dX9_sets_0 (by decide) ?_
  refine lv_istore_n (lv' := [(2, .int 0), (0, .ref (g.2.2.1 r)), (1, .int p0)]) hx hb dX9_sets_1 rfl hl (by decide) rfl (fun ls hl => ?_)
  exact ih2 0 0 gt h _ _ _ w (lv_sub hl [1, 2, 0] rfl) (Nat.zero_le _) ((by decide : (0 : Int32).toInt = ((0 : Nat) : Int))) (fun q => ⟨fun y => absurd y (by omega), fun _ => rfl⟩) D (fun k_ _ => rfl) (by omega)

theorem inX9_setAll_X9 : ∀ w ∈ wsX90, w ∈ wsX9_setAll := by decide +kernel
abbrev rm_X9_setAll : Room := { frames := 6, cells := 0, slots := 0, locals := 159 }
set_option maxHeartbeats 4000000 in
set_option maxRecDepth 100000 in
theorem c_X9_setAll (l : Launch) {g : GE} {h : Nat → va_E} {r : Nat} {nm kn um sv sz ra rm : Int32} {ga gk gl gB gt gn gr gp gh gv gs gx gf : Nat → Int32} (D : MdA g h r nm kn um sv sz ra rm ga gk gl gB gt gn gr gp gh gv gs gx gf) {M : PRG} (S : RS M nm ga gk gl gB) (hP : PV M) (hkn : kn = 0 ∨ (kn = 1 ∧ RAll M gt gr)) : MV l yX9_setAll wsX9_setAll rm_X9_setAll [.ref (g.2.2.1 r)] g h (fun h2 => (∀ k, ¬ (r ≤ k ∧ k < r + 14) → h2 k = h k) ∧ ∃ (gt2 gn2 gp2 gr2 : Nat → Int32), MdA g h2 r nm 1 um sv sz ra rm ga gk gl gB gt2 gn2 gr2 gp2 gh gv gs gx gf ∧ RAll M gt2 gr2) := by
  refine Met.ofW (cc := cX9_setAll) (maxL := 1) (ret := none) (by decide) rfl ?_
  intro p e s m args below meth c s₁ B hml hv
  obtain ⟨rfl, w0⟩ := hv
  have hx := B.exec
  have hb := B.bytes
  have hr := B.returns
  have hts := atoms_spec (ws := wsX9_setAll) B.pre
  have hown : s.vm.findClass RX9 = some m.cls := findClass_of_methodNamed B.named
  have hlocks := B.notSynchronized
  have w := w0.start
  clear w0
  have hl := lv_entry ([.ref (g.2.2.1 r)]) (n := 1) (Nat.le_of_ble_eq_true rfl)
  rw [lg_entry_eq]
  generalize (lg_sl ([.ref (g.2.2.1 r)]) ++ List.replicate (1 - (lg_sl ([.ref (g.2.2.1 r)])).length) Slot.unset).toArray = ls at hl ⊢
  have hl : lv_has ls 1 [(0, .ref (g.2.2.1 r))] := hl
  refine lv_aload_n hx hb dX9_setAll_0 rfl (lv_at hl 0 rfl) ?_
  refine r_get (C := RX9) (T := TX9) (N := 20) (ci := 7) hx hb hts inX9_setAll_X9 hown w (by have := D.1; omega) D.c0 rfl 8 (by decide) (hts (Cond.fieldLink RX9 121 "EarlyValuesModel" "isKnown" "Z") (List.mem_of_getElem? (i := 1) (by decide +kernel))) rfl rfl dX9_setAll_1 ?_
  refine lv_if_ne (tgt := 27) hx hb dX9_setAll_4 (by decide) (fun c1 => ?_) (fun c1 => ?_)
  · have c1 : ¬ (kn.toInt = (0 : Int)) := fun q => c1 ((i_eq (rfl : kn.toInt = kn.toInt) (rfl : (0 : Int32).toInt = 0)).mpr q)
    refine r_vret hx hb hr hlocks w dX9_setAll_27 ?_
    rcases hkn with z_ | ⟨z1_, z2_⟩
    · exact absurd (by rw [z_]; rfl) c1
    · subst z1_; exact ⟨fun k_ _ => rfl, _, _, _, _, D, z2_⟩
  · have c1 : kn.toInt = (0 : Int) := (i_eq (rfl : kn.toInt = kn.toInt) (rfl : (0 : Int32).toInt = 0)).mp c1
    refine lv_aload_n hx hb dX9_setAll_7 rfl (lv_at hl 0 rfl) ?_
    refine lv_iconst (v := 0) hx hb dX9_setAll_8 (by decide) ?_
    refine r_callV w (va_runV (As := [.int 0]) (rest := []) ⟨hx, hb, hml, hown, hts⟩ (c_X9_sets l D S hP (u := 0) (by omega) 0 (by decide : (0 : Int32).toInt = ((0 : Nat) : Int))) (cwV 1 hts gX9_setAll_X9_sets rfl rfl rfl (by decide +kernel) ⟨Nat.le_of_ble_eq_true rfl, Nat.le_of_ble_eq_true rfl⟩) (r_preV w (by have := D.1; omega) D.c0 rfl) rfl rfl hl.1 rfl (lv_room (Nat.le_of_ble_eq_true rfl)) dX9_setAll_9 ⟨Nat.zero_le _, Nat.zero_le _⟩) (fun h2 H locs hp w => ?_)
    obtain ⟨hfk3, gtk3, gnk3, gpk3, grk3, Kk3, D, hKk3, hTk3, hgk3, hek3, hok3⟩ := hp
    have hfr : ∀ k_, ¬ (r ≤ k_ ∧ k_ < r + 14) → h2 k_ = h k_ := fun k_ hk_ => (hfk3 k_ (by omega))
    refine lv_aload_n hx hb dX9_setAll_12 rfl (lv_at hl 0 rfl) ?_
    refine lv_iconst (v := 1) hx hb dX9_setAll_13 (by decide) ?_
    refine r_callV w (va_runV (As := [.int 1]) (rest := []) ⟨hx, hb, hml, hown, hts⟩ (c_X9_sets l D S hP (u := 1) (by omega) 1 (by decide : (1 : Int32).toInt = ((1 : Nat) : Int))) (cwV 1 hts gX9_setAll_X9_sets rfl rfl rfl (by decide +kernel) ⟨Nat.le_of_ble_eq_true rfl, Nat.le_of_ble_eq_true rfl⟩) (r_preV w (by have := D.1; omega) D.c0 rfl) rfl rfl hl.1 rfl (lv_room (Nat.le_of_ble_eq_true rfl)) dX9_setAll_14 ⟨Nat.zero_le _, Nat.zero_le _⟩) (fun h4 H locs hp w => ?_)
    obtain ⟨hfk5, gtk5, gnk5, gpk5, grk5, Kk5, D, hKk5, hTk5, hgk5, hek5, hok5⟩ := hp
    have hfr : ∀ k_, ¬ (r ≤ k_ ∧ k_ < r + 14) → h4 k_ = h k_ := fun k_ hk_ => (hfk5 k_ (by omega)).trans (hfr k_ hk_)
    refine lv_aload_n hx hb dX9_setAll_17 rfl (lv_at hl 0 rfl) ?_
    refine lv_iconst (v := 2) hx hb dX9_setAll_18 (by decide) ?_
    refine r_callV w (va_runV (As := [.int 2]) (rest := []) ⟨hx, hb, hml, hown, hts⟩ (c_X9_sets l D S hP (u := 2) (by omega) 2 (by decide : (2 : Int32).toInt = ((2 : Nat) : Int))) (cwV 1 hts gX9_setAll_X9_sets rfl rfl rfl (by decide +kernel) ⟨Nat.le_of_ble_eq_true rfl, Nat.le_of_ble_eq_true rfl⟩) (r_preV w (by have := D.1; omega) D.c0 rfl) rfl rfl hl.1 rfl (lv_room (Nat.le_of_ble_eq_true rfl)) dX9_setAll_19 ⟨Nat.zero_le _, Nat.zero_le _⟩) (fun h6 H locs hp w => ?_)
    obtain ⟨hfk7, gtk7, gnk7, gpk7, grk7, Kk7, D, hKk7, hTk7, hgk7, hek7, hok7⟩ := hp
    have hfr : ∀ k_, ¬ (r ≤ k_ ∧ k_ < r + 14) → h6 k_ = h k_ := fun k_ hk_ => (hfk7 k_ (by omega)).trans (hfr k_ hk_)
    refine lv_aload_n hx hb dX9_setAll_22 rfl (lv_at hl 0 rfl) ?_
    refine lv_iconst (v := 1) hx hb dX9_setAll_23 (by decide) ?_
    refine r_put (ty := .boolean) (C := RX9) (T := TX9) (N := 20) (ci := 7) hx hb hts inX9_setAll_X9 tyX9 tyX9_ok nmX9 hown w (by have := D.1; omega) D.c0 rfl 8 (by decide) (hts (Cond.fieldLink RX9 121 "EarlyValuesModel" "isKnown" "Z") (List.mem_of_getElem? (i := 1) (by decide +kernel))) rfl rfl (by decide +kernel) (by first | rfl | exact rfl) (by first | rfl | exact Bq.fit rfl) (Nat.le_of_ble_eq_true rfl) dX9_setAll_24 (fun h8 H locs eh8 w => ?_)
    have D := D.s0 eh8
    have hfr : ∀ k_, ¬ (r ≤ k_ ∧ k_ < r + 14) → h8 k_ = h k_ := fun k_ hk_ => by rw [eh8, va_up_ne _ _ (by omega)]; exact hfr k_ hk_
    refine r_vret hx hb hr hlocks w dX9_setAll_27 ?_
    exact ⟨hfr, _, _, _, _, D, rall_3 hP hKk3 hKk5 hKk7 hTk3 hTk5 hTk7 hgk3 hgk5 hgk7 hok5 hok7 hek5 hek7⟩

