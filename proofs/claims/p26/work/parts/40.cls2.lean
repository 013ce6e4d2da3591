theorem mBits_F {u : Nat} {M : PRG} {K f c : Nat} (hK : IsK u M K) : mBits (mStrict u M (mTab u M K) f) c = mBits (mStrictF u M f) c := by
  have e : mStrict u M (mTab u M K) f = mStrictF u M f := by
    funext a
    exact propext (mStrictF_iff hK).symm
  rw [e]
theorem rows_1 {M : PRG} (hP : PV M) {f : Nat} (hf : f < pN M) : mRw 1 M f ≤ 8 := by
  have h := pow2_c (hP.2.2 f hf).1
  show mB 1 ^ pA M f ≤ 8
  omega
theorem tab_2 {M : PRG} (hP : PV M) {K f j : Nat} (hf : f < pN M) (hj : j < mRw 1 M f) : mTab 1 M K f j < 2 := mTab_lt (by omega) hP K f j hf hj
/-- what of calls may be worked out early, so far -/
noncomputable def eSum (M : PRG) (w f : Nat) : Nat → Nat := sm (fun j => ePart M w (pB M f j))
theorem eSum_s {M : PRG} {w f j : Nat} : eSum M w f (j + 1) = eSum M w f j + ePart M w (pB M f j) := rfl
theorem letter_fn {M : PRG} (hP : PV M) {f j : Nat} (hf : f < pN M) (hj : j < pL M f) : pB M f j < 14 ∧ pB M f j - 10 < pN M := by
  have h1 := hP.1
  obtain ⟨a, b, -⟩ := (hP.2.2 f hf).2.2.2.2.1 j hj
  refine ⟨a, ?_⟩
  by_cases q : 10 ≤ pB M f j
  · exact b.call q
  · omega
theorem eSum_ub {M : PRG} (hP : PV M) {w f j : Nat} (hf : f < pN M) (hj : j ≤ pL M f) : eSum M w f j ≤ j * 3 :=
  sm_ub (f := fun j => ePart M w (pB M f j)) (c := 3) j (fun i hi => ePart_le hP (letter_fn hP hf (by omega)).2)
theorem eStep_0 {M : PRG} {w f j : Nat} (h : pB M f j < 10) : eSum M w f (j + 1) = eSum M w f j := by rw [eSum_s, ePart_no h, Nat.add_zero]
theorem eStep_3 {M : PRG} {f j : Nat} (h : 10 ≤ pB M f j) : eSum M 3 f (j + 1) = eSum M 3 f j + pA M (pB M f j - 10) := by rw [eSum_s, ePart_3 h]
theorem eStep_w {M : PRG} {w u K f j : Nat} (hK : IsK u M K) (hu : u = wU w) (h : 10 ≤ pB M f j) (hw : w < 3) : eSum M w f (j + 1) = eSum M w f j + pop (mBits (mStrict u M (mTab u M K) (pB M f j - 10)) (pA M (pB M f j - 10))) := by
  rw [eSum_s, ePart_w h hw, mBits_F hK, hu]
/-- the least row that comes to k so far, told by its arguments -/
def told (u row : Nat) : Nat := 100 * mDig u row 0 + 10 * mDig u row 1 + mDig u row 2
def LstQ (u : Nat) (T : Nat → Nat → Nat) (f k row : Nat) (x : Int) : Prop := (x = -4 ∧ ∀ r, r < row → T f r ≠ k) ∨ (∃ r0, r0 < row ∧ T f r0 = k ∧ x = ((told u r0 : Nat) : Int) ∧ ∀ r, r < row → T f r = k → told u r0 ≤ told u r)
theorem LstQ.z {u : Nat} {T : Nat → Nat → Nat} {f k : Nat} : LstQ u T f k 0 (-4) := Or.inl ⟨rfl, fun r hr => absurd hr (Nat.not_lt_zero _)⟩
theorem LstQ.no {u : Nat} {T : Nat → Nat → Nat} {f k row : Nat} {x : Int} (h : LstQ u T f k row x) (q : T f row ≠ k) : LstQ u T f k (row + 1) x := by
  rcases h with ⟨a, b⟩ | ⟨r0, a, b, c, d⟩
  · refine Or.inl ⟨a, fun r hr => ?_⟩
    rcases Nat.lt_succ_iff_lt_or_eq.mp hr with z | z
    · exact b r z
    · rw [z]; exact q
  · refine Or.inr ⟨r0, by omega, b, c, fun r hr e => ?_⟩
    rcases Nat.lt_succ_iff_lt_or_eq.mp hr with z | z
    · exact d r z e
    · rw [z] at e; exact absurd e q
theorem LstQ.up {u : Nat} {T : Nat → Nat → Nat} {f k row : Nat} {x : Int} (h : LstQ u T f k row x) (q : T f row = k) (hx : x = -4 ∨ ((told u row : Nat) : Int) < x) : LstQ u T f k (row + 1) ((told u row : Nat) : Int) := by
  refine Or.inr ⟨row, by omega, q, rfl, fun r hr e => ?_⟩
  rcases Nat.lt_succ_iff_lt_or_eq.mp hr with z | z
  · rcases h with ⟨a, b⟩ | ⟨r0, a, b, c, d⟩
    · exact absurd e (b r z)
    · have := d r z e
      omega
  · rw [z]; exact Nat.le_refl _
theorem LstQ.keep {u : Nat} {T : Nat → Nat → Nat} {f k row : Nat} {x : Int} (h : LstQ u T f k row x) (hx : x ≠ -4) (hy : ¬ ((told u row : Nat) : Int) < x) : LstQ u T f k (row + 1) x := by
  rcases h with ⟨a, b⟩ | ⟨r0, a, b, c, d⟩
  · exact absurd a hx
  · refine Or.inr ⟨r0, by omega, b, c, fun r hr e => ?_⟩
    rcases Nat.lt_succ_iff_lt_or_eq.mp hr with z | z
    · exact d r z e
    · rw [z]; omega
theorem told_ix {c q : Nat} (h : mIs 0 c (q / 25) (q / 5 % 5) (q % 5)) : told 0 (mIx 0 q) = 100 * (q / 25) + 10 * (q / 5 % 5) + q % 5 := by
  obtain ⟨h1, h2, h3, -⟩ := mIs_lt h
  obtain ⟨d0, d1, d2⟩ := dig3 h1 h2 h3
  unfold told mIx
  rw [d0, d1, d2]
theorem first_fin {M : PRG} {K f k : Nat} {x : Int} (hP : PV M) (hf : f < pN M) (h : LstQ 0 (mTab 0 M K) f k (mRw 0 M f) x) : (∃ q, q < 125 ∧ Hit M K f k q ∧ (∀ j, j < q → ¬ Hit M K f k j) ∧ x = ((100 * (q / 25) + 10 * (q / 5 % 5) + q % 5 : Nat) : Int)) ∨ ((∀ q, q < 125 → ¬ Hit M K f k q) ∧ x = -4) := by
  have h3 := (hP.2.2 f hf).1
  rcases h with ⟨a, b⟩ | ⟨r0, a, b, c, d⟩
  · exact Or.inr ⟨fun q hq z => b _ (mIx_in h3 z.1) z.2, a⟩
  · obtain ⟨q, q1, q2, q3⟩ := mIx_ex (by omega) h3 a
    have t0 := told_ix q2
    rw [q3] at t0
    refine Or.inl ⟨q, q1, ⟨q2, by rw [q3]; exact b⟩, fun j hj z => ?_, by rw [c, t0]⟩
    have t1 := told_ix z.1
    have := d _ (mIx_in h3 z.1) z.2
    rw [t0, t1] at this
    omega
theorem inX8_value_X8 : ∀ w ∈ wsX80, w ∈ wsX8_value := by decide +kernel
abbrev rm_X8_value : Room := { frames := 7, cells := 0, slots := 0, locals := 157 }
set_option maxHeartbeats 4000000 in
set_option maxRecDepth 100000 in
theorem c_X8_value (l : Launch) {g : GE} {h : Nat → va_E} {x : Nat} {st0 : ST} (C : ClsA g h x st0) (p0 : Int32) (p1 : Int32) (p2 : Int32) (p3 : Int32) : MI l yX8_value wsX8_value rm_X8_value [.ref (g.2.2.1 x), .int p0, .int p1, .int p2, .int p3] g h (fun r_ h2 => (∀ k, ¬ (x ≤ k ∧ k < x + 143) → h2 k = h k) ∧ ClsA g h2 x st0 ∧ AnTab 0 st0 p0 p1 p2 p3 r_) := by
  refine Met.ofW (cc := cX8_value) (maxL := 6) (ret := (some .int)) (by decide) rfl ?_
  intro p e s m args below meth c s₁ B hml hv
  obtain ⟨rfl, w0⟩ := hv
  have hx := B.exec
  have hb := B.bytes
  have hr := B.returns
  have hts := atoms_spec (ws := wsX8_value) B.pre
  have hown : s.vm.findClass RX8 = some m.cls := findClass_of_methodNamed B.named
  have hlocks := B.notSynchronized
  have w := w0.start
  clear w0
  have hl := lv_entry ([.ref (g.2.2.1 x), .int p0, .int p1, .int p2, .int p3]) (n := 6) (Nat.le_of_ble_eq_true rfl)
  rw [lg_entry_eq]
  generalize (lg_sl ([.ref (g.2.2.1 x), .int p0, .int p1, .int p2, .int p3]) ++ List.replicate (6 - (lg_sl ([.ref (g.2.2.1 x), .int p0, .int p1, .int p2, .int p3])).length) Slot.unset).toArray = ls at hl ⊢
  have hl : lv_has ls 6 [(0, .ref (g.2.2.1 x)), (1, .int p0), (2, .int p1), (3, .int p2), (4, .int p3)] := hl
  obtain ⟨hSV, ⟨kn, E, hkn⟩, T0, Q1, P0, Q2, Q3, Q4, H0_, W0, W1, W2, W3, W4⟩ := C
  have hSV0 := hSV
  obtain ⟨hP, hu8, hUP, hv2, hVP, hl200, hlt⟩ := hSV
  have hn4 := hP.2.1
  have hNe := E.1
  obtain ⟨n, ga, gk, gl, gb, P, S⟩ := P0
  have hnS := S.1
  obtain ⟨u0, hu0, W0⟩ : ∃ u_ : Nat, u_ = 0 ∧ VwE g h (x + 53) u_ (sM st0) := ⟨_, rfl, W0⟩
  obtain ⟨kk0, kc0, tk0, fz0, dp0, gp0, gg0, gs0, gd0, gt0, gc0, V0, hz0⟩ := W0
  have hNv0 := V0.hN
  have hfr : ∀ k_, ¬ ((x + 53) ≤ k_ ∧ k_ < (x + 53) + 18) → h k_ = h k_ := fun _ _ => rfl
  refine lv_aload_n hx hb dX8_value_0 rfl (lv_at hl 0 rfl) ?_
  refine r_get (C := RX8) (T := TX8) (N := 11) (ci := 6) hx hb hts inX8_value_X8 hown w (by have := E.1; omega) E.2.1 rfl 6 (by decide) (hts (Cond.fieldLink RX8 40 "EarlyValues" "values" "LEarlyValues$View;") (List.mem_of_getElem? (i := 1) (by decide +kernel))) rfl rfl dX8_value_1 ?_
  refine lv_aload_n hx hb dX8_value_4 rfl (lv_at hl 0 rfl) ?_
  refine r_get (C := RX8) (T := TX8) (N := 11) (ci := 6) hx hb hts inX8_value_X8 hown w (by have := E.1; omega) E.2.1 rfl 1 (by decide) (hts (Cond.fieldLink RX8 19 "EarlyValues" "now" "LEarlyValues$Program;") (List.mem_of_getElem? (i := 2) (by decide +kernel))) rfl rfl dX8_value_5 ?_
  refine lv_iload_n hx hb dX8_value_8 rfl (lv_at hl 1 rfl) ?_
  refine lv_iload_n hx hb dX8_value_9 rfl (lv_at hl 2 rfl) ?_
  refine lv_iload_n hx hb dX8_value_10 rfl (lv_at hl 3 rfl) ?_
  refine lv_iload hx hb dX8_value_11 (lv_at hl 4 rfl) ?_
  refine r_callI w (va_3 V0.hu (fun q_ => va_runU (As := [.ref (g.2.2.1 (x + 12)), .int p0, .int p1, .int p2, .int p3]) (rest := []) ⟨hx, hb, hml, hown, hts⟩ (c_X7_rowOf l V0 P S hP p0 p1 p2 p3) (va_cwU 5 hts gX8_value_X7_rowOf_u155X6 rfl rfl rfl rfl (by decide +kernel) ⟨Nat.le_of_ble_eq_true rfl, Nat.le_of_ble_eq_true rfl⟩) (r_preV w (by have := V0.hN; omega) (V0.ob (by subst q_; rfl)) rfl) rfl rfl hl.1 rfl (lv_room (Nat.le_of_ble_eq_true rfl)) dX8_value_13 ⟨Nat.zero_le _, Nat.zero_le _⟩) (fun q_ => va_runU (As := [.ref (g.2.2.1 (x + 12)), .int p0, .int p1, .int p2, .int p3]) (rest := []) ⟨hx, hb, hml, hown, hts⟩ (c_X7_rowOf l V0 P S hP p0 p1 p2 p3) (va_cwU 5 hts gX8_value_X7_rowOf_u155X4 rfl rfl rfl rfl (by decide +kernel) ⟨Nat.le_of_ble_eq_true rfl, Nat.le_of_ble_eq_true rfl⟩) (r_preV w (by have := V0.hN; omega) (V0.ob (by subst q_; rfl)) rfl) rfl rfl hl.1 rfl (lv_room (Nat.le_of_ble_eq_true rfl)) dX8_value_13 ⟨Nat.zero_le _, Nat.zero_le _⟩) (fun q_ => va_runU (As := [.ref (g.2.2.1 (x + 12)), .int p0, .int p1, .int p2, .int p3]) (rest := []) ⟨hx, hb, hml, hown, hts⟩ (c_X7_rowOf l V0 P S hP p0 p1 p2 p3) (va_cwU 5 hts gX8_value_X7_rowOf_u155X0 rfl rfl rfl rfl (by decide +kernel) ⟨Nat.le_of_ble_eq_true rfl, Nat.le_of_ble_eq_true rfl⟩) (r_preV w (by have := V0.hN; omega) (V0.ob (by subst q_; rfl)) rfl) rfl rfl hl.1 rfl (lv_room (Nat.le_of_ble_eq_true rfl)) dX8_value_13 ⟨Nat.zero_le _, Nat.zero_le _⟩)) (fun r2 h1 H locs hp w => ?_)
  obtain ⟨eh_, qq3⟩ := hp
  have eh_ := eh_.symm
  subst eh_
  refine lv_istore (lv' := [(5, .int r2), (0, .ref (g.2.2.1 x)), (1, .int p0), (2, .int p1), (3, .int p2), (4, .int p3)]) hx hb dX8_value_16 hl (by decide) rfl (fun ls hl => ?_)
  refine lv_iload hx hb dX8_value_18 (lv_at hl 0 rfl) ?_
  refine lv_if_ge (tgt := 27) hx hb dX8_value_20 (by decide) (fun c4 => ?_) (fun c4 => ?_)
  · have c4 : (0 : Int) ≤ r2.toInt := (i_le (rfl : (0 : Int32).toInt = 0) (rfl : r2.toInt = r2.toInt)).mp c4
    obtain ⟨f, a9, b9, c9, hf0, ha0, hb0, hc0, hf, ha9, hb9, hc9, hrow, hre⟩ := qq3.resolve_right (fun q_ => by have := q_.1; omega)
    obtain ⟨r9, hr9⟩ : ∃ r_, r_ = a9 + mB u0 * b9 + mB u0 * mB u0 * c9 := ⟨_, rfl⟩
    rw [← hr9] at hrow hre
    have hR := mRw_mR V0.hu hP hf
    have ha3 := (hP.2.2 f hf).1
    refine lv_aload_n hx hb dX8_value_27 rfl (lv_at hl 1 rfl) ?_
    refine lv_aload_n hx hb dX8_value_28 rfl (lv_at hl 1 rfl) ?_
    refine r_get (C := RX8) (T := TX8) (N := 11) (ci := 6) hx hb hts inX8_value_X8 hown w (by have := E.1; omega) E.2.1 rfl 6 (by decide) (hts (Cond.fieldLink RX8 40 "EarlyValues" "values" "LEarlyValues$View;") (List.mem_of_getElem? (i := 1) (by decide +kernel))) rfl rfl dX8_value_29 ?_
    refine r_callQ w (va_runV (As := [.ref (g.2.2.1 (x + 53))]) (rest := []) ⟨hx, hb, hml, hown, hts⟩ (c_X8_solved l E ⟨_, _, _, _, _, _, _, _, _, _, _, V0, hz0⟩ P S hP (by omega)) (cwV 1 hts gX8_value_X8_solved rfl rfl rfl (by decide +kernel) ⟨Nat.le_of_ble_eq_true rfl, Nat.le_of_ble_eq_true rfl⟩) (r_preV w (by have := E.1; omega) E.2.1 rfl) rfl rfl hl.1 rfl (lv_room (Nat.le_of_ble_eq_true rfl)) dX8_value_32 ⟨Nat.zero_le _, Nat.zero_le _⟩) (fun r6 h5 H locs hp w => ?_)
    obtain ⟨hfk7, hrk7, kkk7, kck7, tkk7, dpk7, gpk7, ggk7, gsk7, gdk7, gtk7, gck7, V0, K0, hK0, htk0, hT0⟩ := hp
    subst hrk7
    have E := E.fr (h' := h5) (fun k_ h1_ h2_ h3_ => hfk7 k_ (by omega))
    have P := P.fr (h' := h5) (fun k_ h1_ h2_ => hfk7 k_ (by omega))
    have hfr : ∀ k_, ¬ ((x + 53) ≤ k_ ∧ k_ < (x + 53) + 18) → h5 k_ = h k_ := fun k_ hk_ => (hfk7 k_ (by omega))
    have hz0 : (1 : Int32) = 0 ∨ ((1 : Int32) = 1 ∧ KnK u0 (sM st0) tkk7 gtk7) := Or.inr ⟨rfl, K0, hK0, htk0, hT0⟩
    refine lv_iload_n hx hb dX8_value_35 rfl (lv_at hl 2 rfl) ?_
    refine lv_iload hx hb dX8_value_36 (lv_at hl 0 rfl) ?_
    refine r_callI w (va_3 V0.hu (fun q_ => va_runU (As := [.int p0, .int r2]) (rest := []) ⟨hx, hb, hml, hown, hts⟩ (c_X7_at l V0 p0 r2 hf0 hre (by omega) (by omega)) (va_cwU 2 hts gX8_value_X7_at_u165X6 rfl rfl rfl rfl (by decide +kernel) ⟨Nat.le_of_ble_eq_true rfl, Nat.le_of_ble_eq_true rfl⟩) (r_preV w (by have := V0.hN; omega) (V0.ob (by subst q_; rfl)) rfl) rfl rfl hl.1 rfl (lv_room (Nat.le_of_ble_eq_true rfl)) dX8_value_38 ⟨Nat.zero_le _, Nat.zero_le _⟩) (fun q_ => va_runU (As := [.int p0, .int r2]) (rest := []) ⟨hx, hb, hml, hown, hts⟩ (c_X7_at l V0 p0 r2 hf0 hre (by omega) (by omega)) (va_cwU 2 hts gX8_value_X7_at_u165X4 rfl rfl rfl rfl (by decide +kernel) ⟨Nat.le_of_ble_eq_true rfl, Nat.le_of_ble_eq_true rfl⟩) (r_preV w (by have := V0.hN; omega) (V0.ob (by subst q_; rfl)) rfl) rfl rfl hl.1 rfl (lv_room (Nat.le_of_ble_eq_true rfl)) dX8_value_38 ⟨Nat.zero_le _, Nat.zero_le _⟩) (fun q_ => va_runU (As := [.int p0, .int r2]) (rest := []) ⟨hx, hb, hml, hown, hts⟩ (c_X7_at l V0 p0 r2 hf0 hre (by omega) (by omega)) (va_cwU 2 hts gX8_value_X7_at_u165X0 rfl rfl rfl rfl (by decide +kernel) ⟨Nat.le_of_ble_eq_true rfl, Nat.le_of_ble_eq_true rfl⟩) (r_preV w (by have := V0.hN; omega) (V0.ob (by subst q_; rfl)) rfl) rfl rfl hl.1 rfl (lv_room (Nat.le_of_ble_eq_true rfl)) dX8_value_38 ⟨Nat.zero_le _, Nat.zero_le _⟩)) (fun r9 h8 H locs hp w => ?_)
    obtain ⟨eh_, qq10⟩ := hp
    have eh_ := eh_.symm
    subst eh_
    subst qq10
    refine r_iret (v := gtk7 f r9) hx hb hr hlocks w dX8_value_41 ?_
    have hq_ := hT0 f r9 hf hrow
    rw [hr9] at hrow
    subst hu0
    exact ⟨(fun k_ hk_ => hfr k_ (by omega)), ⟨hSV0, ⟨_, E, hkn⟩, (T0.fr (fun k_ a_ b_ => hfr k_ (by omega))), (Q1.fr (fun k_ a_ b_ => hfr k_ (by omega))), ⟨_, _, _, _, _, P, S⟩, (Q2.fr (fun k_ a_ b_ => hfr k_ (by omega))), (fun i_ hi_ => (Q3 i_ hi_).fr (fun k_ a_ b_ => hfr k_ (by omega))), (fun i_ (hi_ : i_ < sV st0) => (Q4 i_ hi_).fr (fun k_ a_ b_ => hfr k_ (by omega))), (H0_.fr (fun k_ a_ b_ => hfr k_ (by omega))), ⟨_, _, _, _, _, _, _, _, _, _, _, V0, hz0⟩, (W1.fr (fun k_ a_ b_ => hfr k_ (by omega))), (W2.fr (fun k_ a_ b_ => hfr k_ (by omega))), (W3.fr (fun k_ a_ b_ => hfr k_ (by omega))), (W4.fr (fun k_ a_ b_ => hfr k_ (by omega)))⟩, Or.inl ⟨f, a9, b9, c9, hf0, ha0, hb0, hc0, hf, (row_is (by omega) ha3 ha9 hb9 hc9).mp hrow, K0, hK0, by rw [← hr9]; exact hq_⟩⟩
  · have c4 : ¬ ((0 : Int) ≤ r2.toInt) := fun q => c4 ((i_le (rfl : (0 : Int32).toInt = 0) (rfl : r2.toInt = r2.toInt)).mpr q)
    refine lv_iconst (v := (-1)) hx hb dX8_value_23 (by decide) ?_
    refine lv_goto (tgt := 41) hx hb dX8_value_24 (by decide) ?_
    refine r_iret (v := (-1)) hx hb hr hlocks w dX8_value_41 ?_
    obtain ⟨-, hno_⟩ := qq3.resolve_left (fun q_ => by obtain ⟨_, _, _, _, _, _, _, _, _, _, _, _, _, z_⟩ := q_; omega)
    subst hu0
    exact ⟨(fun k_ hk_ => hfr k_ (by omega)), ⟨hSV0, ⟨_, E, hkn⟩, (T0.fr (fun k_ a_ b_ => hfr k_ (by omega))), (Q1.fr (fun k_ a_ b_ => hfr k_ (by omega))), ⟨_, _, _, _, _, P, S⟩, (Q2.fr (fun k_ a_ b_ => hfr k_ (by omega))), (fun i_ hi_ => (Q3 i_ hi_).fr (fun k_ a_ b_ => hfr k_ (by omega))), (fun i_ (hi_ : i_ < sV st0) => (Q4 i_ hi_).fr (fun k_ a_ b_ => hfr k_ (by omega))), (H0_.fr (fun k_ a_ b_ => hfr k_ (by omega))), ⟨_, _, _, _, _, _, _, _, _, _, _, V0, hz0⟩, (W1.fr (fun k_ a_ b_ => hfr k_ (by omega))), (W2.fr (fun k_ a_ b_ => hfr k_ (by omega))), (W3.fr (fun k_ a_ b_ => hfr k_ (by omega))), (W4.fr (fun k_ a_ b_ => hfr k_ (by omega)))⟩, Or.inr ⟨by rintro ⟨f_, a_, b_, c_, e1_, e2_, e3_, e4_, e5_, e6_⟩; have q_ := mIs_lt e6_; exact hno_ ⟨f_, a_, b_, c_, e1_, e2_, e3_, e4_, e5_, q_.1, q_.2.1, q_.2.2.1, mIx_lt (hP.2.2 f_ e5_).1 e6_⟩, rfl⟩⟩

theorem inX8_rough_X8 : ∀ w ∈ wsX80, w ∈ wsX8_rough := by decide +kernel
abbrev rm_X8_rough : Room := { frames := 7, cells := 0, slots := 0, locals := 157 }
set_option maxHeartbeats 4000000 in
set_option maxRecDepth 100000 in
theorem c_X8_rough (l : Launch) {g : GE} {h : Nat → va_E} {x : Nat} {st0 : ST} (C : ClsA g h x st0) (p0 : Int32) (p1 : Int32) : MI l yX8_rough wsX8_rough rm_X8_rough [.ref (g.2.2.1 x), .int p0, .int p1] g h (fun r_ h2 => (∀ k, ¬ (x ≤ k ∧ k < x + 143) → h2 k = h k) ∧ ClsA g h2 x st0 ∧ AnRough st0 p0 p1 r_) := by
  refine Met.ofW (cc := cX8_rough) (maxL := 3) (ret := (some .int)) (by decide) rfl ?_
  intro p e s m args below meth c s₁ B hml hv
  obtain ⟨rfl, w0⟩ := hv
  have hx := B.exec
  have hb := B.bytes
  have hr := B.returns
  have hts := atoms_spec (ws := wsX8_rough) B.pre
  have hown : s.vm.findClass RX8 = some m.cls := findClass_of_methodNamed B.named
  have hlocks := B.notSynchronized
  have w := w0.start
  clear w0
  have hl := lv_entry ([.ref (g.2.2.1 x), .int p0, .int p1]) (n := 3) (Nat.le_of_ble_eq_true rfl)
  rw [lg_entry_eq]
  generalize (lg_sl ([.ref (g.2.2.1 x), .int p0, .int p1]) ++ List.replicate (3 - (lg_sl ([.ref (g.2.2.1 x), .int p0, .int p1])).length) Slot.unset).toArray = ls at hl ⊢
  have hl : lv_has ls 3 [(0, .ref (g.2.2.1 x)), (1, .int p0), (2, .int p1)] := hl
  obtain ⟨hSV, ⟨kn, E, hkn⟩, T0, Q1, P0, Q2, Q3, Q4, H0_, W0, W1, W2, W3, W4⟩ := C
  have hSV0 := hSV
  obtain ⟨hP, hu8, hUP, hv2, hVP, hl200, hlt⟩ := hSV
  have hn4 := hP.2.1
  have hNe := E.1
  obtain ⟨n, ga, gk, gl, gb, P, S⟩ := P0
  have hnS := S.1
  obtain ⟨u1, hu1, W1⟩ : ∃ u_ : Nat, u_ = 1 ∧ VwE g h (x + 71) u_ (sM st0) := ⟨_, rfl, W1⟩
  obtain ⟨kk1, kc1, tk1, fz1, dp1, gp1, gg1, gs1, gd1, gt1, gc1, V1, hz1⟩ := W1
  have hNv1 := V1.hN
  have hfr : ∀ k_, ¬ ((x + 71) ≤ k_ ∧ k_ < (x + 71) + 18) → h k_ = h k_ := fun _ _ => rfl
  refine lv_aload_n hx hb dX8_rough_0 rfl (lv_at hl 0 rfl) ?_
  refine r_get (C := RX8) (T := TX8) (N := 11) (ci := 6) hx hb hts inX8_rough_X8 hown w (by have := E.1; omega) E.2.1 rfl 1 (by decide) (hts (Cond.fieldLink RX8 19 "EarlyValues" "now" "LEarlyValues$Program;") (List.mem_of_getElem? (i := 1) (by decide +kernel))) rfl rfl dX8_rough_1 ?_
  refine lv_iload_n hx hb dX8_rough_4 rfl (lv_at hl 1 rfl) ?_
  refine r_callI w (va_runV (As := [.int p0]) (rest := []) ⟨hx, hb, hml, hown, hts⟩ (c_X3_has l P p0) (cwV 1 hts gX8_rough_X3_has rfl rfl rfl (by decide +kernel) ⟨Nat.le_of_ble_eq_true rfl, Nat.le_of_ble_eq_true rfl⟩) (r_preV w (by have := P.1; omega) P.c0 rfl) rfl rfl hl.1 rfl (lv_room (Nat.le_of_ble_eq_true rfl)) dX8_rough_5 ⟨Nat.zero_le _, Nat.zero_le _⟩) (fun r2 h1 H locs hp w => ?_)
  obtain ⟨eh_, qq3⟩ := hp
  have eh_ := eh_.symm
  subst eh_
  have b4 : Bq r2 (0 ≤ p0.toInt ∧ p0.toInt < (((pN (sM st0)) : Nat) : Int)) := qq3.iff (by rw [((rfl : p0.toInt = p0.toInt) : p0.toInt = _), (S.1 : n.toInt = _)])
  refine lv_if_eq (tgt := 31) hx hb dX8_rough_8 (by decide) (fun c5 => ?_) (fun c5 => ?_)
  · have c5 := b4.eq c5
    refine lv_iconst (v := (-1)) hx hb dX8_rough_31 (by decide) ?_
    refine r_iret (v := (-1)) hx hb hr hlocks w dX8_rough_32 ?_
    subst hu1
    exact ⟨(fun k_ hk_ => hfr k_ (by omega)), ⟨hSV0, ⟨_, E, hkn⟩, (T0.fr (fun k_ a_ b_ => hfr k_ (by omega))), (Q1.fr (fun k_ a_ b_ => hfr k_ (by omega))), ⟨_, _, _, _, _, P, S⟩, (Q2.fr (fun k_ a_ b_ => hfr k_ (by omega))), (fun i_ hi_ => (Q3 i_ hi_).fr (fun k_ a_ b_ => hfr k_ (by omega))), (fun i_ (hi_ : i_ < sV st0) => (Q4 i_ hi_).fr (fun k_ a_ b_ => hfr k_ (by omega))), (H0_.fr (fun k_ a_ b_ => hfr k_ (by omega))), (W0.fr (fun k_ a_ b_ => hfr k_ (by omega))), ⟨_, _, _, _, _, _, _, _, _, _, _, V1, hz1⟩, (W2.fr (fun k_ a_ b_ => hfr k_ (by omega))), (W3.fr (fun k_ a_ b_ => hfr k_ (by omega))), (W4.fr (fun k_ a_ b_ => hfr k_ (by omega)))⟩, Or.inr ⟨by rintro ⟨f_, b_, e1_, e2_, e3_, e4_⟩; first | omega | (obtain rfl : f_ = f := (by omega); omega), rfl⟩⟩
  · have c5 := b4.ne c5
    obtain ⟨f, hf0⟩ : ∃ q_ : Nat, p0.toInt = (q_ : Int) := ⟨p0.toInt.toNat, by omega⟩
    have hf : f < pN (sM st0) := by omega
    obtain ⟨ha3, hk3, hl1, hl24, hpl, hd0⟩ := hP.2.2 f hf
    refine lv_iload_n hx hb dX8_rough_11 rfl (lv_at hl 2 rfl) ?_
    refine lv_if_lt (tgt := 31) hx hb dX8_rough_12 (by decide) (fun c6 => ?_) (fun c6 => ?_)
    · have c6 : p1.toInt < (0 : Int) := (i_lt (rfl : p1.toInt = p1.toInt) (rfl : (0 : Int32).toInt = 0)).mp c6
      refine lv_iconst (v := (-1)) hx hb dX8_rough_31 (by decide) ?_
      refine r_iret (v := (-1)) hx hb hr hlocks w dX8_rough_32 ?_
      subst hu1
      exact ⟨(fun k_ hk_ => hfr k_ (by omega)), ⟨hSV0, ⟨_, E, hkn⟩, (T0.fr (fun k_ a_ b_ => hfr k_ (by omega))), (Q1.fr (fun k_ a_ b_ => hfr k_ (by omega))), ⟨_, _, _, _, _, P, S⟩, (Q2.fr (fun k_ a_ b_ => hfr k_ (by omega))), (fun i_ hi_ => (Q3 i_ hi_).fr (fun k_ a_ b_ => hfr k_ (by omega))), (fun i_ (hi_ : i_ < sV st0) => (Q4 i_ hi_).fr (fun k_ a_ b_ => hfr k_ (by omega))), (H0_.fr (fun k_ a_ b_ => hfr k_ (by omega))), (W0.fr (fun k_ a_ b_ => hfr k_ (by omega))), ⟨_, _, _, _, _, _, _, _, _, _, _, V1, hz1⟩, (W2.fr (fun k_ a_ b_ => hfr k_ (by omega))), (W3.fr (fun k_ a_ b_ => hfr k_ (by omega))), (W4.fr (fun k_ a_ b_ => hfr k_ (by omega)))⟩, Or.inr ⟨by rintro ⟨f_, b_, e1_, e2_, e3_, e4_⟩; first | omega | (obtain rfl : f_ = f := (by omega); omega), rfl⟩⟩
    · have c6 : ¬ (p1.toInt < (0 : Int)) := fun q => c6 ((i_lt (rfl : p1.toInt = p1.toInt) (rfl : (0 : Int32).toInt = 0)).mpr q)
      obtain ⟨b9, hb0⟩ : ∃ q_ : Nat, p1.toInt = (q_ : Int) := ⟨p1.toInt.toNat, by omega⟩
      refine lv_iload_n hx hb dX8_rough_15 rfl (lv_at hl 2 rfl) ?_
      refine lv_aload_n hx hb dX8_rough_16 rfl (lv_at hl 0 rfl) ?_
      refine r_get (C := RX8) (T := TX8) (N := 11) (ci := 6) hx hb hts inX8_rough_X8 hown w (by have := E.1; omega) E.2.1 rfl 7 (by decide) (hts (Cond.fieldLink RX8 47 "EarlyValues" "roughly" "LEarlyValues$View;") (List.mem_of_getElem? (i := 2) (by decide +kernel))) rfl rfl dX8_rough_17 ?_
      refine lv_aload_n hx hb dX8_rough_20 rfl (lv_at hl 0 rfl) ?_
      refine r_get (C := RX8) (T := TX8) (N := 11) (ci := 6) hx hb hts inX8_rough_X8 hown w (by have := E.1; omega) E.2.1 rfl 1 (by decide) (hts (Cond.fieldLink RX8 19 "EarlyValues" "now" "LEarlyValues$Program;") (List.mem_of_getElem? (i := 1) (by decide +kernel))) rfl rfl dX8_rough_21 ?_
      refine lv_iload_n hx hb dX8_rough_24 rfl (lv_at hl 1 rfl) ?_
      refine r_callI w (va_3 V1.hu (fun q_ => va_runU (As := [.ref (g.2.2.1 (x + 12)), .int p0]) (rest := [.int p1]) ⟨hx, hb, hml, hown, hts⟩ (c_X7_rowsOf l V1 P S hP p0 hf0 (by omega)) (va_cwU 2 hts gX8_rough_X7_rowsOf_u169X6 rfl rfl rfl rfl (by decide +kernel) ⟨Nat.le_of_ble_eq_true rfl, Nat.le_of_ble_eq_true rfl⟩) (r_preV w (by have := V1.hN; omega) (V1.ob (by subst q_; rfl)) rfl) rfl rfl hl.1 rfl (lv_room (Nat.le_of_ble_eq_true rfl)) dX8_rough_25 ⟨Nat.zero_le _, Nat.zero_le _⟩) (fun q_ => va_runU (As := [.ref (g.2.2.1 (x + 12)), .int p0]) (rest := [.int p1]) ⟨hx, hb, hml, hown, hts⟩ (c_X7_rowsOf l V1 P S hP p0 hf0 (by omega)) (va_cwU 2 hts gX8_rough_X7_rowsOf_u169X4 rfl rfl rfl rfl (by decide +kernel) ⟨Nat.le_of_ble_eq_true rfl, Nat.le_of_ble_eq_true rfl⟩) (r_preV w (by have := V1.hN; omega) (V1.ob (by subst q_; rfl)) rfl) rfl rfl hl.1 rfl (lv_room (Nat.le_of_ble_eq_true rfl)) dX8_rough_25 ⟨Nat.zero_le _, Nat.zero_le _⟩) (fun q_ => va_runU (As := [.ref (g.2.2.1 (x + 12)), .int p0]) (rest := [.int p1]) ⟨hx, hb, hml, hown, hts⟩ (c_X7_rowsOf l V1 P S hP p0 hf0 (by omega)) (va_cwU 2 hts gX8_rough_X7_rowsOf_u169X0 rfl rfl rfl rfl (by decide +kernel) ⟨Nat.le_of_ble_eq_true rfl, Nat.le_of_ble_eq_true rfl⟩) (r_preV w (by have := V1.hN; omega) (V1.ob (by subst q_; rfl)) rfl) rfl rfl hl.1 rfl (lv_room (Nat.le_of_ble_eq_true rfl)) dX8_rough_25 ⟨Nat.zero_le _, Nat.zero_le _⟩)) (fun r8 h7 H locs hp w => ?_)
      obtain ⟨eh_, qq9⟩ := hp
      have eh_ := eh_.symm
      subst eh_
      refine lv_icmp_lt (tgt := 33) hx hb dX8_rough_28 (by decide) (fun c10 => ?_) (fun c10 => ?_)
      · have c10 : ((b9 : Nat) : Int) < (((mRw u1 (sM st0) f) : Nat) : Int) := (i_lt hb0 qq9).mp c10
        have hb9_ : b9 < mRw u1 (sM st0) f := by omega
        have hR := mRw_mR V1.hu hP hf
        refine lv_aload_n hx hb dX8_rough_33 rfl (lv_at hl 0 rfl) ?_
        refine lv_aload_n hx hb dX8_rough_34 rfl (lv_at hl 0 rfl) ?_
        refine r_get (C := RX8) (T := TX8) (N := 11) (ci := 6) hx hb hts inX8_rough_X8 hown w (by have := E.1; omega) E.2.1 rfl 7 (by decide) (hts (Cond.fieldLink RX8 47 "EarlyValues" "roughly" "LEarlyValues$View;") (List.mem_of_getElem? (i := 2) (by decide +kernel))) rfl rfl dX8_rough_35 ?_
        refine r_callQ w (va_runV (As := [.ref (g.2.2.1 (x + 71))]) (rest := []) ⟨hx, hb, hml, hown, hts⟩ (c_X8_solved l E ⟨_, _, _, _, _, _, _, _, _, _, _, V1, hz1⟩ P S hP (by omega)) (cwV 1 hts gX8_rough_X8_solved rfl rfl rfl (by decide +kernel) ⟨Nat.le_of_ble_eq_true rfl, Nat.le_of_ble_eq_true rfl⟩) (r_preV w (by have := E.1; omega) E.2.1 rfl) rfl rfl hl.1 rfl (lv_room (Nat.le_of_ble_eq_true rfl)) dX8_rough_38 ⟨Nat.zero_le _, Nat.zero_le _⟩) (fun r12 h11 H locs hp w => ?_)
        obtain ⟨hfk13, hrk13, kkk13, kck13, tkk13, dpk13, gpk13, ggk13, gsk13, gdk13, gtk13, gck13, V1, K1, hK1, htk1, hT1⟩ := hp
        subst hrk13
        have E := E.fr (h' := h11) (fun k_ h1_ h2_ h3_ => hfk13 k_ (by omega))
        have P := P.fr (h' := h11) (fun k_ h1_ h2_ => hfk13 k_ (by omega))
        have hfr : ∀ k_, ¬ ((x + 71) ≤ k_ ∧ k_ < (x + 71) + 18) → h11 k_ = h k_ := fun k_ hk_ => (hfk13 k_ (by omega))
        have hz1 : (1 : Int32) = 0 ∨ ((1 : Int32) = 1 ∧ KnK u1 (sM st0) tkk13 gtk13) := Or.inr ⟨rfl, K1, hK1, htk1, hT1⟩
        refine lv_iload_n hx hb dX8_rough_41 rfl (lv_at hl 1 rfl) ?_
        refine lv_iload_n hx hb dX8_rough_42 rfl (lv_at hl 2 rfl) ?_
        refine r_callI w (va_3 V1.hu (fun q_ => va_runU (As := [.int p0, .int p1]) (rest := []) ⟨hx, hb, hml, hown, hts⟩ (c_X7_at l V1 p0 p1 hf0 hb0 (by omega) (by omega)) (va_cwU 2 hts gX8_rough_X7_at_u165X6 rfl rfl rfl rfl (by decide +kernel) ⟨Nat.le_of_ble_eq_true rfl, Nat.le_of_ble_eq_true rfl⟩) (r_preV w (by have := V1.hN; omega) (V1.ob (by subst q_; rfl)) rfl) rfl rfl hl.1 rfl (lv_room (Nat.le_of_ble_eq_true rfl)) dX8_rough_43 ⟨Nat.zero_le _, Nat.zero_le _⟩) (fun q_ => va_runU (As := [.int p0, .int p1]) (rest := []) ⟨hx, hb, hml, hown, hts⟩ (c_X7_at l V1 p0 p1 hf0 hb0 (by omega) (by omega)) (va_cwU 2 hts gX8_rough_X7_at_u165X4 rfl rfl rfl rfl (by decide +kernel) ⟨Nat.le_of_ble_eq_true rfl, Nat.le_of_ble_eq_true rfl⟩) (r_preV w (by have := V1.hN; omega) (V1.ob (by subst q_; rfl)) rfl) rfl rfl hl.1 rfl (lv_room (Nat.le_of_ble_eq_true rfl)) dX8_rough_43 ⟨Nat.zero_le _, Nat.zero_le _⟩) (fun q_ => va_runU (As := [.int p0, .int p1]) (rest := []) ⟨hx, hb, hml, hown, hts⟩ (c_X7_at l V1 p0 p1 hf0 hb0 (by omega) (by omega)) (va_cwU 2 hts gX8_rough_X7_at_u165X0 rfl rfl rfl rfl (by decide +kernel) ⟨Nat.le_of_ble_eq_true rfl, Nat.le_of_ble_eq_true rfl⟩) (r_preV w (by have := V1.hN; omega) (V1.ob (by subst q_; rfl)) rfl) rfl rfl hl.1 rfl (lv_room (Nat.le_of_ble_eq_true rfl)) dX8_rough_43 ⟨Nat.zero_le _, Nat.zero_le _⟩)) (fun r15 h14 H locs hp w => ?_)
        obtain ⟨eh_, qq16⟩ := hp
        have eh_ := eh_.symm
        subst eh_
        subst qq16
        refine r_iret (v := gtk13 f b9) hx hb hr hlocks w dX8_rough_46 ?_
        have hq_ := hT1 f b9 hf hb9_
        subst hu1
        exact ⟨(fun k_ hk_ => hfr k_ (by omega)), ⟨hSV0, ⟨_, E, hkn⟩, (T0.fr (fun k_ a_ b_ => hfr k_ (by omega))), (Q1.fr (fun k_ a_ b_ => hfr k_ (by omega))), ⟨_, _, _, _, _, P, S⟩, (Q2.fr (fun k_ a_ b_ => hfr k_ (by omega))), (fun i_ hi_ => (Q3 i_ hi_).fr (fun k_ a_ b_ => hfr k_ (by omega))), (fun i_ (hi_ : i_ < sV st0) => (Q4 i_ hi_).fr (fun k_ a_ b_ => hfr k_ (by omega))), (H0_.fr (fun k_ a_ b_ => hfr k_ (by omega))), (W0.fr (fun k_ a_ b_ => hfr k_ (by omega))), ⟨_, _, _, _, _, _, _, _, _, _, _, V1, hz1⟩, (W2.fr (fun k_ a_ b_ => hfr k_ (by omega))), (W3.fr (fun k_ a_ b_ => hfr k_ (by omega))), (W4.fr (fun k_ a_ b_ => hfr k_ (by omega)))⟩, Or.inl ⟨f, b9, hf0, hb0, hf, hb9_, K1, hK1, hq_⟩⟩
      · have c10 : ¬ (((b9 : Nat) : Int) < (((mRw u1 (sM st0) f) : Nat) : Int)) := fun q => c10 ((i_lt hb0 qq9).mpr q)
        refine lv_iconst (v := (-1)) hx hb dX8_rough_31 (by decide) ?_
        refine r_iret (v := (-1)) hx hb hr hlocks w dX8_rough_32 ?_
        subst hu1
        exact ⟨(fun k_ hk_ => hfr k_ (by omega)), ⟨hSV0, ⟨_, E, hkn⟩, (T0.fr (fun k_ a_ b_ => hfr k_ (by omega))), (Q1.fr (fun k_ a_ b_ => hfr k_ (by omega))), ⟨_, _, _, _, _, P, S⟩, (Q2.fr (fun k_ a_ b_ => hfr k_ (by omega))), (fun i_ hi_ => (Q3 i_ hi_).fr (fun k_ a_ b_ => hfr k_ (by omega))), (fun i_ (hi_ : i_ < sV st0) => (Q4 i_ hi_).fr (fun k_ a_ b_ => hfr k_ (by omega))), (H0_.fr (fun k_ a_ b_ => hfr k_ (by omega))), (W0.fr (fun k_ a_ b_ => hfr k_ (by omega))), ⟨_, _, _, _, _, _, _, _, _, _, _, V1, hz1⟩, (W2.fr (fun k_ a_ b_ => hfr k_ (by omega))), (W3.fr (fun k_ a_ b_ => hfr k_ (by omega))), (W4.fr (fun k_ a_ b_ => hfr k_ (by omega)))⟩, Or.inr ⟨by rintro ⟨f_, b_, e1_, e2_, e3_, e4_⟩; first | omega | (obtain rfl : f_ = f := (by omega); omega), rfl⟩⟩

theorem inX8_rounds_X0 : ∀ w ∈ wsX00, w ∈ wsX8_rounds := by decide +kernel
theorem inX8_rounds_X4 : ∀ w ∈ wsX40, w ∈ wsX8_rounds := by decide +kernel
theorem inX8_rounds_X6 : ∀ w ∈ wsX60, w ∈ wsX8_rounds := by decide +kernel
theorem inX8_rounds_X8 : ∀ w ∈ wsX80, w ∈ wsX8_rounds := by decide +kernel
abbrev rm_X8_rounds : Room := { frames := 7, cells := 0, slots := 0, locals := 157 }
set_option maxHeartbeats 4000000 in
set_option maxRecDepth 100000 in
theorem c_X8_rounds (l : Launch) {g : GE} {h : Nat → va_E} {x : Nat} {st0 : ST} (C : ClsA g h x st0) (p0 : Int32) : MI l yX8_rounds wsX8_rounds rm_X8_rounds [.ref (g.2.2.1 x), .int p0] g h (fun r_ h2 => (∀ k, ¬ (x ≤ k ∧ k < x + 143) → h2 k = h k) ∧ ClsA g h2 x st0 ∧ AnRounds st0 p0 r_) := by
  refine Met.ofW (cc := cX8_rounds) (maxL := 2) (ret := (some .int)) (by decide) rfl ?_
  intro p e s m args below meth c s₁ B hml hv
  obtain ⟨rfl, w0⟩ := hv
  have hx := B.exec
  have hb := B.bytes
  have hr := B.returns
  have hts := atoms_spec (ws := wsX8_rounds) B.pre
  have hown : s.vm.findClass RX8 = some m.cls := findClass_of_methodNamed B.named
  have hlocks := B.notSynchronized
  have w := w0.start
  clear w0
  have hl := lv_entry ([.ref (g.2.2.1 x), .int p0]) (n := 2) (Nat.le_of_ble_eq_true rfl)
  rw [lg_entry_eq]
  generalize (lg_sl ([.ref (g.2.2.1 x), .int p0]) ++ List.replicate (2 - (lg_sl ([.ref (g.2.2.1 x), .int p0])).length) Slot.unset).toArray = ls at hl ⊢
  have hl : lv_has ls 2 [(0, .ref (g.2.2.1 x)), (1, .int p0)] := hl
  obtain ⟨hSV, ⟨kn, E, hkn⟩, T0, Q1, P0, Q2, Q3, Q4, H0_, W0, W1, W2, W3, W4⟩ := C
  have hSV0 := hSV
  obtain ⟨hP, hu8, hUP, hv2, hVP, hl200, hlt⟩ := hSV
  have hn4 := hP.2.1
  have hNe := E.1
  obtain ⟨n, ga, gk, gl, gb, P, S⟩ := P0
  have hnS := S.1
  obtain ⟨u0, hu0, W0⟩ : ∃ u_ : Nat, u_ = 0 ∧ VwE g h (x + 53) u_ (sM st0) := ⟨_, rfl, W0⟩
  obtain ⟨kk0, kc0, tk0, fz0, dp0, gp0, gg0, gs0, gd0, gt0, gc0, V0, hz0⟩ := W0
  have hNv0 := V0.hN
  obtain ⟨u1, hu1, W1⟩ : ∃ u_ : Nat, u_ = 1 ∧ VwE g h (x + 71) u_ (sM st0) := ⟨_, rfl, W1⟩
  obtain ⟨kk1, kc1, tk1, fz1, dp1, gp1, gg1, gs1, gd1, gt1, gc1, V1, hz1⟩ := W1
  have hNv1 := V1.hN
  obtain ⟨u2, hu2, W2⟩ : ∃ u_ : Nat, u_ = 2 ∧ VwE g h (x + 89) u_ (sM st0) := ⟨_, rfl, W2⟩
  obtain ⟨kk2, kc2, tk2, fz2, dp2, gp2, gg2, gs2, gd2, gt2, gc2, V2, hz2⟩ := W2
  have hNv2 := V2.hN
  have hfr : ∀ k_, ¬ (x + 53 ≤ k_ ∧ k_ < x + 107) → h k_ = h k_ := fun _ _ => rfl
  refine lv_iload_n hx hb dX8_rounds_0 rfl (lv_at hl 1 rfl) ?_
  rcases (show (p0.toInt < 0 ∨ 2 < p0.toInt) ∨ p0.toInt = 0 ∨ p0.toInt = 1 ∨ p0.toInt = 2 by omega) with c1 | c1 | c1 | c1
  · refine lv_tableOut (tgt := 64) hx hb dX8_rounds_1 (by rw [(rfl : p0.toInt = p0.toInt)]; exact c1) (by decide) ?_
    refine lv_iconst (v := (-1)) hx hb dX8_rounds_64 (by decide) ?_
    refine r_iret (v := (-1)) hx hb hr hlocks w dX8_rounds_65 ?_
    subst hu0 hu1 hu2
    exact ⟨(fun k_ hk_ => hfr k_ (by omega)), ⟨hSV0, ⟨_, E, hkn⟩, (T0.fr (fun k_ a_ b_ => hfr k_ (by omega))), (Q1.fr (fun k_ a_ b_ => hfr k_ (by omega))), ⟨_, _, _, _, _, P, S⟩, (Q2.fr (fun k_ a_ b_ => hfr k_ (by omega))), (fun i_ hi_ => (Q3 i_ hi_).fr (fun k_ a_ b_ => hfr k_ (by omega))), (fun i_ (hi_ : i_ < sV st0) => (Q4 i_ hi_).fr (fun k_ a_ b_ => hfr k_ (by omega))), (H0_.fr (fun k_ a_ b_ => hfr k_ (by omega))), ⟨_, _, _, _, _, _, _, _, _, _, _, V0, hz0⟩, ⟨_, _, _, _, _, _, _, _, _, _, _, V1, hz1⟩, ⟨_, _, _, _, _, _, _, _, _, _, _, V2, hz2⟩, (W3.fr (fun k_ a_ b_ => hfr k_ (by omega))), (W4.fr (fun k_ a_ b_ => hfr k_ (by omega)))⟩, Or.inr ⟨by omega, rfl⟩⟩
  · refine lv_tableIn (off := 27) (tgt := 28) hx hb dX8_rounds_1 (by rw [(rfl : p0.toInt = p0.toInt)]; omega) (by rw [(rfl : p0.toInt = p0.toInt)]; omega) (by rw [(rfl : p0.toInt = p0.toInt), c1]; rfl) (by decide) ?_
    refine lv_aload_n hx hb dX8_rounds_28 rfl (lv_at hl 0 rfl) ?_
    refine lv_aload_n hx hb dX8_rounds_29 rfl (lv_at hl 0 rfl) ?_
    refine r_get (C := RX8) (T := TX8) (N := 11) (ci := 6) hx hb hts inX8_rounds_X8 hown w (by have := E.1; omega) E.2.1 rfl 6 (by decide) (hts (Cond.fieldLink RX8 40 "EarlyValues" "values" "LEarlyValues$View;") (List.mem_of_getElem? (i := 1) (by decide +kernel))) rfl rfl dX8_rounds_30 ?_
    refine r_callQ w (va_runV (As := [.ref (g.2.2.1 (x + 53))]) (rest := []) ⟨hx, hb, hml, hown, hts⟩ (c_X8_solved l E ⟨_, _, _, _, _, _, _, _, _, _, _, V0, hz0⟩ P S hP (by omega)) (cwV 1 hts gX8_rounds_X8_solved rfl rfl rfl (by decide +kernel) ⟨Nat.le_of_ble_eq_true rfl, Nat.le_of_ble_eq_true rfl⟩) (r_preV w (by have := E.1; omega) E.2.1 rfl) rfl rfl hl.1 rfl (lv_room (Nat.le_of_ble_eq_true rfl)) dX8_rounds_33 ⟨Nat.zero_le _, Nat.zero_le _⟩) (fun r3 h2 H locs hp w => ?_)
    obtain ⟨hfk4, hrk4, kkk4, kck4, tkk4, dpk4, gpk4, ggk4, gsk4, gdk4, gtk4, gck4, V0, K0, hK0, htk0, hT0⟩ := hp
    subst hrk4
    have E := E.fr (h' := h2) (fun k_ h1_ h2_ h3_ => hfk4 k_ (by omega))
    have P := P.fr (h' := h2) (fun k_ h1_ h2_ => hfk4 k_ (by omega))
    have V1 := V1.fr (h' := h2) (fun k_ h1_ h2_ => hfk4 k_ (by omega))
    have V2 := V2.fr (h' := h2) (fun k_ h1_ h2_ => hfk4 k_ (by omega))
    have hfr : ∀ k_, ¬ (x + 53 ≤ k_ ∧ k_ < x + 107) → h2 k_ = h k_ := fun k_ hk_ => (hfk4 k_ (by omega))
    have hz0 : (1 : Int32) = 0 ∨ ((1 : Int32) = 1 ∧ KnK u0 (sM st0) tkk4 gtk4) := Or.inr ⟨rfl, K0, hK0, htk0, hT0⟩
    refine r_getV hx hb hts ⟨inX8_rounds_X0, inX8_rounds_X4, inX8_rounds_X6⟩ hown w V0.hu (by have := V0.hN; omega) V0.c0 8 (by decide) (hts (Cond.fieldLink RX8 173 "EarlyValues$View" "taken" "I") (List.mem_of_getElem? (i := 2) (by decide +kernel))) rfl rfl dX8_rounds_36 ?_
    refine r_iret (v := tkk4) hx hb hr hlocks w dX8_rounds_39 ?_
    subst hu0 hu1 hu2
    exact ⟨(fun k_ hk_ => hfr k_ (by omega)), ⟨hSV0, ⟨_, E, hkn⟩, (T0.fr (fun k_ a_ b_ => hfr k_ (by omega))), (Q1.fr (fun k_ a_ b_ => hfr k_ (by omega))), ⟨_, _, _, _, _, P, S⟩, (Q2.fr (fun k_ a_ b_ => hfr k_ (by omega))), (fun i_ hi_ => (Q3 i_ hi_).fr (fun k_ a_ b_ => hfr k_ (by omega))), (fun i_ (hi_ : i_ < sV st0) => (Q4 i_ hi_).fr (fun k_ a_ b_ => hfr k_ (by omega))), (H0_.fr (fun k_ a_ b_ => hfr k_ (by omega))), ⟨_, _, _, _, _, _, _, _, _, _, _, V0, hz0⟩, ⟨_, _, _, _, _, _, _, _, _, _, _, V1, hz1⟩, ⟨_, _, _, _, _, _, _, _, _, _, _, V2, hz2⟩, (W3.fr (fun k_ a_ b_ => hfr k_ (by omega))), (W4.fr (fun k_ a_ b_ => hfr k_ (by omega)))⟩, Or.inl ⟨0, K0, by omega, by omega, hK0, htk0⟩⟩
  · refine lv_tableIn (off := 39) (tgt := 40) hx hb dX8_rounds_1 (by rw [(rfl : p0.toInt = p0.toInt)]; omega) (by rw [(rfl : p0.toInt = p0.toInt)]; omega) (by rw [(rfl : p0.toInt = p0.toInt), c1]; rfl) (by decide) ?_
    refine lv_aload_n hx hb dX8_rounds_40 rfl (lv_at hl 0 rfl) ?_
    refine lv_aload_n hx hb dX8_rounds_41 rfl (lv_at hl 0 rfl) ?_
    refine r_get (C := RX8) (T := TX8) (N := 11) (ci := 6) hx hb hts inX8_rounds_X8 hown w (by have := E.1; omega) E.2.1 rfl 7 (by decide) (hts (Cond.fieldLink RX8 47 "EarlyValues" "roughly" "LEarlyValues$View;") (List.mem_of_getElem? (i := 3) (by decide +kernel))) rfl rfl dX8_rounds_42 ?_
    refine r_callQ w (va_runV (As := [.ref (g.2.2.1 (x + 71))]) (rest := []) ⟨hx, hb, hml, hown, hts⟩ (c_X8_solved l E ⟨_, _, _, _, _, _, _, _, _, _, _, V1, hz1⟩ P S hP (by omega)) (cwV 1 hts gX8_rounds_X8_solved rfl rfl rfl (by decide +kernel) ⟨Nat.le_of_ble_eq_true rfl, Nat.le_of_ble_eq_true rfl⟩) (r_preV w (by have := E.1; omega) E.2.1 rfl) rfl rfl hl.1 rfl (lv_room (Nat.le_of_ble_eq_true rfl)) dX8_rounds_45 ⟨Nat.zero_le _, Nat.zero_le _⟩) (fun r6 h5 H locs hp w => ?_)
    obtain ⟨hfk7, hrk7, kkk7, kck7, tkk7, dpk7, gpk7, ggk7, gsk7, gdk7, gtk7, gck7, V1, K1, hK1, htk1, hT1⟩ := hp
    subst hrk7
    have E := E.fr (h' := h5) (fun k_ h1_ h2_ h3_ => hfk7 k_ (by omega))
    have P := P.fr (h' := h5) (fun k_ h1_ h2_ => hfk7 k_ (by omega))
    have V0 := V0.fr (h' := h5) (fun k_ h1_ h2_ => hfk7 k_ (by omega))
    have V2 := V2.fr (h' := h5) (fun k_ h1_ h2_ => hfk7 k_ (by omega))
    have hfr : ∀ k_, ¬ (x + 53 ≤ k_ ∧ k_ < x + 107) → h5 k_ = h k_ := fun k_ hk_ => (hfk7 k_ (by omega))
    have hz1 : (1 : Int32) = 0 ∨ ((1 : Int32) = 1 ∧ KnK u1 (sM st0) tkk7 gtk7) := Or.inr ⟨rfl, K1, hK1, htk1, hT1⟩
    refine r_getV hx hb hts ⟨inX8_rounds_X0, inX8_rounds_X4, inX8_rounds_X6⟩ hown w V1.hu (by have := V1.hN; omega) V1.c0 8 (by decide) (hts (Cond.fieldLink RX8 173 "EarlyValues$View" "taken" "I") (List.mem_of_getElem? (i := 2) (by decide +kernel))) rfl rfl dX8_rounds_48 ?_
    refine r_iret (v := tkk7) hx hb hr hlocks w dX8_rounds_51 ?_
    subst hu0 hu1 hu2
    exact ⟨(fun k_ hk_ => hfr k_ (by omega)), ⟨hSV0, ⟨_, E, hkn⟩, (T0.fr (fun k_ a_ b_ => hfr k_ (by omega))), (Q1.fr (fun k_ a_ b_ => hfr k_ (by omega))), ⟨_, _, _, _, _, P, S⟩, (Q2.fr (fun k_ a_ b_ => hfr k_ (by omega))), (fun i_ hi_ => (Q3 i_ hi_).fr (fun k_ a_ b_ => hfr k_ (by omega))), (fun i_ (hi_ : i_ < sV st0) => (Q4 i_ hi_).fr (fun k_ a_ b_ => hfr k_ (by omega))), (H0_.fr (fun k_ a_ b_ => hfr k_ (by omega))), ⟨_, _, _, _, _, _, _, _, _, _, _, V0, hz0⟩, ⟨_, _, _, _, _, _, _, _, _, _, _, V1, hz1⟩, ⟨_, _, _, _, _, _, _, _, _, _, _, V2, hz2⟩, (W3.fr (fun k_ a_ b_ => hfr k_ (by omega))), (W4.fr (fun k_ a_ b_ => hfr k_ (by omega)))⟩, Or.inl ⟨1, K1, by omega, by omega, hK1, htk1⟩⟩
  · refine lv_tableIn (off := 51) (tgt := 52) hx hb dX8_rounds_1 (by rw [(rfl : p0.toInt = p0.toInt)]; omega) (by rw [(rfl : p0.toInt = p0.toInt)]; omega) (by rw [(rfl : p0.toInt = p0.toInt), c1]; rfl) (by decide) ?_
    refine lv_aload_n hx hb dX8_rounds_52 rfl (lv_at hl 0 rfl) ?_
    refine lv_aload_n hx hb dX8_rounds_53 rfl (lv_at hl 0 rfl) ?_
    refine r_get (C := RX8) (T := TX8) (N := 11) (ci := 6) hx hb hts inX8_rounds_X8 hown w (by have := E.1; omega) E.2.1 rfl 8 (by decide) (hts (Cond.fieldLink RX8 53 "EarlyValues" "finely" "LEarlyValues$View;") (List.mem_of_getElem? (i := 4) (by decide +kernel))) rfl rfl dX8_rounds_54 ?_
    refine r_callQ w (va_runV (As := [.ref (g.2.2.1 (x + 89))]) (rest := []) ⟨hx, hb, hml, hown, hts⟩ (c_X8_solved l E ⟨_, _, _, _, _, _, _, _, _, _, _, V2, hz2⟩ P S hP (by omega)) (cwV 1 hts gX8_rounds_X8_solved rfl rfl rfl (by decide +kernel) ⟨Nat.le_of_ble_eq_true rfl, Nat.le_of_ble_eq_true rfl⟩) (r_preV w (by have := E.1; omega) E.2.1 rfl) rfl rfl hl.1 rfl (lv_room (Nat.le_of_ble_eq_true rfl)) dX8_rounds_57 ⟨Nat.zero_le _, Nat.zero_le _⟩) (fun r9 h8 H locs hp w => ?_)
    obtain ⟨hfk10, hrk10, kkk10, kck10, tkk10, dpk10, gpk10, ggk10, gsk10, gdk10, gtk10, gck10, V2, K2, hK2, htk2, hT2⟩ := hp
    subst hrk10
    have E := E.fr (h' := h8) (fun k_ h1_ h2_ h3_ => hfk10 k_ (by omega))
    have P := P.fr (h' := h8) (fun k_ h1_ h2_ => hfk10 k_ (by omega))
    have V0 := V0.fr (h' := h8) (fun k_ h1_ h2_ => hfk10 k_ (by omega))
    have V1 := V1.fr (h' := h8) (fun k_ h1_ h2_ => hfk10 k_ (by omega))
    have hfr : ∀ k_, ¬ (x + 53 ≤ k_ ∧ k_ < x + 107) → h8 k_ = h k_ := fun k_ hk_ => (hfk10 k_ (by omega))
    have hz2 : (1 : Int32) = 0 ∨ ((1 : Int32) = 1 ∧ KnK u2 (sM st0) tkk10 gtk10) := Or.inr ⟨rfl, K2, hK2, htk2, hT2⟩
    refine r_getV hx hb hts ⟨inX8_rounds_X0, inX8_rounds_X4, inX8_rounds_X6⟩ hown w V2.hu (by have := V2.hN; omega) V2.c0 8 (by decide) (hts (Cond.fieldLink RX8 173 "EarlyValues$View" "taken" "I") (List.mem_of_getElem? (i := 2) (by decide +kernel))) rfl rfl dX8_rounds_60 ?_
    refine r_iret (v := tkk10) hx hb hr hlocks w dX8_rounds_63 ?_
    subst hu0 hu1 hu2
    exact ⟨(fun k_ hk_ => hfr k_ (by omega)), ⟨hSV0, ⟨_, E, hkn⟩, (T0.fr (fun k_ a_ b_ => hfr k_ (by omega))), (Q1.fr (fun k_ a_ b_ => hfr k_ (by omega))), ⟨_, _, _, _, _, P, S⟩, (Q2.fr (fun k_ a_ b_ => hfr k_ (by omega))), (fun i_ hi_ => (Q3 i_ hi_).fr (fun k_ a_ b_ => hfr k_ (by omega))), (fun i_ (hi_ : i_ < sV st0) => (Q4 i_ hi_).fr (fun k_ a_ b_ => hfr k_ (by omega))), (H0_.fr (fun k_ a_ b_ => hfr k_ (by omega))), ⟨_, _, _, _, _, _, _, _, _, _, _, V0, hz0⟩, ⟨_, _, _, _, _, _, _, _, _, _, _, V1, hz1⟩, ⟨_, _, _, _, _, _, _, _, _, _, _, V2, hz2⟩, (W3.fr (fun k_ a_ b_ => hfr k_ (by omega))), (W4.fr (fun k_ a_ b_ => hfr k_ (by omega)))⟩, Or.inl ⟨2, K2, by omega, by omega, hK2, htk2⟩⟩

theorem inX8_strict_X8 : ∀ w ∈ wsX80, w ∈ wsX8_strict := by decide +kernel
abbrev rm_X8_strict : Room := { frames := 7, cells := 0, slots := 0, locals := 157 }
set_option maxHeartbeats 4000000 in
set_option maxRecDepth 100000 in
theorem c_X8_strict (l : Launch) {g : GE} {h : Nat → va_E} {x : Nat} {st0 : ST} (C : ClsA g h x st0) (p0 : Int32) (p1 : Int32) : MI l yX8_strict wsX8_strict rm_X8_strict [.ref (g.2.2.1 x), .int p0, .int p1] g h (fun r_ h2 => (∀ k, ¬ (x ≤ k ∧ k < x + 143) → h2 k = h k) ∧ ClsA g h2 x st0 ∧ AnStrict st0 p0 p1 r_) := by
  refine Met.ofW (cc := cX8_strict) (maxL := 4) (ret := (some .int)) (by decide) rfl ?_
  intro p e s m args below meth c s₁ B hml hv
  obtain ⟨rfl, w0⟩ := hv
  have hx := B.exec
  have hb := B.bytes
  have hr := B.returns
  have hts := atoms_spec (ws := wsX8_strict) B.pre
  have hown : s.vm.findClass RX8 = some m.cls := findClass_of_methodNamed B.named
  have hlocks := B.notSynchronized
  have w := w0.start
  clear w0
  have hl := lv_entry ([.ref (g.2.2.1 x), .int p0, .int p1]) (n := 4) (Nat.le_of_ble_eq_true rfl)
  rw [lg_entry_eq]
  generalize (lg_sl ([.ref (g.2.2.1 x), .int p0, .int p1]) ++ List.replicate (4 - (lg_sl ([.ref (g.2.2.1 x), .int p0, .int p1])).length) Slot.unset).toArray = ls at hl ⊢
  have hl : lv_has ls 4 [(0, .ref (g.2.2.1 x)), (1, .int p0), (2, .int p1)] := hl
  obtain ⟨hSV, ⟨kn, E, hkn⟩, T0, Q1, P0, Q2, Q3, Q4, H0_, W0, W1, W2, W3, W4⟩ := C
  have hSV0 := hSV
  obtain ⟨hP, hu8, hUP, hv2, hVP, hl200, hlt⟩ := hSV
  have hn4 := hP.2.1
  have hNe := E.1
  obtain ⟨n, ga, gk, gl, gb, P, S⟩ := P0
  have hnS := S.1
  obtain ⟨u0, hu0, W0⟩ : ∃ u_ : Nat, u_ = 0 ∧ VwE g h (x + 53) u_ (sM st0) := ⟨_, rfl, W0⟩
  obtain ⟨kk0, kc0, tk0, fz0, dp0, gp0, gg0, gs0, gd0, gt0, gc0, V0, hz0⟩ := W0
  have hNv0 := V0.hN
  obtain ⟨u1, hu1, W1⟩ : ∃ u_ : Nat, u_ = 1 ∧ VwE g h (x + 71) u_ (sM st0) := ⟨_, rfl, W1⟩
  obtain ⟨kk1, kc1, tk1, fz1, dp1, gp1, gg1, gs1, gd1, gt1, gc1, V1, hz1⟩ := W1
  have hNv1 := V1.hN
  obtain ⟨u2, hu2, W2⟩ : ∃ u_ : Nat, u_ = 2 ∧ VwE g h (x + 89) u_ (sM st0) := ⟨_, rfl, W2⟩
  obtain ⟨kk2, kc2, tk2, fz2, dp2, gp2, gg2, gs2, gd2, gt2, gc2, V2, hz2⟩ := W2
  have hNv2 := V2.hN
  have hfr : ∀ k_, ¬ (x + 53 ≤ k_ ∧ k_ < x + 107) → h k_ = h k_ := fun _ _ => rfl
  refine lv_aload_n hx hb dX8_strict_0 rfl (lv_at hl 0 rfl) ?_
  refine lv_iload_n hx hb dX8_strict_1 rfl (lv_at hl 2 rfl) ?_
  refine r_callQ w (va_runV (As := [.int p1]) (rest := []) ⟨hx, hb, hml, hown, hts⟩ (c_X8_strictView l E p1) (cwV 1 hts gX8_strict_X8_strictView rfl rfl rfl (by decide +kernel) ⟨Nat.le_of_ble_eq_true rfl, Nat.le_of_ble_eq_true rfl⟩) (r_preV w (by have := E.1; omega) E.2.1 rfl) rfl rfl hl.1 rfl (lv_room (Nat.le_of_ble_eq_true rfl)) dX8_strict_2 ⟨Nat.zero_le _, Nat.zero_le _⟩) (fun r2 h1 H locs hp w => ?_)
  obtain ⟨eh_, qq3⟩ := hp
  have eh_ := eh_.symm
  subst eh_
  rcases qq3 with ⟨hw_, q_⟩ | ⟨hw_, q_⟩ | ⟨hw_, q_⟩ | ⟨hw_, q_⟩
  · subst q_
    refine lv_astore_n (lv' := [(3, .ref (g.2.2.1 (x + 71))), (0, .ref (g.2.2.1 x)), (1, .int p0), (2, .int p1)]) hx hb dX8_strict_5 rfl hl (by decide) rfl (fun ls hl => ?_)
    refine lv_aload_n hx hb dX8_strict_6 rfl (lv_at hl 0 rfl) ?_
    refine lv_ifnull hx hb dX8_strict_7 ?_
    refine lv_aload_n hx hb dX8_strict_10 rfl (lv_at hl 1 rfl) ?_
    refine r_get (C := RX8) (T := TX8) (N := 11) (ci := 6) hx hb hts inX8_strict_X8 hown w (by have := E.1; omega) E.2.1 rfl 1 (by decide) (hts (Cond.fieldLink RX8 19 "EarlyValues" "now" "LEarlyValues$Program;") (List.mem_of_getElem? (i := 1) (by decide +kernel))) rfl rfl dX8_strict_11 ?_
    refine lv_iload_n hx hb dX8_strict_14 rfl (lv_at hl 2 rfl) ?_
    refine r_callI w (va_runV (As := [.int p0]) (rest := []) ⟨hx, hb, hml, hown, hts⟩ (c_X3_has l P p0) (cwV 1 hts gX8_strict_X3_has rfl rfl rfl (by decide +kernel) ⟨Nat.le_of_ble_eq_true rfl, Nat.le_of_ble_eq_true rfl⟩) (r_preV w (by have := P.1; omega) P.c0 rfl) rfl rfl hl.1 rfl (lv_room (Nat.le_of_ble_eq_true rfl)) dX8_strict_15 ⟨Nat.zero_le _, Nat.zero_le _⟩) (fun r5 h4 H locs hp w => ?_)
    obtain ⟨eh_, qq6⟩ := hp
    have eh_ := eh_.symm
    subst eh_
    have b7 : Bq r5 (0 ≤ p0.toInt ∧ p0.toInt < (((pN (sM st0)) : Nat) : Int)) := qq6.iff (by rw [((rfl : p0.toInt = p0.toInt) : p0.toInt = _), (S.1 : n.toInt = _)])
    refine lv_if_ne (tgt := 25) hx hb dX8_strict_18 (by decide) (fun c8 => ?_) (fun c8 => ?_)
    · have c8 := b7.ne c8
      obtain ⟨f, hf0⟩ : ∃ q_ : Nat, p0.toInt = (q_ : Int) := ⟨p0.toInt.toNat, by omega⟩
      have hf : f < pN (sM st0) := by omega
      obtain ⟨ha3, hk3, hl1, hl24, hpl, hd0⟩ := hP.2.2 f hf
      refine lv_aload_n hx hb dX8_strict_25 rfl (lv_at hl 1 rfl) ?_
      refine lv_aload_n hx hb dX8_strict_26 rfl (lv_at hl 0 rfl) ?_
      refine r_callQ w (va_runV (As := [.ref (g.2.2.1 (x + 71))]) (rest := []) ⟨hx, hb, hml, hown, hts⟩ (c_X8_solved l E ⟨_, _, _, _, _, _, _, _, _, _, _, V1, hz1⟩ P S hP (by omega)) (cwV 1 hts gX8_strict_X8_solved rfl rfl rfl (by decide +kernel) ⟨Nat.le_of_ble_eq_true rfl, Nat.le_of_ble_eq_true rfl⟩) (r_preV w (by have := E.1; omega) E.2.1 rfl) rfl rfl hl.1 rfl (lv_room (Nat.le_of_ble_eq_true rfl)) dX8_strict_27 ⟨Nat.zero_le _, Nat.zero_le _⟩) (fun r10 h9 H locs hp w => ?_)
      obtain ⟨hfk11, hrk11, kkk11, kck11, tkk11, dpk11, gpk11, ggk11, gsk11, gdk11, gtk11, gck11, V1, K1, hK1, htk1, hT1⟩ := hp
      subst hrk11
      have E := E.fr (h' := h9) (fun k_ h1_ h2_ h3_ => hfk11 k_ (by omega))
      have P := P.fr (h' := h9) (fun k_ h1_ h2_ => hfk11 k_ (by omega))
      have V0 := V0.fr (h' := h9) (fun k_ h1_ h2_ => hfk11 k_ (by omega))
      have V2 := V2.fr (h' := h9) (fun k_ h1_ h2_ => hfk11 k_ (by omega))
      have hfr : ∀ k_, ¬ (x + 53 ≤ k_ ∧ k_ < x + 107) → h9 k_ = h k_ := fun k_ hk_ => (hfk11 k_ (by omega))
      have hz1 : (1 : Int32) = 0 ∨ ((1 : Int32) = 1 ∧ KnK u1 (sM st0) tkk11 gtk11) := Or.inr ⟨rfl, K1, hK1, htk1, hT1⟩
      refine lv_aload_n hx hb dX8_strict_30 rfl (lv_at hl 1 rfl) ?_
      refine r_get (C := RX8) (T := TX8) (N := 11) (ci := 6) hx hb hts inX8_strict_X8 hown w (by have := E.1; omega) E.2.1 rfl 1 (by decide) (hts (Cond.fieldLink RX8 19 "EarlyValues" "now" "LEarlyValues$Program;") (List.mem_of_getElem? (i := 1) (by decide +kernel))) rfl rfl dX8_strict_31 ?_
      refine lv_iload_n hx hb dX8_strict_34 rfl (lv_at hl 2 rfl) ?_
      refine r_callI w (va_3 V1.hu (fun q_ => va_runU (As := [.ref (g.2.2.1 (x + 12)), .int p0]) (rest := []) ⟨hx, hb, hml, hown, hts⟩ (c_X7_strictBits l V1 P S hP hT1 p0 hf0 (by omega)) (va_cwU 2 hts gX8_strict_X7_strictBits_u184X6 rfl rfl rfl rfl (by decide +kernel) ⟨Nat.le_of_ble_eq_true rfl, Nat.le_of_ble_eq_true rfl⟩) (r_preV w (by have := V1.hN; omega) (V1.ob (by subst q_; rfl)) rfl) rfl rfl hl.1 rfl (lv_room (Nat.le_of_ble_eq_true rfl)) dX8_strict_35 ⟨Nat.zero_le _, Nat.zero_le _⟩) (fun q_ => va_runU (As := [.ref (g.2.2.1 (x + 12)), .int p0]) (rest := []) ⟨hx, hb, hml, hown, hts⟩ (c_X7_strictBits l V1 P S hP hT1 p0 hf0 (by omega)) (va_cwU 2 hts gX8_strict_X7_strictBits_u184X4 rfl rfl rfl rfl (by decide +kernel) ⟨Nat.le_of_ble_eq_true rfl, Nat.le_of_ble_eq_true rfl⟩) (r_preV w (by have := V1.hN; omega) (V1.ob (by subst q_; rfl)) rfl) rfl rfl hl.1 rfl (lv_room (Nat.le_of_ble_eq_true rfl)) dX8_strict_35 ⟨Nat.zero_le _, Nat.zero_le _⟩) (fun q_ => va_runU (As := [.ref (g.2.2.1 (x + 12)), .int p0]) (rest := []) ⟨hx, hb, hml, hown, hts⟩ (c_X7_strictBits l V1 P S hP hT1 p0 hf0 (by omega)) (va_cwU 2 hts gX8_strict_X7_strictBits_u184X0 rfl rfl rfl rfl (by decide +kernel) ⟨Nat.le_of_ble_eq_true rfl, Nat.le_of_ble_eq_true rfl⟩) (r_preV w (by have := V1.hN; omega) (V1.ob (by subst q_; rfl)) rfl) rfl rfl hl.1 rfl (lv_room (Nat.le_of_ble_eq_true rfl)) dX8_strict_35 ⟨Nat.zero_le _, Nat.zero_le _⟩)) (fun r13 h12 H locs hp w => ?_)
      obtain ⟨eh_, qq14⟩ := hp
      have eh_ := eh_.symm
      subst eh_
      refine r_iret (v := r13) hx hb hr hlocks w dX8_strict_38 ?_
      have hq_ := qq14.trans (by rw [mBits_F hK1] : _ = ((mBits (mStrictF u1 (sM st0) f) (pA (sM st0) f) : Nat) : Int))
      subst hu0 hu1 hu2
      exact ⟨(fun k_ hk_ => hfr k_ (by omega)), ⟨hSV0, ⟨_, E, hkn⟩, (T0.fr (fun k_ a_ b_ => hfr k_ (by omega))), (Q1.fr (fun k_ a_ b_ => hfr k_ (by omega))), ⟨_, _, _, _, _, P, S⟩, (Q2.fr (fun k_ a_ b_ => hfr k_ (by omega))), (fun i_ hi_ => (Q3 i_ hi_).fr (fun k_ a_ b_ => hfr k_ (by omega))), (fun i_ (hi_ : i_ < sV st0) => (Q4 i_ hi_).fr (fun k_ a_ b_ => hfr k_ (by omega))), (H0_.fr (fun k_ a_ b_ => hfr k_ (by omega))), ⟨_, _, _, _, _, _, _, _, _, _, _, V0, hz0⟩, ⟨_, _, _, _, _, _, _, _, _, _, _, V1, hz1⟩, ⟨_, _, _, _, _, _, _, _, _, _, _, V2, hz2⟩, (W3.fr (fun k_ a_ b_ => hfr k_ (by omega))), (W4.fr (fun k_ a_ b_ => hfr k_ (by omega)))⟩, Or.inl ⟨f, 0, hf0, by omega, hf, by omega, hq_⟩⟩
    · have c8 := b7.eq c8
      refine lv_iconst (v := (-1)) hx hb dX8_strict_21 (by decide) ?_
      refine lv_goto (tgt := 38) hx hb dX8_strict_22 (by decide) ?_
      refine r_iret (v := (-1)) hx hb hr hlocks w dX8_strict_38 ?_
      subst hu0 hu1 hu2
      exact ⟨(fun k_ hk_ => hfr k_ (by omega)), ⟨hSV0, ⟨_, E, hkn⟩, (T0.fr (fun k_ a_ b_ => hfr k_ (by omega))), (Q1.fr (fun k_ a_ b_ => hfr k_ (by omega))), ⟨_, _, _, _, _, P, S⟩, (Q2.fr (fun k_ a_ b_ => hfr k_ (by omega))), (fun i_ hi_ => (Q3 i_ hi_).fr (fun k_ a_ b_ => hfr k_ (by omega))), (fun i_ (hi_ : i_ < sV st0) => (Q4 i_ hi_).fr (fun k_ a_ b_ => hfr k_ (by omega))), (H0_.fr (fun k_ a_ b_ => hfr k_ (by omega))), ⟨_, _, _, _, _, _, _, _, _, _, _, V0, hz0⟩, ⟨_, _, _, _, _, _, _, _, _, _, _, V1, hz1⟩, ⟨_, _, _, _, _, _, _, _, _, _, _, V2, hz2⟩, (W3.fr (fun k_ a_ b_ => hfr k_ (by omega))), (W4.fr (fun k_ a_ b_ => hfr k_ (by omega)))⟩, Or.inr ⟨by omega, rfl⟩⟩
  · subst q_
    refine lv_astore_n (lv' := [(3, .ref (g.2.2.1 (x + 89))), (0, .ref (g.2.2.1 x)), (1, .int p0), (2, .int p1)]) hx hb dX8_strict_5 rfl hl (by decide) rfl (fun ls hl => ?_)
    refine lv_aload_n hx hb dX8_strict_6 rfl (lv_at hl 0 rfl) ?_
    refine lv_ifnull hx hb dX8_strict_7 ?_
    refine lv_aload_n hx hb dX8_strict_10 rfl (lv_at hl 1 rfl) ?_
    refine r_get (C := RX8) (T := TX8) (N := 11) (ci := 6) hx hb hts inX8_strict_X8 hown w (by have := E.1; omega) E.2.1 rfl 1 (by decide) (hts (Cond.fieldLink RX8 19 "EarlyValues" "now" "LEarlyValues$Program;") (List.mem_of_getElem? (i := 1) (by decide +kernel))) rfl rfl dX8_strict_11 ?_
    refine lv_iload_n hx hb dX8_strict_14 rfl (lv_at hl 2 rfl) ?_
    refine r_callI w (va_runV (As := [.int p0]) (rest := []) ⟨hx, hb, hml, hown, hts⟩ (c_X3_has l P p0) (cwV 1 hts gX8_strict_X3_has rfl rfl rfl (by decide +kernel) ⟨Nat.le_of_ble_eq_true rfl, Nat.le_of_ble_eq_true rfl⟩) (r_preV w (by have := P.1; omega) P.c0 rfl) rfl rfl hl.1 rfl (lv_room (Nat.le_of_ble_eq_true rfl)) dX8_strict_15 ⟨Nat.zero_le _, Nat.zero_le _⟩) (fun r16 h15 H locs hp w => ?_)
    obtain ⟨eh_, qq17⟩ := hp
    have eh_ := eh_.symm
    subst eh_
    have b18 : Bq r16 (0 ≤ p0.toInt ∧ p0.toInt < (((pN (sM st0)) : Nat) : Int)) := qq17.iff (by rw [((rfl : p0.toInt = p0.toInt) : p0.toInt = _), (S.1 : n.toInt = _)])
    refine lv_if_ne (tgt := 25) hx hb dX8_strict_18 (by decide) (fun c19 => ?_) (fun c19 => ?_)
    · have c19 := b18.ne c19
      obtain ⟨f, hf0⟩ : ∃ q_ : Nat, p0.toInt = (q_ : Int) := ⟨p0.toInt.toNat, by omega⟩
      have hf : f < pN (sM st0) := by omega
      obtain ⟨ha3, hk3, hl1, hl24, hpl, hd0⟩ := hP.2.2 f hf
      refine lv_aload_n hx hb dX8_strict_25 rfl (lv_at hl 1 rfl) ?_
      refine lv_aload_n hx hb dX8_strict_26 rfl (lv_at hl 0 rfl) ?_
      refine r_callQ w (va_runV (As := [.ref (g.2.2.1 (x + 89))]) (rest := []) ⟨hx, hb, hml, hown, hts⟩ (c_X8_solved l E ⟨_, _, _, _, _, _, _, _, _, _, _, V2, hz2⟩ P S hP (by omega)) (cwV 1 hts gX8_strict_X8_solved rfl rfl rfl (by decide +kernel) ⟨Nat.le_of_ble_eq_true rfl, Nat.le_of_ble_eq_true rfl⟩) (r_preV w (by have := E.1; omega) E.2.1 rfl) rfl rfl hl.1 rfl (lv_room (Nat.le_of_ble_eq_true rfl)) dX8_strict_27 ⟨Nat.zero_le _, Nat.zero_le _⟩) (fun r21 h20 H locs hp w => ?_)
      obtain ⟨hfk22, hrk22, kkk22, kck22, tkk22, dpk22, gpk22, ggk22, gsk22, gdk22, gtk22, gck22, V2, K2, hK2, htk2, hT2⟩ := hp
      subst hrk22
      have E := E.fr (h' := h20) (fun k_ h1_ h2_ h3_ => hfk22 k_ (by omega))
      have P := P.fr (h' := h20) (fun k_ h1_ h2_ => hfk22 k_ (by omega))
      have V0 := V0.fr (h' := h20) (fun k_ h1_ h2_ => hfk22 k_ (by omega))
      have V1 := V1.fr (h' := h20) (fun k_ h1_ h2_ => hfk22 k_ (by omega))
      have hfr : ∀ k_, ¬ (x + 53 ≤ k_ ∧ k_ < x + 107) → h20 k_ = h k_ := fun k_ hk_ => (hfk22 k_ (by omega))
      have hz2 : (1 : Int32) = 0 ∨ ((1 : Int32) = 1 ∧ KnK u2 (sM st0) tkk22 gtk22) := Or.inr ⟨rfl, K2, hK2, htk2, hT2⟩
      refine lv_aload_n hx hb dX8_strict_30 rfl (lv_at hl 1 rfl) ?_
      refine r_get (C := RX8) (T := TX8) (N := 11) (ci := 6) hx hb hts inX8_strict_X8 hown w (by have := E.1; omega) E.2.1 rfl 1 (by decide) (hts (Cond.fieldLink RX8 19 "EarlyValues" "now" "LEarlyValues$Program;") (List.mem_of_getElem? (i := 1) (by decide +kernel))) rfl rfl dX8_strict_31 ?_
      refine lv_iload_n hx hb dX8_strict_34 rfl (lv_at hl 2 rfl) ?_
      refine r_callI w (va_3 V2.hu (fun q_ => va_runU (As := [.ref (g.2.2.1 (x + 12)), .int p0]) (rest := []) ⟨hx, hb, hml, hown, hts⟩ (c_X7_strictBits l V2 P S hP hT2 p0 hf0 (by omega)) (va_cwU 2 hts gX8_strict_X7_strictBits_u184X6 rfl rfl rfl rfl (by decide +kernel) ⟨Nat.le_of_ble_eq_true rfl, Nat.le_of_ble_eq_true rfl⟩) (r_preV w (by have := V2.hN; omega) (V2.ob (by subst q_; rfl)) rfl) rfl rfl hl.1 rfl (lv_room (Nat.le_of_ble_eq_true rfl)) dX8_strict_35 ⟨Nat.zero_le _, Nat.zero_le _⟩) (fun q_ => va_runU (As := [.ref (g.2.2.1 (x + 12)), .int p0]) (rest := []) ⟨hx, hb, hml, hown, hts⟩ (c_X7_strictBits l V2 P S hP hT2 p0 hf0 (by omega)) (va_cwU 2 hts gX8_strict_X7_strictBits_u184X4 rfl rfl rfl rfl (by decide +kernel) ⟨Nat.le_of_ble_eq_true rfl, Nat.le_of_ble_eq_true rfl⟩) (r_preV w (by have := V2.hN; omega) (V2.ob (by subst q_; rfl)) rfl) rfl rfl hl.1 rfl (lv_room (Nat.le_of_ble_eq_true rfl)) dX8_strict_35 ⟨Nat.zero_le _, Nat.zero_le _⟩) (fun q_ => va_runU (As := [.ref (g.2.2.1 (x + 12)), .int p0]) (rest := []) ⟨hx, hb, hml, hown, hts⟩ (c_X7_strictBits l V2 P S hP hT2 p0 hf0 (by omega)) (va_cwU 2 hts gX8_strict_X7_strictBits_u184X0 rfl rfl rfl rfl (by decide +kernel) ⟨Nat.le_of_ble_eq_true rfl, Nat.le_of_ble_eq_true rfl⟩) (r_preV w (by have := V2.hN; omega) (V2.ob (by subst q_; rfl)) rfl) rfl rfl hl.1 rfl (lv_room (Nat.le_of_ble_eq_true rfl)) dX8_strict_35 ⟨Nat.zero_le _, Nat.zero_le _⟩)) (fun r24 h23 H locs hp w => ?_)
      obtain ⟨eh_, qq25⟩ := hp
      have eh_ := eh_.symm
      subst eh_
      refine r_iret (v := r24) hx hb hr hlocks w dX8_strict_38 ?_
      have hq_ := qq25.trans (by rw [mBits_F hK2] : _ = ((mBits (mStrictF u2 (sM st0) f) (pA (sM st0) f) : Nat) : Int))
      subst hu0 hu1 hu2
      exact ⟨(fun k_ hk_ => hfr k_ (by omega)), ⟨hSV0, ⟨_, E, hkn⟩, (T0.fr (fun k_ a_ b_ => hfr k_ (by omega))), (Q1.fr (fun k_ a_ b_ => hfr k_ (by omega))), ⟨_, _, _, _, _, P, S⟩, (Q2.fr (fun k_ a_ b_ => hfr k_ (by omega))), (fun i_ hi_ => (Q3 i_ hi_).fr (fun k_ a_ b_ => hfr k_ (by omega))), (fun i_ (hi_ : i_ < sV st0) => (Q4 i_ hi_).fr (fun k_ a_ b_ => hfr k_ (by omega))), (H0_.fr (fun k_ a_ b_ => hfr k_ (by omega))), ⟨_, _, _, _, _, _, _, _, _, _, _, V0, hz0⟩, ⟨_, _, _, _, _, _, _, _, _, _, _, V1, hz1⟩, ⟨_, _, _, _, _, _, _, _, _, _, _, V2, hz2⟩, (W3.fr (fun k_ a_ b_ => hfr k_ (by omega))), (W4.fr (fun k_ a_ b_ => hfr k_ (by omega)))⟩, Or.inl ⟨f, 1, hf0, by omega, hf, by omega, hq_⟩⟩
    · have c19 := b18.eq c19
      refine lv_iconst (v := (-1)) hx hb dX8_strict_21 (by decide) ?_
      refine lv_goto (tgt := 38) hx hb dX8_strict_22 (by decide) ?_
      refine r_iret (v := (-1)) hx hb hr hlocks w dX8_strict_38 ?_
      subst hu0 hu1 hu2
      exact ⟨(fun k_ hk_ => hfr k_ (by omega)), ⟨hSV0, ⟨_, E, hkn⟩, (T0.fr (fun k_ a_ b_ => hfr k_ (by omega))), (Q1.fr (fun k_ a_ b_ => hfr k_ (by omega))), ⟨_, _, _, _, _, P, S⟩, (Q2.fr (fun k_ a_ b_ => hfr k_ (by omega))), (fun i_ hi_ => (Q3 i_ hi_).fr (fun k_ a_ b_ => hfr k_ (by omega))), (fun i_ (hi_ : i_ < sV st0) => (Q4 i_ hi_).fr (fun k_ a_ b_ => hfr k_ (by omega))), (H0_.fr (fun k_ a_ b_ => hfr k_ (by omega))), ⟨_, _, _, _, _, _, _, _, _, _, _, V0, hz0⟩, ⟨_, _, _, _, _, _, _, _, _, _, _, V1, hz1⟩, ⟨_, _, _, _, _, _, _, _, _, _, _, V2, hz2⟩, (W3.fr (fun k_ a_ b_ => hfr k_ (by omega))), (W4.fr (fun k_ a_ b_ => hfr k_ (by omega)))⟩, Or.inr ⟨by omega, rfl⟩⟩
  · subst q_
    refine lv_astore_n (lv' := [(3, .ref (g.2.2.1 (x + 53))), (0, .ref (g.2.2.1 x)), (1, .int p0), (2, .int p1)]) hx hb dX8_strict_5 rfl hl (by decide) rfl (fun ls hl => ?_)
    refine lv_aload_n hx hb dX8_strict_6 rfl (lv_at hl 0 rfl) ?_
    refine lv_ifnull hx hb dX8_strict_7 ?_
    refine lv_aload_n hx hb dX8_strict_10 rfl (lv_at hl 1 rfl) ?_
    refine r_get (C := RX8) (T := TX8) (N := 11) (ci := 6) hx hb hts inX8_strict_X8 hown w (by have := E.1; omega) E.2.1 rfl 1 (by decide) (hts (Cond.fieldLink RX8 19 "EarlyValues" "now" "LEarlyValues$Program;") (List.mem_of_getElem? (i := 1) (by decide +kernel))) rfl rfl dX8_strict_11 ?_
    refine lv_iload_n hx hb dX8_strict_14 rfl (lv_at hl 2 rfl) ?_
    refine r_callI w (va_runV (As := [.int p0]) (rest := []) ⟨hx, hb, hml, hown, hts⟩ (c_X3_has l P p0) (cwV 1 hts gX8_strict_X3_has rfl rfl rfl (by decide +kernel) ⟨Nat.le_of_ble_eq_true rfl, Nat.le_of_ble_eq_true rfl⟩) (r_preV w (by have := P.1; omega) P.c0 rfl) rfl rfl hl.1 rfl (lv_room (Nat.le_of_ble_eq_true rfl)) dX8_strict_15 ⟨Nat.zero_le _, Nat.zero_le _⟩) (fun r27 h26 H locs hp w => ?_)
    obtain ⟨eh_, qq28⟩ := hp
    have eh_ := eh_.symm
    subst eh_
    have b29 : Bq r27 (0 ≤ p0.toInt ∧ p0.toInt < (((pN (sM st0)) : Nat) : Int)) := qq28.iff (by rw [((rfl : p0.toInt = p0.toInt) : p0.toInt = _), (S.1 : n.toInt = _)])
    refine lv_if_ne (tgt := 25) hx hb dX8_strict_18 (by decide) (fun c30 => ?_) (fun c30 => ?_)
    · have c30 := b29.ne c30
      obtain ⟨f, hf0⟩ : ∃ q_ : Nat, p0.toInt = (q_ : Int) := ⟨p0.toInt.toNat, by omega⟩
      have hf : f < pN (sM st0) := by omega
      obtain ⟨ha3, hk3, hl1, hl24, hpl, hd0⟩ := hP.2.2 f hf
      refine lv_aload_n hx hb dX8_strict_25 rfl (lv_at hl 1 rfl) ?_
      refine lv_aload_n hx hb dX8_strict_26 rfl (lv_at hl 0 rfl) ?_
      refine r_callQ w (va_runV (As := [.ref (g.2.2.1 (x + 53))]) (rest := []) ⟨hx, hb, hml, hown, hts⟩ (c_X8_solved l E ⟨_, _, _, _, _, _, _, _, _, _, _, V0, hz0⟩ P S hP (by omega)) (cwV 1 hts gX8_strict_X8_solved rfl rfl rfl (by decide +kernel) ⟨Nat.le_of_ble_eq_true rfl, Nat.le_of_ble_eq_true rfl⟩) (r_preV w (by have := E.1; omega) E.2.1 rfl) rfl rfl hl.1 rfl (lv_room (Nat.le_of_ble_eq_true rfl)) dX8_strict_27 ⟨Nat.zero_le _, Nat.zero_le _⟩) (fun r32 h31 H locs hp w => ?_)
      obtain ⟨hfk33, hrk33, kkk33, kck33, tkk33, dpk33, gpk33, ggk33, gsk33, gdk33, gtk33, gck33, V0, K0, hK0, htk0, hT0⟩ := hp
      subst hrk33
      have E := E.fr (h' := h31) (fun k_ h1_ h2_ h3_ => hfk33 k_ (by omega))
      have P := P.fr (h' := h31) (fun k_ h1_ h2_ => hfk33 k_ (by omega))
      have V1 := V1.fr (h' := h31) (fun k_ h1_ h2_ => hfk33 k_ (by omega))
      have V2 := V2.fr (h' := h31) (fun k_ h1_ h2_ => hfk33 k_ (by omega))
      have hfr : ∀ k_, ¬ (x + 53 ≤ k_ ∧ k_ < x + 107) → h31 k_ = h k_ := fun k_ hk_ => (hfk33 k_ (by omega))
      have hz0 : (1 : Int32) = 0 ∨ ((1 : Int32) = 1 ∧ KnK u0 (sM st0) tkk33 gtk33) := Or.inr ⟨rfl, K0, hK0, htk0, hT0⟩
      refine lv_aload_n hx hb dX8_strict_30 rfl (lv_at hl 1 rfl) ?_
      refine r_get (C := RX8) (T := TX8) (N := 11) (ci := 6) hx hb hts inX8_strict_X8 hown w (by have := E.1; omega) E.2.1 rfl 1 (by decide) (hts (Cond.fieldLink RX8 19 "EarlyValues" "now" "LEarlyValues$Program;") (List.mem_of_getElem? (i := 1) (by decide +kernel))) rfl rfl dX8_strict_31 ?_
      refine lv_iload_n hx hb dX8_strict_34 rfl (lv_at hl 2 rfl) ?_
      refine r_callI w (va_3 V0.hu (fun q_ => va_runU (As := [.ref (g.2.2.1 (x + 12)), .int p0]) (rest := []) ⟨hx, hb, hml, hown, hts⟩ (c_X7_strictBits l V0 P S hP hT0 p0 hf0 (by omega)) (va_cwU 2 hts gX8_strict_X7_strictBits_u184X6 rfl rfl rfl rfl (by decide +kernel) ⟨Nat.le_of_ble_eq_true rfl, Nat.le_of_ble_eq_true rfl⟩) (r_preV w (by have := V0.hN; omega) (V0.ob (by subst q_; rfl)) rfl) rfl rfl hl.1 rfl (lv_room (Nat.le_of_ble_eq_true rfl)) dX8_strict_35 ⟨Nat.zero_le _, Nat.zero_le _⟩) (fun q_ => va_runU (As := [.ref (g.2.2.1 (x + 12)), .int p0]) (rest := []) ⟨hx, hb, hml, hown, hts⟩ (c_X7_strictBits l V0 P S hP hT0 p0 hf0 (by omega)) (va_cwU 2 hts gX8_strict_X7_strictBits_u184X4 rfl rfl rfl rfl (by decide +kernel) ⟨Nat.le_of_ble_eq_true rfl, Nat.le_of_ble_eq_true rfl⟩) (r_preV w (by have := V0.hN; omega) (V0.ob (by subst q_; rfl)) rfl) rfl rfl hl.1 rfl (lv_room (Nat.le_of_ble_eq_true rfl)) dX8_strict_35 ⟨Nat.zero_le _, Nat.zero_le _⟩) (fun q_ => va_runU (As := [.ref (g.2.2.1 (x + 12)), .int p0]) (rest := []) ⟨hx, hb, hml, hown, hts⟩ (c_X7_strictBits l V0 P S hP hT0 p0 hf0 (by omega)) (va_cwU 2 hts gX8_strict_X7_strictBits_u184X0 rfl rfl rfl rfl (by decide +kernel) ⟨Nat.le_of_ble_eq_true rfl, Nat.le_of_ble_eq_true rfl⟩) (r_preV w (by have := V0.hN; omega) (V0.ob (by subst q_; rfl)) rfl) rfl rfl hl.1 rfl (lv_room (Nat.le_of_ble_eq_true rfl)) dX8_strict_35 ⟨Nat.zero_le _, Nat.zero_le _⟩)) (fun r35 h34 H locs hp w => ?_)
      obtain ⟨eh_, qq36⟩ := hp
      have eh_ := eh_.symm
      subst eh_
      refine r_iret (v := r35) hx hb hr hlocks w dX8_strict_38 ?_
      have hq_ := qq36.trans (by rw [mBits_F hK0] : _ = ((mBits (mStrictF u0 (sM st0) f) (pA (sM st0) f) : Nat) : Int))
      subst hu0 hu1 hu2
      exact ⟨(fun k_ hk_ => hfr k_ (by omega)), ⟨hSV0, ⟨_, E, hkn⟩, (T0.fr (fun k_ a_ b_ => hfr k_ (by omega))), (Q1.fr (fun k_ a_ b_ => hfr k_ (by omega))), ⟨_, _, _, _, _, P, S⟩, (Q2.fr (fun k_ a_ b_ => hfr k_ (by omega))), (fun i_ hi_ => (Q3 i_ hi_).fr (fun k_ a_ b_ => hfr k_ (by omega))), (fun i_ (hi_ : i_ < sV st0) => (Q4 i_ hi_).fr (fun k_ a_ b_ => hfr k_ (by omega))), (H0_.fr (fun k_ a_ b_ => hfr k_ (by omega))), ⟨_, _, _, _, _, _, _, _, _, _, _, V0, hz0⟩, ⟨_, _, _, _, _, _, _, _, _, _, _, V1, hz1⟩, ⟨_, _, _, _, _, _, _, _, _, _, _, V2, hz2⟩, (W3.fr (fun k_ a_ b_ => hfr k_ (by omega))), (W4.fr (fun k_ a_ b_ => hfr k_ (by omega)))⟩, Or.inl ⟨f, 2, hf0, by omega, hf, by omega, hq_⟩⟩
    · have c30 := b29.eq c30
      refine lv_iconst (v := (-1)) hx hb dX8_strict_21 (by decide) ?_
      refine lv_goto (tgt := 38) hx hb dX8_strict_22 (by decide) ?_
      refine r_iret (v := (-1)) hx hb hr hlocks w dX8_strict_38 ?_
      subst hu0 hu1 hu2
      exact ⟨(fun k_ hk_ => hfr k_ (by omega)), ⟨hSV0, ⟨_, E, hkn⟩, (T0.fr (fun k_ a_ b_ => hfr k_ (by omega))), (Q1.fr (fun k_ a_ b_ => hfr k_ (by omega))), ⟨_, _, _, _, _, P, S⟩, (Q2.fr (fun k_ a_ b_ => hfr k_ (by omega))), (fun i_ hi_ => (Q3 i_ hi_).fr (fun k_ a_ b_ => hfr k_ (by omega))), (fun i_ (hi_ : i_ < sV st0) => (Q4 i_ hi_).fr (fun k_ a_ b_ => hfr k_ (by omega))), (H0_.fr (fun k_ a_ b_ => hfr k_ (by omega))), ⟨_, _, _, _, _, _, _, _, _, _, _, V0, hz0⟩, ⟨_, _, _, _, _, _, _, _, _, _, _, V1, hz1⟩, ⟨_, _, _, _, _, _, _, _, _, _, _, V2, hz2⟩, (W3.fr (fun k_ a_ b_ => hfr k_ (by omega))), (W4.fr (fun k_ a_ b_ => hfr k_ (by omega)))⟩, Or.inr ⟨by omega, rfl⟩⟩
  · subst q_
    refine lv_astore_nN (lv' := [(3, .null), (0, .ref (g.2.2.1 x)), (1, .int p0), (2, .int p1)]) hx hb dX8_strict_5 rfl hl (by decide) rfl (fun ls hl => ?_)
    refine lv_aload_nN hx hb dX8_strict_6 rfl (lv_at hl 0 rfl) ?_
    refine lv_ifnullN (tgt := 21) hx hb dX8_strict_7 (by decide) ?_
    refine lv_iconst (v := (-1)) hx hb dX8_strict_21 (by decide) ?_
    refine lv_goto (tgt := 38) hx hb dX8_strict_22 (by decide) ?_
    refine r_iret (v := (-1)) hx hb hr hlocks w dX8_strict_38 ?_
    subst hu0 hu1 hu2
    exact ⟨(fun k_ hk_ => hfr k_ (by omega)), ⟨hSV0, ⟨_, E, hkn⟩, (T0.fr (fun k_ a_ b_ => hfr k_ (by omega))), (Q1.fr (fun k_ a_ b_ => hfr k_ (by omega))), ⟨_, _, _, _, _, P, S⟩, (Q2.fr (fun k_ a_ b_ => hfr k_ (by omega))), (fun i_ hi_ => (Q3 i_ hi_).fr (fun k_ a_ b_ => hfr k_ (by omega))), (fun i_ (hi_ : i_ < sV st0) => (Q4 i_ hi_).fr (fun k_ a_ b_ => hfr k_ (by omega))), (H0_.fr (fun k_ a_ b_ => hfr k_ (by omega))), ⟨_, _, _, _, _, _, _, _, _, _, _, V0, hz0⟩, ⟨_, _, _, _, _, _, _, _, _, _, _, V1, hz1⟩, ⟨_, _, _, _, _, _, _, _, _, _, _, V2, hz2⟩, (W3.fr (fun k_ a_ b_ => hfr k_ (by omega))), (W4.fr (fun k_ a_ b_ => hfr k_ (by omega)))⟩, Or.inr ⟨by omega, rfl⟩⟩

theorem inX8_early_X3 : ∀ w ∈ wsX30, w ∈ wsX8_early := by decide +kernel
theorem inX8_early_X8 : ∀ w ∈ wsX80, w ∈ wsX8_early := by decide +kernel
abbrev rm_X8_early : Room := { frames := 7, cells := 0, slots := 0, locals := 157 }
set_option maxHeartbeats 4000000 in
set_option maxRecDepth 100000 in
theorem c_X8_early_0 (l : Launch) {g : GE} {h : Nat → va_E} {x : Nat} {st0 : ST} (C : ClsA g h x st0) (p0 : Int32) (p1 : Int32) (hw : p1.toInt = 0) : MI l yX8_early wsX8_early rm_X8_early [.ref (g.2.2.1 x), .int p0, .int p1] g h (fun r_ h2 => (∀ k, ¬ (x ≤ k ∧ k < x + 143) → h2 k = h k) ∧ ClsA g h2 x st0 ∧ AnEarly st0 p0 p1 r_) := by
  refine Met.ofW (cc := cX8_early) (maxL := 8) (ret := (some .int)) (by decide) rfl ?_
  intro p e s m args below meth c s₁ B hml hv
  obtain ⟨rfl, w0⟩ := hv
  have hx := B.exec
  have hb := B.bytes
  have hr := B.returns
  have hts := atoms_spec (ws := wsX8_early) B.pre
  have hown : s.vm.findClass RX8 = some m.cls := findClass_of_methodNamed B.named
  have hlocks := B.notSynchronized
  have w := w0.start
  clear w0
  have hl := lv_entry ([.ref (g.2.2.1 x), .int p0, .int p1]) (n := 8) (Nat.le_of_ble_eq_true rfl)
  rw [lg_entry_eq]
  generalize (lg_sl ([.ref (g.2.2.1 x), .int p0, .int p1]) ++ List.replicate (8 - (lg_sl ([.ref (g.2.2.1 x), .int p0, .int p1])).length) Slot.unset).toArray = ls at hl ⊢
  have hl : lv_has ls 8 [(0, .ref (g.2.2.1 x)), (1, .int p0), (2, .int p1)] := hl
  obtain ⟨hSV, ⟨kn, E, hkn⟩, T0, Q1, P0, Q2, Q3, Q4, H0_, W0, W1, W2, W3, W4⟩ := C
  have hSV0 := hSV
  obtain ⟨hP, hu8, hUP, hv2, hVP, hl200, hlt⟩ := hSV
  have hn4 := hP.2.1
  have hNe := E.1
  obtain ⟨n, ga, gk, gl, gb, P, S⟩ := P0
  have hnS := S.1
  obtain ⟨u1, hu1, W1⟩ : ∃ u_ : Nat, u_ = 1 ∧ VwE g h (x + 71) u_ (sM st0) := ⟨_, rfl, W1⟩
  obtain ⟨kk1, kc1, tk1, fz1, dp1, gp1, gg1, gs1, gd1, gt1, gc1, V1, hz1⟩ := W1
  have hNv1 := V1.hN
  obtain ⟨f, hfd⟩ : ∃ f_ : Nat, f_ = p0.toInt.toNat := ⟨_, rfl⟩
  have hfr : ∀ k_, ¬ ((x + 71) ≤ k_ ∧ k_ < (x + 71) + 18) → h k_ = h k_ := fun _ _ => rfl
  have cuts : ∀ N : Nat, (∀ (j : Nat) (x5 : Int32) (x6 : Int32) (hc : Nat → va_E) (H : Heap) (locs : List Loc) (ls : Array Slot), WD g (inW g) s hc H locs → lv_has ls 8 [(0, .ref (g.2.2.1 x)), (1, .int p0), (2, .int p1), (3, .ref (g.2.2.1 (x + 71))), (4, .int 0), (5, .int x5), (6, .int x6)] → (p0.toInt = ((f : Nat) : Int)) → (f < pN (sM st0)) → (j ≤ pL (sM st0) f) → (x5.toInt = ((eSum (sM st0) 0 f j : Nat) : Int)) → (x6.toInt = ((j : Nat) : Int)) → (EvA g hc x kn) → (PrA g hc (x + 12) n ga gk gl gb) → (VwE g hc (x + 71) u1 (sM st0)) → (∀ k, ¬ ((x + 71) ≤ k ∧ k < (x + 71) + 18) → hc k = h k) → 25 - j < N → W p l e (headSpec wsX8_early rm_X8_early).room s m ([.ref (g.2.2.1 x), .int p0, .int p1] : List Value).toArray below meth c H locs 0 0 (MQ below (va_Qi (fun r_ h2 => (∀ k, ¬ (x ≤ k ∧ k < x + 143) → h2 k = h k) ∧ ClsA g h2 x st0 ∧ AnEarly st0 p0 p1 r_) (Wd g) (inW g)) ([.ref (g.2.2.1 x), .int p0, .int p1] : List Value).toArray s 0 0 (inW g)) (F0 m 46 ls [])) := by
    intro N
    induction N with
    | zero => exact by intros; omega
    | succ N ih =>
      have ih46 := ih
      · intro j x5 x6 hc H locs ls w hl hf0 hf hj hx5 hx6 E P W1 hfr hN_
        obtain ⟨kk1, kc1, tk1, fz1, dp1, gp1, gg1, gs1, gd1, gt1, gc1, V1, hz1⟩ := W1
        have hNv1 := V1.hN
        have hNe := E.1
        obtain ⟨-, -, -, hl24, -⟩ := hP.2.2 f hf
        have hes_ := eSum_ub (w := 0) hP hf hj
        refine lv_iload hx hb dX8_early_46 (lv_at hl 6 rfl) ?_
        refine lv_aload_n hx hb dX8_early_48 rfl (lv_at hl 0 rfl) ?_
        refine r_get (C := RX8) (T := TX8) (N := 11) (ci := 6) hx hb hts inX8_early_X8 hown w (by have := E.1; omega) E.2.1 rfl 1 (by decide) (hts (Cond.fieldLink RX8 19 "EarlyValues" "now" "LEarlyValues$Program;") (List.mem_of_getElem? (i := 1) (by decide +kernel))) rfl rfl dX8_early_49 ?_
        refine r_get (C := RX3) (T := TX3) (N := 5) (ci := 2) hx hb hts inX8_early_X3 hown w (by have := P.1; omega) P.c0 rfl 3 (by decide) (hts (Cond.fieldLink RX8 122 "EarlyValues$Program" "lengths" "[I") (List.mem_of_getElem? (i := 2) (by decide +kernel))) rfl rfl dX8_early_52 ?_
        refine lv_iload_n hx hb dX8_early_55 rfl (lv_at hl 1 rfl) ?_
        refine r_iald (j := f) hx hb w (by have := P.1; omega) P.c3 hf0 (by omega) dX8_early_56 ?_
        refine lv_icmp_ge (tgt := 134) hx hb dX8_early_57 (by decide) (fun c1 => ?_) (fun c1 => ?_)
        · have c1 : (((pL (sM st0) f) : Nat) : Int) ≤ ((j : Nat) : Int) := (i_le (S.2.2.2.1 f (by omega)) hx6).mp c1
          refine lv_iload hx hb dX8_early_134 (lv_at hl 5 rfl) ?_
          refine r_iret (v := x5) hx hb hr hlocks w dX8_early_136 ?_
          subst hu1
          exact ⟨(fun k_ hk_ => hfr k_ (by omega)), ⟨hSV0, ⟨_, E, hkn⟩, (T0.fr (fun k_ a_ b_ => hfr k_ (by omega))), (Q1.fr (fun k_ a_ b_ => hfr k_ (by omega))), ⟨_, _, _, _, _, P, S⟩, (Q2.fr (fun k_ a_ b_ => hfr k_ (by omega))), (fun i_ hi_ => (Q3 i_ hi_).fr (fun k_ a_ b_ => hfr k_ (by omega))), (fun i_ (hi_ : i_ < sV st0) => (Q4 i_ hi_).fr (fun k_ a_ b_ => hfr k_ (by omega))), (H0_.fr (fun k_ a_ b_ => hfr k_ (by omega))), (W0.fr (fun k_ a_ b_ => hfr k_ (by omega))), ⟨_, _, _, _, _, _, _, _, _, _, _, V1, hz1⟩, (W2.fr (fun k_ a_ b_ => hfr k_ (by omega))), (W3.fr (fun k_ a_ b_ => hfr k_ (by omega))), (W4.fr (fun k_ a_ b_ => hfr k_ (by omega)))⟩, Or.inl ⟨f, 0, hf0, by omega, hf, by omega, hx5.trans (by rw [show j = pL (sM st0) f by omega]; rfl)⟩⟩
        · have c1 : ¬ ((((pL (sM st0) f) : Nat) : Int) ≤ ((j : Nat) : Int)) := fun q => c1 ((i_le (S.2.2.2.1 f (by omega)) hx6).mpr q)
          have hj_ : j < pL (sM st0) f := by omega
          obtain ⟨hb14_, hbn_⟩ := letter_fn hP hf hj_
          refine lv_aload_n hx hb dX8_early_60 rfl (lv_at hl 0 rfl) ?_
          refine r_get (C := RX8) (T := TX8) (N := 11) (ci := 6) hx hb hts inX8_early_X8 hown w (by have := E.1; omega) E.2.1 rfl 1 (by decide) (hts (Cond.fieldLink RX8 19 "EarlyValues" "now" "LEarlyValues$Program;") (List.mem_of_getElem? (i := 1) (by decide +kernel))) rfl rfl dX8_early_61 ?_
          refine r_get (C := RX3) (T := TX3) (N := 5) (ci := 2) hx hb hts inX8_early_X3 hown w (by have := P.1; omega) P.c0 rfl 4 (by decide) (hts (Cond.fieldLink RX8 129 "EarlyValues$Program" "bodies" "[[I") (List.mem_of_getElem? (i := 3) (by decide +kernel))) rfl rfl dX8_early_64 ?_
          refine lv_iload_n hx hb dX8_early_67 rfl (lv_at hl 1 rfl) ?_
          refine r_aald (t := 4) (j := f) hx hb w (by decide) (by have := P.1; omega) P.c4 hf0 (by omega) (rowsF_in (by omega)) dX8_early_68 ?_
          refine lv_iload hx hb dX8_early_69 (lv_at hl 6 rfl) ?_
          refine r_iald (j := j) hx hb w (by have := P.1; omega) (P.c5 (i := f) (by omega)) hx6 (by omega) dX8_early_71 ?_
          refine lv_bipush (v := 10) hx hb dX8_early_72 (by decide) ?_
          refine lv_isub hx hb dX8_early_74 ?_
          refine lv_topi (fun y2 ey2 => ?_)
          have ty2 : y2.toInt = (((pB (sM st0) f j) : Nat) : Int) - ((10 : Nat) : Int) := i_sub ey2 (S.2.2.2.2 f (by omega) j (by omega)) (by decide : (10 : Int32).toInt = ((10 : Nat) : Int)) (by omega)
          refine lv_istore (lv' := [(7, .int y2), (0, .ref (g.2.2.1 x)), (1, .int p0), (2, .int p1), (3, .ref (g.2.2.1 (x + 71))), (4, .int 0), (5, .int x5), (6, .int x6)]) hx hb dX8_early_75 hl (by decide) rfl (fun ls hl => ?_)
          refine lv_aload_n hx hb dX8_early_77 rfl (lv_at hl 1 rfl) ?_
          refine r_get (C := RX8) (T := TX8) (N := 11) (ci := 6) hx hb hts inX8_early_X8 hown w (by have := E.1; omega) E.2.1 rfl 1 (by decide) (hts (Cond.fieldLink RX8 19 "EarlyValues" "now" "LEarlyValues$Program;") (List.mem_of_getElem? (i := 1) (by decide +kernel))) rfl rfl dX8_early_78 ?_
          refine lv_iload hx hb dX8_early_81 (lv_at hl 0 rfl) ?_
          refine r_callI w (va_runV (As := [.int y2]) (rest := []) ⟨hx, hb, hml, hown, hts⟩ (c_X3_has l P y2) (cwV 1 hts gX8_early_X3_has rfl rfl rfl (by decide +kernel) ⟨Nat.le_of_ble_eq_true rfl, Nat.le_of_ble_eq_true rfl⟩) (r_preV w (by have := P.1; omega) P.c0 rfl) rfl rfl hl.1 rfl (lv_room (Nat.le_of_ble_eq_true rfl)) dX8_early_83 ⟨Nat.zero_le _, Nat.zero_le _⟩) (fun r4 h3 H locs hp w => ?_)
          obtain ⟨eh_, qq5⟩ := hp
          have eh_ := eh_.symm
          subst eh_
          have b6 : Bq r4 (0 ≤ ((((pB (sM st0) f j) : Nat) : Int) - ((10 : Nat) : Int)) ∧ ((((pB (sM st0) f j) : Nat) : Int) - ((10 : Nat) : Int)) < (((pN (sM st0)) : Nat) : Int)) := qq5.iff (by rw [(ty2 : y2.toInt = _), (S.1 : n.toInt = _)])
          refine lv_if_eq (tgt := 128) hx hb dX8_early_86 (by decide) (fun c7 => ?_) (fun c7 => ?_)
          · have c7 := b6.eq c7
            obtain ⟨y8, ey8⟩ : ∃ y : Int32, y = x6 + (1) := ⟨_, rfl⟩
            have ty8 : y8.toInt = (((j + 1) : Nat) : Int) := i_addN ey8 hx6 (by decide : (1 : Int32).toInt = ((1 : Nat) : Int)) (by omega)
            refine lv_iinc (v := y8) (lv' := [(6, .int y8), (7, .int y2), (0, .ref (g.2.2.1 x)), (1, .int p0), (2, .int p1), (3, .ref (g.2.2.1 (x + 71))), (4, .int 0), (5, .int x5)]) hx hb dX8_early_128 hl (k := 7) rfl (by rw [ey8]; rfl) (by decide) rfl (fun ls hl => ?_)
            refine lv_goto (tgt := 46) hx hb dX8_early_131 (by decide) ?_
            exact ih46 (j + 1) x5 y8 hc _ _ _ w (lv_sub hl [2, 3, 4, 5, 6, 7, 0] rfl) hf0 hf (by omega) (hx5.trans (by rw [eStep_0 (by omega)])) ty8 E P (⟨_, _, _, _, _, _, _, _, _, _, _, V1, hz1⟩) hfr (by omega)
          · have c7 := b6.ne c7
            have h7_ : y2.toInt = ((pB (sM st0) f j - 10 : Nat) : Int) := ty2.trans (by omega)
            obtain ⟨hb3_, -⟩ := hP.2.2 (pB (sM st0) f j - 10) (by omega)
            refine lv_iload hx hb dX8_early_89 (lv_at hl 6 rfl) ?_
            refine lv_aload_n hx hb dX8_early_91 rfl (lv_at hl 4 rfl) ?_
            refine lv_ifnonnull (tgt := 108) hx hb dX8_early_92 (by decide) ?_
            refine lv_aload_n hx hb dX8_early_108 rfl (lv_at hl 1 rfl) ?_
            refine lv_aload_n hx hb dX8_early_109 rfl (lv_at hl 4 rfl) ?_
            refine r_callQ w (va_runV (As := [.ref (g.2.2.1 (x + 71))]) (rest := [.int x5]) ⟨hx, hb, hml, hown, hts⟩ (c_X8_solved l E ⟨_, _, _, _, _, _, _, _, _, _, _, V1, hz1⟩ P S hP (by omega)) (cwV 1 hts gX8_early_X8_solved rfl rfl rfl (by decide +kernel) ⟨Nat.le_of_ble_eq_true rfl, Nat.le_of_ble_eq_true rfl⟩) (r_preV w (by have := E.1; omega) E.2.1 rfl) rfl rfl hl.1 rfl (lv_room (Nat.le_of_ble_eq_true rfl)) dX8_early_110 ⟨Nat.zero_le _, Nat.zero_le _⟩) (fun r10 h9 H locs hp w => ?_)
            obtain ⟨hfk11, hrk11, kkk11, kck11, tkk11, dpk11, gpk11, ggk11, gsk11, gdk11, gtk11, gck11, V1, K1, hK1, htk1, hT1⟩ := hp
            subst hrk11
            have E := E.fr (h' := h9) (fun k_ h1_ h2_ h3_ => hfk11 k_ (by omega))
            have P := P.fr (h' := h9) (fun k_ h1_ h2_ => hfk11 k_ (by omega))
            have hfr : ∀ k_, ¬ ((x + 71) ≤ k_ ∧ k_ < (x + 71) + 18) → h9 k_ = h k_ := fun k_ hk_ => (hfk11 k_ (by omega)).trans (hfr k_ hk_)
            have hz1 : (1 : Int32) = 0 ∨ ((1 : Int32) = 1 ∧ KnK u1 (sM st0) tkk11 gtk11) := Or.inr ⟨rfl, K1, hK1, htk1, hT1⟩
            refine lv_aload_n hx hb dX8_early_113 rfl (lv_at hl 1 rfl) ?_
            refine r_get (C := RX8) (T := TX8) (N := 11) (ci := 6) hx hb hts inX8_early_X8 hown w (by have := E.1; omega) E.2.1 rfl 1 (by decide) (hts (Cond.fieldLink RX8 19 "EarlyValues" "now" "LEarlyValues$Program;") (List.mem_of_getElem? (i := 1) (by decide +kernel))) rfl rfl dX8_early_114 ?_
            refine lv_iload hx hb dX8_early_117 (lv_at hl 0 rfl) ?_
            refine r_callI w (va_3 V1.hu (fun q_ => va_runU (As := [.ref (g.2.2.1 (x + 12)), .int y2]) (rest := [.int x5]) ⟨hx, hb, hml, hown, hts⟩ (c_X7_strictBits l V1 P S hP hT1 y2 h7_ (by omega)) (va_cwU 2 hts gX8_early_X7_strictBits_u184X6 rfl rfl rfl rfl (by decide +kernel) ⟨Nat.le_of_ble_eq_true rfl, Nat.le_of_ble_eq_true rfl⟩) (r_preV w (by have := V1.hN; omega) (V1.ob (by subst q_; rfl)) rfl) rfl rfl hl.1 rfl (lv_room (Nat.le_of_ble_eq_true rfl)) dX8_early_119 ⟨Nat.zero_le _, Nat.zero_le _⟩) (fun q_ => va_runU (As := [.ref (g.2.2.1 (x + 12)), .int y2]) (rest := [.int x5]) ⟨hx, hb, hml, hown, hts⟩ (c_X7_strictBits l V1 P S hP hT1 y2 h7_ (by omega)) (va_cwU 2 hts gX8_early_X7_strictBits_u184X4 rfl rfl rfl rfl (by decide +kernel) ⟨Nat.le_of_ble_eq_true rfl, Nat.le_of_ble_eq_true rfl⟩) (r_preV w (by have := V1.hN; omega) (V1.ob (by subst q_; rfl)) rfl) rfl rfl hl.1 rfl (lv_room (Nat.le_of_ble_eq_true rfl)) dX8_early_119 ⟨Nat.zero_le _, Nat.zero_le _⟩) (fun q_ => va_runU (As := [.ref (g.2.2.1 (x + 12)), .int y2]) (rest := [.int x5]) ⟨hx, hb, hml, hown, hts⟩ (c_X7_strictBits l V1 P S hP hT1 y2 h7_ (by omega)) (va_cwU 2 hts gX8_early_X7_strictBits_u184X0 rfl rfl rfl rfl (by decide +kernel) ⟨Nat.le_of_ble_eq_true rfl, Nat.le_of_ble_eq_true rfl⟩) (r_preV w (by have := V1.hN; omega) (V1.ob (by subst q_; rfl)) rfl) rfl rfl hl.1 rfl (lv_room (Nat.le_of_ble_eq_true rfl)) dX8_early_119 ⟨Nat.zero_le _, Nat.zero_le _⟩)) (fun r13 h12 H locs hp w => ?_)
            obtain ⟨eh_, qq14⟩ := hp
            have eh_ := eh_.symm
            subst eh_
            refine r_callI w (va_runS (As := [.int r13]) (rest := [.int x5]) ⟨hx, hb, hml, hown, hts⟩ (c_J6_bitCount_0f7a4 l r13 qq14 (mB3_le (u := 0) _ _ (by omega))) (va_cwS 1 hts gX8_early_J6_bitCount_0f7a4 rfl rfl rfl (by decide +kernel) ⟨Nat.le_of_ble_eq_true rfl, Nat.le_of_ble_eq_true rfl⟩) (r_preS w) rfl rfl hl.1 rfl (lv_room (Nat.le_of_ble_eq_true rfl)) dX8_early_122 ⟨Nat.zero_le _, Nat.zero_le _⟩) (fun r16 h15 H locs hp w => ?_)
            obtain ⟨eh_, qq17⟩ := hp
            have eh_ := eh_.symm
            subst eh_
            have hpo_ : (pop (mBits (mStrict u1 (sM st0) (mTab u1 (sM st0) K1) ((pB (sM st0) f j - 10))) (pA (sM st0) ((pB (sM st0) f j - 10))))) ≤ 3 := pop_le _
            refine lv_iadd hx hb dX8_early_125 ?_
            refine lv_topi (fun y18 ey18 => ?_)
            have ty18 : y18.toInt = ((((eSum (sM st0) 0 f j) + (pop (mBits (mStrict u1 (sM st0) (mTab u1 (sM st0) K1) ((pB (sM st0) f j - 10))) (pA (sM st0) ((pB (sM st0) f j - 10)))))) : Nat) : Int) := i_addN ey18 hx5 qq17 (by omega)
            refine lv_istore (lv' := [(5, .int y18), (7, .int y2), (0, .ref (g.2.2.1 x)), (1, .int p0), (2, .int p1), (3, .ref (g.2.2.1 (x + 71))), (4, .int 0), (6, .int x6)]) hx hb dX8_early_126 hl (by decide) rfl (fun ls hl => ?_)
            obtain ⟨y19, ey19⟩ : ∃ y : Int32, y = x6 + (1) := ⟨_, rfl⟩
            have ty19 : y19.toInt = (((j + 1) : Nat) : Int) := i_addN ey19 hx6 (by decide : (1 : Int32).toInt = ((1 : Nat) : Int)) (by omega)
            refine lv_iinc (v := y19) (lv' := [(6, .int y19), (5, .int y18), (7, .int y2), (0, .ref (g.2.2.1 x)), (1, .int p0), (2, .int p1), (3, .ref (g.2.2.1 (x + 71))), (4, .int 0)]) hx hb dX8_early_128 hl (k := 7) rfl (by rw [ey19]; rfl) (by decide) rfl (fun ls hl => ?_)
            refine lv_goto (tgt := 46) hx hb dX8_early_131 (by decide) ?_
            exact ih46 (j + 1) y18 y19 h9 _ _ _ w (lv_sub hl [3, 4, 5, 6, 7, 1, 0] rfl) hf0 hf (by omega) (ty18.trans (by rw [eStep_w hK1 (by rw [hu1]; rfl) (by omega) (by omega)])) ty19 E P (⟨_, _, _, _, _, _, _, _, _, _, _, V1, hz1⟩) hfr (by omega)
  have ih46 := cuts (26)
  refine lv_aload_n hx hb dX8_early_0 rfl (lv_at hl 0 rfl) ?_
  refine lv_iload_n hx hb dX8_early_1 rfl (lv_at hl 2 rfl) ?_
  refine r_callQ w (va_runV (As := [.int p1]) (rest := []) ⟨hx, hb, hml, hown, hts⟩ (c_X8_strictView l E p1) (cwV 1 hts gX8_early_X8_strictView rfl rfl rfl (by decide +kernel) ⟨Nat.le_of_ble_eq_true rfl, Nat.le_of_ble_eq_true rfl⟩) (r_preV w (by have := E.1; omega) E.2.1 rfl) rfl rfl hl.1 rfl (lv_room (Nat.le_of_ble_eq_true rfl)) dX8_early_2 ⟨Nat.zero_le _, Nat.zero_le _⟩) (fun r21 h20 H locs hp w => ?_)
  obtain ⟨eh_, qq22⟩ := hp
  have eh_ := eh_.symm
  subst eh_
  rcases qq22 with ⟨hw_, q_⟩ | ⟨hw_, q_⟩ | ⟨hw_, q_⟩ | ⟨hw_, q_⟩
  · subst q_
    refine lv_astore_n (lv' := [(3, .ref (g.2.2.1 (x + 71))), (0, .ref (g.2.2.1 x)), (1, .int p0), (2, .int p1)]) hx hb dX8_early_5 rfl hl (by decide) rfl (fun ls hl => ?_)
    refine lv_iload_n hx hb dX8_early_6 rfl (lv_at hl 3 rfl) ?_
    refine lv_iconst (v := 3) hx hb dX8_early_7 (by decide) ?_
    refine lv_icmp_ne (tgt := 15) hx hb dX8_early_8 (by decide) (fun c23 => ?_) (fun c23 => ?_)
    · have c23 : ¬ (p1.toInt = ((3 : Nat) : Int)) := fun q => c23 ((i_eq (rfl : p1.toInt = p1.toInt) (by decide : (3 : Int32).toInt = ((3 : Nat) : Int))).mpr q)
      refine lv_iconst (v := 0) hx hb dX8_early_15 (by decide) ?_
      refine lv_istore (lv' := [(4, .int 0), (3, .ref (g.2.2.1 (x + 71))), (0, .ref (g.2.2.1 x)), (1, .int p0), (2, .int p1)]) hx hb dX8_early_16 hl (by decide) rfl (fun ls hl => ?_)
      refine lv_aload_n hx hb dX8_early_18 rfl (lv_at hl 2 rfl) ?_
      refine r_get (C := RX8) (T := TX8) (N := 11) (ci := 6) hx hb hts inX8_early_X8 hown w (by have := E.1; omega) E.2.1 rfl 1 (by decide) (hts (Cond.fieldLink RX8 19 "EarlyValues" "now" "LEarlyValues$Program;") (List.mem_of_getElem? (i := 1) (by decide +kernel))) rfl rfl dX8_early_19 ?_
      refine lv_iload_n hx hb dX8_early_22 rfl (lv_at hl 3 rfl) ?_
      refine r_callI w (va_runV (As := [.int p0]) (rest := []) ⟨hx, hb, hml, hown, hts⟩ (c_X3_has l P p0) (cwV 1 hts gX8_early_X3_has rfl rfl rfl (by decide +kernel) ⟨Nat.le_of_ble_eq_true rfl, Nat.le_of_ble_eq_true rfl⟩) (r_preV w (by have := P.1; omega) P.c0 rfl) rfl rfl hl.1 rfl (lv_room (Nat.le_of_ble_eq_true rfl)) dX8_early_23 ⟨Nat.zero_le _, Nat.zero_le _⟩) (fun r25 h24 H locs hp w => ?_)
      obtain ⟨eh_, qq26⟩ := hp
      have eh_ := eh_.symm
      subst eh_
      have b27 : Bq r25 (0 ≤ p0.toInt ∧ p0.toInt < (((pN (sM st0)) : Nat) : Int)) := qq26.iff (by rw [((rfl : p0.toInt = p0.toInt) : p0.toInt = _), (S.1 : n.toInt = _)])
      refine lv_if_eq (tgt := 38) hx hb dX8_early_26 (by decide) (fun c28 => ?_) (fun c28 => ?_)
      · have c28 := b27.eq c28
        refine lv_iconst (v := (-1)) hx hb dX8_early_38 (by decide) ?_
        refine r_iret (v := (-1)) hx hb hr hlocks w dX8_early_39 ?_
        subst hu1
        exact ⟨(fun k_ hk_ => hfr k_ (by omega)), ⟨hSV0, ⟨_, E, hkn⟩, (T0.fr (fun k_ a_ b_ => hfr k_ (by omega))), (Q1.fr (fun k_ a_ b_ => hfr k_ (by omega))), ⟨_, _, _, _, _, P, S⟩, (Q2.fr (fun k_ a_ b_ => hfr k_ (by omega))), (fun i_ hi_ => (Q3 i_ hi_).fr (fun k_ a_ b_ => hfr k_ (by omega))), (fun i_ (hi_ : i_ < sV st0) => (Q4 i_ hi_).fr (fun k_ a_ b_ => hfr k_ (by omega))), (H0_.fr (fun k_ a_ b_ => hfr k_ (by omega))), (W0.fr (fun k_ a_ b_ => hfr k_ (by omega))), ⟨_, _, _, _, _, _, _, _, _, _, _, V1, hz1⟩, (W2.fr (fun k_ a_ b_ => hfr k_ (by omega))), (W3.fr (fun k_ a_ b_ => hfr k_ (by omega))), (W4.fr (fun k_ a_ b_ => hfr k_ (by omega)))⟩, Or.inr ⟨by omega, rfl⟩⟩
      · have c28 := b27.ne c28
        have hf0 : p0.toInt = ((f : Nat) : Int) := by omega
        have hf : f < pN (sM st0) := by omega
        refine lv_aload_n hx hb dX8_early_29 rfl (lv_at hl 1 rfl) ?_
        refine lv_ifnonnull (tgt := 40) hx hb dX8_early_30 (by decide) ?_
        refine lv_iconst (v := 0) hx hb dX8_early_40 (by decide) ?_
        refine lv_istore (lv' := [(5, .int 0), (4, .int 0), (3, .ref (g.2.2.1 (x + 71))), (0, .ref (g.2.2.1 x)), (1, .int p0), (2, .int p1)]) hx hb dX8_early_41 hl (by decide) rfl (fun ls hl => ?_)
        refine lv_iconst (v := 0) hx hb dX8_early_43 (by decide) ?_
        refine lv_istore (lv' := [(6, .int 0), (5, .int 0), (4, .int 0), (3, .ref (g.2.2.1 (x + 71))), (0, .ref (g.2.2.1 x)), (1, .int p0), (2, .int p1)]) hx hb dX8_early_44 hl (by decide) rfl (fun ls hl => ?_)
        exact ih46 0 0 0 h _ _ _ w (lv_sub hl [4, 5, 6, 3, 2, 1, 0] rfl) hf0 hf (Nat.zero_le _) rfl ((by decide : (0 : Int32).toInt = ((0 : Nat) : Int))) E P (⟨_, _, _, _, _, _, _, _, _, _, _, V1, hz1⟩) hfr (by omega)
    · have c23 : p1.toInt = ((3 : Nat) : Int) := (i_eq (rfl : p1.toInt = p1.toInt) (by decide : (3 : Int32).toInt = ((3 : Nat) : Int))).mp c23
      exfalso; omega
  · exfalso; omega
  · exfalso; omega
  · exfalso; omega

set_option maxHeartbeats 4000000 in
set_option maxRecDepth 100000 in
theorem c_X8_early_1 (l : Launch) {g : GE} {h : Nat → va_E} {x : Nat} {st0 : ST} (C : ClsA g h x st0) (p0 : Int32) (p1 : Int32) (hw : p1.toInt = 1) : MI l yX8_early wsX8_early rm_X8_early [.ref (g.2.2.1 x), .int p0, .int p1] g h (fun r_ h2 => (∀ k, ¬ (x ≤ k ∧ k < x + 143) → h2 k = h k) ∧ ClsA g h2 x st0 ∧ AnEarly st0 p0 p1 r_) := by
  refine Met.ofW (cc := cX8_early) (maxL := 8) (ret := (some .int)) (by decide) rfl ?_
  intro p e s m args below meth c s₁ B hml hv
  obtain ⟨rfl, w0⟩ := hv
  have hx := B.exec
  have hb := B.bytes
  have hr := B.returns
  have hts := atoms_spec (ws := wsX8_early) B.pre
  have hown : s.vm.findClass RX8 = some m.cls := findClass_of_methodNamed B.named
  have hlocks := B.notSynchronized
  have w := w0.start
  clear w0
  have hl := lv_entry ([.ref (g.2.2.1 x), .int p0, .int p1]) (n := 8) (Nat.le_of_ble_eq_true rfl)
  rw [lg_entry_eq]
  generalize (lg_sl ([.ref (g.2.2.1 x), .int p0, .int p1]) ++ List.replicate (8 - (lg_sl ([.ref (g.2.2.1 x), .int p0, .int p1])).length) Slot.unset).toArray = ls at hl ⊢
  have hl : lv_has ls 8 [(0, .ref (g.2.2.1 x)), (1, .int p0), (2, .int p1)] := hl
  obtain ⟨hSV, ⟨kn, E, hkn⟩, T0, Q1, P0, Q2, Q3, Q4, H0_, W0, W1, W2, W3, W4⟩ := C
  have hSV0 := hSV
  obtain ⟨hP, hu8, hUP, hv2, hVP, hl200, hlt⟩ := hSV
  have hn4 := hP.2.1
  have hNe := E.1
  obtain ⟨n, ga, gk, gl, gb, P, S⟩ := P0
  have hnS := S.1
  obtain ⟨u2, hu2, W2⟩ : ∃ u_ : Nat, u_ = 2 ∧ VwE g h (x + 89) u_ (sM st0) := ⟨_, rfl, W2⟩
  obtain ⟨kk2, kc2, tk2, fz2, dp2, gp2, gg2, gs2, gd2, gt2, gc2, V2, hz2⟩ := W2
  have hNv2 := V2.hN
  obtain ⟨f, hfd⟩ : ∃ f_ : Nat, f_ = p0.toInt.toNat := ⟨_, rfl⟩
  have hfr : ∀ k_, ¬ ((x + 89) ≤ k_ ∧ k_ < (x + 89) + 18) → h k_ = h k_ := fun _ _ => rfl
  have cuts : ∀ N : Nat, (∀ (j : Nat) (x5 : Int32) (x6 : Int32) (hc : Nat → va_E) (H : Heap) (locs : List Loc) (ls : Array Slot), WD g (inW g) s hc H locs → lv_has ls 8 [(0, .ref (g.2.2.1 x)), (1, .int p0), (2, .int p1), (3, .ref (g.2.2.1 (x + 89))), (4, .int 0), (5, .int x5), (6, .int x6)] → (p0.toInt = ((f : Nat) : Int)) → (f < pN (sM st0)) → (j ≤ pL (sM st0) f) → (x5.toInt = ((eSum (sM st0) 1 f j : Nat) : Int)) → (x6.toInt = ((j : Nat) : Int)) → (EvA g hc x kn) → (PrA g hc (x + 12) n ga gk gl gb) → (VwE g hc (x + 89) u2 (sM st0)) → (∀ k, ¬ ((x + 89) ≤ k ∧ k < (x + 89) + 18) → hc k = h k) → 25 - j < N → W p l e (headSpec wsX8_early rm_X8_early).room s m ([.ref (g.2.2.1 x), .int p0, .int p1] : List Value).toArray below meth c H locs 0 0 (MQ below (va_Qi (fun r_ h2 => (∀ k, ¬ (x ≤ k ∧ k < x + 143) → h2 k = h k) ∧ ClsA g h2 x st0 ∧ AnEarly st0 p0 p1 r_) (Wd g) (inW g)) ([.ref (g.2.2.1 x), .int p0, .int p1] : List Value).toArray s 0 0 (inW g)) (F0 m 46 ls [])) := by
    intro N
    induction N with
    | zero => exact by intros; omega
    | succ N ih =>
      have ih46 := ih
      · intro j x5 x6 hc H locs ls w hl hf0 hf hj hx5 hx6 E P W2 hfr hN_
        obtain ⟨kk2, kc2, tk2, fz2, dp2, gp2, gg2, gs2, gd2, gt2, gc2, V2, hz2⟩ := W2
        have hNv2 := V2.hN
        have hNe := E.1
        obtain ⟨-, -, -, hl24, -⟩ := hP.2.2 f hf
        have hes_ := eSum_ub (w := 1) hP hf hj
        refine lv_iload hx hb dX8_early_46 (lv_at hl 6 rfl) ?_
        refine lv_aload_n hx hb dX8_early_48 rfl (lv_at hl 0 rfl) ?_
        refine r_get (C := RX8) (T := TX8) (N := 11) (ci := 6) hx hb hts inX8_early_X8 hown w (by have := E.1; omega) E.2.1 rfl 1 (by decide) (hts (Cond.fieldLink RX8 19 "EarlyValues" "now" "LEarlyValues$Program;") (List.mem_of_getElem? (i := 1) (by decide +kernel))) rfl rfl dX8_early_49 ?_
        refine r_get (C := RX3) (T := TX3) (N := 5) (ci := 2) hx hb hts inX8_early_X3 hown w (by have := P.1; omega) P.c0 rfl 3 (by decide) (hts (Cond.fieldLink RX8 122 "EarlyValues$Program" "lengths" "[I") (List.mem_of_getElem? (i := 2) (by decide +kernel))) rfl rfl dX8_early_52 ?_
        refine lv_iload_n hx hb dX8_early_55 rfl (lv_at hl 1 rfl) ?_
        refine r_iald (j := f) hx hb w (by have := P.1; omega) P.c3 hf0 (by omega) dX8_early_56 ?_
        refine lv_icmp_ge (tgt := 134) hx hb dX8_early_57 (by decide) (fun c1 => ?_) (fun c1 => ?_)
        · have c1 : (((pL (sM st0) f) : Nat) : Int) ≤ ((j : Nat) : Int) := (i_le (S.2.2.2.1 f (by omega)) hx6).mp c1
          refine lv_iload hx hb dX8_early_134 (lv_at hl 5 rfl) ?_
          refine r_iret (v := x5) hx hb hr hlocks w dX8_early_136 ?_
          subst hu2
          exact ⟨(fun k_ hk_ => hfr k_ (by omega)), ⟨hSV0, ⟨_, E, hkn⟩, (T0.fr (fun k_ a_ b_ => hfr k_ (by omega))), (Q1.fr (fun k_ a_ b_ => hfr k_ (by omega))), ⟨_, _, _, _, _, P, S⟩, (Q2.fr (fun k_ a_ b_ => hfr k_ (by omega))), (fun i_ hi_ => (Q3 i_ hi_).fr (fun k_ a_ b_ => hfr k_ (by omega))), (fun i_ (hi_ : i_ < sV st0) => (Q4 i_ hi_).fr (fun k_ a_ b_ => hfr k_ (by omega))), (H0_.fr (fun k_ a_ b_ => hfr k_ (by omega))), (W0.fr (fun k_ a_ b_ => hfr k_ (by omega))), (W1.fr (fun k_ a_ b_ => hfr k_ (by omega))), ⟨_, _, _, _, _, _, _, _, _, _, _, V2, hz2⟩, (W3.fr (fun k_ a_ b_ => hfr k_ (by omega))), (W4.fr (fun k_ a_ b_ => hfr k_ (by omega)))⟩, Or.inl ⟨f, 1, hf0, by omega, hf, by omega, hx5.trans (by rw [show j = pL (sM st0) f by omega]; rfl)⟩⟩
        · have c1 : ¬ ((((pL (sM st0) f) : Nat) : Int) ≤ ((j : Nat) : Int)) := fun q => c1 ((i_le (S.2.2.2.1 f (by omega)) hx6).mpr q)
          have hj_ : j < pL (sM st0) f := by omega
          obtain ⟨hb14_, hbn_⟩ := letter_fn hP hf hj_
          refine lv_aload_n hx hb dX8_early_60 rfl (lv_at hl 0 rfl) ?_
          refine r_get (C := RX8) (T := TX8) (N := 11) (ci := 6) hx hb hts inX8_early_X8 hown w (by have := E.1; omega) E.2.1 rfl 1 (by decide) (hts (Cond.fieldLink RX8 19 "EarlyValues" "now" "LEarlyValues$Program;") (List.mem_of_getElem? (i := 1) (by decide +kernel))) rfl rfl dX8_early_61 ?_
          refine r_get (C := RX3) (T := TX3) (N := 5) (ci := 2) hx hb hts inX8_early_X3 hown w (by have := P.1; omega) P.c0 rfl 4 (by decide) (hts (Cond.fieldLink RX8 129 "EarlyValues$Program" "bodies" "[[I") (List.mem_of_getElem? (i := 3) (by decide +kernel))) rfl rfl dX8_early_64 ?_
          refine lv_iload_n hx hb dX8_early_67 rfl (lv_at hl 1 rfl) ?_
          refine r_aald (t := 4) (j := f) hx hb w (by decide) (by have := P.1; omega) P.c4 hf0 (by omega) (rowsF_in (by omega)) dX8_early_68 ?_
          refine lv_iload hx hb dX8_early_69 (lv_at hl 6 rfl) ?_
          refine r_iald (j := j) hx hb w (by have := P.1; omega) (P.c5 (i := f) (by omega)) hx6 (by omega) dX8_early_71 ?_
          refine lv_bipush (v := 10) hx hb dX8_early_72 (by decide) ?_
          refine lv_isub hx hb dX8_early_74 ?_
          refine lv_topi (fun y2 ey2 => ?_)
          have ty2 : y2.toInt = (((pB (sM st0) f j) : Nat) : Int) - ((10 : Nat) : Int) := i_sub ey2 (S.2.2.2.2 f (by omega) j (by omega)) (by decide : (10 : Int32).toInt = ((10 : Nat) : Int)) (by omega)
          refine lv_istore (lv' := [(7, .int y2), (0, .ref (g.2.2.1 x)), (1, .int p0), (2, .int p1), (3, .ref (g.2.2.1 (x + 89))), (4, .int 0), (5, .int x5), (6, .int x6)]) hx hb dX8_early_75 hl (by decide) rfl (fun ls hl => ?_)
          refine lv_aload_n hx hb dX8_early_77 rfl (lv_at hl 1 rfl) ?_
          refine r_get (C := RX8) (T := TX8) (N := 11) (ci := 6) hx hb hts inX8_early_X8 hown w (by have := E.1; omega) E.2.1 rfl 1 (by decide) (hts (Cond.fieldLink RX8 19 "EarlyValues" "now" "LEarlyValues$Program;") (List.mem_of_getElem? (i := 1) (by decide +kernel))) rfl rfl dX8_early_78 ?_
          refine lv_iload hx hb dX8_early_81 (lv_at hl 0 rfl) ?_
          refine r_callI w (va_runV (As := [.int y2]) (rest := []) ⟨hx, hb, hml, hown, hts⟩ (c_X3_has l P y2) (cwV 1 hts gX8_early_X3_has rfl rfl rfl (by decide +kernel) ⟨Nat.le_of_ble_eq_true rfl, Nat.le_of_ble_eq_true rfl⟩) (r_preV w (by have := P.1; omega) P.c0 rfl) rfl rfl hl.1 rfl (lv_room (Nat.le_of_ble_eq_true rfl)) dX8_early_83 ⟨Nat.zero_le _, Nat.zero_le _⟩) (fun r4 h3 H locs hp w => ?_)
          obtain ⟨eh_, qq5⟩ := hp
          have eh_ := eh_.symm
          subst eh_
          have b6 : Bq r4 (0 ≤ ((((pB (sM st0) f j) : Nat) : Int) - ((10 : Nat) : Int)) ∧ ((((pB (sM st0) f j) : Nat) : Int) - ((10 : Nat) : Int)) < (((pN (sM st0)) : Nat) : Int)) := qq5.iff (by rw [(ty2 : y2.toInt = _), (S.1 : n.toInt = _)])
          refine lv_if_eq (tgt := 128) hx hb dX8_early_86 (by decide) (fun c7 => ?_) (fun c7 => ?_)
          · have c7 := b6.eq c7
            obtain ⟨y8, ey8⟩ : ∃ y : Int32, y = x6 + (1) := ⟨_, rfl⟩
            have ty8 : y8.toInt = (((j + 1) : Nat) : Int) := i_addN ey8 hx6 (by decide : (1 : Int32).toInt = ((1 : Nat) : Int)) (by omega)
            refine lv_iinc (v := y8) (lv' := [(6, .int y8), (7, .int y2), (0, .ref (g.2.2.1 x)), (1, .int p0), (2, .int p1), (3, .ref (g.2.2.1 (x + 89))), (4, .int 0), (5, .int x5)]) hx hb dX8_early_128 hl (k := 7) rfl (by rw [ey8]; rfl) (by decide) rfl (fun ls hl => ?_)
            refine lv_goto (tgt := 46) hx hb dX8_early_131 (by decide) ?_
            exact ih46 (j + 1) x5 y8 hc _ _ _ w (lv_sub hl [2, 3, 4, 5, 6, 7, 0] rfl) hf0 hf (by omega) (hx5.trans (by rw [eStep_0 (by omega)])) ty8 E P (⟨_, _, _, _, _, _, _, _, _, _, _, V2, hz2⟩) hfr (by omega)
          · have c7 := b6.ne c7
            have h7_ : y2.toInt = ((pB (sM st0) f j - 10 : Nat) : Int) := ty2.trans (by omega)
            obtain ⟨hb3_, -⟩ := hP.2.2 (pB (sM st0) f j - 10) (by omega)
            refine lv_iload hx hb dX8_early_89 (lv_at hl 6 rfl) ?_
            refine lv_aload_n hx hb dX8_early_91 rfl (lv_at hl 4 rfl) ?_
            refine lv_ifnonnull (tgt := 108) hx hb dX8_early_92 (by decide) ?_
            refine lv_aload_n hx hb dX8_early_108 rfl (lv_at hl 1 rfl) ?_
            refine lv_aload_n hx hb dX8_early_109 rfl (lv_at hl 4 rfl) ?_
            refine r_callQ w (va_runV (As := [.ref (g.2.2.1 (x + 89))]) (rest := [.int x5]) ⟨hx, hb, hml, hown, hts⟩ (c_X8_solved l E ⟨_, _, _, _, _, _, _, _, _, _, _, V2, hz2⟩ P S hP (by omega)) (cwV 1 hts gX8_early_X8_solved rfl rfl rfl (by decide +kernel) ⟨Nat.le_of_ble_eq_true rfl, Nat.le_of_ble_eq_true rfl⟩) (r_preV w (by have := E.1; omega) E.2.1 rfl) rfl rfl hl.1 rfl (lv_room (Nat.le_of_ble_eq_true rfl)) dX8_early_110 ⟨Nat.zero_le _, Nat.zero_le _⟩) (fun r10 h9 H locs hp w => ?_)
            obtain ⟨hfk11, hrk11, kkk11, kck11, tkk11, dpk11, gpk11, ggk11, gsk11, gdk11, gtk11, gck11, V2, K2, hK2, htk2, hT2⟩ := hp
            subst hrk11
            have E := E.fr (h' := h9) (fun k_ h1_ h2_ h3_ => hfk11 k_ (by omega))
            have P := P.fr (h' := h9) (fun k_ h1_ h2_ => hfk11 k_ (by omega))
            have hfr : ∀ k_, ¬ ((x + 89) ≤ k_ ∧ k_ < (x + 89) + 18) → h9 k_ = h k_ := fun k_ hk_ => (hfk11 k_ (by omega)).trans (hfr k_ hk_)
            have hz2 : (1 : Int32) = 0 ∨ ((1 : Int32) = 1 ∧ KnK u2 (sM st0) tkk11 gtk11) := Or.inr ⟨rfl, K2, hK2, htk2, hT2⟩
            refine lv_aload_n hx hb dX8_early_113 rfl (lv_at hl 1 rfl) ?_
            refine r_get (C := RX8) (T := TX8) (N := 11) (ci := 6) hx hb hts inX8_early_X8 hown w (by have := E.1; omega) E.2.1 rfl 1 (by decide) (hts (Cond.fieldLink RX8 19 "EarlyValues" "now" "LEarlyValues$Program;") (List.mem_of_getElem? (i := 1) (by decide +kernel))) rfl rfl dX8_early_114 ?_
            refine lv_iload hx hb dX8_early_117 (lv_at hl 0 rfl) ?_
            refine r_callI w (va_3 V2.hu (fun q_ => va_runU (As := [.ref (g.2.2.1 (x + 12)), .int y2]) (rest := [.int x5]) ⟨hx, hb, hml, hown, hts⟩ (c_X7_strictBits l V2 P S hP hT2 y2 h7_ (by omega)) (va_cwU 2 hts gX8_early_X7_strictBits_u184X6 rfl rfl rfl rfl (by decide +kernel) ⟨Nat.le_of_ble_eq_true rfl, Nat.le_of_ble_eq_true rfl⟩) (r_preV w (by have := V2.hN; omega) (V2.ob (by subst q_; rfl)) rfl) rfl rfl hl.1 rfl (lv_room (Nat.le_of_ble_eq_true rfl)) dX8_early_119 ⟨Nat.zero_le _, Nat.zero_le _⟩) (fun q_ => va_runU (As := [.ref (g.2.2.1 (x + 12)), .int y2]) (rest := [.int x5]) ⟨hx, hb, hml, hown, hts⟩ (c_X7_strictBits l V2 P S hP hT2 y2 h7_ (by omega)) (va_cwU 2 hts gX8_early_X7_strictBits_u184X4 rfl rfl rfl rfl (by decide +kernel) ⟨Nat.le_of_ble_eq_true rfl, Nat.le_of_ble_eq_true rfl⟩) (r_preV w (by have := V2.hN; omega) (V2.ob (by subst q_; rfl)) rfl) rfl rfl hl.1 rfl (lv_room (Nat.le_of_ble_eq_true rfl)) dX8_early_119 ⟨Nat.zero_le _, Nat.zero_le _⟩) (fun q_ => va_runU (As := [.ref (g.2.2.1 (x + 12)), .int y2]) (rest := [.int x5]) ⟨hx, hb, hml, hown, hts⟩ (c_X7_strictBits l V2 P S hP hT2 y2 h7_ (by omega)) (va_cwU 2 hts gX8_early_X7_strictBits_u184X0 rfl rfl rfl rfl (by decide +kernel) ⟨Nat.le_of_ble_eq_true rfl, Nat.le_of_ble_eq_true rfl⟩) (r_preV w (by have := V2.hN; omega) (V2.ob (by subst q_; rfl)) rfl) rfl rfl hl.1 rfl (lv_room (Nat.le_of_ble_eq_true rfl)) dX8_early_119 ⟨Nat.zero_le _, Nat.zero_le _⟩)) (fun r13 h12 H locs hp w => ?_)
            obtain ⟨eh_, qq14⟩ := hp
            have eh_ := eh_.symm
            subst eh_
            refine r_callI w (va_runS (As := [.int r13]) (rest := [.int x5]) ⟨hx, hb, hml, hown, hts⟩ (c_J6_bitCount_0f7a4 l r13 qq14 (mB3_le (u := 0) _ _ (by omega))) (va_cwS 1 hts gX8_early_J6_bitCount_0f7a4 rfl rfl rfl (by decide +kernel) ⟨Nat.le_of_ble_eq_true rfl, Nat.le_of_ble_eq_true rfl⟩) (r_preS w) rfl rfl hl.1 rfl (lv_room (Nat.le_of_ble_eq_true rfl)) dX8_early_122 ⟨Nat.zero_le _, Nat.zero_le _⟩) (fun r16 h15 H locs hp w => ?_)
            obtain ⟨eh_, qq17⟩ := hp
            have eh_ := eh_.symm
            subst eh_
            have hpo_ : (pop (mBits (mStrict u2 (sM st0) (mTab u2 (sM st0) K2) ((pB (sM st0) f j - 10))) (pA (sM st0) ((pB (sM st0) f j - 10))))) ≤ 3 := pop_le _
            refine lv_iadd hx hb dX8_early_125 ?_
            refine lv_topi (fun y18 ey18 => ?_)
            have ty18 : y18.toInt = ((((eSum (sM st0) 1 f j) + (pop (mBits (mStrict u2 (sM st0) (mTab u2 (sM st0) K2) ((pB (sM st0) f j - 10))) (pA (sM st0) ((pB (sM st0) f j - 10)))))) : Nat) : Int) := i_addN ey18 hx5 qq17 (by omega)
            refine lv_istore (lv' := [(5, .int y18), (7, .int y2), (0, .ref (g.2.2.1 x)), (1, .int p0), (2, .int p1), (3, .ref (g.2.2.1 (x + 89))), (4, .int 0), (6, .int x6)]) hx hb dX8_early_126 hl (by decide) rfl (fun ls hl => ?_)
            obtain ⟨y19, ey19⟩ : ∃ y : Int32, y = x6 + (1) := ⟨_, rfl⟩
            have ty19 : y19.toInt = (((j + 1) : Nat) : Int) := i_addN ey19 hx6 (by decide : (1 : Int32).toInt = ((1 : Nat) : Int)) (by omega)
            refine lv_iinc (v := y19) (lv' := [(6, .int y19), (5, .int y18), (7, .int y2), (0, .ref (g.2.2.1 x)), (1, .int p0), (2, .int p1), (3, .ref (g.2.2.1 (x + 89))), (4, .int 0)]) hx hb dX8_early_128 hl (k := 7) rfl (by rw [ey19]; rfl) (by decide) rfl (fun ls hl => ?_)
            refine lv_goto (tgt := 46) hx hb dX8_early_131 (by decide) ?_
            exact ih46 (j + 1) y18 y19 h9 _ _ _ w (lv_sub hl [3, 4, 5, 6, 7, 1, 0] rfl) hf0 hf (by omega) (ty18.trans (by rw [eStep_w hK2 (by rw [hu2]; rfl) (by omega) (by omega)])) ty19 E P (⟨_, _, _, _, _, _, _, _, _, _, _, V2, hz2⟩) hfr (by omega)
  have ih46 := cuts (26)
  refine lv_aload_n hx hb dX8_early_0 rfl (lv_at hl 0 rfl) ?_
  refine lv_iload_n hx hb dX8_early_1 rfl (lv_at hl 2 rfl) ?_
  refine r_callQ w (va_runV (As := [.int p1]) (rest := []) ⟨hx, hb, hml, hown, hts⟩ (c_X8_strictView l E p1) (cwV 1 hts gX8_early_X8_strictView rfl rfl rfl (by decide +kernel) ⟨Nat.le_of_ble_eq_true rfl, Nat.le_of_ble_eq_true rfl⟩) (r_preV w (by have := E.1; omega) E.2.1 rfl) rfl rfl hl.1 rfl (lv_room (Nat.le_of_ble_eq_true rfl)) dX8_early_2 ⟨Nat.zero_le _, Nat.zero_le _⟩) (fun r21 h20 H locs hp w => ?_)
  obtain ⟨eh_, qq22⟩ := hp
  have eh_ := eh_.symm
  subst eh_
  rcases qq22 with ⟨hw_, q_⟩ | ⟨hw_, q_⟩ | ⟨hw_, q_⟩ | ⟨hw_, q_⟩
  · exfalso; omega
  · subst q_
    refine lv_astore_n (lv' := [(3, .ref (g.2.2.1 (x + 89))), (0, .ref (g.2.2.1 x)), (1, .int p0), (2, .int p1)]) hx hb dX8_early_5 rfl hl (by decide) rfl (fun ls hl => ?_)
    refine lv_iload_n hx hb dX8_early_6 rfl (lv_at hl 3 rfl) ?_
    refine lv_iconst (v := 3) hx hb dX8_early_7 (by decide) ?_
    refine lv_icmp_ne (tgt := 15) hx hb dX8_early_8 (by decide) (fun c23 => ?_) (fun c23 => ?_)
    · have c23 : ¬ (p1.toInt = ((3 : Nat) : Int)) := fun q => c23 ((i_eq (rfl : p1.toInt = p1.toInt) (by decide : (3 : Int32).toInt = ((3 : Nat) : Int))).mpr q)
      refine lv_iconst (v := 0) hx hb dX8_early_15 (by decide) ?_
      refine lv_istore (lv' := [(4, .int 0), (3, .ref (g.2.2.1 (x + 89))), (0, .ref (g.2.2.1 x)), (1, .int p0), (2, .int p1)]) hx hb dX8_early_16 hl (by decide) rfl (fun ls hl => ?_)
      refine lv_aload_n hx hb dX8_early_18 rfl (lv_at hl 2 rfl) ?_
      refine r_get (C := RX8) (T := TX8) (N := 11) (ci := 6) hx hb hts inX8_early_X8 hown w (by have := E.1; omega) E.2.1 rfl 1 (by decide) (hts (Cond.fieldLink RX8 19 "EarlyValues" "now" "LEarlyValues$Program;") (List.mem_of_getElem? (i := 1) (by decide +kernel))) rfl rfl dX8_early_19 ?_
      refine lv_iload_n hx hb dX8_early_22 rfl (lv_at hl 3 rfl) ?_
      refine r_callI w (va_runV (As := [.int p0]) (rest := []) ⟨hx, hb, hml, hown, hts⟩ (c_X3_has l P p0) (cwV 1 hts gX8_early_X3_has rfl rfl rfl (by decide +kernel) ⟨Nat.le_of_ble_eq_true rfl, Nat.le_of_ble_eq_true rfl⟩) (r_preV w (by have := P.1; omega) P.c0 rfl) rfl rfl hl.1 rfl (lv_room (Nat.le_of_ble_eq_true rfl)) dX8_early_23 ⟨Nat.zero_le _, Nat.zero_le _⟩) (fun r25 h24 H locs hp w => ?_)
      obtain ⟨eh_, qq26⟩ := hp
      have eh_ := eh_.symm
      subst eh_
      have b27 : Bq r25 (0 ≤ p0.toInt ∧ p0.toInt < (((pN (sM st0)) : Nat) : Int)) := qq26.iff (by rw [((rfl : p0.toInt = p0.toInt) : p0.toInt = _), (S.1 : n.toInt = _)])
      refine lv_if_eq (tgt := 38) hx hb dX8_early_26 (by decide) (fun c28 => ?_) (fun c28 => ?_)
      · have c28 := b27.eq c28
        refine lv_iconst (v := (-1)) hx hb dX8_early_38 (by decide) ?_
        refine r_iret (v := (-1)) hx hb hr hlocks w dX8_early_39 ?_
        subst hu2
        exact ⟨(fun k_ hk_ => hfr k_ (by omega)), ⟨hSV0, ⟨_, E, hkn⟩, (T0.fr (fun k_ a_ b_ => hfr k_ (by omega))), (Q1.fr (fun k_ a_ b_ => hfr k_ (by omega))), ⟨_, _, _, _, _, P, S⟩, (Q2.fr (fun k_ a_ b_ => hfr k_ (by omega))), (fun i_ hi_ => (Q3 i_ hi_).fr (fun k_ a_ b_ => hfr k_ (by omega))), (fun i_ (hi_ : i_ < sV st0) => (Q4 i_ hi_).fr (fun k_ a_ b_ => hfr k_ (by omega))), (H0_.fr (fun k_ a_ b_ => hfr k_ (by omega))), (W0.fr (fun k_ a_ b_ => hfr k_ (by omega))), (W1.fr (fun k_ a_ b_ => hfr k_ (by omega))), ⟨_, _, _, _, _, _, _, _, _, _, _, V2, hz2⟩, (W3.fr (fun k_ a_ b_ => hfr k_ (by omega))), (W4.fr (fun k_ a_ b_ => hfr k_ (by omega)))⟩, Or.inr ⟨by omega, rfl⟩⟩
      · have c28 := b27.ne c28
        have hf0 : p0.toInt = ((f : Nat) : Int) := by omega
        have hf : f < pN (sM st0) := by omega
        refine lv_aload_n hx hb dX8_early_29 rfl (lv_at hl 1 rfl) ?_
        refine lv_ifnonnull (tgt := 40) hx hb dX8_early_30 (by decide) ?_
        refine lv_iconst (v := 0) hx hb dX8_early_40 (by decide) ?_
        refine lv_istore (lv' := [(5, .int 0), (4, .int 0), (3, .ref (g.2.2.1 (x + 89))), (0, .ref (g.2.2.1 x)), (1, .int p0), (2, .int p1)]) hx hb dX8_early_41 hl (by decide) rfl (fun ls hl => ?_)
        refine lv_iconst (v := 0) hx hb dX8_early_43 (by decide) ?_
        refine lv_istore (lv' := [(6, .int 0), (5, .int 0), (4, .int 0), (3, .ref (g.2.2.1 (x + 89))), (0, .ref (g.2.2.1 x)), (1, .int p0), (2, .int p1)]) hx hb dX8_early_44 hl (by decide) rfl (fun ls hl => ?_)
        exact ih46 0 0 0 h _ _ _ w (lv_sub hl [4, 5, 6, 3, 2, 1, 0] rfl) hf0 hf (Nat.zero_le _) rfl ((by decide : (0 : Int32).toInt = ((0 : Nat) : Int))) E P (⟨_, _, _, _, _, _, _, _, _, _, _, V2, hz2⟩) hfr (by omega)
    · have c23 : p1.toInt = ((3 : Nat) : Int) := (i_eq (rfl : p1.toInt = p1.toInt) (by decide : (3 : Int32).toInt = ((3 : Nat) : Int))).mp c23
      exfalso; omega
  · exfalso; omega
  · exfalso; omega

set_option maxHeartbeats 4000000 in
set_option maxRecDepth 100000 in
theorem c_X8_early_2 (l : Launch) {g : GE} {h : Nat → va_E} {x : Nat} {st0 : ST} (C : ClsA g h x st0) (p0 : Int32) (p1 : Int32) (hw : p1.toInt = 2) : MI l yX8_early wsX8_early rm_X8_early [.ref (g.2.2.1 x), .int p0, .int p1] g h (fun r_ h2 => (∀ k, ¬ (x ≤ k ∧ k < x + 143) → h2 k = h k) ∧ ClsA g h2 x st0 ∧ AnEarly st0 p0 p1 r_) := by
  refine Met.ofW (cc := cX8_early) (maxL := 8) (ret := (some .int)) (by decide) rfl ?_
  intro p e s m args below meth c s₁ B hml hv
  obtain ⟨rfl, w0⟩ := hv
  have hx := B.exec
  have hb := B.bytes
  have hr := B.returns
  have hts := atoms_spec (ws := wsX8_early) B.pre
  have hown : s.vm.findClass RX8 = some m.cls := findClass_of_methodNamed B.named
  have hlocks := B.notSynchronized
  have w := w0.start
  clear w0
  have hl := lv_entry ([.ref (g.2.2.1 x), .int p0, .int p1]) (n := 8) (Nat.le_of_ble_eq_true rfl)
  rw [lg_entry_eq]
  generalize (lg_sl ([.ref (g.2.2.1 x), .int p0, .int p1]) ++ List.replicate (8 - (lg_sl ([.ref (g.2.2.1 x), .int p0, .int p1])).length) Slot.unset).toArray = ls at hl ⊢
  have hl : lv_has ls 8 [(0, .ref (g.2.2.1 x)), (1, .int p0), (2, .int p1)] := hl
  obtain ⟨hSV, ⟨kn, E, hkn⟩, T0, Q1, P0, Q2, Q3, Q4, H0_, W0, W1, W2, W3, W4⟩ := C
  have hSV0 := hSV
  obtain ⟨hP, hu8, hUP, hv2, hVP, hl200, hlt⟩ := hSV
  have hn4 := hP.2.1
  have hNe := E.1
  obtain ⟨n, ga, gk, gl, gb, P, S⟩ := P0
  have hnS := S.1
  obtain ⟨u0, hu0, W0⟩ : ∃ u_ : Nat, u_ = 0 ∧ VwE g h (x + 53) u_ (sM st0) := ⟨_, rfl, W0⟩
  obtain ⟨kk0, kc0, tk0, fz0, dp0, gp0, gg0, gs0, gd0, gt0, gc0, V0, hz0⟩ := W0
  have hNv0 := V0.hN
  obtain ⟨f, hfd⟩ : ∃ f_ : Nat, f_ = p0.toInt.toNat := ⟨_, rfl⟩
  have hfr : ∀ k_, ¬ ((x + 53) ≤ k_ ∧ k_ < (x + 53) + 18) → h k_ = h k_ := fun _ _ => rfl
  have cuts : ∀ N : Nat, (∀ (j : Nat) (x5 : Int32) (x6 : Int32) (hc : Nat → va_E) (H : Heap) (locs : List Loc) (ls : Array Slot), WD g (inW g) s hc H locs → lv_has ls 8 [(0, .ref (g.2.2.1 x)), (1, .int p0), (2, .int p1), (3, .ref (g.2.2.1 (x + 53))), (4, .int 0), (5, .int x5), (6, .int x6)] → (p0.toInt = ((f : Nat) : Int)) → (f < pN (sM st0)) → (j ≤ pL (sM st0) f) → (x5.toInt = ((eSum (sM st0) 2 f j : Nat) : Int)) → (x6.toInt = ((j : Nat) : Int)) → (EvA g hc x kn) → (PrA g hc (x + 12) n ga gk gl gb) → (VwE g hc (x + 53) u0 (sM st0)) → (∀ k, ¬ ((x + 53) ≤ k ∧ k < (x + 53) + 18) → hc k = h k) → 25 - j < N → W p l e (headSpec wsX8_early rm_X8_early).room s m ([.ref (g.2.2.1 x), .int p0, .int p1] : List Value).toArray below meth c H locs 0 0 (MQ below (va_Qi (fun r_ h2 => (∀ k, ¬ (x ≤ k ∧ k < x + 143) → h2 k = h k) ∧ ClsA g h2 x st0 ∧ AnEarly st0 p0 p1 r_) (Wd g) (inW g)) ([.ref (g.2.2.1 x), .int p0, .int p1] : List Value).toArray s 0 0 (inW g)) (F0 m 46 ls [])) := by
    intro N
    induction N with
    | zero => exact by intros; omega
    | succ N ih =>
      have ih46 := ih
      · intro j x5 x6 hc H locs ls w hl hf0 hf hj hx5 hx6 E P W0 hfr hN_
        obtain ⟨kk0, kc0, tk0, fz0, dp0, gp0, gg0, gs0, gd0, gt0, gc0, V0, hz0⟩ := W0
        have hNv0 := V0.hN
        have hNe := E.1
        obtain ⟨-, -, -, hl24, -⟩ := hP.2.2 f hf
        have hes_ := eSum_ub (w := 2) hP hf hj
        refine lv_iload hx hb dX8_early_46 (lv_at hl 6 rfl) ?_
        refine lv_aload_n hx hb dX8_early_48 rfl (lv_at hl 0 rfl) ?_
        refine r_get (C := RX8) (T := TX8) (N := 11) (ci := 6) hx hb hts inX8_early_X8 hown w (by have := E.1; omega) E.2.1 rfl 1 (by decide) (hts (Cond.fieldLink RX8 19 "EarlyValues" "now" "LEarlyValues$Program;") (List.mem_of_getElem? (i := 1) (by decide +kernel))) rfl rfl dX8_early_49 ?_
        refine r_get (C := RX3) (T := TX3) (N := 5) (ci := 2) hx hb hts inX8_early_X3 hown w (by have := P.1; omega) P.c0 rfl 3 (by decide) (hts (Cond.fieldLink RX8 122 "EarlyValues$Program" "lengths" "[I") (List.mem_of_getElem? (i := 2) (by decide +kernel))) rfl rfl dX8_early_52 ?_
        refine lv_iload_n hx hb dX8_early_55 rfl (lv_at hl 1 rfl) ?_
        refine r_iald (j := f) hx hb w (by have := P.1; omega) P.c3 hf0 (by omega) dX8_early_56 ?_
        refine lv_icmp_ge (tgt := 134) hx hb dX8_early_57 (by decide) (fun c1 => ?_) (fun c1 => ?_)
        · have c1 : (((pL (sM st0) f) : Nat) : Int) ≤ ((j : Nat) : Int) := (i_le (S.2.2.2.1 f (by omega)) hx6).mp c1
          refine lv_iload hx hb dX8_early_134 (lv_at hl 5 rfl) ?_
          refine r_iret (v := x5) hx hb hr hlocks w dX8_early_136 ?_
          subst hu0
          exact ⟨(fun k_ hk_ => hfr k_ (by omega)), ⟨hSV0, ⟨_, E, hkn⟩, (T0.fr (fun k_ a_ b_ => hfr k_ (by omega))), (Q1.fr (fun k_ a_ b_ => hfr k_ (by omega))), ⟨_, _, _, _, _, P, S⟩, (Q2.fr (fun k_ a_ b_ => hfr k_ (by omega))), (fun i_ hi_ => (Q3 i_ hi_).fr (fun k_ a_ b_ => hfr k_ (by omega))), (fun i_ (hi_ : i_ < sV st0) => (Q4 i_ hi_).fr (fun k_ a_ b_ => hfr k_ (by omega))), (H0_.fr (fun k_ a_ b_ => hfr k_ (by omega))), ⟨_, _, _, _, _, _, _, _, _, _, _, V0, hz0⟩, (W1.fr (fun k_ a_ b_ => hfr k_ (by omega))), (W2.fr (fun k_ a_ b_ => hfr k_ (by omega))), (W3.fr (fun k_ a_ b_ => hfr k_ (by omega))), (W4.fr (fun k_ a_ b_ => hfr k_ (by omega)))⟩, Or.inl ⟨f, 2, hf0, by omega, hf, by omega, hx5.trans (by rw [show j = pL (sM st0) f by omega]; rfl)⟩⟩
        · have c1 : ¬ ((((pL (sM st0) f) : Nat) : Int) ≤ ((j : Nat) : Int)) := fun q => c1 ((i_le (S.2.2.2.1 f (by omega)) hx6).mpr q)
          have hj_ : j < pL (sM st0) f := by omega
          obtain ⟨hb14_, hbn_⟩ := letter_fn hP hf hj_
          refine lv_aload_n hx hb dX8_early_60 rfl (lv_at hl 0 rfl) ?_
          refine r_get (C := RX8) (T := TX8) (N := 11) (ci := 6) hx hb hts inX8_early_X8 hown w (by have := E.1; omega) E.2.1 rfl 1 (by decide) (hts (Cond.fieldLink RX8 19 "EarlyValues" "now" "LEarlyValues$Program;") (List.mem_of_getElem? (i := 1) (by decide +kernel))) rfl rfl dX8_early_61 ?_
          refine r_get (C := RX3) (T := TX3) (N := 5) (ci := 2) hx hb hts inX8_early_X3 hown w (by have := P.1; omega) P.c0 rfl 4 (by decide) (hts (Cond.fieldLink RX8 129 "EarlyValues$Program" "bodies" "[[I") (List.mem_of_getElem? (i := 3) (by decide +kernel))) rfl rfl dX8_early_64 ?_
          refine lv_iload_n hx hb dX8_early_67 rfl (lv_at hl 1 rfl) ?_
          refine r_aald (t := 4) (j := f) hx hb w (by decide) (by have := P.1; omega) P.c4 hf0 (by omega) (rowsF_in (by omega)) dX8_early_68 ?_
          refine lv_iload hx hb dX8_early_69 (lv_at hl 6 rfl) ?_
          refine r_iald (j := j) hx hb w (by have := P.1; omega) (P.c5 (i := f) (by omega)) hx6 (by omega) dX8_early_71 ?_
          refine lv_bipush (v := 10) hx hb dX8_early_72 (by decide) ?_
          refine lv_isub hx hb dX8_early_74 ?_
          refine lv_topi (fun y2 ey2 => ?_)
          have ty2 : y2.toInt = (((pB (sM st0) f j) : Nat) : Int) - ((10 : Nat) : Int) := i_sub ey2 (S.2.2.2.2 f (by omega) j (by omega)) (by decide : (10 : Int32).toInt = ((10 : Nat) : Int)) (by omega)
          refine lv_istore (lv' := [(7, .int y2), (0, .ref (g.2.2.1 x)), (1, .int p0), (2, .int p1), (3, .ref (g.2.2.1 (x + 53))), (4, .int 0), (5, .int x5), (6, .int x6)]) hx hb dX8_early_75 hl (by decide) rfl (fun ls hl => ?_)
          refine lv_aload_n hx hb dX8_early_77 rfl (lv_at hl 1 rfl) ?_
          refine r_get (C := RX8) (T := TX8) (N := 11) (ci := 6) hx hb hts inX8_early_X8 hown w (by have := E.1; omega) E.2.1 rfl 1 (by decide) (hts (Cond.fieldLink RX8 19 "EarlyValues" "now" "LEarlyValues$Program;") (List.mem_of_getElem? (i := 1) (by decide +kernel))) rfl rfl dX8_early_78 ?_
          refine lv_iload hx hb dX8_early_81 (lv_at hl 0 rfl) ?_
          refine r_callI w (va_runV (As := [.int y2]) (rest := []) ⟨hx, hb, hml, hown, hts⟩ (c_X3_has l P y2) (cwV 1 hts gX8_early_X3_has rfl rfl rfl (by decide +kernel) ⟨Nat.le_of_ble_eq_true rfl, Nat.le_of_ble_eq_true rfl⟩) (r_preV w (by have := P.1; omega) P.c0 rfl) rfl rfl hl.1 rfl (lv_room (Nat.le_of_ble_eq_true rfl)) dX8_early_83 ⟨Nat.zero_le _, Nat.zero_le _⟩) (fun r4 h3 H locs hp w => ?_)
          obtain ⟨eh_, qq5⟩ := hp
          have eh_ := eh_.symm
          subst eh_
          have b6 : Bq r4 (0 ≤ ((((pB (sM st0) f j) : Nat) : Int) - ((10 : Nat) : Int)) ∧ ((((pB (sM st0) f j) : Nat) : Int) - ((10 : Nat) : Int)) < (((pN (sM st0)) : Nat) : Int)) := qq5.iff (by rw [(ty2 : y2.toInt = _), (S.1 : n.toInt = _)])
          refine lv_if_eq (tgt := 128) hx hb dX8_early_86 (by decide) (fun c7 => ?_) (fun c7 => ?_)
          · have c7 := b6.eq c7
            obtain ⟨y8, ey8⟩ : ∃ y : Int32, y = x6 + (1) := ⟨_, rfl⟩
            have ty8 : y8.toInt = (((j + 1) : Nat) : Int) := i_addN ey8 hx6 (by decide : (1 : Int32).toInt = ((1 : Nat) : Int)) (by omega)
            refine lv_iinc (v := y8) (lv' := [(6, .int y8), (7, .int y2), (0, .ref (g.2.2.1 x)), (1, .int p0), (2, .int p1), (3, .ref (g.2.2.1 (x + 53))), (4, .int 0), (5, .int x5)]) hx hb dX8_early_128 hl (k := 7) rfl (by rw [ey8]; rfl) (by decide) rfl (fun ls hl => ?_)
            refine lv_goto (tgt := 46) hx hb dX8_early_131 (by decide) ?_
            exact ih46 (j + 1) x5 y8 hc _ _ _ w (lv_sub hl [2, 3, 4, 5, 6, 7, 0] rfl) hf0 hf (by omega) (hx5.trans (by rw [eStep_0 (by omega)])) ty8 E P (⟨_, _, _, _, _, _, _, _, _, _, _, V0, hz0⟩) hfr (by omega)
          · have c7 := b6.ne c7
            have h7_ : y2.toInt = ((pB (sM st0) f j - 10 : Nat) : Int) := ty2.trans (by omega)
            obtain ⟨hb3_, -⟩ := hP.2.2 (pB (sM st0) f j - 10) (by omega)
            refine lv_iload hx hb dX8_early_89 (lv_at hl 6 rfl) ?_
            refine lv_aload_n hx hb dX8_early_91 rfl (lv_at hl 4 rfl) ?_
            refine lv_ifnonnull (tgt := 108) hx hb dX8_early_92 (by decide) ?_
            refine lv_aload_n hx hb dX8_early_108 rfl (lv_at hl 1 rfl) ?_
            refine lv_aload_n hx hb dX8_early_109 rfl (lv_at hl 4 rfl) ?_
            refine r_callQ w (va_runV (As := [.ref (g.2.2.1 (x + 53))]) (rest := [.int x5]) ⟨hx, hb, hml, hown, hts⟩ (c_X8_solved l E ⟨_, _, _, _, _, _, _, _, _, _, _, V0, hz0⟩ P S hP (by omega)) (cwV 1 hts gX8_early_X8_solved rfl rfl rfl (by decide +kernel) ⟨Nat.le_of_ble_eq_true rfl, Nat.le_of_ble_eq_true rfl⟩) (r_preV w (by have := E.1; omega) E.2.1 rfl) rfl rfl hl.1 rfl (lv_room (Nat.le_of_ble_eq_true rfl)) dX8_early_110 ⟨Nat.zero_le _, Nat.zero_le _⟩) (fun r10 h9 H locs hp w => ?_)
            obtain ⟨hfk11, hrk11, kkk11, kck11, tkk11, dpk11, gpk11, ggk11, gsk11, gdk11, gtk11, gck11, V0, K0, hK0, htk0, hT0⟩ := hp
            subst hrk11
            have E := E.fr (h' := h9) (fun k_ h1_ h2_ h3_ => hfk11 k_ (by omega))
            have P := P.fr (h' := h9) (fun k_ h1_ h2_ => hfk11 k_ (by omega))
            have hfr : ∀ k_, ¬ ((x + 53) ≤ k_ ∧ k_ < (x + 53) + 18) → h9 k_ = h k_ := fun k_ hk_ => (hfk11 k_ (by omega)).trans (hfr k_ hk_)
            have hz0 : (1 : Int32) = 0 ∨ ((1 : Int32) = 1 ∧ KnK u0 (sM st0) tkk11 gtk11) := Or.inr ⟨rfl, K0, hK0, htk0, hT0⟩
            refine lv_aload_n hx hb dX8_early_113 rfl (lv_at hl 1 rfl) ?_
            refine r_get (C := RX8) (T := TX8) (N := 11) (ci := 6) hx hb hts inX8_early_X8 hown w (by have := E.1; omega) E.2.1 rfl 1 (by decide) (hts (Cond.fieldLink RX8 19 "EarlyValues" "now" "LEarlyValues$Program;") (List.mem_of_getElem? (i := 1) (by decide +kernel))) rfl rfl dX8_early_114 ?_
            refine lv_iload hx hb dX8_early_117 (lv_at hl 0 rfl) ?_
            refine r_callI w (va_3 V0.hu (fun q_ => va_runU (As := [.ref (g.2.2.1 (x + 12)), .int y2]) (rest := [.int x5]) ⟨hx, hb, hml, hown, hts⟩ (c_X7_strictBits l V0 P S hP hT0 y2 h7_ (by omega)) (va_cwU 2 hts gX8_early_X7_strictBits_u184X6 rfl rfl rfl rfl (by decide +kernel) ⟨Nat.le_of_ble_eq_true rfl, Nat.le_of_ble_eq_true rfl⟩) (r_preV w (by have := V0.hN; omega) (V0.ob (by subst q_; rfl)) rfl) rfl rfl hl.1 rfl (lv_room (Nat.le_of_ble_eq_true rfl)) dX8_early_119 ⟨Nat.zero_le _, Nat.zero_le _⟩) (fun q_ => va_runU (As := [.ref (g.2.2.1 (x + 12)), .int y2]) (rest := [.int x5]) ⟨hx, hb, hml, hown, hts⟩ (c_X7_strictBits l V0 P S hP hT0 y2 h7_ (by omega)) (va_cwU 2 hts gX8_early_X7_strictBits_u184X4 rfl rfl rfl rfl (by decide +kernel) ⟨Nat.le_of_ble_eq_true rfl, Nat.le_of_ble_eq_true rfl⟩) (r_preV w (by have := V0.hN; omega) (V0.ob (by subst q_; rfl)) rfl) rfl rfl hl.1 rfl (lv_room (Nat.le_of_ble_eq_true rfl)) dX8_early_119 ⟨Nat.zero_le _, Nat.zero_le _⟩) (fun q_ => va_runU (As := [.ref (g.2.2.1 (x + 12)), .int y2]) (rest := [.int x5]) ⟨hx, hb, hml, hown, hts⟩ (c_X7_strictBits l V0 P S hP hT0 y2 h7_ (by omega)) (va_cwU 2 hts gX8_early_X7_strictBits_u184X0 rfl rfl rfl rfl (by decide +kernel) ⟨Nat.le_of_ble_eq_true rfl, Nat.le_of_ble_eq_true rfl⟩) (r_preV w (by have := V0.hN; omega) (V0.ob (by subst q_; rfl)) rfl) rfl rfl hl.1 rfl (lv_room (Nat.le_of_ble_eq_true rfl)) dX8_early_119 ⟨Nat.zero_le _, Nat.zero_le _⟩)) (fun r13 h12 H locs hp w => ?_)
            obtain ⟨eh_, qq14⟩ := hp
            have eh_ := eh_.symm
            subst eh_
            refine r_callI w (va_runS (As := [.int r13]) (rest := [.int x5]) ⟨hx, hb, hml, hown, hts⟩ (c_J6_bitCount_0f7a4 l r13 qq14 (mB3_le (u := 0) _ _ (by omega))) (va_cwS 1 hts gX8_early_J6_bitCount_0f7a4 rfl rfl rfl (by decide +kernel) ⟨Nat.le_of_ble_eq_true rfl, Nat.le_of_ble_eq_true rfl⟩) (r_preS w) rfl rfl hl.1 rfl (lv_room (Nat.le_of_ble_eq_true rfl)) dX8_early_122 ⟨Nat.zero_le _, Nat.zero_le _⟩) (fun r16 h15 H locs hp w => ?_)
            obtain ⟨eh_, qq17⟩ := hp
            have eh_ := eh_.symm
            subst eh_
            have hpo_ : (pop (mBits (mStrict u0 (sM st0) (mTab u0 (sM st0) K0) ((pB (sM st0) f j - 10))) (pA (sM st0) ((pB (sM st0) f j - 10))))) ≤ 3 := pop_le _
            refine lv_iadd hx hb dX8_early_125 ?_
            refine lv_topi (fun y18 ey18 => ?_)
            have ty18 : y18.toInt = ((((eSum (sM st0) 2 f j) + (pop (mBits (mStrict u0 (sM st0) (mTab u0 (sM st0) K0) ((pB (sM st0) f j - 10))) (pA (sM st0) ((pB (sM st0) f j - 10)))))) : Nat) : Int) := i_addN ey18 hx5 qq17 (by omega)
            refine lv_istore (lv' := [(5, .int y18), (7, .int y2), (0, .ref (g.2.2.1 x)), (1, .int p0), (2, .int p1), (3, .ref (g.2.2.1 (x + 53))), (4, .int 0), (6, .int x6)]) hx hb dX8_early_126 hl (by decide) rfl (fun ls hl => ?_)
            obtain ⟨y19, ey19⟩ : ∃ y : Int32, y = x6 + (1) := ⟨_, rfl⟩
            have ty19 : y19.toInt = (((j + 1) : Nat) : Int) := i_addN ey19 hx6 (by decide : (1 : Int32).toInt = ((1 : Nat) : Int)) (by omega)
            refine lv_iinc (v := y19) (lv' := [(6, .int y19), (5, .int y18), (7, .int y2), (0, .ref (g.2.2.1 x)), (1, .int p0), (2, .int p1), (3, .ref (g.2.2.1 (x + 53))), (4, .int 0)]) hx hb dX8_early_128 hl (k := 7) rfl (by rw [ey19]; rfl) (by decide) rfl (fun ls hl => ?_)
            refine lv_goto (tgt := 46) hx hb dX8_early_131 (by decide) ?_
            exact ih46 (j + 1) y18 y19 h9 _ _ _ w (lv_sub hl [3, 4, 5, 6, 7, 1, 0] rfl) hf0 hf (by omega) (ty18.trans (by rw [eStep_w hK0 (by rw [hu0]; rfl) (by omega) (by omega)])) ty19 E P (⟨_, _, _, _, _, _, _, _, _, _, _, V0, hz0⟩) hfr (by omega)
  have ih46 := cuts (26)
  refine lv_aload_n hx hb dX8_early_0 rfl (lv_at hl 0 rfl) ?_
  refine lv_iload_n hx hb dX8_early_1 rfl (lv_at hl 2 rfl) ?_
  refine r_callQ w (va_runV (As := [.int p1]) (rest := []) ⟨hx, hb, hml, hown, hts⟩ (c_X8_strictView l E p1) (cwV 1 hts gX8_early_X8_strictView rfl rfl rfl (by decide +kernel) ⟨Nat.le_of_ble_eq_true rfl, Nat.le_of_ble_eq_true rfl⟩) (r_preV w (by have := E.1; omega) E.2.1 rfl) rfl rfl hl.1 rfl (lv_room (Nat.le_of_ble_eq_true rfl)) dX8_early_2 ⟨Nat.zero_le _, Nat.zero_le _⟩) (fun r21 h20 H locs hp w => ?_)
  obtain ⟨eh_, qq22⟩ := hp
  have eh_ := eh_.symm
  subst eh_
  rcases qq22 with ⟨hw_, q_⟩ | ⟨hw_, q_⟩ | ⟨hw_, q_⟩ | ⟨hw_, q_⟩
  · exfalso; omega
  · exfalso; omega
  · subst q_
    refine lv_astore_n (lv' := [(3, .ref (g.2.2.1 (x + 53))), (0, .ref (g.2.2.1 x)), (1, .int p0), (2, .int p1)]) hx hb dX8_early_5 rfl hl (by decide) rfl (fun ls hl => ?_)
    refine lv_iload_n hx hb dX8_early_6 rfl (lv_at hl 3 rfl) ?_
    refine lv_iconst (v := 3) hx hb dX8_early_7 (by decide) ?_
    refine lv_icmp_ne (tgt := 15) hx hb dX8_early_8 (by decide) (fun c23 => ?_) (fun c23 => ?_)
    · have c23 : ¬ (p1.toInt = ((3 : Nat) : Int)) := fun q => c23 ((i_eq (rfl : p1.toInt = p1.toInt) (by decide : (3 : Int32).toInt = ((3 : Nat) : Int))).mpr q)
      refine lv_iconst (v := 0) hx hb dX8_early_15 (by decide) ?_
      refine lv_istore (lv' := [(4, .int 0), (3, .ref (g.2.2.1 (x + 53))), (0, .ref (g.2.2.1 x)), (1, .int p0), (2, .int p1)]) hx hb dX8_early_16 hl (by decide) rfl (fun ls hl => ?_)
      refine lv_aload_n hx hb dX8_early_18 rfl (lv_at hl 2 rfl) ?_
      refine r_get (C := RX8) (T := TX8) (N := 11) (ci := 6) hx hb hts inX8_early_X8 hown w (by have := E.1; omega) E.2.1 rfl 1 (by decide) (hts (Cond.fieldLink RX8 19 "EarlyValues" "now" "LEarlyValues$Program;") (List.mem_of_getElem? (i := 1) (by decide +kernel))) rfl rfl dX8_early_19 ?_
      refine lv_iload_n hx hb dX8_early_22 rfl (lv_at hl 3 rfl) ?_
      refine r_callI w (va_runV (As := [.int p0]) (rest := []) ⟨hx, hb, hml, hown, hts⟩ (c_X3_has l P p0) (cwV 1 hts gX8_early_X3_has rfl rfl rfl (by decide +kernel) ⟨Nat.le_of_ble_eq_true rfl, Nat.le_of_ble_eq_true rfl⟩) (r_preV w (by have := P.1; omega) P.c0 rfl) rfl rfl hl.1 rfl (lv_room (Nat.le_of_ble_eq_true rfl)) dX8_early_23 ⟨Nat.zero_le _, Nat.zero_le _⟩) (fun r25 h24 H locs hp w => ?_)
      obtain ⟨eh_, qq26⟩ := hp
      have eh_ := eh_.symm
      subst eh_
      have b27 : Bq r25 (0 ≤ p0.toInt ∧ p0.toInt < (((pN (sM st0)) : Nat) : Int)) := qq26.iff (by rw [((rfl : p0.toInt = p0.toInt) : p0.toInt = _), (S.1 : n.toInt = _)])
      refine lv_if_eq (tgt := 38) hx hb dX8_early_26 (by decide) (fun c28 => ?_) (fun c28 => ?_)
      · have c28 := b27.eq c28
        refine lv_iconst (v := (-1)) hx hb dX8_early_38 (by decide) ?_
        refine r_iret (v := (-1)) hx hb hr hlocks w dX8_early_39 ?_
        subst hu0
        exact ⟨(fun k_ hk_ => hfr k_ (by omega)), ⟨hSV0, ⟨_, E, hkn⟩, (T0.fr (fun k_ a_ b_ => hfr k_ (by omega))), (Q1.fr (fun k_ a_ b_ => hfr k_ (by omega))), ⟨_, _, _, _, _, P, S⟩, (Q2.fr (fun k_ a_ b_ => hfr k_ (by omega))), (fun i_ hi_ => (Q3 i_ hi_).fr (fun k_ a_ b_ => hfr k_ (by omega))), (fun i_ (hi_ : i_ < sV st0) => (Q4 i_ hi_).fr (fun k_ a_ b_ => hfr k_ (by omega))), (H0_.fr (fun k_ a_ b_ => hfr k_ (by omega))), ⟨_, _, _, _, _, _, _, _, _, _, _, V0, hz0⟩, (W1.fr (fun k_ a_ b_ => hfr k_ (by omega))), (W2.fr (fun k_ a_ b_ => hfr k_ (by omega))), (W3.fr (fun k_ a_ b_ => hfr k_ (by omega))), (W4.fr (fun k_ a_ b_ => hfr k_ (by omega)))⟩, Or.inr ⟨by omega, rfl⟩⟩
      · have c28 := b27.ne c28
        have hf0 : p0.toInt = ((f : Nat) : Int) := by omega
        have hf : f < pN (sM st0) := by omega
        refine lv_aload_n hx hb dX8_early_29 rfl (lv_at hl 1 rfl) ?_
        refine lv_ifnonnull (tgt := 40) hx hb dX8_early_30 (by decide) ?_
        refine lv_iconst (v := 0) hx hb dX8_early_40 (by decide) ?_
        refine lv_istore (lv' := [(5, .int 0), (4, .int 0), (3, .ref (g.2.2.1 (x + 53))), (0, .ref (g.2.2.1 x)), (1, .int p0), (2, .int p1)]) hx hb dX8_early_41 hl (by decide) rfl (fun ls hl => ?_)
        refine lv_iconst (v := 0) hx hb dX8_early_43 (by decide) ?_
        refine lv_istore (lv' := [(6, .int 0), (5, .int 0), (4, .int 0), (3, .ref (g.2.2.1 (x + 53))), (0, .ref (g.2.2.1 x)), (1, .int p0), (2, .int p1)]) hx hb dX8_early_44 hl (by decide) rfl (fun ls hl => ?_)
        exact ih46 0 0 0 h _ _ _ w (lv_sub hl [4, 5, 6, 3, 2, 1, 0] rfl) hf0 hf (Nat.zero_le _) rfl ((by decide : (0 : Int32).toInt = ((0 : Nat) : Int))) E P (⟨_, _, _, _, _, _, _, _, _, _, _, V0, hz0⟩) hfr (by omega)
    · have c23 : p1.toInt = ((3 : Nat) : Int) := (i_eq (rfl : p1.toInt = p1.toInt) (by decide : (3 : Int32).toInt = ((3 : Nat) : Int))).mp c23
      exfalso; omega
  · exfalso; omega

set_option maxHeartbeats 4000000 in
set_option maxRecDepth 100000 in
theorem c_X8_early_3 (l : Launch) {g : GE} {h : Nat → va_E} {x : Nat} {st0 : ST} (C : ClsA g h x st0) (p0 : Int32) (p1 : Int32) (hw : p1.toInt = 3) : MI l yX8_early wsX8_early rm_X8_early [.ref (g.2.2.1 x), .int p0, .int p1] g h (fun r_ h2 => (∀ k, ¬ (x ≤ k ∧ k < x + 143) → h2 k = h k) ∧ ClsA g h2 x st0 ∧ AnEarly st0 p0 p1 r_) := by
  refine Met.ofW (cc := cX8_early) (maxL := 8) (ret := (some .int)) (by decide) rfl ?_
  intro p e s m args below meth c s₁ B hml hv
  obtain ⟨rfl, w0⟩ := hv
  have hx := B.exec
  have hb := B.bytes
  have hr := B.returns
  have hts := atoms_spec (ws := wsX8_early) B.pre
  have hown : s.vm.findClass RX8 = some m.cls := findClass_of_methodNamed B.named
  have hlocks := B.notSynchronized
  have w := w0.start
  clear w0
  have hl := lv_entry ([.ref (g.2.2.1 x), .int p0, .int p1]) (n := 8) (Nat.le_of_ble_eq_true rfl)
  rw [lg_entry_eq]
  generalize (lg_sl ([.ref (g.2.2.1 x), .int p0, .int p1]) ++ List.replicate (8 - (lg_sl ([.ref (g.2.2.1 x), .int p0, .int p1])).length) Slot.unset).toArray = ls at hl ⊢
  have hl : lv_has ls 8 [(0, .ref (g.2.2.1 x)), (1, .int p0), (2, .int p1)] := hl
  obtain ⟨hSV, ⟨kn, E, hkn⟩, T0, Q1, P0, Q2, Q3, Q4, H0_, W0, W1, W2, W3, W4⟩ := C
  have hSV0 := hSV
  obtain ⟨hP, hu8, hUP, hv2, hVP, hl200, hlt⟩ := hSV
  have hn4 := hP.2.1
  have hNe := E.1
  obtain ⟨n, ga, gk, gl, gb, P, S⟩ := P0
  have hnS := S.1
  obtain ⟨f, hfd⟩ : ∃ f_ : Nat, f_ = p0.toInt.toNat := ⟨_, rfl⟩
  have hfr : ∀ k_, ¬ (k_ < k_) → h k_ = h k_ := fun _ _ => rfl
  have cuts : ∀ N : Nat, (∀ (j : Nat) (x5 : Int32) (x6 : Int32) (hc : Nat → va_E) (H : Heap) (locs : List Loc) (ls : Array Slot), WD g (inW g) s hc H locs → lv_has ls 8 [(0, .ref (g.2.2.1 x)), (1, .int p0), (2, .int p1), (3, .null), (4, .int 1), (5, .int x5), (6, .int x6)] → (p0.toInt = ((f : Nat) : Int)) → (f < pN (sM st0)) → (j ≤ pL (sM st0) f) → (x5.toInt = ((eSum (sM st0) 3 f j : Nat) : Int)) → (x6.toInt = ((j : Nat) : Int)) → (EvA g hc x kn) → (PrA g hc (x + 12) n ga gk gl gb) → (∀ k, ¬ (k < k) → hc k = h k) → 25 - j < N → W p l e (headSpec wsX8_early rm_X8_early).room s m ([.ref (g.2.2.1 x), .int p0, .int p1] : List Value).toArray below meth c H locs 0 0 (MQ below (va_Qi (fun r_ h2 => (∀ k, ¬ (x ≤ k ∧ k < x + 143) → h2 k = h k) ∧ ClsA g h2 x st0 ∧ AnEarly st0 p0 p1 r_) (Wd g) (inW g)) ([.ref (g.2.2.1 x), .int p0, .int p1] : List Value).toArray s 0 0 (inW g)) (F0 m 46 ls [])) := by
    intro N
    induction N with
    | zero => exact by intros; omega
    | succ N ih =>
      have ih46 := ih
      · intro j x5 x6 hc H locs ls w hl hf0 hf hj hx5 hx6 E P hfr hN_
        have hNe := E.1
        obtain ⟨-, -, -, hl24, -⟩ := hP.2.2 f hf
        have hes_ := eSum_ub (w := 3) hP hf hj
        refine lv_iload hx hb dX8_early_46 (lv_at hl 6 rfl) ?_
        refine lv_aload_n hx hb dX8_early_48 rfl (lv_at hl 0 rfl) ?_
        refine r_get (C := RX8) (T := TX8) (N := 11) (ci := 6) hx hb hts inX8_early_X8 hown w (by have := E.1; omega) E.2.1 rfl 1 (by decide) (hts (Cond.fieldLink RX8 19 "EarlyValues" "now" "LEarlyValues$Program;") (List.mem_of_getElem? (i := 1) (by decide +kernel))) rfl rfl dX8_early_49 ?_
        refine r_get (C := RX3) (T := TX3) (N := 5) (ci := 2) hx hb hts inX8_early_X3 hown w (by have := P.1; omega) P.c0 rfl 3 (by decide) (hts (Cond.fieldLink RX8 122 "EarlyValues$Program" "lengths" "[I") (List.mem_of_getElem? (i := 2) (by decide +kernel))) rfl rfl dX8_early_52 ?_
        refine lv_iload_n hx hb dX8_early_55 rfl (lv_at hl 1 rfl) ?_
        refine r_iald (j := f) hx hb w (by have := P.1; omega) P.c3 hf0 (by omega) dX8_early_56 ?_
        refine lv_icmp_ge (tgt := 134) hx hb dX8_early_57 (by decide) (fun c1 => ?_) (fun c1 => ?_)
        · have c1 : (((pL (sM st0) f) : Nat) : Int) ≤ ((j : Nat) : Int) := (i_le (S.2.2.2.1 f (by omega)) hx6).mp c1
          refine lv_iload hx hb dX8_early_134 (lv_at hl 5 rfl) ?_
          refine r_iret (v := x5) hx hb hr hlocks w dX8_early_136 ?_
          exact ⟨(fun k_ hk_ => hfr k_ (by omega)), ⟨hSV0, ⟨_, E, hkn⟩, (T0.fr (fun k_ a_ b_ => hfr k_ (by omega))), (Q1.fr (fun k_ a_ b_ => hfr k_ (by omega))), ⟨_, _, _, _, _, P, S⟩, (Q2.fr (fun k_ a_ b_ => hfr k_ (by omega))), (fun i_ hi_ => (Q3 i_ hi_).fr (fun k_ a_ b_ => hfr k_ (by omega))), (fun i_ (hi_ : i_ < sV st0) => (Q4 i_ hi_).fr (fun k_ a_ b_ => hfr k_ (by omega))), (H0_.fr (fun k_ a_ b_ => hfr k_ (by omega))), (W0.fr (fun k_ a_ b_ => hfr k_ (by omega))), (W1.fr (fun k_ a_ b_ => hfr k_ (by omega))), (W2.fr (fun k_ a_ b_ => hfr k_ (by omega))), (W3.fr (fun k_ a_ b_ => hfr k_ (by omega))), (W4.fr (fun k_ a_ b_ => hfr k_ (by omega)))⟩, Or.inl ⟨f, 3, hf0, by omega, hf, by omega, hx5.trans (by rw [show j = pL (sM st0) f by omega]; rfl)⟩⟩
        · have c1 : ¬ ((((pL (sM st0) f) : Nat) : Int) ≤ ((j : Nat) : Int)) := fun q => c1 ((i_le (S.2.2.2.1 f (by omega)) hx6).mpr q)
          have hj_ : j < pL (sM st0) f := by omega
          obtain ⟨hb14_, hbn_⟩ := letter_fn hP hf hj_
          refine lv_aload_n hx hb dX8_early_60 rfl (lv_at hl 0 rfl) ?_
          refine r_get (C := RX8) (T := TX8) (N := 11) (ci := 6) hx hb hts inX8_early_X8 hown w (by have := E.1; omega) E.2.1 rfl 1 (by decide) (hts (Cond.fieldLink RX8 19 "EarlyValues" "now" "LEarlyValues$Program;") (List.mem_of_getElem? (i := 1) (by decide +kernel))) rfl rfl dX8_early_61 ?_
          refine r_get (C := RX3) (T := TX3) (N := 5) (ci := 2) hx hb hts inX8_early_X3 hown w (by have := P.1; omega) P.c0 rfl 4 (by decide) (hts (Cond.fieldLink RX8 129 "EarlyValues$Program" "bodies" "[[I") (List.mem_of_getElem? (i := 3) (by decide +kernel))) rfl rfl dX8_early_64 ?_
          refine lv_iload_n hx hb dX8_early_67 rfl (lv_at hl 1 rfl) ?_
          refine r_aald (t := 4) (j := f) hx hb w (by decide) (by have := P.1; omega) P.c4 hf0 (by omega) (rowsF_in (by omega)) dX8_early_68 ?_
          refine lv_iload hx hb dX8_early_69 (lv_at hl 6 rfl) ?_
          refine r_iald (j := j) hx hb w (by have := P.1; omega) (P.c5 (i := f) (by omega)) hx6 (by omega) dX8_early_71 ?_
          refine lv_bipush (v := 10) hx hb dX8_early_72 (by decide) ?_
          refine lv_isub hx hb dX8_early_74 ?_
          refine lv_topi (fun y2 ey2 => ?_)
          have ty2 : y2.toInt = (((pB (sM st0) f j) : Nat) : Int) - ((10 : Nat) : Int) := i_sub ey2 (S.2.2.2.2 f (by omega) j (by omega)) (by decide : (10 : Int32).toInt = ((10 : Nat) : Int)) (by omega)
          refine lv_istore (lv' := [(7, .int y2), (0, .ref (g.2.2.1 x)), (1, .int p0), (2, .int p1), (3, .null), (4, .int 1), (5, .int x5), (6, .int x6)]) hx hb dX8_early_75 hl (by decide) rfl (fun ls hl => ?_)
          refine lv_aload_n hx hb dX8_early_77 rfl (lv_at hl 1 rfl) ?_
          refine r_get (C := RX8) (T := TX8) (N := 11) (ci := 6) hx hb hts inX8_early_X8 hown w (by have := E.1; omega) E.2.1 rfl 1 (by decide) (hts (Cond.fieldLink RX8 19 "EarlyValues" "now" "LEarlyValues$Program;") (List.mem_of_getElem? (i := 1) (by decide +kernel))) rfl rfl dX8_early_78 ?_
          refine lv_iload hx hb dX8_early_81 (lv_at hl 0 rfl) ?_
          refine r_callI w (va_runV (As := [.int y2]) (rest := []) ⟨hx, hb, hml, hown, hts⟩ (c_X3_has l P y2) (cwV 1 hts gX8_early_X3_has rfl rfl rfl (by decide +kernel) ⟨Nat.le_of_ble_eq_true rfl, Nat.le_of_ble_eq_true rfl⟩) (r_preV w (by have := P.1; omega) P.c0 rfl) rfl rfl hl.1 rfl (lv_room (Nat.le_of_ble_eq_true rfl)) dX8_early_83 ⟨Nat.zero_le _, Nat.zero_le _⟩) (fun r4 h3 H locs hp w => ?_)
          obtain ⟨eh_, qq5⟩ := hp
          have eh_ := eh_.symm
          subst eh_
          have b6 : Bq r4 (0 ≤ ((((pB (sM st0) f j) : Nat) : Int) - ((10 : Nat) : Int)) ∧ ((((pB (sM st0) f j) : Nat) : Int) - ((10 : Nat) : Int)) < (((pN (sM st0)) : Nat) : Int)) := qq5.iff (by rw [(ty2 : y2.toInt = _), (S.1 : n.toInt = _)])
          refine lv_if_eq (tgt := 128) hx hb dX8_early_86 (by decide) (fun c7 => ?_) (fun c7 => ?_)
          · have c7 := b6.eq c7
            obtain ⟨y8, ey8⟩ : ∃ y : Int32, y = x6 + (1) := ⟨_, rfl⟩
            have ty8 : y8.toInt = (((j + 1) : Nat) : Int) := i_addN ey8 hx6 (by decide : (1 : Int32).toInt = ((1 : Nat) : Int)) (by omega)
            refine lv_iinc (v := y8) (lv' := [(6, .int y8), (7, .int y2), (0, .ref (g.2.2.1 x)), (1, .int p0), (2, .int p1), (3, .null), (4, .int 1), (5, .int x5)]) hx hb dX8_early_128 hl (k := 7) rfl (by rw [ey8]; rfl) (by decide) rfl (fun ls hl => ?_)
            refine lv_goto (tgt := 46) hx hb dX8_early_131 (by decide) ?_
            exact ih46 (j + 1) x5 y8 hc _ _ _ w (lv_sub hl [2, 3, 4, 5, 6, 7, 0] rfl) hf0 hf (by omega) (hx5.trans (by rw [eStep_0 (by omega)])) ty8 E P hfr (by omega)
          · have c7 := b6.ne c7
            have h7_ : y2.toInt = ((pB (sM st0) f j - 10 : Nat) : Int) := ty2.trans (by omega)
            obtain ⟨hb3_, -⟩ := hP.2.2 (pB (sM st0) f j - 10) (by omega)
            refine lv_iload hx hb dX8_early_89 (lv_at hl 6 rfl) ?_
            refine lv_aload_nN hx hb dX8_early_91 rfl (lv_at hl 4 rfl) ?_
            refine lv_ifnonnullN hx hb dX8_early_92 ?_
            refine lv_aload_n hx hb dX8_early_95 rfl (lv_at hl 1 rfl) ?_
            refine r_get (C := RX8) (T := TX8) (N := 11) (ci := 6) hx hb hts inX8_early_X8 hown w (by have := E.1; omega) E.2.1 rfl 1 (by decide) (hts (Cond.fieldLink RX8 19 "EarlyValues" "now" "LEarlyValues$Program;") (List.mem_of_getElem? (i := 1) (by decide +kernel))) rfl rfl dX8_early_96 ?_
            refine r_get (C := RX3) (T := TX3) (N := 5) (ci := 2) hx hb hts inX8_early_X3 hown w (by have := P.1; omega) P.c0 rfl 1 (by decide) (hts (Cond.fieldLink RX8 119 "EarlyValues$Program" "arguments" "[I") (List.mem_of_getElem? (i := 4) (by decide +kernel))) rfl rfl dX8_early_99 ?_
            refine lv_iload hx hb dX8_early_102 (lv_at hl 0 rfl) ?_
            refine r_iald (j := (pB (sM st0) f j - 10)) hx hb w (by have := P.1; omega) P.c1 h7_ (by omega) dX8_early_104 ?_
            refine lv_goto (tgt := 125) hx hb dX8_early_105 (by decide) ?_
            refine lv_iadd hx hb dX8_early_125 ?_
            refine lv_topi (fun y9 ey9 => ?_)
            have ty9 : y9.toInt = ((((eSum (sM st0) 3 f j) + (pA (sM st0) ((pB (sM st0) f j - 10)))) : Nat) : Int) := i_addN ey9 hx5 (S.2.1 ((pB (sM st0) f j - 10)) (by omega)) (by omega)
            refine lv_istore (lv' := [(5, .int y9), (7, .int y2), (0, .ref (g.2.2.1 x)), (1, .int p0), (2, .int p1), (3, .null), (4, .int 1), (6, .int x6)]) hx hb dX8_early_126 hl (by decide) rfl (fun ls hl => ?_)
            obtain ⟨y10, ey10⟩ : ∃ y : Int32, y = x6 + (1) := ⟨_, rfl⟩
            have ty10 : y10.toInt = (((j + 1) : Nat) : Int) := i_addN ey10 hx6 (by decide : (1 : Int32).toInt = ((1 : Nat) : Int)) (by omega)
            refine lv_iinc (v := y10) (lv' := [(6, .int y10), (5, .int y9), (7, .int y2), (0, .ref (g.2.2.1 x)), (1, .int p0), (2, .int p1), (3, .null), (4, .int 1)]) hx hb dX8_early_128 hl (k := 7) rfl (by rw [ey10]; rfl) (by decide) rfl (fun ls hl => ?_)
            refine lv_goto (tgt := 46) hx hb dX8_early_131 (by decide) ?_
            exact ih46 (j + 1) y9 y10 hc _ _ _ w (lv_sub hl [3, 4, 5, 6, 7, 1, 0] rfl) hf0 hf (by omega) (ty9.trans (by rw [eStep_3 (by omega)])) ty10 E P hfr (by omega)
  have ih46 := cuts (26)
  refine lv_aload_n hx hb dX8_early_0 rfl (lv_at hl 0 rfl) ?_
  refine lv_iload_n hx hb dX8_early_1 rfl (lv_at hl 2 rfl) ?_
  refine r_callQ w (va_runV (As := [.int p1]) (rest := []) ⟨hx, hb, hml, hown, hts⟩ (c_X8_strictView l E p1) (cwV 1 hts gX8_early_X8_strictView rfl rfl rfl (by decide +kernel) ⟨Nat.le_of_ble_eq_true rfl, Nat.le_of_ble_eq_true rfl⟩) (r_preV w (by have := E.1; omega) E.2.1 rfl) rfl rfl hl.1 rfl (lv_room (Nat.le_of_ble_eq_true rfl)) dX8_early_2 ⟨Nat.zero_le _, Nat.zero_le _⟩) (fun r12 h11 H locs hp w => ?_)
  obtain ⟨eh_, qq13⟩ := hp
  have eh_ := eh_.symm
  subst eh_
  rcases qq13 with ⟨hw_, q_⟩ | ⟨hw_, q_⟩ | ⟨hw_, q_⟩ | ⟨hw_, q_⟩
  · exfalso; omega
  · exfalso; omega
  · exfalso; omega
  · subst q_
    refine lv_astore_nN (lv' := [(3, .null), (0, .ref (g.2.2.1 x)), (1, .int p0), (2, .int p1)]) hx hb dX8_early_5 rfl hl (by decide) rfl (fun ls hl => ?_)
    refine lv_iload_n hx hb dX8_early_6 rfl (lv_at hl 3 rfl) ?_
    refine lv_iconst (v := 3) hx hb dX8_early_7 (by decide) ?_
    refine lv_icmp_ne (tgt := 15) hx hb dX8_early_8 (by decide) (fun c14 => ?_) (fun c14 => ?_)
    · have c14 : ¬ (p1.toInt = ((3 : Nat) : Int)) := fun q => c14 ((i_eq (rfl : p1.toInt = p1.toInt) (by decide : (3 : Int32).toInt = ((3 : Nat) : Int))).mpr q)
      exfalso; omega
    · have c14 : p1.toInt = ((3 : Nat) : Int) := (i_eq (rfl : p1.toInt = p1.toInt) (by decide : (3 : Int32).toInt = ((3 : Nat) : Int))).mp c14
      refine lv_iconst (v := 1) hx hb dX8_early_11 (by decide) ?_
      refine lv_goto (tgt := 16) hx hb dX8_early_12 (by decide) ?_
      refine lv_istore (lv' := [(4, .int 1), (3, .null), (0, .ref (g.2.2.1 x)), (1, .int p0), (2, .int p1)]) hx hb dX8_early_16 hl (by decide) rfl (fun ls hl => ?_)
      refine lv_aload_n hx hb dX8_early_18 rfl (lv_at hl 2 rfl) ?_
      refine r_get (C := RX8) (T := TX8) (N := 11) (ci := 6) hx hb hts inX8_early_X8 hown w (by have := E.1; omega) E.2.1 rfl 1 (by decide) (hts (Cond.fieldLink RX8 19 "EarlyValues" "now" "LEarlyValues$Program;") (List.mem_of_getElem? (i := 1) (by decide +kernel))) rfl rfl dX8_early_19 ?_
      refine lv_iload_n hx hb dX8_early_22 rfl (lv_at hl 3 rfl) ?_
      refine r_callI w (va_runV (As := [.int p0]) (rest := []) ⟨hx, hb, hml, hown, hts⟩ (c_X3_has l P p0) (cwV 1 hts gX8_early_X3_has rfl rfl rfl (by decide +kernel) ⟨Nat.le_of_ble_eq_true rfl, Nat.le_of_ble_eq_true rfl⟩) (r_preV w (by have := P.1; omega) P.c0 rfl) rfl rfl hl.1 rfl (lv_room (Nat.le_of_ble_eq_true rfl)) dX8_early_23 ⟨Nat.zero_le _, Nat.zero_le _⟩) (fun r16 h15 H locs hp w => ?_)
      obtain ⟨eh_, qq17⟩ := hp
      have eh_ := eh_.symm
      subst eh_
      have b18 : Bq r16 (0 ≤ p0.toInt ∧ p0.toInt < (((pN (sM st0)) : Nat) : Int)) := qq17.iff (by rw [((rfl : p0.toInt = p0.toInt) : p0.toInt = _), (S.1 : n.toInt = _)])
      refine lv_if_eq (tgt := 38) hx hb dX8_early_26 (by decide) (fun c19 => ?_) (fun c19 => ?_)
      · have c19 := b18.eq c19
        refine lv_iconst (v := (-1)) hx hb dX8_early_38 (by decide) ?_
        refine r_iret (v := (-1)) hx hb hr hlocks w dX8_early_39 ?_
        exact ⟨(fun k_ hk_ => hfr k_ (by omega)), ⟨hSV0, ⟨_, E, hkn⟩, (T0.fr (fun k_ a_ b_ => hfr k_ (by omega))), (Q1.fr (fun k_ a_ b_ => hfr k_ (by omega))), ⟨_, _, _, _, _, P, S⟩, (Q2.fr (fun k_ a_ b_ => hfr k_ (by omega))), (fun i_ hi_ => (Q3 i_ hi_).fr (fun k_ a_ b_ => hfr k_ (by omega))), (fun i_ (hi_ : i_ < sV st0) => (Q4 i_ hi_).fr (fun k_ a_ b_ => hfr k_ (by omega))), (H0_.fr (fun k_ a_ b_ => hfr k_ (by omega))), (W0.fr (fun k_ a_ b_ => hfr k_ (by omega))), (W1.fr (fun k_ a_ b_ => hfr k_ (by omega))), (W2.fr (fun k_ a_ b_ => hfr k_ (by omega))), (W3.fr (fun k_ a_ b_ => hfr k_ (by omega))), (W4.fr (fun k_ a_ b_ => hfr k_ (by omega)))⟩, Or.inr ⟨by omega, rfl⟩⟩
      · have c19 := b18.ne c19
        have hf0 : p0.toInt = ((f : Nat) : Int) := by omega
        have hf : f < pN (sM st0) := by omega
        refine lv_aload_nN hx hb dX8_early_29 rfl (lv_at hl 1 rfl) ?_
        refine lv_ifnonnullN hx hb dX8_early_30 ?_
        refine lv_iload hx hb dX8_early_33 (lv_at hl 0 rfl) ?_
        refine lv_if_ne (tgt := 40) hx hb dX8_early_35 (by decide) (fun c20 => ?_) (fun c20 => ?_)
        · have c20 : ¬ (((1 : Nat) : Int) = (0 : Int)) := fun q => c20 ((i_eq (by decide : (1 : Int32).toInt = ((1 : Nat) : Int)) (rfl : (0 : Int32).toInt = 0)).mpr q)
          refine lv_iconst (v := 0) hx hb dX8_early_40 (by decide) ?_
          refine lv_istore (lv' := [(5, .int 0), (4, .int 1), (3, .null), (0, .ref (g.2.2.1 x)), (1, .int p0), (2, .int p1)]) hx hb dX8_early_41 hl (by decide) rfl (fun ls hl => ?_)
          refine lv_iconst (v := 0) hx hb dX8_early_43 (by decide) ?_
          refine lv_istore (lv' := [(6, .int 0), (5, .int 0), (4, .int 1), (3, .null), (0, .ref (g.2.2.1 x)), (1, .int p0), (2, .int p1)]) hx hb dX8_early_44 hl (by decide) rfl (fun ls hl => ?_)
          exact ih46 0 0 0 h _ _ _ w (lv_sub hl [4, 5, 6, 3, 2, 1, 0] rfl) hf0 hf (Nat.zero_le _) rfl ((by decide : (0 : Int32).toInt = ((0 : Nat) : Int))) E P hfr (by omega)
        · have c20 : ((1 : Nat) : Int) = (0 : Int) := (i_eq (by decide : (1 : Int32).toInt = ((1 : Nat) : Int)) (rfl : (0 : Int32).toInt = 0)).mp c20
          exfalso; omega

set_option maxHeartbeats 4000000 in
set_option maxRecDepth 100000 in
theorem c_X8_early_4 (l : Launch) {g : GE} {h : Nat → va_E} {x : Nat} {st0 : ST} (C : ClsA g h x st0) (p0 : Int32) (p1 : Int32) (hw : ¬ (0 ≤ p1.toInt ∧ p1.toInt ≤ 3)) : MI l yX8_early wsX8_early rm_X8_early [.ref (g.2.2.1 x), .int p0, .int p1] g h (fun r_ h2 => (∀ k, ¬ (x ≤ k ∧ k < x + 143) → h2 k = h k) ∧ ClsA g h2 x st0 ∧ AnEarly st0 p0 p1 r_) := by
  refine Met.ofW (cc := cX8_early) (maxL := 8) (ret := (some .int)) (by decide) rfl ?_
  intro p e s m args below meth c s₁ B hml hv
  obtain ⟨rfl, w0⟩ := hv
  have hx := B.exec
  have hb := B.bytes
  have hr := B.returns
  have hts := atoms_spec (ws := wsX8_early) B.pre
  have hown : s.vm.findClass RX8 = some m.cls := findClass_of_methodNamed B.named
  have hlocks := B.notSynchronized
  have w := w0.start
  clear w0
  have hl := lv_entry ([.ref (g.2.2.1 x), .int p0, .int p1]) (n := 8) (Nat.le_of_ble_eq_true rfl)
  rw [lg_entry_eq]
  generalize (lg_sl ([.ref (g.2.2.1 x), .int p0, .int p1]) ++ List.replicate (8 - (lg_sl ([.ref (g.2.2.1 x), .int p0, .int p1])).length) Slot.unset).toArray = ls at hl ⊢
  have hl : lv_has ls 8 [(0, .ref (g.2.2.1 x)), (1, .int p0), (2, .int p1)] := hl
  obtain ⟨hSV, ⟨kn, E, hkn⟩, T0, Q1, P0, Q2, Q3, Q4, H0_, W0, W1, W2, W3, W4⟩ := C
  have hSV0 := hSV
  obtain ⟨hP, hu8, hUP, hv2, hVP, hl200, hlt⟩ := hSV
  have hn4 := hP.2.1
  have hNe := E.1
  obtain ⟨n, ga, gk, gl, gb, P, S⟩ := P0
  have hnS := S.1
  obtain ⟨f, hfd⟩ : ∃ f_ : Nat, f_ = p0.toInt.toNat := ⟨_, rfl⟩
  have hfr : ∀ k_, ¬ (k_ < k_) → h k_ = h k_ := fun _ _ => rfl
  refine lv_aload_n hx hb dX8_early_0 rfl (lv_at hl 0 rfl) ?_
  refine lv_iload_n hx hb dX8_early_1 rfl (lv_at hl 2 rfl) ?_
  refine r_callQ w (va_runV (As := [.int p1]) (rest := []) ⟨hx, hb, hml, hown, hts⟩ (c_X8_strictView l E p1) (cwV 1 hts gX8_early_X8_strictView rfl rfl rfl (by decide +kernel) ⟨Nat.le_of_ble_eq_true rfl, Nat.le_of_ble_eq_true rfl⟩) (r_preV w (by have := E.1; omega) E.2.1 rfl) rfl rfl hl.1 rfl (lv_room (Nat.le_of_ble_eq_true rfl)) dX8_early_2 ⟨Nat.zero_le _, Nat.zero_le _⟩) (fun r2 h1 H locs hp w => ?_)
  obtain ⟨eh_, qq3⟩ := hp
  have eh_ := eh_.symm
  subst eh_
  rcases qq3 with ⟨hw_, q_⟩ | ⟨hw_, q_⟩ | ⟨hw_, q_⟩ | ⟨hw_, q_⟩
  · exfalso; omega
  · exfalso; omega
  · exfalso; omega
  · subst q_
    refine lv_astore_nN (lv' := [(3, .null), (0, .ref (g.2.2.1 x)), (1, .int p0), (2, .int p1)]) hx hb dX8_early_5 rfl hl (by decide) rfl (fun ls hl => ?_)
    refine lv_iload_n hx hb dX8_early_6 rfl (lv_at hl 3 rfl) ?_
    refine lv_iconst (v := 3) hx hb dX8_early_7 (by decide) ?_
    refine lv_icmp_ne (tgt := 15) hx hb dX8_early_8 (by decide) (fun c4 => ?_) (fun c4 => ?_)
    · have c4 : ¬ (p1.toInt = ((3 : Nat) : Int)) := fun q => c4 ((i_eq (rfl : p1.toInt = p1.toInt) (by decide : (3 : Int32).toInt = ((3 : Nat) : Int))).mpr q)
      refine lv_iconst (v := 0) hx hb dX8_early_15 (by decide) ?_
      refine lv_istore (lv' := [(4, .int 0), (3, .null), (0, .ref (g.2.2.1 x)), (1, .int p0), (2, .int p1)]) hx hb dX8_early_16 hl (by decide) rfl (fun ls hl => ?_)
      refine lv_aload_n hx hb dX8_early_18 rfl (lv_at hl 2 rfl) ?_
      refine r_get (C := RX8) (T := TX8) (N := 11) (ci := 6) hx hb hts inX8_early_X8 hown w (by have := E.1; omega) E.2.1 rfl 1 (by decide) (hts (Cond.fieldLink RX8 19 "EarlyValues" "now" "LEarlyValues$Program;") (List.mem_of_getElem? (i := 1) (by decide +kernel))) rfl rfl dX8_early_19 ?_
      refine lv_iload_n hx hb dX8_early_22 rfl (lv_at hl 3 rfl) ?_
      refine r_callI w (va_runV (As := [.int p0]) (rest := []) ⟨hx, hb, hml, hown, hts⟩ (c_X3_has l P p0) (cwV 1 hts gX8_early_X3_has rfl rfl rfl (by decide +kernel) ⟨Nat.le_of_ble_eq_true rfl, Nat.le_of_ble_eq_true rfl⟩) (r_preV w (by have := P.1; omega) P.c0 rfl) rfl rfl hl.1 rfl (lv_room (Nat.le_of_ble_eq_true rfl)) dX8_early_23 ⟨Nat.zero_le _, Nat.zero_le _⟩) (fun r6 h5 H locs hp w => ?_)
      obtain ⟨eh_, qq7⟩ := hp
      have eh_ := eh_.symm
      subst eh_
      have b8 : Bq r6 (0 ≤ p0.toInt ∧ p0.toInt < (((pN (sM st0)) : Nat) : Int)) := qq7.iff (by rw [((rfl : p0.toInt = p0.toInt) : p0.toInt = _), (S.1 : n.toInt = _)])
      refine lv_if_eq (tgt := 38) hx hb dX8_early_26 (by decide) (fun c9 => ?_) (fun c9 => ?_)
      · have c9 := b8.eq c9
        refine lv_iconst (v := (-1)) hx hb dX8_early_38 (by decide) ?_
        refine r_iret (v := (-1)) hx hb hr hlocks w dX8_early_39 ?_
        exact ⟨(fun k_ hk_ => hfr k_ (by omega)), ⟨hSV0, ⟨_, E, hkn⟩, (T0.fr (fun k_ a_ b_ => hfr k_ (by omega))), (Q1.fr (fun k_ a_ b_ => hfr k_ (by omega))), ⟨_, _, _, _, _, P, S⟩, (Q2.fr (fun k_ a_ b_ => hfr k_ (by omega))), (fun i_ hi_ => (Q3 i_ hi_).fr (fun k_ a_ b_ => hfr k_ (by omega))), (fun i_ (hi_ : i_ < sV st0) => (Q4 i_ hi_).fr (fun k_ a_ b_ => hfr k_ (by omega))), (H0_.fr (fun k_ a_ b_ => hfr k_ (by omega))), (W0.fr (fun k_ a_ b_ => hfr k_ (by omega))), (W1.fr (fun k_ a_ b_ => hfr k_ (by omega))), (W2.fr (fun k_ a_ b_ => hfr k_ (by omega))), (W3.fr (fun k_ a_ b_ => hfr k_ (by omega))), (W4.fr (fun k_ a_ b_ => hfr k_ (by omega)))⟩, Or.inr ⟨by omega, rfl⟩⟩
      · have c9 := b8.ne c9
        have hf0 : p0.toInt = ((f : Nat) : Int) := by omega
        have hf : f < pN (sM st0) := by omega
        refine lv_aload_nN hx hb dX8_early_29 rfl (lv_at hl 1 rfl) ?_
        refine lv_ifnonnullN hx hb dX8_early_30 ?_
        refine lv_iload hx hb dX8_early_33 (lv_at hl 0 rfl) ?_
        refine lv_if_ne (tgt := 40) hx hb dX8_early_35 (by decide) (fun c10 => ?_) (fun c10 => ?_)
        · have c10 : ¬ (((0 : Nat) : Int) = (0 : Int)) := fun q => c10 ((i_eq (by decide : (0 : Int32).toInt = ((0 : Nat) : Int)) (rfl : (0 : Int32).toInt = 0)).mpr q)
          exfalso; omega
        · have c10 : ((0 : Nat) : Int) = (0 : Int) := (i_eq (by decide : (0 : Int32).toInt = ((0 : Nat) : Int)) (rfl : (0 : Int32).toInt = 0)).mp c10
          refine lv_iconst (v := (-1)) hx hb dX8_early_38 (by decide) ?_
          refine r_iret (v := (-1)) hx hb hr hlocks w dX8_early_39 ?_
          exact ⟨(fun k_ hk_ => hfr k_ (by omega)), ⟨hSV0, ⟨_, E, hkn⟩, (T0.fr (fun k_ a_ b_ => hfr k_ (by omega))), (Q1.fr (fun k_ a_ b_ => hfr k_ (by omega))), ⟨_, _, _, _, _, P, S⟩, (Q2.fr (fun k_ a_ b_ => hfr k_ (by omega))), (fun i_ hi_ => (Q3 i_ hi_).fr (fun k_ a_ b_ => hfr k_ (by omega))), (fun i_ (hi_ : i_ < sV st0) => (Q4 i_ hi_).fr (fun k_ a_ b_ => hfr k_ (by omega))), (H0_.fr (fun k_ a_ b_ => hfr k_ (by omega))), (W0.fr (fun k_ a_ b_ => hfr k_ (by omega))), (W1.fr (fun k_ a_ b_ => hfr k_ (by omega))), (W2.fr (fun k_ a_ b_ => hfr k_ (by omega))), (W3.fr (fun k_ a_ b_ => hfr k_ (by omega))), (W4.fr (fun k_ a_ b_ => hfr k_ (by omega)))⟩, Or.inr ⟨by omega, rfl⟩⟩
    · have c4 : p1.toInt = ((3 : Nat) : Int) := (i_eq (rfl : p1.toInt = p1.toInt) (by decide : (3 : Int32).toInt = ((3 : Nat) : Int))).mp c4
      exfalso; omega
theorem c_X8_early (l : Launch) {g : GE} {h : Nat → va_E} {x : Nat} {st0 : ST} (C : ClsA g h x st0) (p0 : Int32) (p1 : Int32) : MI l yX8_early wsX8_early rm_X8_early [.ref (g.2.2.1 x), .int p0, .int p1] g h (fun r_ h2 => (∀ k, ¬ (x ≤ k ∧ k < x + 143) → h2 k = h k) ∧ ClsA g h2 x st0 ∧ AnEarly st0 p0 p1 r_) := by
  rcases (show p1.toInt = 0 ∨ p1.toInt = 1 ∨ p1.toInt = 2 ∨ p1.toInt = 3 ∨ ¬ (0 ≤ p1.toInt ∧ p1.toInt ≤ 3) by omega) with q | q | q | q | q
  · exact c_X8_early_0 l C p0 p1 q
  · exact c_X8_early_1 l C p0 p1 q
  · exact c_X8_early_2 l C p0 p1 q
  · exact c_X8_early_3 l C p0 p1 q
  · exact c_X8_early_4 l C p0 p1 q

theorem inX8_same_X3 : ∀ w ∈ wsX30, w ∈ wsX8_same := by decide +kernel
theorem inX8_same_X8 : ∀ w ∈ wsX80, w ∈ wsX8_same := by decide +kernel
abbrev rm_X8_same : Room := { frames := 7, cells := 0, slots := 0, locals := 157 }
set_option maxHeartbeats 4000000 in
set_option maxRecDepth 100000 in
theorem c_X8_same (l : Launch) {g : GE} {h : Nat → va_E} {x : Nat} {st0 : ST} (C : ClsA g h x st0) (p0 : Int32) (p1 : Int32) : MI l yX8_same wsX8_same rm_X8_same [.ref (g.2.2.1 x), .int p0, .int p1] g h (fun r_ h2 => (∀ k, ¬ (x ≤ k ∧ k < x + 143) → h2 k = h k) ∧ ClsA g h2 x st0 ∧ AnSame st0 p0 p1 r_) := by
  refine Met.ofW (cc := cX8_same) (maxL := 5) (ret := (some .int)) (by decide) rfl ?_
  intro p e s m args below meth c s₁ B hml hv
  obtain ⟨rfl, w0⟩ := hv
  have hx := B.exec
  have hb := B.bytes
  have hr := B.returns
  have hts := atoms_spec (ws := wsX8_same) B.pre
  have hown : s.vm.findClass RX8 = some m.cls := findClass_of_methodNamed B.named
  have hlocks := B.notSynchronized
  have w := w0.start
  clear w0
  have hl := lv_entry ([.ref (g.2.2.1 x), .int p0, .int p1]) (n := 5) (Nat.le_of_ble_eq_true rfl)
  rw [lg_entry_eq]
  generalize (lg_sl ([.ref (g.2.2.1 x), .int p0, .int p1]) ++ List.replicate (5 - (lg_sl ([.ref (g.2.2.1 x), .int p0, .int p1])).length) Slot.unset).toArray = ls at hl ⊢
  have hl : lv_has ls 5 [(0, .ref (g.2.2.1 x)), (1, .int p0), (2, .int p1)] := hl
  obtain ⟨hSV, ⟨kn, E, hkn⟩, T0, Q1, P0, Q2, Q3, Q4, H0_, W0, W1, W2, W3, W4⟩ := C
  have hSV0 := hSV
  obtain ⟨hP, hu8, hUP, hv2, hVP, hl200, hlt⟩ := hSV
  have hn4 := hP.2.1
  have hNe := E.1
  obtain ⟨n, ga, gk, gl, gb, P, S⟩ := P0
  have hnS := S.1
  obtain ⟨u0, hu0, W0⟩ : ∃ u_ : Nat, u_ = 0 ∧ VwE g h (x + 53) u_ (sM st0) := ⟨_, rfl, W0⟩
  obtain ⟨kk0, kc0, tk0, fz0, dp0, gp0, gg0, gs0, gd0, gt0, gc0, V0, hz0⟩ := W0
  have hNv0 := V0.hN
  obtain ⟨f, hfd⟩ : ∃ f_ : Nat, f_ = p0.toInt.toNat := ⟨_, rfl⟩
  obtain ⟨g9, hgd⟩ : ∃ f_ : Nat, f_ = p1.toInt.toNat := ⟨_, rfl⟩
  have hfr : ∀ k_, ¬ ((x + 53) ≤ k_ ∧ k_ < (x + 53) + 18) → h k_ = h k_ := fun _ _ => rfl
  have cuts : ∀ N : Nat, (∀ (K : Nat) (row : Nat) (x4 : Int32) (hc : Nat → va_E) (H : Heap) (locs : List Loc) (ls : Array Slot), WD g (inW g) s hc H locs → lv_has ls 5 [(0, .ref (g.2.2.1 x)), (1, .int p0), (2, .int p1), (3, .ref (g.2.2.1 (x + 53))), (4, .int x4)] → (IsK u0 (sM st0) K) → (p0.toInt = ((f : Nat) : Int)) → (f < pN (sM st0)) → (p1.toInt = ((g9 : Nat) : Int)) → (g9 < pN (sM st0)) → (pA (sM st0) f = pA (sM st0) g9) → (row ≤ mRw u0 (sM st0) f) → (x4.toInt = ((row : Nat) : Int)) → (∀ r_, r_ < row → mTab u0 (sM st0) K f r_ = mTab u0 (sM st0) K g9 r_) → (EvA g hc x kn) → (PrA g hc (x + 12) n ga gk gl gb) → (VwS g hc (x + 53) u0 (sM st0)) → (∀ k, ¬ ((x + 53) ≤ k ∧ k < (x + 53) + 18) → hc k = h k) → mRw u0 (sM st0) f - row < N → W p l e (headSpec wsX8_same rm_X8_same).room s m ([.ref (g.2.2.1 x), .int p0, .int p1] : List Value).toArray below meth c H locs 0 0 (MQ below (va_Qi (fun r_ h2 => (∀ k, ¬ (x ≤ k ∧ k < x + 143) → h2 k = h k) ∧ ClsA g h2 x st0 ∧ AnSame st0 p0 p1 r_) (Wd g) (inW g)) ([.ref (g.2.2.1 x), .int p0, .int p1] : List Value).toArray s 0 0 (inW g)) (F0 m 59 ls [])) := by
    intro N
    induction N with
    | zero => exact by intros; omega
    | succ N ih =>
      have ih59 := ih
      · intro K row x4 hc H locs ls w hl hK hf0 hf hg0 hg hpa hrow hx4 hno E P W0 hfr hN_
        obtain ⟨kk0, kc0, tk0, dp0, gp0, gg0, gs0, gd0, gt0, gc0, V0, K0, hK0, htk0, hT0⟩ := W0
        rw [hK0.inj hK] at hT0 htk0
        have hNv0 := V0.hN
        have hNe := E.1
        have hz0 : (1 : Int32) = 0 ∨ ((1 : Int32) = 1 ∧ KnK u0 (sM st0) tk0 gt0) := Or.inr ⟨rfl, K, hK, htk0, hT0⟩
        have hR := mRw_mR V0.hu hP hf
        have hR5 := mR_le u0
        refine lv_iload hx hb dX8_same_59 (lv_at hl 4 rfl) ?_
        refine lv_aload_n hx hb dX8_same_61 rfl (lv_at hl 3 rfl) ?_
        refine lv_aload_n hx hb dX8_same_62 rfl (lv_at hl 0 rfl) ?_
        refine r_get (C := RX8) (T := TX8) (N := 11) (ci := 6) hx hb hts inX8_same_X8 hown w (by have := E.1; omega) E.2.1 rfl 1 (by decide) (hts (Cond.fieldLink RX8 19 "EarlyValues" "now" "LEarlyValues$Program;") (List.mem_of_getElem? (i := 1) (by decide +kernel))) rfl rfl dX8_same_63 ?_
        refine lv_iload_n hx hb dX8_same_66 rfl (lv_at hl 1 rfl) ?_
        refine r_callI w (va_3 V0.hu (fun q_ => va_runU (As := [.ref (g.2.2.1 (x + 12)), .int p0]) (rest := [.int x4]) ⟨hx, hb, hml, hown, hts⟩ (c_X7_rowsOf l V0 P S hP p0 hf0 (by omega)) (va_cwU 2 hts gX8_same_X7_rowsOf_u169X6 rfl rfl rfl rfl (by decide +kernel) ⟨Nat.le_of_ble_eq_true rfl, Nat.le_of_ble_eq_true rfl⟩) (r_preV w (by have := V0.hN; omega) (V0.ob (by subst q_; rfl)) rfl) rfl rfl hl.1 rfl (lv_room (Nat.le_of_ble_eq_true rfl)) dX8_same_67 ⟨Nat.zero_le _, Nat.zero_le _⟩) (fun q_ => va_runU (As := [.ref (g.2.2.1 (x + 12)), .int p0]) (rest := [.int x4]) ⟨hx, hb, hml, hown, hts⟩ (c_X7_rowsOf l V0 P S hP p0 hf0 (by omega)) (va_cwU 2 hts gX8_same_X7_rowsOf_u169X4 rfl rfl rfl rfl (by decide +kernel) ⟨Nat.le_of_ble_eq_true rfl, Nat.le_of_ble_eq_true rfl⟩) (r_preV w (by have := V0.hN; omega) (V0.ob (by subst q_; rfl)) rfl) rfl rfl hl.1 rfl (lv_room (Nat.le_of_ble_eq_true rfl)) dX8_same_67 ⟨Nat.zero_le _, Nat.zero_le _⟩) (fun q_ => va_runU (As := [.ref (g.2.2.1 (x + 12)), .int p0]) (rest := [.int x4]) ⟨hx, hb, hml, hown, hts⟩ (c_X7_rowsOf l V0 P S hP p0 hf0 (by omega)) (va_cwU 2 hts gX8_same_X7_rowsOf_u169X0 rfl rfl rfl rfl (by decide +kernel) ⟨Nat.le_of_ble_eq_true rfl, Nat.le_of_ble_eq_true rfl⟩) (r_preV w (by have := V0.hN; omega) (V0.ob (by subst q_; rfl)) rfl) rfl rfl hl.1 rfl (lv_room (Nat.le_of_ble_eq_true rfl)) dX8_same_67 ⟨Nat.zero_le _, Nat.zero_le _⟩)) (fun r2 h1 H locs hp w => ?_)
        obtain ⟨eh_, qq3⟩ := hp
        have eh_ := eh_.symm
        subst eh_
        refine lv_icmp_ge (tgt := 98) hx hb dX8_same_70 (by decide) (fun c4 => ?_) (fun c4 => ?_)
        · have c4 : (((mRw u0 (sM st0) f) : Nat) : Int) ≤ ((row : Nat) : Int) := (i_le qq3 hx4).mp c4
          refine lv_iconst (v := 1) hx hb dX8_same_98 (by decide) ?_
          refine r_iret (v := 1) hx hb hr hlocks w dX8_same_99 ?_
          subst hu0
          exact ⟨(fun k_ hk_ => hfr k_ (by omega)), ⟨hSV0, ⟨_, E, hkn⟩, (T0.fr (fun k_ a_ b_ => hfr k_ (by omega))), (Q1.fr (fun k_ a_ b_ => hfr k_ (by omega))), ⟨_, _, _, _, _, P, S⟩, (Q2.fr (fun k_ a_ b_ => hfr k_ (by omega))), (fun i_ hi_ => (Q3 i_ hi_).fr (fun k_ a_ b_ => hfr k_ (by omega))), (fun i_ (hi_ : i_ < sV st0) => (Q4 i_ hi_).fr (fun k_ a_ b_ => hfr k_ (by omega))), (H0_.fr (fun k_ a_ b_ => hfr k_ (by omega))), ⟨_, _, _, _, _, _, _, _, _, _, _, V0, hz0⟩, (W1.fr (fun k_ a_ b_ => hfr k_ (by omega))), (W2.fr (fun k_ a_ b_ => hfr k_ (by omega))), (W3.fr (fun k_ a_ b_ => hfr k_ (by omega))), (W4.fr (fun k_ a_ b_ => hfr k_ (by omega)))⟩, Or.inl ⟨f, g9, K, hf0, hg0, hf, hg, hK, Bq.t ⟨hpa, fun r_ hr_ => hno r_ (by omega)⟩⟩⟩
        · have c4 : ¬ ((((mRw u0 (sM st0) f) : Nat) : Int) ≤ ((row : Nat) : Int)) := fun q => c4 ((i_le qq3 hx4).mpr q)
          have hrow : row < mRw u0 (sM st0) f := by omega
          have hR := mRw_mR V0.hu hP hf
          have hrg : row < mRw u0 (sM st0) g9 := by unfold mRw at hrow ⊢; rw [← hpa]; exact hrow
          have hq1_ := hT0 f row hf hrow
          have hq2_ := hT0 g9 row hg hrg
          refine lv_aload_n hx hb dX8_same_73 rfl (lv_at hl 3 rfl) ?_
          refine lv_iload_n hx hb dX8_same_74 rfl (lv_at hl 1 rfl) ?_
          refine lv_iload hx hb dX8_same_75 (lv_at hl 4 rfl) ?_
          refine r_callI w (va_3 V0.hu (fun q_ => va_runU (As := [.int p0, .int x4]) (rest := []) ⟨hx, hb, hml, hown, hts⟩ (c_X7_at l V0 p0 x4 hf0 hx4 (by omega) (by omega)) (va_cwU 2 hts gX8_same_X7_at_u165X6 rfl rfl rfl rfl (by decide +kernel) ⟨Nat.le_of_ble_eq_true rfl, Nat.le_of_ble_eq_true rfl⟩) (r_preV w (by have := V0.hN; omega) (V0.ob (by subst q_; rfl)) rfl) rfl rfl hl.1 rfl (lv_room (Nat.le_of_ble_eq_true rfl)) dX8_same_77 ⟨Nat.zero_le _, Nat.zero_le _⟩) (fun q_ => va_runU (As := [.int p0, .int x4]) (rest := []) ⟨hx, hb, hml, hown, hts⟩ (c_X7_at l V0 p0 x4 hf0 hx4 (by omega) (by omega)) (va_cwU 2 hts gX8_same_X7_at_u165X4 rfl rfl rfl rfl (by decide +kernel) ⟨Nat.le_of_ble_eq_true rfl, Nat.le_of_ble_eq_true rfl⟩) (r_preV w (by have := V0.hN; omega) (V0.ob (by subst q_; rfl)) rfl) rfl rfl hl.1 rfl (lv_room (Nat.le_of_ble_eq_true rfl)) dX8_same_77 ⟨Nat.zero_le _, Nat.zero_le _⟩) (fun q_ => va_runU (As := [.int p0, .int x4]) (rest := []) ⟨hx, hb, hml, hown, hts⟩ (c_X7_at l V0 p0 x4 hf0 hx4 (by omega) (by omega)) (va_cwU 2 hts gX8_same_X7_at_u165X0 rfl rfl rfl rfl (by decide +kernel) ⟨Nat.le_of_ble_eq_true rfl, Nat.le_of_ble_eq_true rfl⟩) (r_preV w (by have := V0.hN; omega) (V0.ob (by subst q_; rfl)) rfl) rfl rfl hl.1 rfl (lv_room (Nat.le_of_ble_eq_true rfl)) dX8_same_77 ⟨Nat.zero_le _, Nat.zero_le _⟩)) (fun r6 h5 H locs hp w => ?_)
          obtain ⟨eh_, qq7⟩ := hp
          have eh_ := eh_.symm
          subst eh_
          subst qq7
          refine lv_aload_n hx hb dX8_same_80 rfl (lv_at hl 3 rfl) ?_
          refine lv_iload_n hx hb dX8_same_81 rfl (lv_at hl 2 rfl) ?_
          refine lv_iload hx hb dX8_same_82 (lv_at hl 4 rfl) ?_
          refine r_callI w (va_3 V0.hu (fun q_ => va_runU (As := [.int p1, .int x4]) (rest := [.int (gt0 f row)]) ⟨hx, hb, hml, hown, hts⟩ (c_X7_at l V0 p1 x4 hg0 hx4 (by omega) (by omega)) (va_cwU 2 hts gX8_same_X7_at_u165X6 rfl rfl rfl rfl (by decide +kernel) ⟨Nat.le_of_ble_eq_true rfl, Nat.le_of_ble_eq_true rfl⟩) (r_preV w (by have := V0.hN; omega) (V0.ob (by subst q_; rfl)) rfl) rfl rfl hl.1 rfl (lv_room (Nat.le_of_ble_eq_true rfl)) dX8_same_84 ⟨Nat.zero_le _, Nat.zero_le _⟩) (fun q_ => va_runU (As := [.int p1, .int x4]) (rest := [.int (gt0 f row)]) ⟨hx, hb, hml, hown, hts⟩ (c_X7_at l V0 p1 x4 hg0 hx4 (by omega) (by omega)) (va_cwU 2 hts gX8_same_X7_at_u165X4 rfl rfl rfl rfl (by decide +kernel) ⟨Nat.le_of_ble_eq_true rfl, Nat.le_of_ble_eq_true rfl⟩) (r_preV w (by have := V0.hN; omega) (V0.ob (by subst q_; rfl)) rfl) rfl rfl hl.1 rfl (lv_room (Nat.le_of_ble_eq_true rfl)) dX8_same_84 ⟨Nat.zero_le _, Nat.zero_le _⟩) (fun q_ => va_runU (As := [.int p1, .int x4]) (rest := [.int (gt0 f row)]) ⟨hx, hb, hml, hown, hts⟩ (c_X7_at l V0 p1 x4 hg0 hx4 (by omega) (by omega)) (va_cwU 2 hts gX8_same_X7_at_u165X0 rfl rfl rfl rfl (by decide +kernel) ⟨Nat.le_of_ble_eq_true rfl, Nat.le_of_ble_eq_true rfl⟩) (r_preV w (by have := V0.hN; omega) (V0.ob (by subst q_; rfl)) rfl) rfl rfl hl.1 rfl (lv_room (Nat.le_of_ble_eq_true rfl)) dX8_same_84 ⟨Nat.zero_le _, Nat.zero_le _⟩)) (fun r9 h8 H locs hp w => ?_)
          obtain ⟨eh_, qq10⟩ := hp
          have eh_ := eh_.symm
          subst eh_
          subst qq10
          refine lv_icmp_eq (tgt := 92) hx hb dX8_same_87 (by decide) (fun c11 => ?_) (fun c11 => ?_)
          · have c11 : (gt0 f row).toInt = (gt0 g9 row).toInt := (i_eq rfl rfl).mp c11
            obtain ⟨y12, ey12⟩ : ∃ y : Int32, y = x4 + (1) := ⟨_, rfl⟩
            have ty12 : y12.toInt = (((row + 1) : Nat) : Int) := i_addN ey12 hx4 (by decide : (1 : Int32).toInt = ((1 : Nat) : Int)) (by omega)
            refine lv_iinc (v := y12) (lv' := [(4, .int y12), (0, .ref (g.2.2.1 x)), (1, .int p0), (2, .int p1), (3, .ref (g.2.2.1 (x + 53)))]) hx hb dX8_same_92 hl (k := 4) rfl (by rw [ey12]; rfl) (by decide) rfl (fun ls hl => ?_)
            refine lv_goto (tgt := 59) hx hb dX8_same_95 (by decide) ?_
            exact ih59 K (row + 1) y12 hc _ _ _ w (lv_sub hl [1, 2, 3, 4, 0] rfl) hK hf0 hf hg0 hg hpa (by omega) ty12 (fun r_ hr_ => by rcases Nat.lt_succ_iff_lt_or_eq.mp hr_ with z_ | z_; exact hno r_ z_; rw [z_]; omega) E P (⟨_, _, _, _, _, _, _, _, _, _, V0, K, hK, htk0, hT0⟩) hfr (by omega)
          · have c11 : ¬ ((gt0 f row).toInt = (gt0 g9 row).toInt) := fun q => c11 ((i_eq rfl rfl).mpr q)
            refine lv_iconst (v := 0) hx hb dX8_same_90 (by decide) ?_
            refine r_iret (v := 0) hx hb hr hlocks w dX8_same_91 ?_
            subst hu0
            exact ⟨(fun k_ hk_ => hfr k_ (by omega)), ⟨hSV0, ⟨_, E, hkn⟩, (T0.fr (fun k_ a_ b_ => hfr k_ (by omega))), (Q1.fr (fun k_ a_ b_ => hfr k_ (by omega))), ⟨_, _, _, _, _, P, S⟩, (Q2.fr (fun k_ a_ b_ => hfr k_ (by omega))), (fun i_ hi_ => (Q3 i_ hi_).fr (fun k_ a_ b_ => hfr k_ (by omega))), (fun i_ (hi_ : i_ < sV st0) => (Q4 i_ hi_).fr (fun k_ a_ b_ => hfr k_ (by omega))), (H0_.fr (fun k_ a_ b_ => hfr k_ (by omega))), ⟨_, _, _, _, _, _, _, _, _, _, _, V0, hz0⟩, (W1.fr (fun k_ a_ b_ => hfr k_ (by omega))), (W2.fr (fun k_ a_ b_ => hfr k_ (by omega))), (W3.fr (fun k_ a_ b_ => hfr k_ (by omega))), (W4.fr (fun k_ a_ b_ => hfr k_ (by omega)))⟩, Or.inl ⟨f, g9, K, hf0, hg0, hf, hg, hK, Bq.f (fun q_ => by have := q_.2 row hrow; omega)⟩⟩
  have ih59 := cuts (200)
  refine lv_aload_n hx hb dX8_same_0 rfl (lv_at hl 0 rfl) ?_
  refine r_get (C := RX8) (T := TX8) (N := 11) (ci := 6) hx hb hts inX8_same_X8 hown w (by have := E.1; omega) E.2.1 rfl 1 (by decide) (hts (Cond.fieldLink RX8 19 "EarlyValues" "now" "LEarlyValues$Program;") (List.mem_of_getElem? (i := 1) (by decide +kernel))) rfl rfl dX8_same_1 ?_
  refine lv_iload_n hx hb dX8_same_4 rfl (lv_at hl 1 rfl) ?_
  refine r_callI w (va_runV (As := [.int p0]) (rest := []) ⟨hx, hb, hml, hown, hts⟩ (c_X3_has l P p0) (cwV 1 hts gX8_same_X3_has rfl rfl rfl (by decide +kernel) ⟨Nat.le_of_ble_eq_true rfl, Nat.le_of_ble_eq_true rfl⟩) (r_preV w (by have := P.1; omega) P.c0 rfl) rfl rfl hl.1 rfl (lv_room (Nat.le_of_ble_eq_true rfl)) dX8_same_5 ⟨Nat.zero_le _, Nat.zero_le _⟩) (fun r14 h13 H locs hp w => ?_)
  obtain ⟨eh_, qq15⟩ := hp
  have eh_ := eh_.symm
  subst eh_
  have b16 : Bq r14 (0 ≤ p0.toInt ∧ p0.toInt < (((pN (sM st0)) : Nat) : Int)) := qq15.iff (by rw [((rfl : p0.toInt = p0.toInt) : p0.toInt = _), (S.1 : n.toInt = _)])
  refine lv_if_eq (tgt := 22) hx hb dX8_same_8 (by decide) (fun c17 => ?_) (fun c17 => ?_)
  · have c17 := b16.eq c17
    refine lv_iconst (v := (-1)) hx hb dX8_same_22 (by decide) ?_
    refine r_iret (v := (-1)) hx hb hr hlocks w dX8_same_23 ?_
    subst hu0
    exact ⟨(fun k_ hk_ => hfr k_ (by omega)), ⟨hSV0, ⟨_, E, hkn⟩, (T0.fr (fun k_ a_ b_ => hfr k_ (by omega))), (Q1.fr (fun k_ a_ b_ => hfr k_ (by omega))), ⟨_, _, _, _, _, P, S⟩, (Q2.fr (fun k_ a_ b_ => hfr k_ (by omega))), (fun i_ hi_ => (Q3 i_ hi_).fr (fun k_ a_ b_ => hfr k_ (by omega))), (fun i_ (hi_ : i_ < sV st0) => (Q4 i_ hi_).fr (fun k_ a_ b_ => hfr k_ (by omega))), (H0_.fr (fun k_ a_ b_ => hfr k_ (by omega))), ⟨_, _, _, _, _, _, _, _, _, _, _, V0, hz0⟩, (W1.fr (fun k_ a_ b_ => hfr k_ (by omega))), (W2.fr (fun k_ a_ b_ => hfr k_ (by omega))), (W3.fr (fun k_ a_ b_ => hfr k_ (by omega))), (W4.fr (fun k_ a_ b_ => hfr k_ (by omega)))⟩, Or.inr ⟨by omega, rfl⟩⟩
  · have c17 := b16.ne c17
    have hf0 : p0.toInt = ((f : Nat) : Int) := by omega
    have hf : f < pN (sM st0) := by omega
    obtain ⟨ha3, hk3, hl1, hl24, hpl, hd0⟩ := hP.2.2 f hf
    refine lv_aload_n hx hb dX8_same_11 rfl (lv_at hl 0 rfl) ?_
    refine r_get (C := RX8) (T := TX8) (N := 11) (ci := 6) hx hb hts inX8_same_X8 hown w (by have := E.1; omega) E.2.1 rfl 1 (by decide) (hts (Cond.fieldLink RX8 19 "EarlyValues" "now" "LEarlyValues$Program;") (List.mem_of_getElem? (i := 1) (by decide +kernel))) rfl rfl dX8_same_12 ?_
    refine lv_iload_n hx hb dX8_same_15 rfl (lv_at hl 2 rfl) ?_
    refine r_callI w (va_runV (As := [.int p1]) (rest := []) ⟨hx, hb, hml, hown, hts⟩ (c_X3_has l P p1) (cwV 1 hts gX8_same_X3_has rfl rfl rfl (by decide +kernel) ⟨Nat.le_of_ble_eq_true rfl, Nat.le_of_ble_eq_true rfl⟩) (r_preV w (by have := P.1; omega) P.c0 rfl) rfl rfl hl.1 rfl (lv_room (Nat.le_of_ble_eq_true rfl)) dX8_same_16 ⟨Nat.zero_le _, Nat.zero_le _⟩) (fun r19 h18 H locs hp w => ?_)
    obtain ⟨eh_, qq20⟩ := hp
    have eh_ := eh_.symm
    subst eh_
    have b21 : Bq r19 (0 ≤ p1.toInt ∧ p1.toInt < (((pN (sM st0)) : Nat) : Int)) := qq20.iff (by rw [((rfl : p1.toInt = p1.toInt) : p1.toInt = _), (S.1 : n.toInt = _)])
    refine lv_if_ne (tgt := 24) hx hb dX8_same_19 (by decide) (fun c22 => ?_) (fun c22 => ?_)
    · have c22 := b21.ne c22
      have hg0 : p1.toInt = ((g9 : Nat) : Int) := by omega
      have hg : g9 < pN (sM st0) := by omega
      have hR_ := mRw_mR V0.hu hP hf
      have hR5_ := mR_le u0
      refine lv_aload_n hx hb dX8_same_24 rfl (lv_at hl 0 rfl) ?_
      refine r_get (C := RX8) (T := TX8) (N := 11) (ci := 6) hx hb hts inX8_same_X8 hown w (by have := E.1; omega) E.2.1 rfl 1 (by decide) (hts (Cond.fieldLink RX8 19 "EarlyValues" "now" "LEarlyValues$Program;") (List.mem_of_getElem? (i := 1) (by decide +kernel))) rfl rfl dX8_same_25 ?_
      refine r_get (C := RX3) (T := TX3) (N := 5) (ci := 2) hx hb hts inX8_same_X3 hown w (by have := P.1; omega) P.c0 rfl 1 (by decide) (hts (Cond.fieldLink RX8 119 "EarlyValues$Program" "arguments" "[I") (List.mem_of_getElem? (i := 2) (by decide +kernel))) rfl rfl dX8_same_28 ?_
      refine lv_iload_n hx hb dX8_same_31 rfl (lv_at hl 1 rfl) ?_
      refine r_iald (j := f) hx hb w (by have := P.1; omega) P.c1 hf0 (by omega) dX8_same_32 ?_
      refine lv_aload_n hx hb dX8_same_33 rfl (lv_at hl 0 rfl) ?_
      refine r_get (C := RX8) (T := TX8) (N := 11) (ci := 6) hx hb hts inX8_same_X8 hown w (by have := E.1; omega) E.2.1 rfl 1 (by decide) (hts (Cond.fieldLink RX8 19 "EarlyValues" "now" "LEarlyValues$Program;") (List.mem_of_getElem? (i := 1) (by decide +kernel))) rfl rfl dX8_same_34 ?_
      refine r_get (C := RX3) (T := TX3) (N := 5) (ci := 2) hx hb hts inX8_same_X3 hown w (by have := P.1; omega) P.c0 rfl 1 (by decide) (hts (Cond.fieldLink RX8 119 "EarlyValues$Program" "arguments" "[I") (List.mem_of_getElem? (i := 2) (by decide +kernel))) rfl rfl dX8_same_37 ?_
      refine lv_iload_n hx hb dX8_same_40 rfl (lv_at hl 2 rfl) ?_
      refine r_iald (j := g9) hx hb w (by have := P.1; omega) P.c1 hg0 (by omega) dX8_same_41 ?_
      refine lv_icmp_eq (tgt := 47) hx hb dX8_same_42 (by decide) (fun c23 => ?_) (fun c23 => ?_)
      · have c23 : (((pA (sM st0) f) : Nat) : Int) = (((pA (sM st0) g9) : Nat) : Int) := (i_eq (S.2.1 f (by omega)) (S.2.1 g9 (by omega))).mp c23
        have hpa : pA (sM st0) f = pA (sM st0) g9 := by omega
        refine lv_aload_n hx hb dX8_same_47 rfl (lv_at hl 0 rfl) ?_
        refine lv_aload_n hx hb dX8_same_48 rfl (lv_at hl 0 rfl) ?_
        refine r_get (C := RX8) (T := TX8) (N := 11) (ci := 6) hx hb hts inX8_same_X8 hown w (by have := E.1; omega) E.2.1 rfl 6 (by decide) (hts (Cond.fieldLink RX8 40 "EarlyValues" "values" "LEarlyValues$View;") (List.mem_of_getElem? (i := 3) (by decide +kernel))) rfl rfl dX8_same_49 ?_
        refine r_callQ w (va_runV (As := [.ref (g.2.2.1 (x + 53))]) (rest := []) ⟨hx, hb, hml, hown, hts⟩ (c_X8_solved l E ⟨_, _, _, _, _, _, _, _, _, _, _, V0, hz0⟩ P S hP (by omega)) (cwV 1 hts gX8_same_X8_solved rfl rfl rfl (by decide +kernel) ⟨Nat.le_of_ble_eq_true rfl, Nat.le_of_ble_eq_true rfl⟩) (r_preV w (by have := E.1; omega) E.2.1 rfl) rfl rfl hl.1 rfl (lv_room (Nat.le_of_ble_eq_true rfl)) dX8_same_52 ⟨Nat.zero_le _, Nat.zero_le _⟩) (fun r25 h24 H locs hp w => ?_)
        obtain ⟨hfk26, hrk26, kkk26, kck26, tkk26, dpk26, gpk26, ggk26, gsk26, gdk26, gtk26, gck26, V0, K0, hK0, htk0, hT0⟩ := hp
        subst hrk26
        have E := E.fr (h' := h24) (fun k_ h1_ h2_ h3_ => hfk26 k_ (by omega))
        have P := P.fr (h' := h24) (fun k_ h1_ h2_ => hfk26 k_ (by omega))
        have hfr : ∀ k_, ¬ ((x + 53) ≤ k_ ∧ k_ < (x + 53) + 18) → h24 k_ = h k_ := fun k_ hk_ => (hfk26 k_ (by omega))
        have hz0 : (1 : Int32) = 0 ∨ ((1 : Int32) = 1 ∧ KnK u0 (sM st0) tkk26 gtk26) := Or.inr ⟨rfl, K0, hK0, htk0, hT0⟩
        refine lv_astore_n (lv' := [(3, .ref (g.2.2.1 (x + 53))), (0, .ref (g.2.2.1 x)), (1, .int p0), (2, .int p1)]) hx hb dX8_same_55 rfl hl (by decide) rfl (fun ls hl => ?_)
        refine lv_iconst (v := 0) hx hb dX8_same_56 (by decide) ?_
        refine lv_istore (lv' := [(4, .int 0), (3, .ref (g.2.2.1 (x + 53))), (0, .ref (g.2.2.1 x)), (1, .int p0), (2, .int p1)]) hx hb dX8_same_57 hl (by decide) rfl (fun ls hl => ?_)
        exact ih59 K0 0 0 h24 _ _ _ w (lv_sub hl [2, 3, 4, 1, 0] rfl) hK0 hf0 hf hg0 hg hpa (Nat.zero_le _) ((by decide : (0 : Int32).toInt = ((0 : Nat) : Int))) (fun r_ hr_ => absurd hr_ (Nat.not_lt_zero _)) E P (⟨_, _, _, _, _, _, _, _, _, _, V0, K0, hK0, htk0, hT0⟩) hfr (by omega)
      · have c23 : ¬ ((((pA (sM st0) f) : Nat) : Int) = (((pA (sM st0) g9) : Nat) : Int)) := fun q => c23 ((i_eq (S.2.1 f (by omega)) (S.2.1 g9 (by omega))).mpr q)
        refine lv_iconst (v := 0) hx hb dX8_same_45 (by decide) ?_
        refine r_iret (v := 0) hx hb hr hlocks w dX8_same_46 ?_
        obtain ⟨K9, hK9⟩ := isK_ex (u := 0) (by omega) hP
        subst hu0
        exact ⟨(fun k_ hk_ => hfr k_ (by omega)), ⟨hSV0, ⟨_, E, hkn⟩, (T0.fr (fun k_ a_ b_ => hfr k_ (by omega))), (Q1.fr (fun k_ a_ b_ => hfr k_ (by omega))), ⟨_, _, _, _, _, P, S⟩, (Q2.fr (fun k_ a_ b_ => hfr k_ (by omega))), (fun i_ hi_ => (Q3 i_ hi_).fr (fun k_ a_ b_ => hfr k_ (by omega))), (fun i_ (hi_ : i_ < sV st0) => (Q4 i_ hi_).fr (fun k_ a_ b_ => hfr k_ (by omega))), (H0_.fr (fun k_ a_ b_ => hfr k_ (by omega))), ⟨_, _, _, _, _, _, _, _, _, _, _, V0, hz0⟩, (W1.fr (fun k_ a_ b_ => hfr k_ (by omega))), (W2.fr (fun k_ a_ b_ => hfr k_ (by omega))), (W3.fr (fun k_ a_ b_ => hfr k_ (by omega))), (W4.fr (fun k_ a_ b_ => hfr k_ (by omega)))⟩, Or.inl ⟨f, g9, K9, hf0, hg0, hf, hg, hK9, Bq.f (fun q_ => by have := q_.1; omega)⟩⟩
    · have c22 := b21.eq c22
      refine lv_iconst (v := (-1)) hx hb dX8_same_22 (by decide) ?_
      refine r_iret (v := (-1)) hx hb hr hlocks w dX8_same_23 ?_
      subst hu0
      exact ⟨(fun k_ hk_ => hfr k_ (by omega)), ⟨hSV0, ⟨_, E, hkn⟩, (T0.fr (fun k_ a_ b_ => hfr k_ (by omega))), (Q1.fr (fun k_ a_ b_ => hfr k_ (by omega))), ⟨_, _, _, _, _, P, S⟩, (Q2.fr (fun k_ a_ b_ => hfr k_ (by omega))), (fun i_ hi_ => (Q3 i_ hi_).fr (fun k_ a_ b_ => hfr k_ (by omega))), (fun i_ (hi_ : i_ < sV st0) => (Q4 i_ hi_).fr (fun k_ a_ b_ => hfr k_ (by omega))), (H0_.fr (fun k_ a_ b_ => hfr k_ (by omega))), ⟨_, _, _, _, _, _, _, _, _, _, _, V0, hz0⟩, (W1.fr (fun k_ a_ b_ => hfr k_ (by omega))), (W2.fr (fun k_ a_ b_ => hfr k_ (by omega))), (W3.fr (fun k_ a_ b_ => hfr k_ (by omega))), (W4.fr (fun k_ a_ b_ => hfr k_ (by omega)))⟩, Or.inr ⟨by omega, rfl⟩⟩

theorem inX8_first_X0 : ∀ w ∈ wsX00, w ∈ wsX8_first := by decide +kernel
theorem inX8_first_X4 : ∀ w ∈ wsX40, w ∈ wsX8_first := by decide +kernel
theorem inX8_first_X6 : ∀ w ∈ wsX60, w ∈ wsX8_first := by decide +kernel
theorem inX8_first_X8 : ∀ w ∈ wsX80, w ∈ wsX8_first := by decide +kernel
abbrev rm_X8_first : Room := { frames := 7, cells := 0, slots := 0, locals := 157 }
set_option maxHeartbeats 4000000 in
set_option maxRecDepth 100000 in
theorem c_X8_first (l : Launch) {g : GE} {h : Nat → va_E} {x : Nat} {st0 : ST} (C : ClsA g h x st0) (p0 : Int32) (p1 : Int32) : MI l yX8_first wsX8_first rm_X8_first [.ref (g.2.2.1 x), .int p0, .int p1] g h (fun r_ h2 => (∀ k, ¬ (x ≤ k ∧ k < x + 143) → h2 k = h k) ∧ ClsA g h2 x st0 ∧ AnFirst st0 p0 p1 r_) := by
  refine Met.ofW (cc := cX8_first) (maxL := 7) (ret := (some .int)) (by decide) rfl ?_
  intro p e s m args below meth c s₁ B hml hv
  obtain ⟨rfl, w0⟩ := hv
  have hx := B.exec
  have hb := B.bytes
  have hr := B.returns
  have hts := atoms_spec (ws := wsX8_first) B.pre
  have hown : s.vm.findClass RX8 = some m.cls := findClass_of_methodNamed B.named
  have hlocks := B.notSynchronized
  have w := w0.start
  clear w0
  have hl := lv_entry ([.ref (g.2.2.1 x), .int p0, .int p1]) (n := 7) (Nat.le_of_ble_eq_true rfl)
  rw [lg_entry_eq]
  generalize (lg_sl ([.ref (g.2.2.1 x), .int p0, .int p1]) ++ List.replicate (7 - (lg_sl ([.ref (g.2.2.1 x), .int p0, .int p1])).length) Slot.unset).toArray = ls at hl ⊢
  have hl : lv_has ls 7 [(0, .ref (g.2.2.1 x)), (1, .int p0), (2, .int p1)] := hl
  obtain ⟨hSV, ⟨kn, E, hkn⟩, T0, Q1, P0, Q2, Q3, Q4, H0_, W0, W1, W2, W3, W4⟩ := C
  have hSV0 := hSV
  obtain ⟨hP, hu8, hUP, hv2, hVP, hl200, hlt⟩ := hSV
  have hn4 := hP.2.1
  have hNe := E.1
  obtain ⟨n, ga, gk, gl, gb, P, S⟩ := P0
  have hnS := S.1
  obtain ⟨u0, hu0, W0⟩ : ∃ u_ : Nat, u_ = 0 ∧ VwE g h (x + 53) u_ (sM st0) := ⟨_, rfl, W0⟩
  obtain ⟨kk0, kc0, tk0, fz0, dp0, gp0, gg0, gs0, gd0, gt0, gc0, V0, hz0⟩ := W0
  have hNv0 := V0.hN
  obtain ⟨f, hfd⟩ : ∃ f_ : Nat, f_ = p0.toInt.toNat := ⟨_, rfl⟩
  obtain ⟨v9, hvd⟩ : ∃ f_ : Nat, f_ = p1.toInt.toNat := ⟨_, rfl⟩
  have hfr : ∀ k_, ¬ ((x + 53) ≤ k_ ∧ k_ < (x + 53) + 18) → h k_ = h k_ := fun _ _ => rfl
  have cuts : ∀ N : Nat, (∀ (K : Nat) (row : Nat) (x4 : Int32) (x5 : Int32) (hc : Nat → va_E) (H : Heap) (locs : List Loc) (ls : Array Slot), WD g (inW g) s hc H locs → lv_has ls 7 [(0, .ref (g.2.2.1 x)), (1, .int p0), (2, .int p1), (3, .ref (g.2.2.1 (x + 53))), (4, .int x4), (5, .int x5)] → (IsK u0 (sM st0) K) → (p0.toInt = ((f : Nat) : Int)) → (f < pN (sM st0)) → (p1.toInt = ((v9 : Nat) : Int)) → (v9 ≤ 4) → (row ≤ mRw u0 (sM st0) f) → (x5.toInt = ((row : Nat) : Int)) → (LstQ u0 (mTab u0 (sM st0) K) f v9 row x4.toInt) → (EvA g hc x kn) → (PrA g hc (x + 12) n ga gk gl gb) → (VwS g hc (x + 53) u0 (sM st0)) → (∀ k, ¬ ((x + 53) ≤ k ∧ k < (x + 53) + 18) → hc k = h k) → mRw u0 (sM st0) f - row < N → W p l e (headSpec wsX8_first rm_X8_first).room s m ([.ref (g.2.2.1 x), .int p0, .int p1] : List Value).toArray below meth c H locs 0 0 (MQ below (va_Qi (fun r_ h2 => (∀ k, ¬ (x ≤ k ∧ k < x + 143) → h2 k = h k) ∧ ClsA g h2 x st0 ∧ AnFirst st0 p0 p1 r_) (Wd g) (inW g)) ([.ref (g.2.2.1 x), .int p0, .int p1] : List Value).toArray s 0 0 (inW g)) (F0 m 38 ls [])) := by
    intro N
    induction N with
    | zero => exact by intros; omega
    | succ N ih =>
      have ih38 := ih
      · intro K row x4 x5 hc H locs ls w hl hK hf0 hf hv0 hv4 hrow hx5 hlst E P W0 hfr hN_
        obtain ⟨kk0, kc0, tk0, dp0, gp0, gg0, gs0, gd0, gt0, gc0, V0, K0, hK0, htk0, hT0⟩ := W0
        rw [hK0.inj hK] at hT0 htk0
        have hNv0 := V0.hN
        have hNe := E.1
        have hz0 : (1 : Int32) = 0 ∨ ((1 : Int32) = 1 ∧ KnK u0 (sM st0) tk0 gt0) := Or.inr ⟨rfl, K, hK, htk0, hT0⟩
        have hR := mRw_mR V0.hu hP hf
        have hR5 := mR_le u0
        refine lv_iload hx hb dX8_first_38 (lv_at hl 5 rfl) ?_
        refine lv_aload_n hx hb dX8_first_40 rfl (lv_at hl 3 rfl) ?_
        refine lv_aload_n hx hb dX8_first_41 rfl (lv_at hl 0 rfl) ?_
        refine r_get (C := RX8) (T := TX8) (N := 11) (ci := 6) hx hb hts inX8_first_X8 hown w (by have := E.1; omega) E.2.1 rfl 1 (by decide) (hts (Cond.fieldLink RX8 19 "EarlyValues" "now" "LEarlyValues$Program;") (List.mem_of_getElem? (i := 1) (by decide +kernel))) rfl rfl dX8_first_42 ?_
        refine lv_iload_n hx hb dX8_first_45 rfl (lv_at hl 1 rfl) ?_
        refine r_callI w (va_3 V0.hu (fun q_ => va_runU (As := [.ref (g.2.2.1 (x + 12)), .int p0]) (rest := [.int x5]) ⟨hx, hb, hml, hown, hts⟩ (c_X7_rowsOf l V0 P S hP p0 hf0 (by omega)) (va_cwU 2 hts gX8_first_X7_rowsOf_u169X6 rfl rfl rfl rfl (by decide +kernel) ⟨Nat.le_of_ble_eq_true rfl, Nat.le_of_ble_eq_true rfl⟩) (r_preV w (by have := V0.hN; omega) (V0.ob (by subst q_; rfl)) rfl) rfl rfl hl.1 rfl (lv_room (Nat.le_of_ble_eq_true rfl)) dX8_first_46 ⟨Nat.zero_le _, Nat.zero_le _⟩) (fun q_ => va_runU (As := [.ref (g.2.2.1 (x + 12)), .int p0]) (rest := [.int x5]) ⟨hx, hb, hml, hown, hts⟩ (c_X7_rowsOf l V0 P S hP p0 hf0 (by omega)) (va_cwU 2 hts gX8_first_X7_rowsOf_u169X4 rfl rfl rfl rfl (by decide +kernel) ⟨Nat.le_of_ble_eq_true rfl, Nat.le_of_ble_eq_true rfl⟩) (r_preV w (by have := V0.hN; omega) (V0.ob (by subst q_; rfl)) rfl) rfl rfl hl.1 rfl (lv_room (Nat.le_of_ble_eq_true rfl)) dX8_first_46 ⟨Nat.zero_le _, Nat.zero_le _⟩) (fun q_ => va_runU (As := [.ref (g.2.2.1 (x + 12)), .int p0]) (rest := [.int x5]) ⟨hx, hb, hml, hown, hts⟩ (c_X7_rowsOf l V0 P S hP p0 hf0 (by omega)) (va_cwU 2 hts gX8_first_X7_rowsOf_u169X0 rfl rfl rfl rfl (by decide +kernel) ⟨Nat.le_of_ble_eq_true rfl, Nat.le_of_ble_eq_true rfl⟩) (r_preV w (by have := V0.hN; omega) (V0.ob (by subst q_; rfl)) rfl) rfl rfl hl.1 rfl (lv_room (Nat.le_of_ble_eq_true rfl)) dX8_first_46 ⟨Nat.zero_le _, Nat.zero_le _⟩)) (fun r2 h1 H locs hp w => ?_)
        obtain ⟨eh_, qq3⟩ := hp
        have eh_ := eh_.symm
        subst eh_
        refine lv_icmp_ge (tgt := 124) hx hb dX8_first_49 (by decide) (fun c4 => ?_) (fun c4 => ?_)
        · have c4 : (((mRw u0 (sM st0) f) : Nat) : Int) ≤ ((row : Nat) : Int) := (i_le qq3 hx5).mp c4
          refine lv_iload hx hb dX8_first_124 (lv_at hl 4 rfl) ?_
          refine r_iret (v := x4) hx hb hr hlocks w dX8_first_126 ?_
          subst hu0
          rw [show row = mRw 0 (sM st0) f by omega] at hlst
          exact ⟨(fun k_ hk_ => hfr k_ (by omega)), ⟨hSV0, ⟨_, E, hkn⟩, (T0.fr (fun k_ a_ b_ => hfr k_ (by omega))), (Q1.fr (fun k_ a_ b_ => hfr k_ (by omega))), ⟨_, _, _, _, _, P, S⟩, (Q2.fr (fun k_ a_ b_ => hfr k_ (by omega))), (fun i_ hi_ => (Q3 i_ hi_).fr (fun k_ a_ b_ => hfr k_ (by omega))), (fun i_ (hi_ : i_ < sV st0) => (Q4 i_ hi_).fr (fun k_ a_ b_ => hfr k_ (by omega))), (H0_.fr (fun k_ a_ b_ => hfr k_ (by omega))), ⟨_, _, _, _, _, _, _, _, _, _, _, V0, hz0⟩, (W1.fr (fun k_ a_ b_ => hfr k_ (by omega))), (W2.fr (fun k_ a_ b_ => hfr k_ (by omega))), (W3.fr (fun k_ a_ b_ => hfr k_ (by omega))), (W4.fr (fun k_ a_ b_ => hfr k_ (by omega)))⟩, Or.inl ⟨f, v9, K, hf0, hv0, hf, by omega, hK, first_fin hP hf hlst⟩⟩
        · have c4 : ¬ ((((mRw u0 (sM st0) f) : Nat) : Int) ≤ ((row : Nat) : Int)) := fun q => c4 ((i_le qq3 hx5).mpr q)
          have hrow : row < mRw u0 (sM st0) f := by omega
          have hq1_ := hT0 f row hf hrow
          have hd0_ := mDig_lt u0 row 0
          have hd1_ := mDig_lt u0 row 1
          have hd2_ := mDig_lt u0 row 2
          have hb5_ := mB_le u0
          refine lv_bipush (v := 100) hx hb dX8_first_52 (by decide) ?_
          refine lv_aload_n hx hb dX8_first_54 rfl (lv_at hl 3 rfl) ?_
          refine r_getV hx hb hts ⟨inX8_first_X0, inX8_first_X4, inX8_first_X6⟩ hown w V0.hu (by have := V0.hN; omega) V0.c0 5 (by decide) (hts (Cond.fieldLink RX8 192 "EarlyValues$View" "digits" "[[I") (List.mem_of_getElem? (i := 3) (by decide +kernel))) rfl rfl dX8_first_55 ?_
          refine lv_iconst (v := 0) hx hb dX8_first_58 (by decide) ?_
          refine r_aald (t := 4) (j := 0) hx hb w (by decide) (by have := V0.hN; omega) V0.c4 (by decide : (0 : Int32).toInt = ((0 : Nat) : Int)) (by omega) (rowsF_in (by omega)) dX8_first_59 ?_
          refine lv_iload hx hb dX8_first_60 (lv_at hl 5 rfl) ?_
          refine r_iald (j := row) hx hb w (by have := V0.hN; omega) (V0.c5 (i := 0) (by omega)) hx5 (by omega) dX8_first_62 ?_
          refine lv_imul hx hb dX8_first_63 ?_
          refine lv_topi (fun y5 ey5 => ?_)
          have ty5 : y5.toInt = (((100 * (mDig u0 row 0)) : Nat) : Int) := i_mulN ey5 (by decide : (100 : Int32).toInt = ((100 : Nat) : Int)) (V0.dg 0 row (by omega) (by omega)) (by omega)
          refine lv_bipush (v := 10) hx hb dX8_first_64 (by decide) ?_
          refine lv_aload_n hx hb dX8_first_66 rfl (lv_at hl 3 rfl) ?_
          refine r_getV hx hb hts ⟨inX8_first_X0, inX8_first_X4, inX8_first_X6⟩ hown w V0.hu (by have := V0.hN; omega) V0.c0 5 (by decide) (hts (Cond.fieldLink RX8 192 "EarlyValues$View" "digits" "[[I") (List.mem_of_getElem? (i := 3) (by decide +kernel))) rfl rfl dX8_first_67 ?_
          refine lv_iconst (v := 1) hx hb dX8_first_70 (by decide) ?_
          refine r_aald (t := 4) (j := 1) hx hb w (by decide) (by have := V0.hN; omega) V0.c4 (by decide : (1 : Int32).toInt = ((1 : Nat) : Int)) (by omega) (rowsF_in (by omega)) dX8_first_71 ?_
          refine lv_iload hx hb dX8_first_72 (lv_at hl 5 rfl) ?_
          refine r_iald (j := row) hx hb w (by have := V0.hN; omega) (V0.c5 (i := 1) (by omega)) hx5 (by omega) dX8_first_74 ?_
          refine lv_imul hx hb dX8_first_75 ?_
          refine lv_topi (fun y6 ey6 => ?_)
          have ty6 : y6.toInt = (((10 * (mDig u0 row 1)) : Nat) : Int) := i_mulN ey6 (by decide : (10 : Int32).toInt = ((10 : Nat) : Int)) (V0.dg 1 row (by omega) (by omega)) (by omega)
          refine lv_iadd hx hb dX8_first_76 ?_
          refine lv_topi (fun y7 ey7 => ?_)
          have ty7 : y7.toInt = ((((100 * (mDig u0 row 0)) + (10 * (mDig u0 row 1))) : Nat) : Int) := i_addN ey7 ty5 ty6 (by omega)
          refine lv_aload_n hx hb dX8_first_77 rfl (lv_at hl 3 rfl) ?_
          refine r_getV hx hb hts ⟨inX8_first_X0, inX8_first_X4, inX8_first_X6⟩ hown w V0.hu (by have := V0.hN; omega) V0.c0 5 (by decide) (hts (Cond.fieldLink RX8 192 "EarlyValues$View" "digits" "[[I") (List.mem_of_getElem? (i := 3) (by decide +kernel))) rfl rfl dX8_first_78 ?_
          refine lv_iconst (v := 2) hx hb dX8_first_81 (by decide) ?_
          refine r_aald (t := 4) (j := 2) hx hb w (by decide) (by have := V0.hN; omega) V0.c4 (by decide : (2 : Int32).toInt = ((2 : Nat) : Int)) (by omega) (rowsF_in (by omega)) dX8_first_82 ?_
          refine lv_iload hx hb dX8_first_83 (lv_at hl 5 rfl) ?_
          refine r_iald (j := row) hx hb w (by have := V0.hN; omega) (V0.c5 (i := 2) (by omega)) hx5 (by omega) dX8_first_85 ?_
          refine lv_iadd hx hb dX8_first_86 ?_
          refine lv_topi (fun y8 ey8 => ?_)
          have ty8 : y8.toInt = (((((100 * (mDig u0 row 0)) + (10 * (mDig u0 row 1))) + (mDig u0 row 2)) : Nat) : Int) := i_addN ey8 ty7 (V0.dg 2 row (by omega) (by omega)) (by omega)
          refine lv_istore (lv' := [(6, .int y8), (0, .ref (g.2.2.1 x)), (1, .int p0), (2, .int p1), (3, .ref (g.2.2.1 (x + 53))), (4, .int x4), (5, .int x5)]) hx hb dX8_first_87 hl (by decide) rfl (fun ls hl => ?_)
          refine lv_aload_n hx hb dX8_first_89 rfl (lv_at hl 4 rfl) ?_
          refine lv_iload_n hx hb dX8_first_90 rfl (lv_at hl 2 rfl) ?_
          refine lv_iload hx hb dX8_first_91 (lv_at hl 6 rfl) ?_
          refine r_callI w (va_3 V0.hu (fun q_ => va_runU (As := [.int p0, .int x5]) (rest := []) ⟨hx, hb, hml, hown, hts⟩ (c_X7_at l V0 p0 x5 hf0 hx5 (by omega) (by omega)) (va_cwU 2 hts gX8_first_X7_at_u165X6 rfl rfl rfl rfl (by decide +kernel) ⟨Nat.le_of_ble_eq_true rfl, Nat.le_of_ble_eq_true rfl⟩) (r_preV w (by have := V0.hN; omega) (V0.ob (by subst q_; rfl)) rfl) rfl rfl hl.1 rfl (lv_room (Nat.le_of_ble_eq_true rfl)) dX8_first_93 ⟨Nat.zero_le _, Nat.zero_le _⟩) (fun q_ => va_runU (As := [.int p0, .int x5]) (rest := []) ⟨hx, hb, hml, hown, hts⟩ (c_X7_at l V0 p0 x5 hf0 hx5 (by omega) (by omega)) (va_cwU 2 hts gX8_first_X7_at_u165X4 rfl rfl rfl rfl (by decide +kernel) ⟨Nat.le_of_ble_eq_true rfl, Nat.le_of_ble_eq_true rfl⟩) (r_preV w (by have := V0.hN; omega) (V0.ob (by subst q_; rfl)) rfl) rfl rfl hl.1 rfl (lv_room (Nat.le_of_ble_eq_true rfl)) dX8_first_93 ⟨Nat.zero_le _, Nat.zero_le _⟩) (fun q_ => va_runU (As := [.int p0, .int x5]) (rest := []) ⟨hx, hb, hml, hown, hts⟩ (c_X7_at l V0 p0 x5 hf0 hx5 (by omega) (by omega)) (va_cwU 2 hts gX8_first_X7_at_u165X0 rfl rfl rfl rfl (by decide +kernel) ⟨Nat.le_of_ble_eq_true rfl, Nat.le_of_ble_eq_true rfl⟩) (r_preV w (by have := V0.hN; omega) (V0.ob (by subst q_; rfl)) rfl) rfl rfl hl.1 rfl (lv_room (Nat.le_of_ble_eq_true rfl)) dX8_first_93 ⟨Nat.zero_le _, Nat.zero_le _⟩)) (fun r10 h9 H locs hp w => ?_)
          obtain ⟨eh_, qq11⟩ := hp
          have eh_ := eh_.symm
          subst eh_
          subst qq11
          refine lv_iload_n hx hb dX8_first_96 rfl (lv_at hl 3 rfl) ?_
          refine lv_icmp_ne (tgt := 118) hx hb dX8_first_97 (by decide) (fun c12 => ?_) (fun c12 => ?_)
          · have c12 : ¬ ((gt0 f row).toInt = ((v9 : Nat) : Int)) := fun q => c12 ((i_eq rfl hv0).mpr q)
            obtain ⟨y13, ey13⟩ : ∃ y : Int32, y = x5 + (1) := ⟨_, rfl⟩
            have ty13 : y13.toInt = (((row + 1) : Nat) : Int) := i_addN ey13 hx5 (by decide : (1 : Int32).toInt = ((1 : Nat) : Int)) (by omega)
            refine lv_iinc (v := y13) (lv' := [(5, .int y13), (6, .int y8), (0, .ref (g.2.2.1 x)), (1, .int p0), (2, .int p1), (3, .ref (g.2.2.1 (x + 53))), (4, .int x4)]) hx hb dX8_first_118 hl (k := 6) rfl (by rw [ey13]; rfl) (by decide) rfl (fun ls hl => ?_)
            refine lv_goto (tgt := 38) hx hb dX8_first_121 (by decide) ?_
            exact ih38 K (row + 1) x4 y13 hc _ _ _ w (lv_sub hl [2, 3, 4, 5, 6, 0] rfl) hK hf0 hf hv0 hv4 (by omega) ty13 (hlst.no (by omega)) E P (⟨_, _, _, _, _, _, _, _, _, _, V0, K, hK, htk0, hT0⟩) hfr (by omega)
          · have c12 : (gt0 f row).toInt = ((v9 : Nat) : Int) := (i_eq rfl hv0).mp c12
            refine lv_iload hx hb dX8_first_100 (lv_at hl 5 rfl) ?_
            refine lv_bipush (v := (-4)) hx hb dX8_first_102 (by decide) ?_
            refine lv_icmp_eq (tgt := 114) hx hb dX8_first_104 (by decide) (fun c14 => ?_) (fun c14 => ?_)
            · have c14 : x4.toInt = (-4 : Int) := (i_eq (rfl : x4.toInt = x4.toInt) (by decide : (-4 : Int32).toInt = (-4 : Int))).mp c14
              refine lv_iload hx hb dX8_first_114 (lv_at hl 0 rfl) ?_
              refine lv_istore (lv' := [(4, .int y8), (6, .int y8), (0, .ref (g.2.2.1 x)), (1, .int p0), (2, .int p1), (3, .ref (g.2.2.1 (x + 53))), (5, .int x5)]) hx hb dX8_first_116 hl (by decide) rfl (fun ls hl => ?_)
              obtain ⟨y15, ey15⟩ : ∃ y : Int32, y = x5 + (1) := ⟨_, rfl⟩
              have ty15 : y15.toInt = (((row + 1) : Nat) : Int) := i_addN ey15 hx5 (by decide : (1 : Int32).toInt = ((1 : Nat) : Int)) (by omega)
              refine lv_iinc (v := y15) (lv' := [(5, .int y15), (4, .int y8), (6, .int y8), (0, .ref (g.2.2.1 x)), (1, .int p0), (2, .int p1), (3, .ref (g.2.2.1 (x + 53)))]) hx hb dX8_first_118 hl (k := 6) rfl (by rw [ey15]; rfl) (by decide) rfl (fun ls hl => ?_)
              refine lv_goto (tgt := 38) hx hb dX8_first_121 (by decide) ?_
              exact ih38 K (row + 1) y8 y15 hc _ _ _ w (lv_sub hl [3, 4, 5, 6, 1, 0] rfl) hK hf0 hf hv0 hv4 (by omega) ty15 (by have q_ := hlst.up (by omega) (by unfold told; omega); unfold told at q_; rw [ty8]; exact q_) E P (⟨_, _, _, _, _, _, _, _, _, _, V0, K, hK, htk0, hT0⟩) hfr (by omega)
            · have c14 : ¬ (x4.toInt = (-4 : Int)) := fun q => c14 ((i_eq (rfl : x4.toInt = x4.toInt) (by decide : (-4 : Int32).toInt = (-4 : Int))).mpr q)
              refine lv_iload hx hb dX8_first_107 (lv_at hl 0 rfl) ?_
              refine lv_iload hx hb dX8_first_109 (lv_at hl 5 rfl) ?_
              refine lv_icmp_ge (tgt := 118) hx hb dX8_first_111 (by decide) (fun c16 => ?_) (fun c16 => ?_)
              · have c16 : x4.toInt ≤ (((((100 * (mDig u0 row 0)) + (10 * (mDig u0 row 1))) + (mDig u0 row 2)) : Nat) : Int) := (i_le (rfl : x4.toInt = x4.toInt) ty8).mp c16
                obtain ⟨y17, ey17⟩ : ∃ y : Int32, y = x5 + (1) := ⟨_, rfl⟩
                have ty17 : y17.toInt = (((row + 1) : Nat) : Int) := i_addN ey17 hx5 (by decide : (1 : Int32).toInt = ((1 : Nat) : Int)) (by omega)
                refine lv_iinc (v := y17) (lv' := [(5, .int y17), (6, .int y8), (0, .ref (g.2.2.1 x)), (1, .int p0), (2, .int p1), (3, .ref (g.2.2.1 (x + 53))), (4, .int x4)]) hx hb dX8_first_118 hl (k := 6) rfl (by rw [ey17]; rfl) (by decide) rfl (fun ls hl => ?_)
                refine lv_goto (tgt := 38) hx hb dX8_first_121 (by decide) ?_
                exact ih38 K (row + 1) x4 y17 hc _ _ _ w (lv_sub hl [2, 3, 4, 5, 6, 0] rfl) hK hf0 hf hv0 hv4 (by omega) ty17 (hlst.keep (by omega) (by unfold told; omega)) E P (⟨_, _, _, _, _, _, _, _, _, _, V0, K, hK, htk0, hT0⟩) hfr (by omega)
              · have c16 : ¬ (x4.toInt ≤ (((((100 * (mDig u0 row 0)) + (10 * (mDig u0 row 1))) + (mDig u0 row 2)) : Nat) : Int)) := fun q => c16 ((i_le (rfl : x4.toInt = x4.toInt) ty8).mpr q)
                refine lv_iload hx hb dX8_first_114 (lv_at hl 0 rfl) ?_
                refine lv_istore (lv' := [(4, .int y8), (6, .int y8), (0, .ref (g.2.2.1 x)), (1, .int p0), (2, .int p1), (3, .ref (g.2.2.1 (x + 53))), (5, .int x5)]) hx hb dX8_first_116 hl (by decide) rfl (fun ls hl => ?_)
                obtain ⟨y18, ey18⟩ : ∃ y : Int32, y = x5 + (1) := ⟨_, rfl⟩
                have ty18 : y18.toInt = (((row + 1) : Nat) : Int) := i_addN ey18 hx5 (by decide : (1 : Int32).toInt = ((1 : Nat) : Int)) (by omega)
                refine lv_iinc (v := y18) (lv' := [(5, .int y18), (4, .int y8), (6, .int y8), (0, .ref (g.2.2.1 x)), (1, .int p0), (2, .int p1), (3, .ref (g.2.2.1 (x + 53)))]) hx hb dX8_first_118 hl (k := 6) rfl (by rw [ey18]; rfl) (by decide) rfl (fun ls hl => ?_)
                refine lv_goto (tgt := 38) hx hb dX8_first_121 (by decide) ?_
                exact ih38 K (row + 1) y8 y18 hc _ _ _ w (lv_sub hl [3, 4, 5, 6, 1, 0] rfl) hK hf0 hf hv0 hv4 (by omega) ty18 (by have q_ := hlst.up (by omega) (by unfold told; omega); unfold told at q_; rw [ty8]; exact q_) E P (⟨_, _, _, _, _, _, _, _, _, _, V0, K, hK, htk0, hT0⟩) hfr (by omega)
  have ih38 := cuts (200)
  refine lv_aload_n hx hb dX8_first_0 rfl (lv_at hl 0 rfl) ?_
  refine r_get (C := RX8) (T := TX8) (N := 11) (ci := 6) hx hb hts inX8_first_X8 hown w (by have := E.1; omega) E.2.1 rfl 1 (by decide) (hts (Cond.fieldLink RX8 19 "EarlyValues" "now" "LEarlyValues$Program;") (List.mem_of_getElem? (i := 1) (by decide +kernel))) rfl rfl dX8_first_1 ?_
  refine lv_iload_n hx hb dX8_first_4 rfl (lv_at hl 1 rfl) ?_
  refine r_callI w (va_runV (As := [.int p0]) (rest := []) ⟨hx, hb, hml, hown, hts⟩ (c_X3_has l P p0) (cwV 1 hts gX8_first_X3_has rfl rfl rfl (by decide +kernel) ⟨Nat.le_of_ble_eq_true rfl, Nat.le_of_ble_eq_true rfl⟩) (r_preV w (by have := P.1; omega) P.c0 rfl) rfl rfl hl.1 rfl (lv_room (Nat.le_of_ble_eq_true rfl)) dX8_first_5 ⟨Nat.zero_le _, Nat.zero_le _⟩) (fun r20 h19 H locs hp w => ?_)
  obtain ⟨eh_, qq21⟩ := hp
  have eh_ := eh_.symm
  subst eh_
  have b22 : Bq r20 (0 ≤ p0.toInt ∧ p0.toInt < (((pN (sM st0)) : Nat) : Int)) := qq21.iff (by rw [((rfl : p0.toInt = p0.toInt) : p0.toInt = _), (S.1 : n.toInt = _)])
  refine lv_if_eq (tgt := 20) hx hb dX8_first_8 (by decide) (fun c23 => ?_) (fun c23 => ?_)
  · have c23 := b22.eq c23
    refine lv_iconst (v := (-1)) hx hb dX8_first_20 (by decide) ?_
    refine r_iret (v := (-1)) hx hb hr hlocks w dX8_first_21 ?_
    subst hu0
    exact ⟨(fun k_ hk_ => hfr k_ (by omega)), ⟨hSV0, ⟨_, E, hkn⟩, (T0.fr (fun k_ a_ b_ => hfr k_ (by omega))), (Q1.fr (fun k_ a_ b_ => hfr k_ (by omega))), ⟨_, _, _, _, _, P, S⟩, (Q2.fr (fun k_ a_ b_ => hfr k_ (by omega))), (fun i_ hi_ => (Q3 i_ hi_).fr (fun k_ a_ b_ => hfr k_ (by omega))), (fun i_ (hi_ : i_ < sV st0) => (Q4 i_ hi_).fr (fun k_ a_ b_ => hfr k_ (by omega))), (H0_.fr (fun k_ a_ b_ => hfr k_ (by omega))), ⟨_, _, _, _, _, _, _, _, _, _, _, V0, hz0⟩, (W1.fr (fun k_ a_ b_ => hfr k_ (by omega))), (W2.fr (fun k_ a_ b_ => hfr k_ (by omega))), (W3.fr (fun k_ a_ b_ => hfr k_ (by omega))), (W4.fr (fun k_ a_ b_ => hfr k_ (by omega)))⟩, Or.inr ⟨by omega, rfl⟩⟩
  · have c23 := b22.ne c23
    have hf0 : p0.toInt = ((f : Nat) : Int) := by omega
    have hf : f < pN (sM st0) := by omega
    obtain ⟨ha3, hk3, hl1, hl24, hpl, hd0⟩ := hP.2.2 f hf
    refine lv_iload_n hx hb dX8_first_11 rfl (lv_at hl 2 rfl) ?_
    refine lv_if_lt (tgt := 20) hx hb dX8_first_12 (by decide) (fun c24 => ?_) (fun c24 => ?_)
    · have c24 : p1.toInt < (0 : Int) := (i_lt (rfl : p1.toInt = p1.toInt) (rfl : (0 : Int32).toInt = 0)).mp c24
      refine lv_iconst (v := (-1)) hx hb dX8_first_20 (by decide) ?_
      refine r_iret (v := (-1)) hx hb hr hlocks w dX8_first_21 ?_
      subst hu0
      exact ⟨(fun k_ hk_ => hfr k_ (by omega)), ⟨hSV0, ⟨_, E, hkn⟩, (T0.fr (fun k_ a_ b_ => hfr k_ (by omega))), (Q1.fr (fun k_ a_ b_ => hfr k_ (by omega))), ⟨_, _, _, _, _, P, S⟩, (Q2.fr (fun k_ a_ b_ => hfr k_ (by omega))), (fun i_ hi_ => (Q3 i_ hi_).fr (fun k_ a_ b_ => hfr k_ (by omega))), (fun i_ (hi_ : i_ < sV st0) => (Q4 i_ hi_).fr (fun k_ a_ b_ => hfr k_ (by omega))), (H0_.fr (fun k_ a_ b_ => hfr k_ (by omega))), ⟨_, _, _, _, _, _, _, _, _, _, _, V0, hz0⟩, (W1.fr (fun k_ a_ b_ => hfr k_ (by omega))), (W2.fr (fun k_ a_ b_ => hfr k_ (by omega))), (W3.fr (fun k_ a_ b_ => hfr k_ (by omega))), (W4.fr (fun k_ a_ b_ => hfr k_ (by omega)))⟩, Or.inr ⟨by omega, rfl⟩⟩
    · have c24 : ¬ (p1.toInt < (0 : Int)) := fun q => c24 ((i_lt (rfl : p1.toInt = p1.toInt) (rfl : (0 : Int32).toInt = 0)).mpr q)
      refine lv_iload_n hx hb dX8_first_15 rfl (lv_at hl 2 rfl) ?_
      refine lv_iconst (v := 4) hx hb dX8_first_16 (by decide) ?_
      refine lv_icmp_le (tgt := 22) hx hb dX8_first_17 (by decide) (fun c25 => ?_) (fun c25 => ?_)
      · have c25 : p1.toInt ≤ ((4 : Nat) : Int) := (i_le (rfl : p1.toInt = p1.toInt) (by decide : (4 : Int32).toInt = ((4 : Nat) : Int))).mp c25
        have hv0 : p1.toInt = ((v9 : Nat) : Int) := by omega
        have hv4 : v9 ≤ 4 := by omega
        have hR_ := mRw_mR V0.hu hP hf
        have hR5_ := mR_le u0
        refine lv_aload_n hx hb dX8_first_22 rfl (lv_at hl 0 rfl) ?_
        refine lv_aload_n hx hb dX8_first_23 rfl (lv_at hl 0 rfl) ?_
        refine r_get (C := RX8) (T := TX8) (N := 11) (ci := 6) hx hb hts inX8_first_X8 hown w (by have := E.1; omega) E.2.1 rfl 6 (by decide) (hts (Cond.fieldLink RX8 40 "EarlyValues" "values" "LEarlyValues$View;") (List.mem_of_getElem? (i := 2) (by decide +kernel))) rfl rfl dX8_first_24 ?_
        refine r_callQ w (va_runV (As := [.ref (g.2.2.1 (x + 53))]) (rest := []) ⟨hx, hb, hml, hown, hts⟩ (c_X8_solved l E ⟨_, _, _, _, _, _, _, _, _, _, _, V0, hz0⟩ P S hP (by omega)) (cwV 1 hts gX8_first_X8_solved rfl rfl rfl (by decide +kernel) ⟨Nat.le_of_ble_eq_true rfl, Nat.le_of_ble_eq_true rfl⟩) (r_preV w (by have := E.1; omega) E.2.1 rfl) rfl rfl hl.1 rfl (lv_room (Nat.le_of_ble_eq_true rfl)) dX8_first_27 ⟨Nat.zero_le _, Nat.zero_le _⟩) (fun r27 h26 H locs hp w => ?_)
        obtain ⟨hfk28, hrk28, kkk28, kck28, tkk28, dpk28, gpk28, ggk28, gsk28, gdk28, gtk28, gck28, V0, K0, hK0, htk0, hT0⟩ := hp
        subst hrk28
        have E := E.fr (h' := h26) (fun k_ h1_ h2_ h3_ => hfk28 k_ (by omega))
        have P := P.fr (h' := h26) (fun k_ h1_ h2_ => hfk28 k_ (by omega))
        have hfr : ∀ k_, ¬ ((x + 53) ≤ k_ ∧ k_ < (x + 53) + 18) → h26 k_ = h k_ := fun k_ hk_ => (hfk28 k_ (by omega))
        have hz0 : (1 : Int32) = 0 ∨ ((1 : Int32) = 1 ∧ KnK u0 (sM st0) tkk28 gtk28) := Or.inr ⟨rfl, K0, hK0, htk0, hT0⟩
        refine lv_astore_n (lv' := [(3, .ref (g.2.2.1 (x + 53))), (0, .ref (g.2.2.1 x)), (1, .int p0), (2, .int p1)]) hx hb dX8_first_30 rfl hl (by decide) rfl (fun ls hl => ?_)
        refine lv_bipush (v := (-4)) hx hb dX8_first_31 (by decide) ?_
        refine lv_istore (lv' := [(4, .int ((-4))), (3, .ref (g.2.2.1 (x + 53))), (0, .ref (g.2.2.1 x)), (1, .int p0), (2, .int p1)]) hx hb dX8_first_33 hl (by decide) rfl (fun ls hl => ?_)
        refine lv_iconst (v := 0) hx hb dX8_first_35 (by decide) ?_
        refine lv_istore (lv' := [(5, .int 0), (4, .int ((-4))), (3, .ref (g.2.2.1 (x + 53))), (0, .ref (g.2.2.1 x)), (1, .int p0), (2, .int p1)]) hx hb dX8_first_36 hl (by decide) rfl (fun ls hl => ?_)
        exact ih38 K0 0 ((-4)) 0 h26 _ _ _ w (lv_sub hl [3, 4, 5, 2, 1, 0] rfl) hK0 hf0 hf hv0 hv4 (Nat.zero_le _) ((by decide : (0 : Int32).toInt = ((0 : Nat) : Int))) LstQ.z E P (⟨_, _, _, _, _, _, _, _, _, _, V0, K0, hK0, htk0, hT0⟩) hfr (by omega)
      · have c25 : ¬ (p1.toInt ≤ ((4 : Nat) : Int)) := fun q => c25 ((i_le (rfl : p1.toInt = p1.toInt) (by decide : (4 : Int32).toInt = ((4 : Nat) : Int))).mpr q)
        refine lv_iconst (v := (-1)) hx hb dX8_first_20 (by decide) ?_
        refine r_iret (v := (-1)) hx hb hr hlocks w dX8_first_21 ?_
        subst hu0
        exact ⟨(fun k_ hk_ => hfr k_ (by omega)), ⟨hSV0, ⟨_, E, hkn⟩, (T0.fr (fun k_ a_ b_ => hfr k_ (by omega))), (Q1.fr (fun k_ a_ b_ => hfr k_ (by omega))), ⟨_, _, _, _, _, P, S⟩, (Q2.fr (fun k_ a_ b_ => hfr k_ (by omega))), (fun i_ hi_ => (Q3 i_ hi_).fr (fun k_ a_ b_ => hfr k_ (by omega))), (fun i_ (hi_ : i_ < sV st0) => (Q4 i_ hi_).fr (fun k_ a_ b_ => hfr k_ (by omega))), (H0_.fr (fun k_ a_ b_ => hfr k_ (by omega))), ⟨_, _, _, _, _, _, _, _, _, _, _, V0, hz0⟩, (W1.fr (fun k_ a_ b_ => hfr k_ (by omega))), (W2.fr (fun k_ a_ b_ => hfr k_ (by omega))), (W3.fr (fun k_ a_ b_ => hfr k_ (by omega))), (W4.fr (fun k_ a_ b_ => hfr k_ (by omega)))⟩, Or.inr ⟨by omega, rfl⟩⟩

theorem inX8_frontier_X8 : ∀ w ∈ wsX80, w ∈ wsX8_frontier := by decide +kernel
abbrev rm_X8_frontier : Room := { frames := 7, cells := 0, slots := 0, locals := 157 }
set_option maxHeartbeats 4000000 in
set_option maxRecDepth 100000 in
theorem c_X8_frontier (l : Launch) {g : GE} {h : Nat → va_E} {x : Nat} {st0 : ST} (C : ClsA g h x st0) (p0 : Int32) (p1 : Int32) : MI l yX8_frontier wsX8_frontier rm_X8_frontier [.ref (g.2.2.1 x), .int p0, .int p1] g h (fun r_ h2 => (∀ k, ¬ (x ≤ k ∧ k < x + 143) → h2 k = h k) ∧ ClsA g h2 x st0 ∧ AnFrontier st0 p0 p1 r_) := by
  refine Met.ofW (cc := cX8_frontier) (maxL := 6) (ret := (some .int)) (by decide) rfl ?_
  intro p e s m args below meth c s₁ B hml hv
  obtain ⟨rfl, w0⟩ := hv
  have hx := B.exec
  have hb := B.bytes
  have hr := B.returns
  have hts := atoms_spec (ws := wsX8_frontier) B.pre
  have hown : s.vm.findClass RX8 = some m.cls := findClass_of_methodNamed B.named
  have hlocks := B.notSynchronized
  have w := w0.start
  clear w0
  have hl := lv_entry ([.ref (g.2.2.1 x), .int p0, .int p1]) (n := 6) (Nat.le_of_ble_eq_true rfl)
  rw [lg_entry_eq]
  generalize (lg_sl ([.ref (g.2.2.1 x), .int p0, .int p1]) ++ List.replicate (6 - (lg_sl ([.ref (g.2.2.1 x), .int p0, .int p1])).length) Slot.unset).toArray = ls at hl ⊢
  have hl : lv_has ls 6 [(0, .ref (g.2.2.1 x)), (1, .int p0), (2, .int p1)] := hl
  obtain ⟨hSV, ⟨kn, E, hkn⟩, T0, Q1, P0, Q2, Q3, Q4, H0_, W0, W1, W2, W3, W4⟩ := C
  have hSV0 := hSV
  obtain ⟨hP, hu8, hUP, hv2, hVP, hl200, hlt⟩ := hSV
  have hn4 := hP.2.1
  have hNe := E.1
  obtain ⟨n, ga, gk, gl, gb, P, S⟩ := P0
  have hnS := S.1
  obtain ⟨u1, hu1, W1⟩ : ∃ u_ : Nat, u_ = 1 ∧ VwE g h (x + 71) u_ (sM st0) := ⟨_, rfl, W1⟩
  obtain ⟨kk1, kc1, tk1, fz1, dp1, gp1, gg1, gs1, gd1, gt1, gc1, V1, hz1⟩ := W1
  have hNv1 := V1.hN
  obtain ⟨f, hfd⟩ : ∃ f_ : Nat, f_ = p0.toInt.toNat := ⟨_, rfl⟩
  have hfr : ∀ k_, ¬ ((x + 71) ≤ k_ ∧ k_ < (x + 71) + 18) → h k_ = h k_ := fun _ _ => rfl
  have cuts : ∀ N : Nat, (∀ (K : Nat) (b9 : Nat) (x4 : Int32) (x5 : Int32) (hc : Nat → va_E) (H : Heap) (locs : List Loc) (ls : Array Slot), WD g (inW g) s hc H locs → lv_has ls 6 [(0, .ref (g.2.2.1 x)), (1, .int p0), (2, .int p1), (3, .ref (g.2.2.1 (x + 71))), (4, .int x4), (5, .int x5)] → (IsK u1 (sM st0) K) → (p0.toInt = ((f : Nat) : Int)) → (f < pN (sM st0)) → (-1 ≤ p1.toInt) → (b9 ≤ mRw u1 (sM st0) f) → (x4.toInt = (((sm (fF (mTab u1 (sM st0) K) f) b9) : Nat) : Int)) → (x5.toInt = ((b9 : Nat) : Int)) → (∀ b_, b_ < b9 → fF (mTab u1 (sM st0) K) f b_ = 1 → ((sm (fF (mTab u1 (sM st0) K) f) b_ : Nat) : Int) ≠ p1.toInt) → (EvA g hc x kn) → (PrA g hc (x + 12) n ga gk gl gb) → (VwS g hc (x + 71) u1 (sM st0)) → (∀ k, ¬ ((x + 71) ≤ k ∧ k < (x + 71) + 18) → hc k = h k) → 9 - b9 < N → W p l e (headSpec wsX8_frontier rm_X8_frontier).room s m ([.ref (g.2.2.1 x), .int p0, .int p1] : List Value).toArray below meth c H locs 0 0 (MQ below (va_Qi (fun r_ h2 => (∀ k, ¬ (x ≤ k ∧ k < x + 143) → h2 k = h k) ∧ ClsA g h2 x st0 ∧ AnFrontier st0 p0 p1 r_) (Wd g) (inW g)) ([.ref (g.2.2.1 x), .int p0, .int p1] : List Value).toArray s 0 0 (inW g)) (F0 m 33 ls [])) := by
    intro N
    induction N with
    | zero => exact by intros; omega
    | succ N ih =>
      have ih33 := ih
      · intro K b9 x4 x5 hc H locs ls w hl hK hf0 hf hk1 hb9 hx4 hx5 hno E P W1 hfr hN_
        obtain ⟨kk1, kc1, tk1, dp1, gp1, gg1, gs1, gd1, gt1, gc1, V1, K1, hK1, htk1, hT1⟩ := W1
        rw [hK1.inj hK] at hT1 htk1
        have hNv1 := V1.hN
        have hNe := E.1
        have hz1 : (1 : Int32) = 0 ∨ ((1 : Int32) = 1 ∧ KnK u1 (sM st0) tk1 gt1) := Or.inr ⟨rfl, K, hK, htk1, hT1⟩
        have hR := mRw_mR V1.hu hP hf
        have hR8 : mRw u1 (sM st0) f ≤ 8 := by rw [hu1]; exact rows_1 hP hf
        refine lv_iload hx hb dX8_frontier_33 (lv_at hl 5 rfl) ?_
        refine lv_aload_n hx hb dX8_frontier_35 rfl (lv_at hl 3 rfl) ?_
        refine lv_aload_n hx hb dX8_frontier_36 rfl (lv_at hl 0 rfl) ?_
        refine r_get (C := RX8) (T := TX8) (N := 11) (ci := 6) hx hb hts inX8_frontier_X8 hown w (by have := E.1; omega) E.2.1 rfl 1 (by decide) (hts (Cond.fieldLink RX8 19 "EarlyValues" "now" "LEarlyValues$Program;") (List.mem_of_getElem? (i := 1) (by decide +kernel))) rfl rfl dX8_frontier_37 ?_
        refine lv_iload_n hx hb dX8_frontier_40 rfl (lv_at hl 1 rfl) ?_
        refine r_callI w (va_3 V1.hu (fun q_ => va_runU (As := [.ref (g.2.2.1 (x + 12)), .int p0]) (rest := [.int x5]) ⟨hx, hb, hml, hown, hts⟩ (c_X7_rowsOf l V1 P S hP p0 hf0 (by omega)) (va_cwU 2 hts gX8_frontier_X7_rowsOf_u169X6 rfl rfl rfl rfl (by decide +kernel) ⟨Nat.le_of_ble_eq_true rfl, Nat.le_of_ble_eq_true rfl⟩) (r_preV w (by have := V1.hN; omega) (V1.ob (by subst q_; rfl)) rfl) rfl rfl hl.1 rfl (lv_room (Nat.le_of_ble_eq_true rfl)) dX8_frontier_41 ⟨Nat.zero_le _, Nat.zero_le _⟩) (fun q_ => va_runU (As := [.ref (g.2.2.1 (x + 12)), .int p0]) (rest := [.int x5]) ⟨hx, hb, hml, hown, hts⟩ (c_X7_rowsOf l V1 P S hP p0 hf0 (by omega)) (va_cwU 2 hts gX8_frontier_X7_rowsOf_u169X4 rfl rfl rfl rfl (by decide +kernel) ⟨Nat.le_of_ble_eq_true rfl, Nat.le_of_ble_eq_true rfl⟩) (r_preV w (by have := V1.hN; omega) (V1.ob (by subst q_; rfl)) rfl) rfl rfl hl.1 rfl (lv_room (Nat.le_of_ble_eq_true rfl)) dX8_frontier_41 ⟨Nat.zero_le _, Nat.zero_le _⟩) (fun q_ => va_runU (As := [.ref (g.2.2.1 (x + 12)), .int p0]) (rest := [.int x5]) ⟨hx, hb, hml, hown, hts⟩ (c_X7_rowsOf l V1 P S hP p0 hf0 (by omega)) (va_cwU 2 hts gX8_frontier_X7_rowsOf_u169X0 rfl rfl rfl rfl (by decide +kernel) ⟨Nat.le_of_ble_eq_true rfl, Nat.le_of_ble_eq_true rfl⟩) (r_preV w (by have := V1.hN; omega) (V1.ob (by subst q_; rfl)) rfl) rfl rfl hl.1 rfl (lv_room (Nat.le_of_ble_eq_true rfl)) dX8_frontier_41 ⟨Nat.zero_le _, Nat.zero_le _⟩)) (fun r2 h1 H locs hp w => ?_)
        obtain ⟨eh_, qq3⟩ := hp
        have eh_ := eh_.symm
        subst eh_
        refine lv_icmp_ge (tgt := 76) hx hb dX8_frontier_44 (by decide) (fun c4 => ?_) (fun c4 => ?_)
        · have c4 : (((mRw u1 (sM st0) f) : Nat) : Int) ≤ ((b9 : Nat) : Int) := (i_le qq3 hx5).mp c4
          refine lv_iload_n hx hb dX8_frontier_76 rfl (lv_at hl 2 rfl) ?_
          refine lv_iconst (v := (-1)) hx hb dX8_frontier_77 (by decide) ?_
          refine lv_icmp_ne (tgt := 86) hx hb dX8_frontier_78 (by decide) (fun c5 => ?_) (fun c5 => ?_)
          · have c5 : ¬ (p1.toInt = (-1 : Int)) := fun q => c5 ((i_eq (rfl : p1.toInt = p1.toInt) (by decide : (-1 : Int32).toInt = (-1 : Int))).mpr q)
            refine lv_bipush (v := (-4)) hx hb dX8_frontier_86 (by decide) ?_
            refine r_iret (v := (-4)) hx hb hr hlocks w dX8_frontier_88 ?_
            subst hu1
            exact ⟨(fun k_ hk_ => hfr k_ (by omega)), ⟨hSV0, ⟨_, E, hkn⟩, (T0.fr (fun k_ a_ b_ => hfr k_ (by omega))), (Q1.fr (fun k_ a_ b_ => hfr k_ (by omega))), ⟨_, _, _, _, _, P, S⟩, (Q2.fr (fun k_ a_ b_ => hfr k_ (by omega))), (fun i_ hi_ => (Q3 i_ hi_).fr (fun k_ a_ b_ => hfr k_ (by omega))), (fun i_ (hi_ : i_ < sV st0) => (Q4 i_ hi_).fr (fun k_ a_ b_ => hfr k_ (by omega))), (H0_.fr (fun k_ a_ b_ => hfr k_ (by omega))), (W0.fr (fun k_ a_ b_ => hfr k_ (by omega))), ⟨_, _, _, _, _, _, _, _, _, _, _, V1, hz1⟩, (W2.fr (fun k_ a_ b_ => hfr k_ (by omega))), (W3.fr (fun k_ a_ b_ => hfr k_ (by omega))), (W4.fr (fun k_ a_ b_ => hfr k_ (by omega)))⟩, Or.inl ⟨f, K, hf0, hf, hK, Or.inr ⟨by omega, Or.inr ⟨fun b_ hb_ h1_ => hno b_ (by omega) h1_, rfl⟩⟩⟩⟩
          · have c5 : p1.toInt = (-1 : Int) := (i_eq (rfl : p1.toInt = p1.toInt) (by decide : (-1 : Int32).toInt = (-1 : Int))).mp c5
            refine lv_iload hx hb dX8_frontier_81 (lv_at hl 4 rfl) ?_
            refine lv_goto (tgt := 88) hx hb dX8_frontier_83 (by decide) ?_
            refine r_iret (v := x4) hx hb hr hlocks w dX8_frontier_88 ?_
            subst hu1
            exact ⟨(fun k_ hk_ => hfr k_ (by omega)), ⟨hSV0, ⟨_, E, hkn⟩, (T0.fr (fun k_ a_ b_ => hfr k_ (by omega))), (Q1.fr (fun k_ a_ b_ => hfr k_ (by omega))), ⟨_, _, _, _, _, P, S⟩, (Q2.fr (fun k_ a_ b_ => hfr k_ (by omega))), (fun i_ hi_ => (Q3 i_ hi_).fr (fun k_ a_ b_ => hfr k_ (by omega))), (fun i_ (hi_ : i_ < sV st0) => (Q4 i_ hi_).fr (fun k_ a_ b_ => hfr k_ (by omega))), (H0_.fr (fun k_ a_ b_ => hfr k_ (by omega))), (W0.fr (fun k_ a_ b_ => hfr k_ (by omega))), ⟨_, _, _, _, _, _, _, _, _, _, _, V1, hz1⟩, (W2.fr (fun k_ a_ b_ => hfr k_ (by omega))), (W3.fr (fun k_ a_ b_ => hfr k_ (by omega))), (W4.fr (fun k_ a_ b_ => hfr k_ (by omega)))⟩, Or.inl ⟨f, K, hf0, hf, hK, Or.inl ⟨by omega, hx4.trans (by rw [show b9 = mRw 1 (sM st0) f by omega])⟩⟩⟩
        · have c4 : ¬ ((((mRw u1 (sM st0) f) : Nat) : Int) ≤ ((b9 : Nat) : Int)) := fun q => c4 ((i_le qq3 hx5).mpr q)
          have hb9_ : b9 < mRw u1 (sM st0) f := by omega
          have hsm_ := sm_ub (f := fF (mTab u1 (sM st0) K) f) (c := 1) b9 (fun _ _ => fF_le)
          refine lv_aload_n hx hb dX8_frontier_47 rfl (lv_at hl 0 rfl) ?_
          refine lv_aload_n hx hb dX8_frontier_48 rfl (lv_at hl 3 rfl) ?_
          refine lv_iload_n hx hb dX8_frontier_49 rfl (lv_at hl 1 rfl) ?_
          refine lv_iload hx hb dX8_frontier_50 (lv_at hl 5 rfl) ?_
          refine r_callI w (va_runV (As := [.ref (g.2.2.1 (x + 71)), .int p0, .int x5]) (rest := []) ⟨hx, hb, hml, hown, hts⟩ (c_X8_isLeast l V1 hP hT1 p0 x5 hf0 hx5 hf hb9_ (by rw [hu1]; exact rows_1 hP hf) (fun j_ hj_ => by rw [hu1] at hj_ ⊢; exact tab_2 hP hf hj_)) (cwV 3 hts gX8_frontier_X8_isLeast rfl rfl rfl (by decide +kernel) ⟨Nat.le_of_ble_eq_true rfl, Nat.le_of_ble_eq_true rfl⟩) (r_preV w (by have := E.1; omega) E.2.1 rfl) rfl rfl hl.1 rfl (lv_room (Nat.le_of_ble_eq_true rfl)) dX8_frontier_52 ⟨Nat.zero_le _, Nat.zero_le _⟩) (fun r7 h6 H locs hp w => ?_)
          obtain ⟨eh_, qq8⟩ := hp
          have eh_ := eh_.symm
          subst eh_
          refine lv_if_eq (tgt := 70) hx hb dX8_frontier_55 (by decide) (fun c9 => ?_) (fun c9 => ?_)
          · have c9 := qq8.eq c9
            obtain ⟨y10, ey10⟩ : ∃ y : Int32, y = x5 + (1) := ⟨_, rfl⟩
            have ty10 : y10.toInt = (((b9 + 1) : Nat) : Int) := i_addN ey10 hx5 (by decide : (1 : Int32).toInt = ((1 : Nat) : Int)) (by omega)
            refine lv_iinc (v := y10) (lv' := [(5, .int y10), (0, .ref (g.2.2.1 x)), (1, .int p0), (2, .int p1), (3, .ref (g.2.2.1 (x + 71))), (4, .int x4)]) hx hb dX8_frontier_70 hl (k := 5) rfl (by rw [ey10]; rfl) (by decide) rfl (fun ls hl => ?_)
            refine lv_goto (tgt := 33) hx hb dX8_frontier_73 (by decide) ?_
            exact ih33 K (b9 + 1) x4 y10 hc _ _ _ w (lv_sub hl [1, 2, 3, 4, 5, 0] rfl) hK hf0 hf hk1 (by omega) (hx4.trans (by rw [sm_0 (fF_0 c9)])) ty10 (fun b_ hb_ h1_ => by rcases Nat.lt_succ_iff_lt_or_eq.mp hb_ with z_ | z_; exact hno b_ z_ h1_; rw [z_, fF_0 c9] at h1_; exact absurd h1_ (by decide)) E P (⟨_, _, _, _, _, _, _, _, _, _, V1, K, hK, htk1, hT1⟩) hfr (by omega)
          · have c9 := qq8.ne c9
            refine lv_iload hx hb dX8_frontier_58 (lv_at hl 4 rfl) ?_
            refine lv_iload_n hx hb dX8_frontier_60 rfl (lv_at hl 2 rfl) ?_
            refine lv_icmp_ne (tgt := 67) hx hb dX8_frontier_61 (by decide) (fun c11 => ?_) (fun c11 => ?_)
            · have c11 : ¬ ((((sm (fF (mTab u1 (sM st0) K) f) b9) : Nat) : Int) = p1.toInt) := fun q => c11 ((i_eq hx4 (rfl : p1.toInt = p1.toInt)).mpr q)
              obtain ⟨y12, ey12⟩ : ∃ y : Int32, y = x4 + (1) := ⟨_, rfl⟩
              have ty12 : y12.toInt = ((((sm (fF (mTab u1 (sM st0) K) f) b9) + 1) : Nat) : Int) := i_addN ey12 hx4 (by decide : (1 : Int32).toInt = ((1 : Nat) : Int)) (by omega)
              refine lv_iinc (v := y12) (lv' := [(4, .int y12), (0, .ref (g.2.2.1 x)), (1, .int p0), (2, .int p1), (3, .ref (g.2.2.1 (x + 71))), (5, .int x5)]) hx hb dX8_frontier_67 hl (k := 4) rfl (by rw [ey12]; rfl) (by decide) rfl (fun ls hl => ?_)
              obtain ⟨y13, ey13⟩ : ∃ y : Int32, y = x5 + (1) := ⟨_, rfl⟩
              have ty13 : y13.toInt = (((b9 + 1) : Nat) : Int) := i_addN ey13 hx5 (by decide : (1 : Int32).toInt = ((1 : Nat) : Int)) (by omega)
              refine lv_iinc (v := y13) (lv' := [(5, .int y13), (4, .int y12), (0, .ref (g.2.2.1 x)), (1, .int p0), (2, .int p1), (3, .ref (g.2.2.1 (x + 71)))]) hx hb dX8_frontier_70 hl (k := 5) rfl (by rw [ey13]; rfl) (by decide) rfl (fun ls hl => ?_)
              refine lv_goto (tgt := 33) hx hb dX8_frontier_73 (by decide) ?_
              exact ih33 K (b9 + 1) y12 y13 hc _ _ _ w (lv_sub hl [2, 3, 4, 5, 1, 0] rfl) hK hf0 hf hk1 (by omega) (ty12.trans (by rw [sm_1 (fF_1 c9)])) ty13 (fun b_ hb_ h1_ => by rcases Nat.lt_succ_iff_lt_or_eq.mp hb_ with z_ | z_; exact hno b_ z_ h1_; rw [z_]; omega) E P (⟨_, _, _, _, _, _, _, _, _, _, V1, K, hK, htk1, hT1⟩) hfr (by omega)
            · have c11 : (((sm (fF (mTab u1 (sM st0) K) f) b9) : Nat) : Int) = p1.toInt := (i_eq hx4 (rfl : p1.toInt = p1.toInt)).mp c11
              refine lv_iload hx hb dX8_frontier_64 (lv_at hl 5 rfl) ?_
              refine r_iret (v := x5) hx hb hr hlocks w dX8_frontier_66 ?_
              subst hu1
              exact ⟨(fun k_ hk_ => hfr k_ (by omega)), ⟨hSV0, ⟨_, E, hkn⟩, (T0.fr (fun k_ a_ b_ => hfr k_ (by omega))), (Q1.fr (fun k_ a_ b_ => hfr k_ (by omega))), ⟨_, _, _, _, _, P, S⟩, (Q2.fr (fun k_ a_ b_ => hfr k_ (by omega))), (fun i_ hi_ => (Q3 i_ hi_).fr (fun k_ a_ b_ => hfr k_ (by omega))), (fun i_ (hi_ : i_ < sV st0) => (Q4 i_ hi_).fr (fun k_ a_ b_ => hfr k_ (by omega))), (H0_.fr (fun k_ a_ b_ => hfr k_ (by omega))), (W0.fr (fun k_ a_ b_ => hfr k_ (by omega))), ⟨_, _, _, _, _, _, _, _, _, _, _, V1, hz1⟩, (W2.fr (fun k_ a_ b_ => hfr k_ (by omega))), (W3.fr (fun k_ a_ b_ => hfr k_ (by omega))), (W4.fr (fun k_ a_ b_ => hfr k_ (by omega)))⟩, Or.inl ⟨f, K, hf0, hf, hK, Or.inr ⟨by omega, Or.inl ⟨b9, hb9_, fF_1 c9, by omega, hx5⟩⟩⟩⟩
  have ih33 := cuts (20)
  refine lv_aload_n hx hb dX8_frontier_0 rfl (lv_at hl 0 rfl) ?_
  refine r_get (C := RX8) (T := TX8) (N := 11) (ci := 6) hx hb hts inX8_frontier_X8 hown w (by have := E.1; omega) E.2.1 rfl 1 (by decide) (hts (Cond.fieldLink RX8 19 "EarlyValues" "now" "LEarlyValues$Program;") (List.mem_of_getElem? (i := 1) (by decide +kernel))) rfl rfl dX8_frontier_1 ?_
  refine lv_iload_n hx hb dX8_frontier_4 rfl (lv_at hl 1 rfl) ?_
  refine r_callI w (va_runV (As := [.int p0]) (rest := []) ⟨hx, hb, hml, hown, hts⟩ (c_X3_has l P p0) (cwV 1 hts gX8_frontier_X3_has rfl rfl rfl (by decide +kernel) ⟨Nat.le_of_ble_eq_true rfl, Nat.le_of_ble_eq_true rfl⟩) (r_preV w (by have := P.1; omega) P.c0 rfl) rfl rfl hl.1 rfl (lv_room (Nat.le_of_ble_eq_true rfl)) dX8_frontier_5 ⟨Nat.zero_le _, Nat.zero_le _⟩) (fun r15 h14 H locs hp w => ?_)
  obtain ⟨eh_, qq16⟩ := hp
  have eh_ := eh_.symm
  subst eh_
  have b17 : Bq r15 (0 ≤ p0.toInt ∧ p0.toInt < (((pN (sM st0)) : Nat) : Int)) := qq16.iff (by rw [((rfl : p0.toInt = p0.toInt) : p0.toInt = _), (S.1 : n.toInt = _)])
  refine lv_if_eq (tgt := 16) hx hb dX8_frontier_8 (by decide) (fun c18 => ?_) (fun c18 => ?_)
  · have c18 := b17.eq c18
    refine lv_iconst (v := (-1)) hx hb dX8_frontier_16 (by decide) ?_
    refine r_iret (v := (-1)) hx hb hr hlocks w dX8_frontier_17 ?_
    subst hu1
    exact ⟨(fun k_ hk_ => hfr k_ (by omega)), ⟨hSV0, ⟨_, E, hkn⟩, (T0.fr (fun k_ a_ b_ => hfr k_ (by omega))), (Q1.fr (fun k_ a_ b_ => hfr k_ (by omega))), ⟨_, _, _, _, _, P, S⟩, (Q2.fr (fun k_ a_ b_ => hfr k_ (by omega))), (fun i_ hi_ => (Q3 i_ hi_).fr (fun k_ a_ b_ => hfr k_ (by omega))), (fun i_ (hi_ : i_ < sV st0) => (Q4 i_ hi_).fr (fun k_ a_ b_ => hfr k_ (by omega))), (H0_.fr (fun k_ a_ b_ => hfr k_ (by omega))), (W0.fr (fun k_ a_ b_ => hfr k_ (by omega))), ⟨_, _, _, _, _, _, _, _, _, _, _, V1, hz1⟩, (W2.fr (fun k_ a_ b_ => hfr k_ (by omega))), (W3.fr (fun k_ a_ b_ => hfr k_ (by omega))), (W4.fr (fun k_ a_ b_ => hfr k_ (by omega)))⟩, Or.inr ⟨by omega, rfl⟩⟩
  · have c18 := b17.ne c18
    have hf0 : p0.toInt = ((f : Nat) : Int) := by omega
    have hf : f < pN (sM st0) := by omega
    obtain ⟨ha3, hk3, hl1, hl24, hpl, hd0⟩ := hP.2.2 f hf
    refine lv_iload_n hx hb dX8_frontier_11 rfl (lv_at hl 2 rfl) ?_
    refine lv_iconst (v := (-1)) hx hb dX8_frontier_12 (by decide) ?_
    refine lv_icmp_ge (tgt := 18) hx hb dX8_frontier_13 (by decide) (fun c19 => ?_) (fun c19 => ?_)
    · have c19 : (-1 : Int) ≤ p1.toInt := (i_le (by decide : (-1 : Int32).toInt = (-1 : Int)) (rfl : p1.toInt = p1.toInt)).mp c19
      refine lv_aload_n hx hb dX8_frontier_18 rfl (lv_at hl 0 rfl) ?_
      refine lv_aload_n hx hb dX8_frontier_19 rfl (lv_at hl 0 rfl) ?_
      refine r_get (C := RX8) (T := TX8) (N := 11) (ci := 6) hx hb hts inX8_frontier_X8 hown w (by have := E.1; omega) E.2.1 rfl 7 (by decide) (hts (Cond.fieldLink RX8 47 "EarlyValues" "roughly" "LEarlyValues$View;") (List.mem_of_getElem? (i := 2) (by decide +kernel))) rfl rfl dX8_frontier_20 ?_
      refine r_callQ w (va_runV (As := [.ref (g.2.2.1 (x + 71))]) (rest := []) ⟨hx, hb, hml, hown, hts⟩ (c_X8_solved l E ⟨_, _, _, _, _, _, _, _, _, _, _, V1, hz1⟩ P S hP (by omega)) (cwV 1 hts gX8_frontier_X8_solved rfl rfl rfl (by decide +kernel) ⟨Nat.le_of_ble_eq_true rfl, Nat.le_of_ble_eq_true rfl⟩) (r_preV w (by have := E.1; omega) E.2.1 rfl) rfl rfl hl.1 rfl (lv_room (Nat.le_of_ble_eq_true rfl)) dX8_frontier_23 ⟨Nat.zero_le _, Nat.zero_le _⟩) (fun r21 h20 H locs hp w => ?_)
      obtain ⟨hfk22, hrk22, kkk22, kck22, tkk22, dpk22, gpk22, ggk22, gsk22, gdk22, gtk22, gck22, V1, K1, hK1, htk1, hT1⟩ := hp
      subst hrk22
      have E := E.fr (h' := h20) (fun k_ h1_ h2_ h3_ => hfk22 k_ (by omega))
      have P := P.fr (h' := h20) (fun k_ h1_ h2_ => hfk22 k_ (by omega))
      have hfr : ∀ k_, ¬ ((x + 71) ≤ k_ ∧ k_ < (x + 71) + 18) → h20 k_ = h k_ := fun k_ hk_ => (hfk22 k_ (by omega))
      have hz1 : (1 : Int32) = 0 ∨ ((1 : Int32) = 1 ∧ KnK u1 (sM st0) tkk22 gtk22) := Or.inr ⟨rfl, K1, hK1, htk1, hT1⟩
      refine lv_astore_n (lv' := [(3, .ref (g.2.2.1 (x + 71))), (0, .ref (g.2.2.1 x)), (1, .int p0), (2, .int p1)]) hx hb dX8_frontier_26 rfl hl (by decide) rfl (fun ls hl => ?_)
      refine lv_iconst (v := 0) hx hb dX8_frontier_27 (by decide) ?_
      refine lv_istore (lv' := [(4, .int 0), (3, .ref (g.2.2.1 (x + 71))), (0, .ref (g.2.2.1 x)), (1, .int p0), (2, .int p1)]) hx hb dX8_frontier_28 hl (by decide) rfl (fun ls hl => ?_)
      refine lv_iconst (v := 0) hx hb dX8_frontier_30 (by decide) ?_
      refine lv_istore (lv' := [(5, .int 0), (4, .int 0), (3, .ref (g.2.2.1 (x + 71))), (0, .ref (g.2.2.1 x)), (1, .int p0), (2, .int p1)]) hx hb dX8_frontier_31 hl (by decide) rfl (fun ls hl => ?_)
      exact ih33 K1 0 0 0 h20 _ _ _ w (lv_sub hl [3, 4, 5, 2, 1, 0] rfl) hK1 hf0 hf (by omega) (Nat.zero_le _) rfl ((by decide : (0 : Int32).toInt = ((0 : Nat) : Int))) (fun b_ hb_ => absurd hb_ (Nat.not_lt_zero _)) E P (⟨_, _, _, _, _, _, _, _, _, _, V1, K1, hK1, htk1, hT1⟩) hfr (by omega)
    · have c19 : ¬ ((-1 : Int) ≤ p1.toInt) := fun q => c19 ((i_le (by decide : (-1 : Int32).toInt = (-1 : Int)) (rfl : p1.toInt = p1.toInt)).mpr q)
      refine lv_iconst (v := (-1)) hx hb dX8_frontier_16 (by decide) ?_
      refine r_iret (v := (-1)) hx hb hr hlocks w dX8_frontier_17 ?_
      subst hu1
      exact ⟨(fun k_ hk_ => hfr k_ (by omega)), ⟨hSV0, ⟨_, E, hkn⟩, (T0.fr (fun k_ a_ b_ => hfr k_ (by omega))), (Q1.fr (fun k_ a_ b_ => hfr k_ (by omega))), ⟨_, _, _, _, _, P, S⟩, (Q2.fr (fun k_ a_ b_ => hfr k_ (by omega))), (fun i_ hi_ => (Q3 i_ hi_).fr (fun k_ a_ b_ => hfr k_ (by omega))), (fun i_ (hi_ : i_ < sV st0) => (Q4 i_ hi_).fr (fun k_ a_ b_ => hfr k_ (by omega))), (H0_.fr (fun k_ a_ b_ => hfr k_ (by omega))), (W0.fr (fun k_ a_ b_ => hfr k_ (by omega))), ⟨_, _, _, _, _, _, _, _, _, _, _, V1, hz1⟩, (W2.fr (fun k_ a_ b_ => hfr k_ (by omega))), (W3.fr (fun k_ a_ b_ => hfr k_ (by omega))), (W4.fr (fun k_ a_ b_ => hfr k_ (by omega)))⟩, Or.inr ⟨by omega, rfl⟩⟩

