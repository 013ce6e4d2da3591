-- ===== THE START =====
def mayB (n : Nat) (a : Nat → Nat) (f k : Nat) : Bool := (decide (k < 10) || decide (k < 10 + n)) && (decide (10 ≤ k) || decide (k < 3) || decide (6 ≤ k) || decide (k - 3 < a f))
theorem mayB_ok {n : Nat} {a : Nat → Nat} {f k : Nat} (h : mayB n a f k = true) : mMay n a f k := by
  unfold mayB at h
  simp only [Bool.and_eq_true, Bool.or_eq_true, decide_eq_true_eq] at h
  exact ⟨fun q => by omega, fun q => by omega⟩
def bodyC (S : Nat → Nat) (N : Nat) (A : Nat → Nat) (f i : Nat) : Nat → Option Nat
  | 0 => some 1
  | p + 1 => match bodyC S N A f i p with
    | none => none
    | some m0 => if (decide (0 < m0) && (decide (mNum ((S (i + p) : Nat) : Int) < 14) && mayB N A f (mNum ((S (i + p) : Nat) : Int)))) = true then some (m0 + mParts N A (mNum ((S (i + p) : Nat) : Int)) - 1) else none
theorem bodyC_ok {S : Nat → Nat} {N : Nat} {A : Nat → Nat} {f i : Nat} : ∀ {p m : Nat}, bodyC S N A f i p = some m → BodyR S N A f i p m
  | 0, m, h => by
    have h2 : some 1 = some m := h
    show m = 1
    exact (Option.some.inj h2).symm
  | p + 1, m, h => by
    unfold bodyC at h
    cases hq : bodyC S N A f i p with
    | none => rw [hq] at h; exact absurd h (by simp)
    | some m0 =>
      rw [hq] at h
      dsimp only at h
      split at h
      · rename_i q
        simp only [Bool.and_eq_true, decide_eq_true_eq] at q
        exact ⟨m0, bodyC_ok hq, q.1, q.2.1, mayB_ok q.2.2, (Option.some.inj h).symm⟩
      · exact absurd h (by simp)
def S0 : Nat → Nat := sgn sCode 41
def t1S : PS := (0 + 1 + 3 + 1, (3, fun j => S0 (0 + 1 + j) - 48, pK ps0.2.1, pL ps0.2.1, pB ps0.2.1), ps0.2.2)
def t2S : PS := (t1S.1 + 1 + 1 + 1 + 7 + 1, mFn S0 t1S.2.1 t1S.2.2 (t1S.1 + 1) 7, t1S.2.2 + 1)
def t3S : PS := (t2S.1 + 1 + 1 + 1 + 8 + 1, mFn S0 t2S.2.1 t2S.2.2 (t2S.1 + 1) 8, t2S.2.2 + 1)
def t4S : PS := (t3S.1 + 1 + 1 + 1 + 9 + 1, mFn S0 t3S.2.1 t3S.2.2 (t3S.1 + 1) 9, t3S.2.2 + 1)
def dgB (c : Nat) : Bool := decide (48 ≤ c) && decide (c ≤ 51)
theorem dgB_ok {c : Nat} (h : dgB c = true) : dgt c := by
  unfold dgB at h
  simp only [Bool.and_eq_true, decide_eq_true_eq] at h
  exact h
theorem i1S : ItemOk S0 ps0 t1S := by
  refine Or.inl ⟨by decide +kernel, rfl, 3, ⟨by decide, fun j hj => ?_, Or.inr (fun h => ?_)⟩, by decide, by decide +kernel, rfl⟩
  · rcases (show j = 0 ∨ j = 1 ∨ j = 2 by omega) with rfl | rfl | rfl <;> exact dgB_ok (by decide +kernel)
  · have : S0 (ps0.1 + 1 + 3) = 59 := by decide +kernel
    rw [this] at h
    unfold dgt at h
    omega
theorem i2S : ItemOk S0 t1S t2S := Or.inr ⟨by decide +kernel, 7, ⟨by decide +kernel, dgB_ok (by decide +kernel), by decide +kernel, by decide, bodyC_ok (by decide +kernel), by decide +kernel⟩, rfl⟩
theorem i3S : ItemOk S0 t2S t3S := Or.inr ⟨by decide +kernel, 8, ⟨by decide +kernel, dgB_ok (by decide +kernel), by decide +kernel, by decide, bodyC_ok (by decide +kernel), by decide +kernel⟩, rfl⟩
theorem i4S : ItemOk S0 t3S t4S := Or.inr ⟨by decide +kernel, 9, ⟨by decide +kernel, dgB_ok (by decide +kernel), by decide +kernel, by decide, bodyC_ok (by decide +kernel), by decide +kernel⟩, rfl⟩
theorem start_rr : RunR S0 41 4 t4S := ⟨t3S, ⟨t2S, ⟨t1S, ⟨ps0, rfl, by decide, i1S⟩, by decide +kernel, i2S⟩, by decide +kernel, i3S⟩, by decide +kernel, i4S⟩
theorem start_run : RunE (sgn sCode 41) 41 t4S := ⟨⟨4, start_rr⟩, Or.inl (by decide +kernel)⟩
/-- the functions of the start -/
def startM : PRG := t4S.2.1
theorem start_pv : PV startM := run_pv ⟨4, start_rr⟩ rfl (by decide +kernel)
def stS : ST := (startM, (0, fun _ => startM), (0, fun _ => startM), (0, fun _ => 0))
theorem stS_ok : SV stS := ⟨start_pv, by decide, fun i hi => absurd hi (Nat.not_lt_zero _), by decide, fun i hi => absurd hi (Nat.not_lt_zero _), by decide, fun i hi => absurd hi (Nat.not_lt_zero _)⟩
theorem tx_up2 {n : Nat} {gx gz : Nat → Int32} {tx : Nat → Nat} {x : Int32} (h : ∀ i, i < n → (gx i).toInt = ((tx i : Nat) : Int)) (hx : x.toInt = ((tx n : Nat) : Int)) (e : gz = upd gx n x) : ∀ i, i < n + 1 → (gz i).toInt = ((tx i : Nat) : Int) := by
  subst e
  intro i hi
  by_cases q : i = n
  · rw [q, pk_us]; exact hx
  · rw [pk_un q]; exact h i (by omega)
theorem kp_eq {g : GE} {x : Nat} : va_up (va_up (fun _ => none) 0 (some (g.2.2.1 (x + 31)))) (0 + 1) (some (g.2.2.1 (x + 40))) = kpF g x := by
  funext i
  unfold kpF
  by_cases h1 : i = 0 + 1
  · rw [h1, va_up_self, if_pos (by omega)]
  · rw [va_up_ne _ _ h1]
    by_cases h0 : i = 0
    · rw [h0, va_up_self, if_pos (by omega)]
    · rw [va_up_ne _ _ h0, if_neg (by omega)]
theorem VwZ.any {g : GE} {h : Nat → va_E} {v u : Nat} (V : VwZ g h v u) : VwX g h v u := (VwZ.e (M := startM) V).any
theorem inX8_layStart_X5 : ∀ w ∈ wsX50, w ∈ wsX8_layStart := by decide +kernel
theorem inX8_layStart_X8 : ∀ w ∈ wsX80, w ∈ wsX8_layStart := by decide +kernel
abbrev rm_X8_layStart : Room := { frames := 9, cells := 0, slots := 0, locals := 198 }
set_option maxHeartbeats 4000000 in
set_option maxRecDepth 100000 in
theorem c_X8_layStart (l : Launch) {g : GE} {h : Nat → va_E} {x : Nat} {kn : Int32} (E : EvA g h x kn) {gs : Nat → Int32} (T : TxA g h (x + 1) 0 0 0 gs) {nn : Int32} {ta tk tl : Nat → Int32} {tb : Nat → Nat → Int32} (Pt : PrA g h (x + 1 + 1) nn ta tk tl tb) {n : Int32} {ga gk gl : Nat → Int32} {gb : Nat → Nat → Int32} (P : PrA g h (x + 12) n ga gk gl gb) : MV l yX8_layStart wsX8_layStart rm_X8_layStart [.ref (g.2.2.1 x)] g h (fun h2 => (∀ k, ¬ (x + 1 ≤ k ∧ k < x + 21) → h2 k = h k) ∧ (∃ (at2 bd2 : Int32) (gs2 : Nat → Int32), TxA g h2 (x + 1) 0 at2 bd2 gs2) ∧ PrX g h2 (x + 1 + 1) ∧ PrE g h2 (x + 12) startM) := by
  refine Met.ofW (cc := cX8_layStart) (maxL := 2) (ret := none) (by decide) rfl ?_
  intro p e s m args below meth c s₁ B hml hv
  obtain ⟨rfl, w0⟩ := hv
  have hx := B.exec
  have hb := B.bytes
  have hr := B.returns
  have hts := atoms_spec (ws := wsX8_layStart) B.pre
  have hown : s.vm.findClass RX8 = some m.cls := findClass_of_methodNamed B.named
  have hlocks := B.notSynchronized
  have w := w0.start
  clear w0
  have hl := lv_entry ([.ref (g.2.2.1 x)]) (n := 2) (Nat.le_of_ble_eq_true rfl)
  rw [lg_entry_eq]
  generalize (lg_sl ([.ref (g.2.2.1 x)]) ++ List.replicate (2 - (lg_sl ([.ref (g.2.2.1 x)])).length) Slot.unset).toArray = ls at hl ⊢
  have hl : lv_has ls 2 [(0, .ref (g.2.2.1 x))] := hl
  have hNe := E.1
  have hfr : ∀ k_, ¬ (x + 1 ≤ k_ ∧ k_ < x + 21) → h k_ = h k_ := fun _ _ => rfl
  have cuts : ∀ N : Nat, (∀ (i9 : Nat) (x1 : Int32) (ln1 : Int32) (gs1 : Nat → Int32) (hc : Nat → va_E) (H : Heap) (locs : List Loc) (ls : Array Slot), WD g (inW g) s hc H locs → lv_has ls 2 [(0, .ref (g.2.2.1 x)), (1, .int x1)] → (i9 ≤ 41) → (x1.toInt = ((i9 : Nat) : Int)) → (ln1.toInt = ((i9 : Nat) : Int)) → (∀ j, j < i9 → (gs1 j).toInt = ((sCode j : Nat) : Int)) → (EvA g hc x kn) → (TxA g hc (x + 1) ln1 0 0 gs1) → (PrA g hc (x + 1 + 1) nn ta tk tl tb) → (PrA g hc (x + 12) n ga gk gl gb) → (∀ k, ¬ (x + 1 ≤ k ∧ k < x + 21) → hc k = h k) → 42 - i9 < N → W p l e (headSpec wsX8_layStart rm_X8_layStart).room s m ([.ref (g.2.2.1 x)] : List Value).toArray below meth c H locs 0 0 (MQ below (va_Qv (fun h2 => (∀ k, ¬ (x + 1 ≤ k ∧ k < x + 21) → h2 k = h k) ∧ (∃ (at2 bd2 : Int32) (gs2 : Nat → Int32), TxA g h2 (x + 1) 0 at2 bd2 gs2) ∧ PrX g h2 (x + 1 + 1) ∧ PrE g h2 (x + 12) startM) (Wd g) (inW g)) ([.ref (g.2.2.1 x)] : List Value).toArray s 0 0 (inW g)) (F0 m 2 ls [])) := by
    intro N
    induction N with
    | zero => exact by intros; omega
    | succ N ih =>
      have ih2 := ih
      · intro i9 x1 ln1 gs1 hc H locs ls w hl hi hx1 hln hgx E T Pt P hfr hN_
        have hNe := E.1
        refine lv_iload_n hx hb dX8_layStart_2 rfl (lv_at hl 1 rfl) ?_
        refine va_ldcS hx hb hown w.r0 dX8_layStart_3 ?_
        refine r_callI w (va_runV (As := []) (rest := [.int x1]) ⟨hx, hb, hml, hown, hts⟩ (c_J0_length_8abf5_0 l) (cwV 0 hts gX8_layStart_J0_length_8abf5 rfl rfl rfl (by decide +kernel) ⟨Nat.le_of_ble_eq_true rfl, Nat.le_of_ble_eq_true rfl⟩) (r_preK0 w) rfl rfl hl.1 rfl (lv_room (Nat.le_of_ble_eq_true rfl)) dX8_layStart_5 ⟨Nat.zero_le _, Nat.zero_le _⟩) (fun r2 h1 H locs hp w => ?_)
        obtain ⟨eh_, qq3⟩ := hp
        have eh_ := eh_.symm
        subst eh_
        subst qq3
        refine lv_icmp_ge (tgt := 30) hx hb dX8_layStart_8 (by decide) (fun c4 => ?_) (fun c4 => ?_)
        · have c4 : ((41 : Nat) : Int) ≤ ((i9 : Nat) : Int) := (i_le (by decide : (41 : Int32).toInt = ((41 : Nat) : Int)) hx1).mp c4
          obtain rfl : i9 = 41 := by omega
          have hgx41_ := hgx
          refine lv_aload_n hx hb dX8_layStart_30 rfl (lv_at hl 0 rfl) ?_
          refine r_get (C := RX8) (T := TX8) (N := 11) (ci := 6) hx hb hts inX8_layStart_X8 hown w (by have := E.1; omega) E.2.1 rfl 0 (by decide) (hts (Cond.fieldLink RX8 10 "EarlyValues" "text" "LEarlyValues$Text;") (List.mem_of_getElem? (i := 1) (by decide +kernel))) rfl rfl dX8_layStart_31 ?_
          refine r_callI w (va_runV (As := []) (rest := []) ⟨hx, hb, hml, hown, hts⟩ (c_X5_read l T Pt (n := 41) (tx := sCode) (by omega) (by omega) hgx41_ (fun i_ hi_ => sCode_in hi_)) (cwV 0 hts gX8_layStart_X5_read rfl rfl rfl (by decide +kernel) ⟨Nat.le_of_ble_eq_true rfl, Nat.le_of_ble_eq_true rfl⟩) (r_preV w (by have := T.1; omega) T.2.1 rfl) rfl rfl hl.1 rfl (lv_room (Nat.le_of_ble_eq_true rfl)) dX8_layStart_34 ⟨Nat.zero_le _, Nat.zero_le _⟩) (fun r6 h5 H locs hp w => ?_)
          obtain ⟨hfR, at2, bd2, n2, ga2, gk2, gl2, gb2, tt, T, Pt, hrun, hres⟩ := hp
          have E := E.fr (h' := h5) (fun k_ h1_ h2_ h3_ => hfR k_ (by omega))
          have P := P.fr (h' := h5) (fun k_ h1_ h2_ => hfR k_ (by omega))
          have hfr : ∀ k_, ¬ (x + 1 ≤ k_ ∧ k_ < x + 21) → h5 k_ = h k_ := fun k_ hk_ => (hfR k_ (by omega)).trans (hfr k_ hk_)
          refine lv_pop hx hb dX8_layStart_37 rfl ?_
          refine lv_aload_n hx hb dX8_layStart_38 rfl (lv_at hl 0 rfl) ?_
          refine r_get (C := RX8) (T := TX8) (N := 11) (ci := 6) hx hb hts inX8_layStart_X8 hown w (by have := E.1; omega) E.2.1 rfl 1 (by decide) (hts (Cond.fieldLink RX8 19 "EarlyValues" "now" "LEarlyValues$Program;") (List.mem_of_getElem? (i := 2) (by decide +kernel))) rfl rfl dX8_layStart_39 ?_
          refine lv_aload_n hx hb dX8_layStart_42 rfl (lv_at hl 0 rfl) ?_
          refine r_get (C := RX8) (T := TX8) (N := 11) (ci := 6) hx hb hts inX8_layStart_X8 hown w (by have := E.1; omega) E.2.1 rfl 0 (by decide) (hts (Cond.fieldLink RX8 10 "EarlyValues" "text" "LEarlyValues$Text;") (List.mem_of_getElem? (i := 1) (by decide +kernel))) rfl rfl dX8_layStart_43 ?_
          refine r_get (C := RX5) (T := TX5) (N := 5) (ci := 4) hx hb hts inX8_layStart_X5 hown w (by have := T.1; omega) T.2.1 rfl 0 (by decide) (hts (Cond.fieldLink RX8 84 "EarlyValues$Text" "told" "LEarlyValues$Program;") (List.mem_of_getElem? (i := 3) (by decide +kernel))) rfl rfl dX8_layStart_46 ?_
          refine r_callV w (va_runV (As := [.ref (g.2.2.1 ((x + 1) + 1))]) (rest := []) ⟨hx, hb, hml, hown, hts⟩ (c_X3_takeFrom l P Pt (by omega)) (cwV 1 hts gX8_layStart_X3_takeFrom rfl rfl rfl (by decide +kernel) ⟨Nat.le_of_ble_eq_true rfl, Nat.le_of_ble_eq_true rfl⟩) (r_preV w (by have := P.1; omega) P.c0 rfl) rfl rfl hl.1 rfl (lv_room (Nat.le_of_ble_eq_true rfl)) dX8_layStart_49 ⟨Nat.zero_le _, Nat.zero_le _⟩) (fun h7 H locs hp w => ?_)
          obtain ⟨hfk8, gak8, gkk8, glk8, gbk8, P, hcpk8⟩ := hp
          have E := E.fr (h' := h7) (fun k_ h1_ h2_ h3_ => hfk8 k_ (by omega))
          have T := T.fr (h' := h7) (fun k_ h1_ h2_ h3_ => hfk8 k_ (by omega))
          have Pt := Pt.fr (h' := h7) (fun k_ h1_ h2_ => hfk8 k_ (by omega))
          have hfr : ∀ k_, ¬ (x + 1 ≤ k_ ∧ k_ < x + 21) → h7 k_ = h k_ := fun k_ hk_ => (hfk8 k_ (by omega)).trans (hfr k_ hk_)
          refine lv_aload_n hx hb dX8_layStart_52 rfl (lv_at hl 0 rfl) ?_
          refine r_get (C := RX8) (T := TX8) (N := 11) (ci := 6) hx hb hts inX8_layStart_X8 hown w (by have := E.1; omega) E.2.1 rfl 0 (by decide) (hts (Cond.fieldLink RX8 10 "EarlyValues" "text" "LEarlyValues$Text;") (List.mem_of_getElem? (i := 1) (by decide +kernel))) rfl rfl dX8_layStart_53 ?_
          refine r_callV w (va_runV (As := []) (rest := []) ⟨hx, hb, hml, hown, hts⟩ (c_X5_clear l T) (cwV 0 hts gX8_layStart_X5_clear rfl rfl rfl (by decide +kernel) ⟨Nat.le_of_ble_eq_true rfl, Nat.le_of_ble_eq_true rfl⟩) (r_preV w (by have := T.1; omega) T.2.1 rfl) rfl rfl hl.1 rfl (lv_room (Nat.le_of_ble_eq_true rfl)) dX8_layStart_56 ⟨Nat.zero_le _, Nat.zero_le _⟩) (fun h9 H locs hp w => ?_)
          obtain ⟨hfk10, T⟩ := hp
          have E := E.fr (h' := h9) (fun k_ h1_ h2_ h3_ => hfk10 k_ (by omega))
          have Pt := Pt.fr (h' := h9) (fun k_ h1_ h2_ => hfk10 k_ (by omega))
          have P := P.fr (h' := h9) (fun k_ h1_ h2_ => hfk10 k_ (by omega))
          have hfr : ∀ k_, ¬ (x + 1 ≤ k_ ∧ k_ < x + 21) → h9 k_ = h k_ := fun k_ hk_ => (hfk10 k_ (by omega)).trans (hfr k_ hk_)
          refine r_vret hx hb hr hlocks w dX8_layStart_59 ?_
          have e_ := hrun.inj start_run
          subst e_
          obtain ⟨-, -, -, hR_⟩ := hres.resolve_right (fun q_ => absurd q_.1 (by decide))
          have S2_ : PrS startM _ _ _ _ _ := (csp_prs hR_).cp start_pv hcpk8
          exact ⟨hfr, ⟨_, _, _, T⟩, ⟨_, _, _, _, _, Pt⟩, ⟨_, _, _, _, _, P, S2_⟩⟩
        · have c4 : ¬ (((41 : Nat) : Int) ≤ ((i9 : Nat) : Int)) := fun q => c4 ((i_le (by decide : (41 : Int32).toInt = ((41 : Nat) : Int)) hx1).mpr q)
          have hi41_ : i9 < 41 := by omega
          refine lv_aload_n hx hb dX8_layStart_11 rfl (lv_at hl 0 rfl) ?_
          refine r_get (C := RX8) (T := TX8) (N := 11) (ci := 6) hx hb hts inX8_layStart_X8 hown w (by have := E.1; omega) E.2.1 rfl 0 (by decide) (hts (Cond.fieldLink RX8 10 "EarlyValues" "text" "LEarlyValues$Text;") (List.mem_of_getElem? (i := 1) (by decide +kernel))) rfl rfl dX8_layStart_12 ?_
          refine va_ldcS hx hb hown w.r0 dX8_layStart_15 ?_
          refine lv_iload_n hx hb dX8_layStart_17 rfl (lv_at hl 1 rfl) ?_
          refine r_callI w (va_runV (As := [.int x1]) (rest := [.ref (g.2.2.1 (x + 1))]) ⟨hx, hb, hml, hown, hts⟩ (c_J0_charAt_5068e_0 l x1 hx1 (by omega)) (cwV 1 hts gX8_layStart_J0_charAt_5068e rfl rfl rfl (by decide +kernel) ⟨Nat.le_of_ble_eq_true rfl, Nat.le_of_ble_eq_true rfl⟩) (r_preK0 w) rfl rfl hl.1 rfl (lv_room (Nat.le_of_ble_eq_true rfl)) dX8_layStart_18 ⟨Nat.zero_le _, Nat.zero_le _⟩) (fun r12 h11 H locs hp w => ?_)
          obtain ⟨eh_, qq13⟩ := hp
          have eh_ := eh_.symm
          subst eh_
          refine r_callV w (va_runV (As := [.int r12]) (rest := []) ⟨hx, hb, hml, hown, hts⟩ (c_X5_add l T hln (by omega) r12) (cwV 1 hts gX8_layStart_X5_add rfl rfl rfl (by decide +kernel) ⟨Nat.le_of_ble_eq_true rfl, Nat.le_of_ble_eq_true rfl⟩) (r_preV w (by have := T.1; omega) T.2.1 rfl) rfl rfl hl.1 rfl (lv_room (Nat.le_of_ble_eq_true rfl)) dX8_layStart_21 ⟨Nat.zero_le _, Nat.zero_le _⟩) (fun h14 H locs hp w => ?_)
          obtain ⟨hfk15, lnk15, gsk15, T, hlk15, hgk15⟩ := hp
          have E := E.fr (h' := h14) (fun k_ h1_ h2_ h3_ => hfk15 k_ (by omega))
          have Pt := Pt.fr (h' := h14) (fun k_ h1_ h2_ => hfk15 k_ (by omega))
          have P := P.fr (h' := h14) (fun k_ h1_ h2_ => hfk15 k_ (by omega))
          have hfr : ∀ k_, ¬ (x + 1 ≤ k_ ∧ k_ < x + 21) → h14 k_ = h k_ := fun k_ hk_ => (hfk15 k_ (by omega)).trans (hfr k_ hk_)
          rw [nar_c qq13 (by have := sCode_in (j := i9) (by omega); omega)] at hgk15
          obtain ⟨y16, ey16⟩ : ∃ y : Int32, y = x1 + (1) := ⟨_, rfl⟩
          have ty16 : y16.toInt = (((i9 + 1) : Nat) : Int) := i_addN ey16 hx1 (by decide : (1 : Int32).toInt = ((1 : Nat) : Int)) (by omega)
          refine lv_iinc (v := y16) (lv' := [(1, .int y16), (0, .ref (g.2.2.1 x))]) hx hb dX8_layStart_24 hl (k := 1) rfl (by rw [ey16]; rfl) (by decide) rfl (fun ls hl => ?_)
          refine lv_goto (tgt := 2) hx hb dX8_layStart_27 (by decide) ?_
          exact ih2 (i9 + 1) y16 lnk15 gsk15 h14 _ _ _ w (lv_sub hl [1, 0] rfl) (by omega) ty16 hlk15 (tx_up2 hgx qq13 hgk15) E T Pt P hfr (by omega)
  have ih2 := cuts (50)
  refine lv_iconst (v := 0) hx hb dX8_layStart_0 (by decide) ?_
  refine lv_istore_n (lv' := [(1, .int 0), (0, .ref (g.2.2.1 x))]) hx hb dX8_layStart_1 rfl hl (by decide) rfl (fun ls hl => ?_)
  exact ih2 0 0 0 gs h _ _ _ w (lv_sub hl [1, 0] rfl) (Nat.zero_le _) ((by decide : (0 : Int32).toInt = ((0 : Nat) : Int))) rfl (fun j_ hj_ => absurd hj_ (Nat.not_lt_zero _)) E T Pt P hfr (by omega)

theorem inX8_init_X0 : ∀ w ∈ wsX00, w ∈ wsX8_init := by decide +kernel
theorem inX8_init_X1 : ∀ w ∈ wsX10, w ∈ wsX8_init := by decide +kernel
theorem inX8_init_X3 : ∀ w ∈ wsX30, w ∈ wsX8_init := by decide +kernel
theorem inX8_init_X4 : ∀ w ∈ wsX40, w ∈ wsX8_init := by decide +kernel
theorem inX8_init_X5 : ∀ w ∈ wsX50, w ∈ wsX8_init := by decide +kernel
theorem inX8_init_X6 : ∀ w ∈ wsX60, w ∈ wsX8_init := by decide +kernel
theorem inX8_init_X8 : ∀ w ∈ wsX80, w ∈ wsX8_init := by decide +kernel
abbrev rm_X8_init : Room := { frames := 10, cells := 142, slots := 5341, locals := 219 }
set_option maxHeartbeats 8000000 in
set_option maxRecDepth 100000 in
theorem c_X8_init (l : Launch) {g0 : GE} {h0 : Nat → va_E} {sz x : Nat} (ho : x + 1 = g0.2.2.2) (hO : h0 x = .inr (6, [.null, .null, .null, .null, .int 0, .null, .null, .null, .null, .null, .null])) : MN l yX8_init wsX8_init rm_X8_init [.ref (g0.2.2.1 x)] g0 h0 sz (fun u_ : GE × (Nat → va_E) => (fun g2 h2 => g2.2.2.2 = x + 143 ∧ (∀ k, k < x → h2 k = h0 k) ∧ ClsA g2 h2 x stS) u_.1 u_.2) (142) (5341) := by
  refine Met.ofW (cc := cX8_init) (maxL := 2) (ret := none) (by decide) rfl ?_
  intro p e s m args below meth c s₁ B hml hv
  obtain ⟨rfl, hPN⟩ := hv
  have hx := B.exec
  have hb := B.bytes
  have hr := B.returns
  have hts := atoms_spec (ws := wsX8_init) B.pre
  have hown : s.vm.findClass RX8 = some m.cls := findClass_of_methodNamed B.named
  have hlocks := B.notSynchronized
  have hin2 : meth.name = "<init>" := (name_of_methodNamed B.named B.method).1
  have hsz : s.heap.size = sz := hPN.1
  subst hsz
  obtain ⟨w, hX, hA⟩ := hPN.start
  have hl := lv_entry ([.ref (g0.2.2.1 x)]) (n := 2) (Nat.le_of_ble_eq_true rfl)
  rw [lg_entry_eq]
  generalize (lg_sl ([.ref (g0.2.2.1 x)]) ++ List.replicate (2 - (lg_sl ([.ref (g0.2.2.1 x)])).length) Slot.unset).toArray = ls at hl ⊢
  have hl : lv_has ls 2 [(0, .ref (g0.2.2.1 x))] := hl
  obtain ⟨g, hg9⟩ : ∃ g_ : GE, g_ = g0 := ⟨_, rfl⟩
  obtain ⟨h, hh9⟩ : ∃ h_ : Nat → va_E, h_ = h0 := ⟨_, rfl⟩
  have hfr : ∀ k_, k_ < x → h k_ = h0 k_ := fun _ _ => by rw [hh9]
  have hE0 : Ext g0 g := by rw [hg9]; exact Ext.rf
  have w : WD g (inA g0 s.heap.size) s h s.heap [] := by rw [hg9, hh9]; exact w
  have hl : lv_has ls 2 [(0, .ref (g.2.2.1 x))] := by rw [hg9]; exact hl
  have hO : h x = .inr (6, [.null, .null, .null, .null, .int 0, .null, .null, .null, .null, .null, .null]) := by rw [hh9]; (try rw [hg9]); exact hO
  have hN : g.2.2.2 = x + 1 := by rw [hg9]; omega
  refine lv_aload_n hx hb dX8_init_0 rfl (lv_at hl 0 rfl) ?_
  refine W.objInit hx hb hown (hts (Cond.methodLink RX8 1 objectInit) (List.mem_of_getElem? (i := 1) (by decide +kernel))) (hts (Cond.instanceMethod objectInit) (List.mem_of_getElem? (i := 2) (by decide +kernel))) (hts (Cond.code objectInit ⟨#[0xb1]⟩ 1 none) (List.mem_of_getElem? (i := 3) (by decide +kernel))) rfl (by rw [hml]; exact hl.1) rfl dX8_init_1 (Nat.le_of_ble_eq_true rfl) (Nat.le_of_ble_eq_true rfl) ?_
  refine W.eq (g2 := F0 m 4 ls []) rfl ?_
  refine lv_aload_n hx hb dX8_init_4 rfl (lv_at hl 0 rfl) ?_
  refine r_new (ci := 4) (fs := [.null, .int 0, .null, .int 0, .int 0]) (C := RX5) (T := TX5) (N := 5) hx hb hts inX8_init_X5 tyX5 tyX5_ok hown (hts (Cond.classLink RX8 7 RX5) (List.mem_of_getElem? (i := 4) (by decide +kernel))) (hts (Cond.instantiable RX5 5) (List.mem_of_getElem? (i := 5) (by decide +kernel))) (hts (Cond.initialized RX5) (List.mem_of_getElem? (i := 6) (by decide +kernel))) w hA rfl (fun j hj => by rcases (show j = 0 ∨ j = 1 ∨ j = 2 ∨ j = 3 ∨ j = 4 by omega) with rfl | rfl | rfl | rfl | rfl <;> rfl) (Nat.le_of_ble_eq_true rfl) (Nat.le_of_ble_eq_true rfl) dX8_init_5 (fun g1 h2 H hEk3 hNk3 hfk3 hck3 w2_ => ?_)
  replace w := w2_
  clear w2_
  rw [hN] at hck3 hNk3 hfk3
  rw [hN]
  rw [← hEk3.at (k := x) (by omega)]
  replace hl : lv_has ls 2 [(0, .ref (g1.2.2.1 x))] := by rw [hEk3.at (k := x) (by omega)]; exact hl
  replace hO : h2 x = .inr (6, [.null, .null, .null, .null, .int 0, .null, .null, .null, .null, .null, .null]) := by rw [hfk3 _ (by omega), hO]
  replace hfr : ∀ k_, k_ < x → h2 k_ = h0 k_ := fun k_ hk_ => (hfk3 k_ (by omega)).trans (hfr k_ hk_)
  replace hE0 := hE0.trans hEk3
  clear hEk3 hfk3
  replace hN : g1.2.2.2 = x + 2 := by omega
  clear hNk3
  refine lv_dup hx hb dX8_init_8 rfl ?_
  refine r_callN w hA (va_runI (As := []) (rest := [.ref (g1.2.2.1 (x + 1)), .ref (g1.2.2.1 x)]) ⟨hx, hb, hml, hown, hts⟩ (c_X5_init l (g0 := g1) (h0 := h2) (t := (x + 1)) (by omega) hck3) (cwI 0 hts gX8_init_X5_init rfl rfl rfl (hts (Cond.initialized RX5) (List.mem_of_getElem? (i := 6) (by decide +kernel))) (hts (Cond.methodLink RX8 9 yX5_init) (List.mem_of_getElem? (i := 32) (by decide +kernel))) (hts (Cond.instanceMethod yX5_init) (List.mem_of_getElem? (i := 33) (by decide +kernel))) rfl (by decide +kernel) ⟨Nat.le_of_ble_eq_true rfl, Nat.le_of_ble_eq_true rfl⟩) (r_preN w hA hX) rfl rfl hl.1 rfl (lv_room (Nat.le_of_ble_eq_true rfl)) dX8_init_9 ⟨Nat.le_of_ble_eq_true rfl, (Nat.le_of_ble_eq_true rfl)⟩) (fun g4 h5 H locs hEk6 hp w2_ => ?_)
  replace w := w2_
  clear w2_
  dsimp only at hp
  rw [← hEk6.at (k := (x + 1)) (by omega)]
  rw [← hEk6.at (k := x) (by omega)]
  replace hl : lv_has ls 2 [(0, .ref (g4.2.2.1 x))] := by rw [hEk6.at (k := x) (by omega)]; exact hl
  obtain ⟨hNk6, hfk6, Fk6⟩ := hp
  replace hO : h5 x = .inr (6, [.null, .null, .null, .null, .int 0, .null, .null, .null, .null, .null, .null]) := by rw [hfk6 _ (by omega), hO]
  replace hfr : ∀ k_, k_ < x → h5 k_ = h0 k_ := fun k_ hk_ => (hfk6 k_ (by omega)).trans (hfr k_ hk_)
  replace hE0 := hE0.trans hEk6
  clear hEk6 hfk6
  replace hN : g4.2.2.2 = x + 12 := by omega
  clear hNk6
  refine r_putF (ty := .object "EarlyValues$Text") (C := RX8) (T := TX8) (N := 11) (ci := 6) hx hb hts inX8_init_X8 tyX8 tyX8_ok nmX8 hown w (by omega) hO rfl 0 (by decide) (hts (Cond.fieldLink RX8 10 "EarlyValues" "text" "LEarlyValues$Text;") (List.mem_of_getElem? (i := 7) (by decide +kernel))) rfl rfl hin2 rfl (by decide +kernel) rfl rfl (Nat.le_of_ble_eq_true rfl) dX8_init_12 (fun h7 H locs eh7 w2_ => ?_)
  replace w := w2_
  clear w2_
  replace hO : h7 x = .inr (6, [.ref (g4.2.2.1 (x + 1)), .null, .null, .null, .int 0, .null, .null, .null, .null, .null, .null]) := by rw [eh7, va_up_self]; (try rfl)
  replace Fk6 := Fk6.ext Ext.rf (h' := h7) (fun k_ a_ b_ => by rw [eh7, va_up_ne _ _ (by omega)])
  replace hfr : ∀ k_, k_ < x → h7 k_ = h0 k_ := fun k_ hk_ => by rw [eh7, va_up_ne _ _ (by omega)]; exact hfr k_ hk_
  refine lv_aload_n hx hb dX8_init_15 rfl (lv_at hl 0 rfl) ?_
  refine r_new (ci := 2) (fs := [.int 0, .null, .null, .null, .null]) (C := RX3) (T := TX3) (N := 5) hx hb hts inX8_init_X3 tyX3 tyX3_ok hown (hts (Cond.classLink RX8 16 RX3) (List.mem_of_getElem? (i := 8) (by decide +kernel))) (hts (Cond.instantiable RX3 5) (List.mem_of_getElem? (i := 9) (by decide +kernel))) (hts (Cond.initialized RX3) (List.mem_of_getElem? (i := 10) (by decide +kernel))) w hA rfl (fun j hj => by rcases (show j = 0 ∨ j = 1 ∨ j = 2 ∨ j = 3 ∨ j = 4 by omega) with rfl | rfl | rfl | rfl | rfl <;> rfl) (Nat.le_of_ble_eq_true rfl) (Nat.le_of_ble_eq_true rfl) dX8_init_16 (fun g8 h9 H hEk10 hNk10 hfk10 hck10 w2_ => ?_)
  replace w := w2_
  clear w2_
  rw [hN] at hck10 hNk10 hfk10
  rw [hN]
  rw [← hEk10.at (k := x) (by omega)]
  replace hl : lv_has ls 2 [(0, .ref (g8.2.2.1 x))] := by rw [hEk10.at (k := x) (by omega)]; exact hl
  replace hO : h9 x = .inr (6, [.ref (g8.2.2.1 (x + 1)), .null, .null, .null, .int 0, .null, .null, .null, .null, .null, .null]) := by rw [hfk10 _ (by omega), hO, hEk10.at (k := (x + 1)) (by omega)]
  replace Fk6 := Fk6.ext hEk10 (h' := h9) (fun k_ a_ b_ => hfk10 k_ (by omega))
  replace hfr : ∀ k_, k_ < x → h9 k_ = h0 k_ := fun k_ hk_ => (hfk10 k_ (by omega)).trans (hfr k_ hk_)
  replace hE0 := hE0.trans hEk10
  clear hEk10 hfk10
  replace hN : g8.2.2.2 = x + 13 := by omega
  clear hNk10
  refine lv_dup hx hb dX8_init_19 rfl ?_
  refine r_callN w hA (va_runI (As := []) (rest := [.ref (g8.2.2.1 (x + 12)), .ref (g8.2.2.1 x)]) ⟨hx, hb, hml, hown, hts⟩ (c_X3_init l (g0 := g8) (h0 := h9) (o := (x + 12)) (by omega) hck10) (cwI 0 hts gX8_init_X3_init rfl rfl rfl (hts (Cond.initialized RX3) (List.mem_of_getElem? (i := 10) (by decide +kernel))) (hts (Cond.methodLink RX8 18 yX3_init) (List.mem_of_getElem? (i := 50) (by decide +kernel))) (hts (Cond.instanceMethod yX3_init) (List.mem_of_getElem? (i := 41) (by decide +kernel))) rfl (by decide +kernel) ⟨Nat.le_of_ble_eq_true rfl, Nat.le_of_ble_eq_true rfl⟩) (r_preN w hA hX) rfl rfl hl.1 rfl (lv_room (Nat.le_of_ble_eq_true rfl)) dX8_init_20 ⟨Nat.le_of_ble_eq_true rfl, (Nat.le_of_ble_eq_true rfl)⟩) (fun g11 h12 H locs hEk13 hp w2_ => ?_)
  replace w := w2_
  clear w2_
  dsimp only at hp
  rw [← hEk13.at (k := (x + 12)) (by omega)]
  rw [← hEk13.at (k := x) (by omega)]
  replace hl : lv_has ls 2 [(0, .ref (g11.2.2.1 x))] := by rw [hEk13.at (k := x) (by omega)]; exact hl
  obtain ⟨hNk13, hfk13, Fk13⟩ := hp
  replace hO : h12 x = .inr (6, [.ref (g11.2.2.1 (x + 1)), .null, .null, .null, .int 0, .null, .null, .null, .null, .null, .null]) := by rw [hfk13 _ (by omega), hO, hEk13.at (k := (x + 1)) (by omega)]
  replace Fk6 := Fk6.ext hEk13 (h' := h12) (fun k_ a_ b_ => hfk13 k_ (by omega))
  replace hfr : ∀ k_, k_ < x → h12 k_ = h0 k_ := fun k_ hk_ => (hfk13 k_ (by omega)).trans (hfr k_ hk_)
  replace hE0 := hE0.trans hEk13
  clear hEk13 hfk13
  replace hN : g11.2.2.2 = x + 21 := by omega
  clear hNk13
  refine r_putF (ty := .object "EarlyValues$Program") (C := RX8) (T := TX8) (N := 11) (ci := 6) hx hb hts inX8_init_X8 tyX8 tyX8_ok nmX8 hown w (by omega) hO rfl 1 (by decide) (hts (Cond.fieldLink RX8 19 "EarlyValues" "now" "LEarlyValues$Program;") (List.mem_of_getElem? (i := 11) (by decide +kernel))) rfl rfl hin2 rfl (by decide +kernel) rfl rfl (Nat.le_of_ble_eq_true rfl) dX8_init_23 (fun h14 H locs eh14 w2_ => ?_)
  replace w := w2_
  clear w2_
  replace hO : h14 x = .inr (6, [.ref (g11.2.2.1 (x + 1)), .ref (g11.2.2.1 (x + 12)), .null, .null, .int 0, .null, .null, .null, .null, .null, .null]) := by rw [eh14, va_up_self]; (try rfl)
  replace Fk6 := Fk6.ext Ext.rf (h' := h14) (fun k_ a_ b_ => by rw [eh14, va_up_ne _ _ (by omega)])
  replace Fk13 := Fk13.ext Ext.rf (h' := h14) (fun k_ a_ b_ => by rw [eh14, va_up_ne _ _ (by omega)])
  replace hfr : ∀ k_, k_ < x → h14 k_ = h0 k_ := fun k_ hk_ => by rw [eh14, va_up_ne _ _ (by omega)]; exact hfr k_ hk_
  refine lv_aload_n hx hb dX8_init_26 rfl (lv_at hl 0 rfl) ?_
  refine r_new (ci := 2) (fs := [.int 0, .null, .null, .null, .null]) (C := RX3) (T := TX3) (N := 5) hx hb hts inX8_init_X3 tyX3 tyX3_ok hown (hts (Cond.classLink RX8 16 RX3) (List.mem_of_getElem? (i := 8) (by decide +kernel))) (hts (Cond.instantiable RX3 5) (List.mem_of_getElem? (i := 9) (by decide +kernel))) (hts (Cond.initialized RX3) (List.mem_of_getElem? (i := 10) (by decide +kernel))) w hA rfl (fun j hj => by rcases (show j = 0 ∨ j = 1 ∨ j = 2 ∨ j = 3 ∨ j = 4 by omega) with rfl | rfl | rfl | rfl | rfl <;> rfl) (Nat.le_of_ble_eq_true rfl) (Nat.le_of_ble_eq_true rfl) dX8_init_27 (fun g15 h16 H hEk17 hNk17 hfk17 hck17 w2_ => ?_)
  replace w := w2_
  clear w2_
  rw [hN] at hck17 hNk17 hfk17
  rw [hN]
  rw [← hEk17.at (k := x) (by omega)]
  replace hl : lv_has ls 2 [(0, .ref (g15.2.2.1 x))] := by rw [hEk17.at (k := x) (by omega)]; exact hl
  replace hO : h16 x = .inr (6, [.ref (g15.2.2.1 (x + 1)), .ref (g15.2.2.1 (x + 12)), .null, .null, .int 0, .null, .null, .null, .null, .null, .null]) := by rw [hfk17 _ (by omega), hO, hEk17.at (k := (x + 1)) (by omega), hEk17.at (k := (x + 12)) (by omega)]
  replace Fk6 := Fk6.ext hEk17 (h' := h16) (fun k_ a_ b_ => hfk17 k_ (by omega))
  replace Fk13 := Fk13.ext hEk17 (h' := h16) (fun k_ a_ b_ => hfk17 k_ (by omega))
  replace hfr : ∀ k_, k_ < x → h16 k_ = h0 k_ := fun k_ hk_ => (hfk17 k_ (by omega)).trans (hfr k_ hk_)
  replace hE0 := hE0.trans hEk17
  clear hEk17 hfk17
  replace hN : g15.2.2.2 = x + 22 := by omega
  clear hNk17
  refine lv_dup hx hb dX8_init_30 rfl ?_
  refine r_callN w hA (va_runI (As := []) (rest := [.ref (g15.2.2.1 (x + 21)), .ref (g15.2.2.1 x)]) ⟨hx, hb, hml, hown, hts⟩ (c_X3_init l (g0 := g15) (h0 := h16) (o := (x + 21)) (by omega) hck17) (cwI 0 hts gX8_init_X3_init rfl rfl rfl (hts (Cond.initialized RX3) (List.mem_of_getElem? (i := 10) (by decide +kernel))) (hts (Cond.methodLink RX8 18 yX3_init) (List.mem_of_getElem? (i := 50) (by decide +kernel))) (hts (Cond.instanceMethod yX3_init) (List.mem_of_getElem? (i := 41) (by decide +kernel))) rfl (by decide +kernel) ⟨Nat.le_of_ble_eq_true rfl, Nat.le_of_ble_eq_true rfl⟩) (r_preN w hA hX) rfl rfl hl.1 rfl (lv_room (Nat.le_of_ble_eq_true rfl)) dX8_init_31 ⟨Nat.le_of_ble_eq_true rfl, (Nat.le_of_ble_eq_true rfl)⟩) (fun g18 h19 H locs hEk20 hp w2_ => ?_)
  replace w := w2_
  clear w2_
  dsimp only at hp
  rw [← hEk20.at (k := (x + 21)) (by omega)]
  rw [← hEk20.at (k := x) (by omega)]
  replace hl : lv_has ls 2 [(0, .ref (g18.2.2.1 x))] := by rw [hEk20.at (k := x) (by omega)]; exact hl
  obtain ⟨hNk20, hfk20, Fk20⟩ := hp
  replace hO : h19 x = .inr (6, [.ref (g18.2.2.1 (x + 1)), .ref (g18.2.2.1 (x + 12)), .null, .null, .int 0, .null, .null, .null, .null, .null, .null]) := by rw [hfk20 _ (by omega), hO, hEk20.at (k := (x + 1)) (by omega), hEk20.at (k := (x + 12)) (by omega)]
  replace Fk6 := Fk6.ext hEk20 (h' := h19) (fun k_ a_ b_ => hfk20 k_ (by omega))
  replace Fk13 := Fk13.ext hEk20 (h' := h19) (fun k_ a_ b_ => hfk20 k_ (by omega))
  replace hfr : ∀ k_, k_ < x → h19 k_ = h0 k_ := fun k_ hk_ => (hfk20 k_ (by omega)).trans (hfr k_ hk_)
  replace hE0 := hE0.trans hEk20
  clear hEk20 hfk20
  replace hN : g18.2.2.2 = x + 30 := by omega
  clear hNk20
  refine r_putF (ty := .object "EarlyValues$Program") (C := RX8) (T := TX8) (N := 11) (ci := 6) hx hb hts inX8_init_X8 tyX8 tyX8_ok nmX8 hown w (by omega) hO rfl 2 (by decide) (hts (Cond.fieldLink RX8 23 "EarlyValues" "trial" "LEarlyValues$Program;") (List.mem_of_getElem? (i := 12) (by decide +kernel))) rfl rfl hin2 rfl (by decide +kernel) rfl rfl (Nat.le_of_ble_eq_true rfl) dX8_init_34 (fun h21 H locs eh21 w2_ => ?_)
  replace w := w2_
  clear w2_
  replace hO : h21 x = .inr (6, [.ref (g18.2.2.1 (x + 1)), .ref (g18.2.2.1 (x + 12)), .ref (g18.2.2.1 (x + 21)), .null, .int 0, .null, .null, .null, .null, .null, .null]) := by rw [eh21, va_up_self]; (try rfl)
  replace Fk6 := Fk6.ext Ext.rf (h' := h21) (fun k_ a_ b_ => by rw [eh21, va_up_ne _ _ (by omega)])
  replace Fk13 := Fk13.ext Ext.rf (h' := h21) (fun k_ a_ b_ => by rw [eh21, va_up_ne _ _ (by omega)])
  replace Fk20 := Fk20.ext Ext.rf (h' := h21) (fun k_ a_ b_ => by rw [eh21, va_up_ne _ _ (by omega)])
  replace hfr : ∀ k_, k_ < x → h21 k_ = h0 k_ := fun k_ hk_ => by rw [eh21, va_up_ne _ _ (by omega)]; exact hfr k_ hk_
  refine lv_aload_n hx hb dX8_init_37 rfl (lv_at hl 0 rfl) ?_
  refine lv_iconst (v := 2) hx hb dX8_init_38 (by decide) ?_
  refine r_newp hx hb hown (hts (Cond.classLink RX8 16 RX3) (List.mem_of_getElem? (i := 8) (by decide +kernel))) hX w hA (by decide : (2 : Int32).toInt = ((2 : Nat) : Int)) (Nat.le_of_ble_eq_true rfl) (Nat.le_of_ble_eq_true rfl) (Nat.le_of_ble_eq_true rfl) dX8_init_39 (fun g22 h23 H hEk24 hNk24 hfk24 hck24 w2_ => ?_)
  replace w := w2_
  clear w2_
  rw [hN] at hck24 hNk24 hfk24
  rw [hN]
  rw [← hEk24.at (k := x) (by omega)]
  replace hl : lv_has ls 2 [(0, .ref (g22.2.2.1 x))] := by rw [hEk24.at (k := x) (by omega)]; exact hl
  replace hO : h23 x = .inr (6, [.ref (g22.2.2.1 (x + 1)), .ref (g22.2.2.1 (x + 12)), .ref (g22.2.2.1 (x + 21)), .null, .int 0, .null, .null, .null, .null, .null, .null]) := by rw [hfk24 _ (by omega), hO, hEk24.at (k := (x + 1)) (by omega), hEk24.at (k := (x + 12)) (by omega), hEk24.at (k := (x + 21)) (by omega)]
  replace Fk6 := Fk6.ext hEk24 (h' := h23) (fun k_ a_ b_ => hfk24 k_ (by omega))
  replace Fk13 := Fk13.ext hEk24 (h' := h23) (fun k_ a_ b_ => hfk24 k_ (by omega))
  replace Fk20 := Fk20.ext hEk24 (h' := h23) (fun k_ a_ b_ => hfk24 k_ (by omega))
  replace hfr : ∀ k_, k_ < x → h23 k_ = h0 k_ := fun k_ hk_ => (hfk24 k_ (by omega)).trans (hfr k_ hk_)
  replace hE0 := hE0.trans hEk24
  clear hEk24 hfk24
  replace hN : g22.2.2.2 = x + 31 := by omega
  clear hNk24
  refine r_putF (ty := .array (.object "EarlyValues$Program")) (C := RX8) (T := TX8) (N := 11) (ci := 6) hx hb hts inX8_init_X8 tyX8 tyX8_ok nmX8 hown w (by omega) hO rfl 3 (by decide) (hts (Cond.fieldLink RX8 26 "EarlyValues" "kept" "[LEarlyValues$Program;") (List.mem_of_getElem? (i := 13) (by decide +kernel))) rfl rfl hin2 rfl (by decide +kernel) rfl rfl (Nat.le_of_ble_eq_true rfl) dX8_init_42 (fun h25 H locs eh25 w2_ => ?_)
  replace w := w2_
  clear w2_
  replace hO : h25 x = .inr (6, [.ref (g22.2.2.1 (x + 1)), .ref (g22.2.2.1 (x + 12)), .ref (g22.2.2.1 (x + 21)), .ref (g22.2.2.1 (x + 30)), .int 0, .null, .null, .null, .null, .null, .null]) := by rw [eh25, va_up_self]; (try rfl)
  replace hck24 : h25 (x + 30) = .inl (g22.2.1 3, 2, .inr (.inr (.inr (.inr (fun _ => none))))) := by rw [eh25, va_up_ne _ _ (by omega)]; exact hck24
  replace Fk6 := Fk6.ext Ext.rf (h' := h25) (fun k_ a_ b_ => by rw [eh25, va_up_ne _ _ (by omega)])
  replace Fk13 := Fk13.ext Ext.rf (h' := h25) (fun k_ a_ b_ => by rw [eh25, va_up_ne _ _ (by omega)])
  replace Fk20 := Fk20.ext Ext.rf (h' := h25) (fun k_ a_ b_ => by rw [eh25, va_up_ne _ _ (by omega)])
  replace hfr : ∀ k_, k_ < x → h25 k_ = h0 k_ := fun k_ hk_ => by rw [eh25, va_up_ne _ _ (by omega)]; exact hfr k_ hk_
  refine lv_iconst (v := 0) hx hb dX8_init_45 (by decide) ?_
  refine lv_istore_n (lv' := [(1, .int 0), (0, .ref (g22.2.2.1 x))]) hx hb dX8_init_46 rfl hl (by decide) rfl (fun ls hl => ?_)
  refine lv_iload_n hx hb dX8_init_47 rfl (lv_at hl 0 rfl) ?_
  refine lv_iconst (v := 2) hx hb dX8_init_48 (by decide) ?_
  refine lv_icmp_ge (tgt := 71) hx hb dX8_init_49 (by decide) (fun c26 => ?_) (fun c26 => ?_)
  · have c26 : ((2 : Nat) : Int) ≤ ((0 : Nat) : Int) := (i_le (by decide : (2 : Int32).toInt = ((2 : Nat) : Int)) (by decide : (0 : Int32).toInt = ((0 : Nat) : Int))).mp c26
    exfalso; omega
  · have c26 : ¬ (((2 : Nat) : Int) ≤ ((0 : Nat) : Int)) := fun q => c26 ((i_le (by decide : (2 : Int32).toInt = ((2 : Nat) : Int)) (by decide : (0 : Int32).toInt = ((0 : Nat) : Int))).mpr q)
    refine lv_aload_n hx hb dX8_init_52 rfl (lv_at hl 1 rfl) ?_
    refine r_get (C := RX8) (T := TX8) (N := 11) (ci := 6) hx hb hts inX8_init_X8 hown w (by omega) hO rfl 3 (by decide) (hts (Cond.fieldLink RX8 26 "EarlyValues" "kept" "[LEarlyValues$Program;") (List.mem_of_getElem? (i := 13) (by decide +kernel))) rfl rfl dX8_init_53 ?_
    refine lv_iload_n hx hb dX8_init_56 rfl (lv_at hl 0 rfl) ?_
    refine r_new (ci := 2) (fs := [.int 0, .null, .null, .null, .null]) (C := RX3) (T := TX3) (N := 5) hx hb hts inX8_init_X3 tyX3 tyX3_ok hown (hts (Cond.classLink RX8 16 RX3) (List.mem_of_getElem? (i := 8) (by decide +kernel))) (hts (Cond.instantiable RX3 5) (List.mem_of_getElem? (i := 9) (by decide +kernel))) (hts (Cond.initialized RX3) (List.mem_of_getElem? (i := 10) (by decide +kernel))) w hA rfl (fun j hj => by rcases (show j = 0 ∨ j = 1 ∨ j = 2 ∨ j = 3 ∨ j = 4 by omega) with rfl | rfl | rfl | rfl | rfl <;> rfl) (Nat.le_of_ble_eq_true rfl) (Nat.le_of_ble_eq_true rfl) dX8_init_57 (fun g27 h28 H hEk29 hNk29 hfk29 hck29 w2_ => ?_)
    replace w := w2_
    clear w2_
    rw [hN] at hck29 hNk29 hfk29
    rw [hN]
    rw [← hEk29.at (k := (x + 30)) (by omega)]
    replace hl : lv_has ls 2 [(1, .int 0), (0, .ref (g27.2.2.1 x))] := by rw [hEk29.at (k := x) (by omega)]; exact hl
    replace hO : h28 x = .inr (6, [.ref (g27.2.2.1 (x + 1)), .ref (g27.2.2.1 (x + 12)), .ref (g27.2.2.1 (x + 21)), .ref (g27.2.2.1 (x + 30)), .int 0, .null, .null, .null, .null, .null, .null]) := by rw [hfk29 _ (by omega), hO, hEk29.at (k := (x + 1)) (by omega), hEk29.at (k := (x + 12)) (by omega), hEk29.at (k := (x + 21)) (by omega), hEk29.at (k := (x + 30)) (by omega)]
    replace hck24 : h28 (x + 30) = .inl (g27.2.1 3, 2, .inr (.inr (.inr (.inr (fun _ => none))))) := by rw [hfk29 _ (by omega), hck24, hEk29.ct 3]
    replace Fk6 := Fk6.ext hEk29 (h' := h28) (fun k_ a_ b_ => hfk29 k_ (by omega))
    replace Fk13 := Fk13.ext hEk29 (h' := h28) (fun k_ a_ b_ => hfk29 k_ (by omega))
    replace Fk20 := Fk20.ext hEk29 (h' := h28) (fun k_ a_ b_ => hfk29 k_ (by omega))
    replace hfr : ∀ k_, k_ < x → h28 k_ = h0 k_ := fun k_ hk_ => (hfk29 k_ (by omega)).trans (hfr k_ hk_)
    replace hE0 := hE0.trans hEk29
    clear hEk29 hfk29
    replace hN : g27.2.2.2 = x + 32 := by omega
    clear hNk29
    refine lv_dup hx hb dX8_init_60 rfl ?_
    refine r_callN w hA (va_runI (As := []) (rest := [.ref (g27.2.2.1 (x + 31)), .int 0, .ref (g27.2.2.1 (x + 30))]) ⟨hx, hb, hml, hown, hts⟩ (c_X3_init l (g0 := g27) (h0 := h28) (o := (x + 31)) (by omega) hck29) (cwI 0 hts gX8_init_X3_init rfl rfl rfl (hts (Cond.initialized RX3) (List.mem_of_getElem? (i := 10) (by decide +kernel))) (hts (Cond.methodLink RX8 18 yX3_init) (List.mem_of_getElem? (i := 50) (by decide +kernel))) (hts (Cond.instanceMethod yX3_init) (List.mem_of_getElem? (i := 41) (by decide +kernel))) rfl (by decide +kernel) ⟨Nat.le_of_ble_eq_true rfl, Nat.le_of_ble_eq_true rfl⟩) (r_preN w hA hX) rfl rfl hl.1 rfl (lv_room (Nat.le_of_ble_eq_true rfl)) dX8_init_61 ⟨Nat.le_of_ble_eq_true rfl, (Nat.le_of_ble_eq_true rfl)⟩) (fun g30 h31 H locs hEk32 hp w2_ => ?_)
    replace w := w2_
    clear w2_
    dsimp only at hp
    rw [← hEk32.at (k := (x + 31)) (by omega)]
    rw [← hEk32.at (k := (x + 30)) (by omega)]
    replace hl : lv_has ls 2 [(1, .int 0), (0, .ref (g30.2.2.1 x))] := by rw [hEk32.at (k := x) (by omega)]; exact hl
    obtain ⟨hNk32, hfk32, Fk32⟩ := hp
    replace hO : h31 x = .inr (6, [.ref (g30.2.2.1 (x + 1)), .ref (g30.2.2.1 (x + 12)), .ref (g30.2.2.1 (x + 21)), .ref (g30.2.2.1 (x + 30)), .int 0, .null, .null, .null, .null, .null, .null]) := by rw [hfk32 _ (by omega), hO, hEk32.at (k := (x + 1)) (by omega), hEk32.at (k := (x + 12)) (by omega), hEk32.at (k := (x + 21)) (by omega), hEk32.at (k := (x + 30)) (by omega)]
    replace hck24 : h31 (x + 30) = .inl (g30.2.1 3, 2, .inr (.inr (.inr (.inr (fun _ => none))))) := by rw [hfk32 _ (by omega), hck24, hEk32.ct 3]
    replace Fk6 := Fk6.ext hEk32 (h' := h31) (fun k_ a_ b_ => hfk32 k_ (by omega))
    replace Fk13 := Fk13.ext hEk32 (h' := h31) (fun k_ a_ b_ => hfk32 k_ (by omega))
    replace Fk20 := Fk20.ext hEk32 (h' := h31) (fun k_ a_ b_ => hfk32 k_ (by omega))
    replace hfr : ∀ k_, k_ < x → h31 k_ = h0 k_ := fun k_ hk_ => (hfk32 k_ (by omega)).trans (hfr k_ hk_)
    replace hE0 := hE0.trans hEk32
    clear hEk32 hfk32
    replace hN : g30.2.2.2 = x + 40 := by omega
    clear hNk32
    obtain ⟨n_, a_, b_, c_, d_, PP_⟩ := id Fk32
    refine r_aastp (j := 0) hx hb w (by omega) (by omega) hck24 PP_.c0 (by decide : (0 : Int32).toInt = ((0 : Nat) : Int)) (by omega) dX8_init_64 (fun h33 H locs eh33 w2_ => ?_)
    replace w := w2_
    clear w2_
    replace hO : h33 x = .inr (6, [.ref (g30.2.2.1 (x + 1)), .ref (g30.2.2.1 (x + 12)), .ref (g30.2.2.1 (x + 21)), .ref (g30.2.2.1 (x + 30)), .int 0, .null, .null, .null, .null, .null, .null]) := by rw [eh33, va_up_ne _ _ (by omega)]; exact hO
    replace hck24 : h33 (x + 30) = .inl (g30.2.1 3, 2, .inr (.inr (.inr (.inr (va_up (fun _ => none) (0) (some (g30.2.2.1 (x + 31)))))))) := by rw [eh33, va_up_self]; (try rfl)
    replace Fk6 := Fk6.ext Ext.rf (h' := h33) (fun k_ a_ b_ => by rw [eh33, va_up_ne _ _ (by omega)])
    replace Fk13 := Fk13.ext Ext.rf (h' := h33) (fun k_ a_ b_ => by rw [eh33, va_up_ne _ _ (by omega)])
    replace Fk20 := Fk20.ext Ext.rf (h' := h33) (fun k_ a_ b_ => by rw [eh33, va_up_ne _ _ (by omega)])
    replace Fk32 := Fk32.ext Ext.rf (h' := h33) (fun k_ a_ b_ => by rw [eh33, va_up_ne _ _ (by omega)])
    replace hfr : ∀ k_, k_ < x → h33 k_ = h0 k_ := fun k_ hk_ => by rw [eh33, va_up_ne _ _ (by omega)]; exact hfr k_ hk_
    obtain ⟨y34, ey34⟩ : ∃ y : Int32, y = 0 + (1) := ⟨_, rfl⟩
    have ty34 : y34.toInt = (((0 + 1) : Nat) : Int) := i_addN ey34 (by decide : (0 : Int32).toInt = ((0 : Nat) : Int)) (by decide : (1 : Int32).toInt = ((1 : Nat) : Int)) (by omega)
    refine lv_iinc (v := y34) (lv' := [(1, .int y34), (0, .ref (g30.2.2.1 x))]) hx hb dX8_init_65 hl (k := 0) rfl (by rw [ey34]; rfl) (by decide) rfl (fun ls hl => ?_)
    refine lv_goto (tgt := 47) hx hb dX8_init_68 (by decide) ?_
    refine lv_iload_n hx hb dX8_init_47 rfl (lv_at hl 0 rfl) ?_
    refine lv_iconst (v := 2) hx hb dX8_init_48 (by decide) ?_
    refine lv_icmp_ge (tgt := 71) hx hb dX8_init_49 (by decide) (fun c35 => ?_) (fun c35 => ?_)
    · have c35 : ((2 : Nat) : Int) ≤ (((0 + 1) : Nat) : Int) := (i_le (by decide : (2 : Int32).toInt = ((2 : Nat) : Int)) ty34).mp c35
      exfalso; omega
    · have c35 : ¬ (((2 : Nat) : Int) ≤ (((0 + 1) : Nat) : Int)) := fun q => c35 ((i_le (by decide : (2 : Int32).toInt = ((2 : Nat) : Int)) ty34).mpr q)
      refine lv_aload_n hx hb dX8_init_52 rfl (lv_at hl 1 rfl) ?_
      refine r_get (C := RX8) (T := TX8) (N := 11) (ci := 6) hx hb hts inX8_init_X8 hown w (by omega) hO rfl 3 (by decide) (hts (Cond.fieldLink RX8 26 "EarlyValues" "kept" "[LEarlyValues$Program;") (List.mem_of_getElem? (i := 13) (by decide +kernel))) rfl rfl dX8_init_53 ?_
      refine lv_iload_n hx hb dX8_init_56 rfl (lv_at hl 0 rfl) ?_
      refine r_new (ci := 2) (fs := [.int 0, .null, .null, .null, .null]) (C := RX3) (T := TX3) (N := 5) hx hb hts inX8_init_X3 tyX3 tyX3_ok hown (hts (Cond.classLink RX8 16 RX3) (List.mem_of_getElem? (i := 8) (by decide +kernel))) (hts (Cond.instantiable RX3 5) (List.mem_of_getElem? (i := 9) (by decide +kernel))) (hts (Cond.initialized RX3) (List.mem_of_getElem? (i := 10) (by decide +kernel))) w hA rfl (fun j hj => by rcases (show j = 0 ∨ j = 1 ∨ j = 2 ∨ j = 3 ∨ j = 4 by omega) with rfl | rfl | rfl | rfl | rfl <;> rfl) (Nat.le_of_ble_eq_true rfl) (Nat.le_of_ble_eq_true rfl) dX8_init_57 (fun g36 h37 H hEk38 hNk38 hfk38 hck38 w2_ => ?_)
      replace w := w2_
      clear w2_
      rw [hN] at hck38 hNk38 hfk38
      rw [hN]
      rw [← hEk38.at (k := (x + 30)) (by omega)]
      replace hl : lv_has ls 2 [(1, .int y34), (0, .ref (g36.2.2.1 x))] := by rw [hEk38.at (k := x) (by omega)]; exact hl
      replace hO : h37 x = .inr (6, [.ref (g36.2.2.1 (x + 1)), .ref (g36.2.2.1 (x + 12)), .ref (g36.2.2.1 (x + 21)), .ref (g36.2.2.1 (x + 30)), .int 0, .null, .null, .null, .null, .null, .null]) := by rw [hfk38 _ (by omega), hO, hEk38.at (k := (x + 1)) (by omega), hEk38.at (k := (x + 12)) (by omega), hEk38.at (k := (x + 21)) (by omega), hEk38.at (k := (x + 30)) (by omega)]
      replace hck24 : h37 (x + 30) = .inl (g36.2.1 3, 2, .inr (.inr (.inr (.inr (va_up (fun _ => none) (0) (some (g36.2.2.1 (x + 31)))))))) := by rw [hfk38 _ (by omega), hck24, hEk38.ct 3, hEk38.at (k := (x + 31)) (by omega)]
      replace Fk6 := Fk6.ext hEk38 (h' := h37) (fun k_ a_ b_ => hfk38 k_ (by omega))
      replace Fk13 := Fk13.ext hEk38 (h' := h37) (fun k_ a_ b_ => hfk38 k_ (by omega))
      replace Fk20 := Fk20.ext hEk38 (h' := h37) (fun k_ a_ b_ => hfk38 k_ (by omega))
      replace Fk32 := Fk32.ext hEk38 (h' := h37) (fun k_ a_ b_ => hfk38 k_ (by omega))
      replace hfr : ∀ k_, k_ < x → h37 k_ = h0 k_ := fun k_ hk_ => (hfk38 k_ (by omega)).trans (hfr k_ hk_)
      replace hE0 := hE0.trans hEk38
      clear hEk38 hfk38
      replace hN : g36.2.2.2 = x + 41 := by omega
      clear hNk38
      refine lv_dup hx hb dX8_init_60 rfl ?_
      refine r_callN w hA (va_runI (As := []) (rest := [.ref (g36.2.2.1 (x + 40)), .int y34, .ref (g36.2.2.1 (x + 30))]) ⟨hx, hb, hml, hown, hts⟩ (c_X3_init l (g0 := g36) (h0 := h37) (o := (x + 40)) (by omega) hck38) (cwI 0 hts gX8_init_X3_init rfl rfl rfl (hts (Cond.initialized RX3) (List.mem_of_getElem? (i := 10) (by decide +kernel))) (hts (Cond.methodLink RX8 18 yX3_init) (List.mem_of_getElem? (i := 50) (by decide +kernel))) (hts (Cond.instanceMethod yX3_init) (List.mem_of_getElem? (i := 41) (by decide +kernel))) rfl (by decide +kernel) ⟨Nat.le_of_ble_eq_true rfl, Nat.le_of_ble_eq_true rfl⟩) (r_preN w hA hX) rfl rfl hl.1 rfl (lv_room (Nat.le_of_ble_eq_true rfl)) dX8_init_61 ⟨Nat.le_of_ble_eq_true rfl, (Nat.le_of_ble_eq_true rfl)⟩) (fun g39 h40 H locs hEk41 hp w2_ => ?_)
      replace w := w2_
      clear w2_
      dsimp only at hp
      rw [← hEk41.at (k := (x + 40)) (by omega)]
      rw [← hEk41.at (k := (x + 30)) (by omega)]
      replace hl : lv_has ls 2 [(1, .int y34), (0, .ref (g39.2.2.1 x))] := by rw [hEk41.at (k := x) (by omega)]; exact hl
      obtain ⟨hNk41, hfk41, Fk41⟩ := hp
      replace hO : h40 x = .inr (6, [.ref (g39.2.2.1 (x + 1)), .ref (g39.2.2.1 (x + 12)), .ref (g39.2.2.1 (x + 21)), .ref (g39.2.2.1 (x + 30)), .int 0, .null, .null, .null, .null, .null, .null]) := by rw [hfk41 _ (by omega), hO, hEk41.at (k := (x + 1)) (by omega), hEk41.at (k := (x + 12)) (by omega), hEk41.at (k := (x + 21)) (by omega), hEk41.at (k := (x + 30)) (by omega)]
      replace hck24 : h40 (x + 30) = .inl (g39.2.1 3, 2, .inr (.inr (.inr (.inr (va_up (fun _ => none) (0) (some (g39.2.2.1 (x + 31)))))))) := by rw [hfk41 _ (by omega), hck24, hEk41.ct 3, hEk41.at (k := (x + 31)) (by omega)]
      replace Fk6 := Fk6.ext hEk41 (h' := h40) (fun k_ a_ b_ => hfk41 k_ (by omega))
      replace Fk13 := Fk13.ext hEk41 (h' := h40) (fun k_ a_ b_ => hfk41 k_ (by omega))
      replace Fk20 := Fk20.ext hEk41 (h' := h40) (fun k_ a_ b_ => hfk41 k_ (by omega))
      replace Fk32 := Fk32.ext hEk41 (h' := h40) (fun k_ a_ b_ => hfk41 k_ (by omega))
      replace hfr : ∀ k_, k_ < x → h40 k_ = h0 k_ := fun k_ hk_ => (hfk41 k_ (by omega)).trans (hfr k_ hk_)
      replace hE0 := hE0.trans hEk41
      clear hEk41 hfk41
      replace hN : g39.2.2.2 = x + 49 := by omega
      clear hNk41
      obtain ⟨n_, a_, b_, c_, d_, PP_⟩ := id Fk41
      refine r_aastp (j := (0 + 1)) hx hb w (by omega) (by omega) hck24 PP_.c0 ty34 (by omega) dX8_init_64 (fun h42 H locs eh42 w2_ => ?_)
      replace w := w2_
      clear w2_
      replace hO : h42 x = .inr (6, [.ref (g39.2.2.1 (x + 1)), .ref (g39.2.2.1 (x + 12)), .ref (g39.2.2.1 (x + 21)), .ref (g39.2.2.1 (x + 30)), .int 0, .null, .null, .null, .null, .null, .null]) := by rw [eh42, va_up_ne _ _ (by omega)]; exact hO
      replace hck24 : h42 (x + 30) = .inl (g39.2.1 3, 2, .inr (.inr (.inr (.inr (va_up (va_up (fun _ => none) (0) (some (g39.2.2.1 (x + 31)))) ((0 + 1)) (some (g39.2.2.1 (x + 40)))))))) := by rw [eh42, va_up_self]; (try rfl)
      replace Fk6 := Fk6.ext Ext.rf (h' := h42) (fun k_ a_ b_ => by rw [eh42, va_up_ne _ _ (by omega)])
      replace Fk13 := Fk13.ext Ext.rf (h' := h42) (fun k_ a_ b_ => by rw [eh42, va_up_ne _ _ (by omega)])
      replace Fk20 := Fk20.ext Ext.rf (h' := h42) (fun k_ a_ b_ => by rw [eh42, va_up_ne _ _ (by omega)])
      replace Fk32 := Fk32.ext Ext.rf (h' := h42) (fun k_ a_ b_ => by rw [eh42, va_up_ne _ _ (by omega)])
      replace Fk41 := Fk41.ext Ext.rf (h' := h42) (fun k_ a_ b_ => by rw [eh42, va_up_ne _ _ (by omega)])
      replace hfr : ∀ k_, k_ < x → h42 k_ = h0 k_ := fun k_ hk_ => by rw [eh42, va_up_ne _ _ (by omega)]; exact hfr k_ hk_
      obtain ⟨y43, ey43⟩ : ∃ y : Int32, y = y34 + (1) := ⟨_, rfl⟩
      have ty43 : y43.toInt = ((((0 + 1) + 1) : Nat) : Int) := i_addN ey43 ty34 (by decide : (1 : Int32).toInt = ((1 : Nat) : Int)) (by omega)
      refine lv_iinc (v := y43) (lv' := [(1, .int y43), (0, .ref (g39.2.2.1 x))]) hx hb dX8_init_65 hl (k := 0) rfl (by rw [ey43]; rfl) (by decide) rfl (fun ls hl => ?_)
      refine lv_goto (tgt := 47) hx hb dX8_init_68 (by decide) ?_
      refine lv_iload_n hx hb dX8_init_47 rfl (lv_at hl 0 rfl) ?_
      refine lv_iconst (v := 2) hx hb dX8_init_48 (by decide) ?_
      refine lv_icmp_ge (tgt := 71) hx hb dX8_init_49 (by decide) (fun c44 => ?_) (fun c44 => ?_)
      · have c44 : ((2 : Nat) : Int) ≤ ((((0 + 1) + 1) : Nat) : Int) := (i_le (by decide : (2 : Int32).toInt = ((2 : Nat) : Int)) ty43).mp c44
        refine lv_aload_n hx hb dX8_init_71 rfl (lv_at hl 1 rfl) ?_
        refine r_new (ci := 1) (fs := [.null, .null, .null, .int 0]) (C := RX1) (T := TX1) (N := 4) hx hb hts inX8_init_X1 tyX1 tyX1_ok hown (hts (Cond.classLink RX8 30 RX1) (List.mem_of_getElem? (i := 14) (by decide +kernel))) (hts (Cond.instantiable RX1 4) (List.mem_of_getElem? (i := 15) (by decide +kernel))) (hts (Cond.initialized RX1) (List.mem_of_getElem? (i := 16) (by decide +kernel))) w hA rfl (fun j hj => by rcases (show j = 0 ∨ j = 1 ∨ j = 2 ∨ j = 3 by omega) with rfl | rfl | rfl | rfl <;> rfl) (Nat.le_of_ble_eq_true rfl) (Nat.le_of_ble_eq_true rfl) dX8_init_72 (fun g45 h46 H hEk47 hNk47 hfk47 hck47 w2_ => ?_)
        replace w := w2_
        clear w2_
        rw [hN] at hck47 hNk47 hfk47
        rw [hN]
        rw [← hEk47.at (k := x) (by omega)]
        replace hl : lv_has ls 2 [(1, .int y43), (0, .ref (g45.2.2.1 x))] := by rw [hEk47.at (k := x) (by omega)]; exact hl
        replace hO : h46 x = .inr (6, [.ref (g45.2.2.1 (x + 1)), .ref (g45.2.2.1 (x + 12)), .ref (g45.2.2.1 (x + 21)), .ref (g45.2.2.1 (x + 30)), .int 0, .null, .null, .null, .null, .null, .null]) := by rw [hfk47 _ (by omega), hO, hEk47.at (k := (x + 1)) (by omega), hEk47.at (k := (x + 12)) (by omega), hEk47.at (k := (x + 21)) (by omega), hEk47.at (k := (x + 30)) (by omega)]
        replace hck24 : h46 (x + 30) = .inl (g45.2.1 3, 2, .inr (.inr (.inr (.inr (va_up (va_up (fun _ => none) (0) (some (g45.2.2.1 (x + 31)))) ((0 + 1)) (some (g45.2.2.1 (x + 40)))))))) := by rw [hfk47 _ (by omega), hck24, hEk47.ct 3, hEk47.at (k := (x + 31)) (by omega), hEk47.at (k := (x + 40)) (by omega)]
        replace Fk6 := Fk6.ext hEk47 (h' := h46) (fun k_ a_ b_ => hfk47 k_ (by omega))
        replace Fk13 := Fk13.ext hEk47 (h' := h46) (fun k_ a_ b_ => hfk47 k_ (by omega))
        replace Fk20 := Fk20.ext hEk47 (h' := h46) (fun k_ a_ b_ => hfk47 k_ (by omega))
        replace Fk32 := Fk32.ext hEk47 (h' := h46) (fun k_ a_ b_ => hfk47 k_ (by omega))
        replace Fk41 := Fk41.ext hEk47 (h' := h46) (fun k_ a_ b_ => hfk47 k_ (by omega))
        replace hfr : ∀ k_, k_ < x → h46 k_ = h0 k_ := fun k_ hk_ => (hfk47 k_ (by omega)).trans (hfr k_ hk_)
        replace hE0 := hE0.trans hEk47
        clear hEk47 hfk47
        replace hN : g45.2.2.2 = x + 50 := by omega
        clear hNk47
        refine lv_dup hx hb dX8_init_75 rfl ?_
        refine r_callN w hA (va_runI (As := []) (rest := [.ref (g45.2.2.1 (x + 49)), .ref (g45.2.2.1 x)]) ⟨hx, hb, hml, hown, hts⟩ (c_X1_init l (g0 := g45) (h0 := h46) (t := (x + 49)) (by omega) hck47) (cwI 0 hts gX8_init_X1_init rfl rfl rfl (hts (Cond.initialized RX1) (List.mem_of_getElem? (i := 16) (by decide +kernel))) (hts (Cond.methodLink RX8 32 yX1_init) (List.mem_of_getElem? (i := 51) (by decide +kernel))) (hts (Cond.instanceMethod yX1_init) (List.mem_of_getElem? (i := 52) (by decide +kernel))) rfl (by decide +kernel) ⟨Nat.le_of_ble_eq_true rfl, Nat.le_of_ble_eq_true rfl⟩) (r_preN w hA hX) rfl rfl hl.1 rfl (lv_room (Nat.le_of_ble_eq_true rfl)) dX8_init_76 ⟨Nat.le_of_ble_eq_true rfl, (Nat.le_of_ble_eq_true rfl)⟩) (fun g48 h49 H locs hEk50 hp w2_ => ?_)
        replace w := w2_
        clear w2_
        dsimp only at hp
        rw [← hEk50.at (k := (x + 49)) (by omega)]
        rw [← hEk50.at (k := x) (by omega)]
        replace hl : lv_has ls 2 [(1, .int y43), (0, .ref (g48.2.2.1 x))] := by rw [hEk50.at (k := x) (by omega)]; exact hl
        obtain ⟨hNk50, hfk50, Fk50⟩ := hp
        replace hO : h49 x = .inr (6, [.ref (g48.2.2.1 (x + 1)), .ref (g48.2.2.1 (x + 12)), .ref (g48.2.2.1 (x + 21)), .ref (g48.2.2.1 (x + 30)), .int 0, .null, .null, .null, .null, .null, .null]) := by rw [hfk50 _ (by omega), hO, hEk50.at (k := (x + 1)) (by omega), hEk50.at (k := (x + 12)) (by omega), hEk50.at (k := (x + 21)) (by omega), hEk50.at (k := (x + 30)) (by omega)]
        replace hck24 : h49 (x + 30) = .inl (g48.2.1 3, 2, .inr (.inr (.inr (.inr (va_up (va_up (fun _ => none) (0) (some (g48.2.2.1 (x + 31)))) ((0 + 1)) (some (g48.2.2.1 (x + 40)))))))) := by rw [hfk50 _ (by omega), hck24, hEk50.ct 3, hEk50.at (k := (x + 31)) (by omega), hEk50.at (k := (x + 40)) (by omega)]
        replace Fk6 := Fk6.ext hEk50 (h' := h49) (fun k_ a_ b_ => hfk50 k_ (by omega))
        replace Fk13 := Fk13.ext hEk50 (h' := h49) (fun k_ a_ b_ => hfk50 k_ (by omega))
        replace Fk20 := Fk20.ext hEk50 (h' := h49) (fun k_ a_ b_ => hfk50 k_ (by omega))
        replace Fk32 := Fk32.ext hEk50 (h' := h49) (fun k_ a_ b_ => hfk50 k_ (by omega))
        replace Fk41 := Fk41.ext hEk50 (h' := h49) (fun k_ a_ b_ => hfk50 k_ (by omega))
        replace hfr : ∀ k_, k_ < x → h49 k_ = h0 k_ := fun k_ hk_ => (hfk50 k_ (by omega)).trans (hfr k_ hk_)
        replace hE0 := hE0.trans hEk50
        clear hEk50 hfk50
        replace hN : g48.2.2.2 = x + 53 := by omega
        clear hNk50
        refine r_putF (ty := .object "EarlyValues$History") (C := RX8) (T := TX8) (N := 11) (ci := 6) hx hb hts inX8_init_X8 tyX8 tyX8_ok nmX8 hown w (by omega) hO rfl 5 (by decide) (hts (Cond.fieldLink RX8 33 "EarlyValues" "history" "LEarlyValues$History;") (List.mem_of_getElem? (i := 17) (by decide +kernel))) rfl rfl hin2 rfl (by decide +kernel) rfl rfl (Nat.le_of_ble_eq_true rfl) dX8_init_79 (fun h51 H locs eh51 w2_ => ?_)
        replace w := w2_
        clear w2_
        replace hO : h51 x = .inr (6, [.ref (g48.2.2.1 (x + 1)), .ref (g48.2.2.1 (x + 12)), .ref (g48.2.2.1 (x + 21)), .ref (g48.2.2.1 (x + 30)), .int 0, .ref (g48.2.2.1 (x + 49)), .null, .null, .null, .null, .null]) := by rw [eh51, va_up_self]; (try rfl)
        replace hck24 : h51 (x + 30) = .inl (g48.2.1 3, 2, .inr (.inr (.inr (.inr (va_up (va_up (fun _ => none) (0) (some (g48.2.2.1 (x + 31)))) ((0 + 1)) (some (g48.2.2.1 (x + 40)))))))) := by rw [eh51, va_up_ne _ _ (by omega)]; exact hck24
        replace Fk6 := Fk6.ext Ext.rf (h' := h51) (fun k_ a_ b_ => by rw [eh51, va_up_ne _ _ (by omega)])
        replace Fk13 := Fk13.ext Ext.rf (h' := h51) (fun k_ a_ b_ => by rw [eh51, va_up_ne _ _ (by omega)])
        replace Fk20 := Fk20.ext Ext.rf (h' := h51) (fun k_ a_ b_ => by rw [eh51, va_up_ne _ _ (by omega)])
        replace Fk32 := Fk32.ext Ext.rf (h' := h51) (fun k_ a_ b_ => by rw [eh51, va_up_ne _ _ (by omega)])
        replace Fk41 := Fk41.ext Ext.rf (h' := h51) (fun k_ a_ b_ => by rw [eh51, va_up_ne _ _ (by omega)])
        replace Fk50 := Fk50.ext Ext.rf (h' := h51) (fun k_ a_ b_ => by rw [eh51, va_up_ne _ _ (by omega)])
        replace hfr : ∀ k_, k_ < x → h51 k_ = h0 k_ := fun k_ hk_ => by rw [eh51, va_up_ne _ _ (by omega)]; exact hfr k_ hk_
        refine lv_aload_n hx hb dX8_init_82 rfl (lv_at hl 1 rfl) ?_
        refine r_new (ci := 5) (fs := [.int 0, .int 0, .int 0, .int 0, .null, .null, .null, .null, .int 0, .int 0, .null, .null, .int 0]) (C := RX6) (T := TX6) (N := 13) hx hb hts inX8_init_X6 tyX6 tyX6_ok hown (hts (Cond.classLink RX8 37 RX6) (List.mem_of_getElem? (i := 18) (by decide +kernel))) (hts (Cond.instantiable RX6 13) (List.mem_of_getElem? (i := 19) (by decide +kernel))) (hts (Cond.initialized RX6) (List.mem_of_getElem? (i := 20) (by decide +kernel))) w hA rfl (fun j hj => by rcases (show j = 0 ∨ j = 1 ∨ j = 2 ∨ j = 3 ∨ j = 4 ∨ j = 5 ∨ j = 6 ∨ j = 7 ∨ j = 8 ∨ j = 9 ∨ j = 10 ∨ j = 11 ∨ j = 12 by omega) with rfl | rfl | rfl | rfl | rfl | rfl | rfl | rfl | rfl | rfl | rfl | rfl | rfl <;> rfl) (Nat.le_of_ble_eq_true rfl) (Nat.le_of_ble_eq_true rfl) dX8_init_83 (fun g52 h53 H hEk54 hNk54 hfk54 hck54 w2_ => ?_)
        replace w := w2_
        clear w2_
        rw [hN] at hck54 hNk54 hfk54
        rw [hN]
        rw [← hEk54.at (k := x) (by omega)]
        replace hl : lv_has ls 2 [(1, .int y43), (0, .ref (g52.2.2.1 x))] := by rw [hEk54.at (k := x) (by omega)]; exact hl
        replace hO : h53 x = .inr (6, [.ref (g52.2.2.1 (x + 1)), .ref (g52.2.2.1 (x + 12)), .ref (g52.2.2.1 (x + 21)), .ref (g52.2.2.1 (x + 30)), .int 0, .ref (g52.2.2.1 (x + 49)), .null, .null, .null, .null, .null]) := by rw [hfk54 _ (by omega), hO, hEk54.at (k := (x + 1)) (by omega), hEk54.at (k := (x + 12)) (by omega), hEk54.at (k := (x + 21)) (by omega), hEk54.at (k := (x + 30)) (by omega), hEk54.at (k := (x + 49)) (by omega)]
        replace hck24 : h53 (x + 30) = .inl (g52.2.1 3, 2, .inr (.inr (.inr (.inr (va_up (va_up (fun _ => none) (0) (some (g52.2.2.1 (x + 31)))) ((0 + 1)) (some (g52.2.2.1 (x + 40)))))))) := by rw [hfk54 _ (by omega), hck24, hEk54.ct 3, hEk54.at (k := (x + 31)) (by omega), hEk54.at (k := (x + 40)) (by omega)]
        replace Fk6 := Fk6.ext hEk54 (h' := h53) (fun k_ a_ b_ => hfk54 k_ (by omega))
        replace Fk13 := Fk13.ext hEk54 (h' := h53) (fun k_ a_ b_ => hfk54 k_ (by omega))
        replace Fk20 := Fk20.ext hEk54 (h' := h53) (fun k_ a_ b_ => hfk54 k_ (by omega))
        replace Fk32 := Fk32.ext hEk54 (h' := h53) (fun k_ a_ b_ => hfk54 k_ (by omega))
        replace Fk41 := Fk41.ext hEk54 (h' := h53) (fun k_ a_ b_ => hfk54 k_ (by omega))
        replace Fk50 := Fk50.ext hEk54 (h' := h53) (fun k_ a_ b_ => hfk54 k_ (by omega))
        replace hfr : ∀ k_, k_ < x → h53 k_ = h0 k_ := fun k_ hk_ => (hfk54 k_ (by omega)).trans (hfr k_ hk_)
        replace hE0 := hE0.trans hEk54
        clear hEk54 hfk54
        replace hN : g52.2.2.2 = x + 54 := by omega
        clear hNk54
        refine lv_dup hx hb dX8_init_86 rfl ?_
        refine r_callN w hA (va_runI (As := []) (rest := [.ref (g52.2.2.1 (x + 53)), .ref (g52.2.2.1 x)]) ⟨hx, hb, hml, hown, hts⟩ (c_X6_init l (g0 := g52) (h0 := h53) (v := (x + 53)) (by omega) hck54) (cwI 0 hts gX8_init_X6_init rfl rfl rfl (hts (Cond.initialized RX6) (List.mem_of_getElem? (i := 20) (by decide +kernel))) (hts (Cond.methodLink RX8 39 yX6_init) (List.mem_of_getElem? (i := 58) (by decide +kernel))) (hts (Cond.instanceMethod yX6_init) (List.mem_of_getElem? (i := 59) (by decide +kernel))) rfl (by decide +kernel) ⟨Nat.le_of_ble_eq_true rfl, Nat.le_of_ble_eq_true rfl⟩) (r_preN w hA hX) rfl rfl hl.1 rfl (lv_room (Nat.le_of_ble_eq_true rfl)) dX8_init_87 ⟨Nat.le_of_ble_eq_true rfl, (Nat.le_of_ble_eq_true rfl)⟩) (fun g55 h56 H locs hEk57 hp w2_ => ?_)
        replace w := w2_
        clear w2_
        dsimp only at hp
        rw [← hEk57.at (k := (x + 53)) (by omega)]
        rw [← hEk57.at (k := x) (by omega)]
        replace hl : lv_has ls 2 [(1, .int y43), (0, .ref (g55.2.2.1 x))] := by rw [hEk57.at (k := x) (by omega)]; exact hl
        obtain ⟨hNk57, hfk57, Fk57⟩ := hp
        replace hO : h56 x = .inr (6, [.ref (g55.2.2.1 (x + 1)), .ref (g55.2.2.1 (x + 12)), .ref (g55.2.2.1 (x + 21)), .ref (g55.2.2.1 (x + 30)), .int 0, .ref (g55.2.2.1 (x + 49)), .null, .null, .null, .null, .null]) := by rw [hfk57 _ (by omega), hO, hEk57.at (k := (x + 1)) (by omega), hEk57.at (k := (x + 12)) (by omega), hEk57.at (k := (x + 21)) (by omega), hEk57.at (k := (x + 30)) (by omega), hEk57.at (k := (x + 49)) (by omega)]
        replace hck24 : h56 (x + 30) = .inl (g55.2.1 3, 2, .inr (.inr (.inr (.inr (va_up (va_up (fun _ => none) (0) (some (g55.2.2.1 (x + 31)))) ((0 + 1)) (some (g55.2.2.1 (x + 40)))))))) := by rw [hfk57 _ (by omega), hck24, hEk57.ct 3, hEk57.at (k := (x + 31)) (by omega), hEk57.at (k := (x + 40)) (by omega)]
        replace Fk6 := Fk6.ext hEk57 (h' := h56) (fun k_ a_ b_ => hfk57 k_ (by omega))
        replace Fk13 := Fk13.ext hEk57 (h' := h56) (fun k_ a_ b_ => hfk57 k_ (by omega))
        replace Fk20 := Fk20.ext hEk57 (h' := h56) (fun k_ a_ b_ => hfk57 k_ (by omega))
        replace Fk32 := Fk32.ext hEk57 (h' := h56) (fun k_ a_ b_ => hfk57 k_ (by omega))
        replace Fk41 := Fk41.ext hEk57 (h' := h56) (fun k_ a_ b_ => hfk57 k_ (by omega))
        replace Fk50 := Fk50.ext hEk57 (h' := h56) (fun k_ a_ b_ => hfk57 k_ (by omega))
        replace hfr : ∀ k_, k_ < x → h56 k_ = h0 k_ := fun k_ hk_ => (hfk57 k_ (by omega)).trans (hfr k_ hk_)
        replace hE0 := hE0.trans hEk57
        clear hEk57 hfk57
        replace hN : g55.2.2.2 = x + 71 := by omega
        clear hNk57
        refine r_putF (ty := .object "EarlyValues$View") (C := RX8) (T := TX8) (N := 11) (ci := 6) hx hb hts inX8_init_X8 tyX8 tyX8_ok nmX8 hown w (by omega) hO rfl 6 (by decide) (hts (Cond.fieldLink RX8 40 "EarlyValues" "values" "LEarlyValues$View;") (List.mem_of_getElem? (i := 21) (by decide +kernel))) rfl rfl hin2 rfl (by decide +kernel) rfl rfl (Nat.le_of_ble_eq_true rfl) dX8_init_90 (fun h58 H locs eh58 w2_ => ?_)
        replace w := w2_
        clear w2_
        replace hO : h58 x = .inr (6, [.ref (g55.2.2.1 (x + 1)), .ref (g55.2.2.1 (x + 12)), .ref (g55.2.2.1 (x + 21)), .ref (g55.2.2.1 (x + 30)), .int 0, .ref (g55.2.2.1 (x + 49)), .ref (g55.2.2.1 (x + 53)), .null, .null, .null, .null]) := by rw [eh58, va_up_self]; (try rfl)
        replace hck24 : h58 (x + 30) = .inl (g55.2.1 3, 2, .inr (.inr (.inr (.inr (va_up (va_up (fun _ => none) (0) (some (g55.2.2.1 (x + 31)))) ((0 + 1)) (some (g55.2.2.1 (x + 40)))))))) := by rw [eh58, va_up_ne _ _ (by omega)]; exact hck24
        replace Fk6 := Fk6.ext Ext.rf (h' := h58) (fun k_ a_ b_ => by rw [eh58, va_up_ne _ _ (by omega)])
        replace Fk13 := Fk13.ext Ext.rf (h' := h58) (fun k_ a_ b_ => by rw [eh58, va_up_ne _ _ (by omega)])
        replace Fk20 := Fk20.ext Ext.rf (h' := h58) (fun k_ a_ b_ => by rw [eh58, va_up_ne _ _ (by omega)])
        replace Fk32 := Fk32.ext Ext.rf (h' := h58) (fun k_ a_ b_ => by rw [eh58, va_up_ne _ _ (by omega)])
        replace Fk41 := Fk41.ext Ext.rf (h' := h58) (fun k_ a_ b_ => by rw [eh58, va_up_ne _ _ (by omega)])
        replace Fk50 := Fk50.ext Ext.rf (h' := h58) (fun k_ a_ b_ => by rw [eh58, va_up_ne _ _ (by omega)])
        replace Fk57 := Fk57.ext Ext.rf (h' := h58) (fun k_ a_ b_ => by rw [eh58, va_up_ne _ _ (by omega)])
        replace hfr : ∀ k_, k_ < x → h58 k_ = h0 k_ := fun k_ hk_ => by rw [eh58, va_up_ne _ _ (by omega)]; exact hfr k_ hk_
        refine lv_aload_n hx hb dX8_init_93 rfl (lv_at hl 1 rfl) ?_
        refine r_new (ci := 3) (fs := [.int 0, .int 0, .int 0, .int 0, .null, .null, .null, .null, .int 0, .int 0, .null, .null, .int 0]) (C := RX4) (T := TX4) (N := 13) hx hb hts inX8_init_X4 tyX4 tyX4_ok hown (hts (Cond.classLink RX8 44 RX4) (List.mem_of_getElem? (i := 22) (by decide +kernel))) (hts (Cond.instantiable RX4 13) (List.mem_of_getElem? (i := 23) (by decide +kernel))) (hts (Cond.initialized RX4) (List.mem_of_getElem? (i := 24) (by decide +kernel))) w hA rfl (fun j hj => by rcases (show j = 0 ∨ j = 1 ∨ j = 2 ∨ j = 3 ∨ j = 4 ∨ j = 5 ∨ j = 6 ∨ j = 7 ∨ j = 8 ∨ j = 9 ∨ j = 10 ∨ j = 11 ∨ j = 12 by omega) with rfl | rfl | rfl | rfl | rfl | rfl | rfl | rfl | rfl | rfl | rfl | rfl | rfl <;> rfl) (Nat.le_of_ble_eq_true rfl) (Nat.le_of_ble_eq_true rfl) dX8_init_94 (fun g59 h60 H hEk61 hNk61 hfk61 hck61 w2_ => ?_)
        replace w := w2_
        clear w2_
        rw [hN] at hck61 hNk61 hfk61
        rw [hN]
        rw [← hEk61.at (k := x) (by omega)]
        replace hl : lv_has ls 2 [(1, .int y43), (0, .ref (g59.2.2.1 x))] := by rw [hEk61.at (k := x) (by omega)]; exact hl
        replace hO : h60 x = .inr (6, [.ref (g59.2.2.1 (x + 1)), .ref (g59.2.2.1 (x + 12)), .ref (g59.2.2.1 (x + 21)), .ref (g59.2.2.1 (x + 30)), .int 0, .ref (g59.2.2.1 (x + 49)), .ref (g59.2.2.1 (x + 53)), .null, .null, .null, .null]) := by rw [hfk61 _ (by omega), hO, hEk61.at (k := (x + 1)) (by omega), hEk61.at (k := (x + 12)) (by omega), hEk61.at (k := (x + 21)) (by omega), hEk61.at (k := (x + 30)) (by omega), hEk61.at (k := (x + 49)) (by omega), hEk61.at (k := (x + 53)) (by omega)]
        replace hck24 : h60 (x + 30) = .inl (g59.2.1 3, 2, .inr (.inr (.inr (.inr (va_up (va_up (fun _ => none) (0) (some (g59.2.2.1 (x + 31)))) ((0 + 1)) (some (g59.2.2.1 (x + 40)))))))) := by rw [hfk61 _ (by omega), hck24, hEk61.ct 3, hEk61.at (k := (x + 31)) (by omega), hEk61.at (k := (x + 40)) (by omega)]
        replace Fk6 := Fk6.ext hEk61 (h' := h60) (fun k_ a_ b_ => hfk61 k_ (by omega))
        replace Fk13 := Fk13.ext hEk61 (h' := h60) (fun k_ a_ b_ => hfk61 k_ (by omega))
        replace Fk20 := Fk20.ext hEk61 (h' := h60) (fun k_ a_ b_ => hfk61 k_ (by omega))
        replace Fk32 := Fk32.ext hEk61 (h' := h60) (fun k_ a_ b_ => hfk61 k_ (by omega))
        replace Fk41 := Fk41.ext hEk61 (h' := h60) (fun k_ a_ b_ => hfk61 k_ (by omega))
        replace Fk50 := Fk50.ext hEk61 (h' := h60) (fun k_ a_ b_ => hfk61 k_ (by omega))
        replace Fk57 := Fk57.ext hEk61 (h' := h60) (fun k_ a_ b_ => hfk61 k_ (by omega))
        replace hfr : ∀ k_, k_ < x → h60 k_ = h0 k_ := fun k_ hk_ => (hfk61 k_ (by omega)).trans (hfr k_ hk_)
        replace hE0 := hE0.trans hEk61
        clear hEk61 hfk61
        replace hN : g59.2.2.2 = x + 72 := by omega
        clear hNk61
        refine lv_dup hx hb dX8_init_97 rfl ?_
        refine r_callN w hA (va_runI (As := []) (rest := [.ref (g59.2.2.1 (x + 71)), .ref (g59.2.2.1 x)]) ⟨hx, hb, hml, hown, hts⟩ (c_X4_init l (g0 := g59) (h0 := h60) (v := (x + 71)) (by omega) hck61) (cwI 0 hts gX8_init_X4_init rfl rfl rfl (hts (Cond.initialized RX4) (List.mem_of_getElem? (i := 24) (by decide +kernel))) (hts (Cond.methodLink RX8 46 yX4_init) (List.mem_of_getElem? (i := 86) (by decide +kernel))) (hts (Cond.instanceMethod yX4_init) (List.mem_of_getElem? (i := 87) (by decide +kernel))) rfl (by decide +kernel) ⟨Nat.le_of_ble_eq_true rfl, Nat.le_of_ble_eq_true rfl⟩) (r_preN w hA hX) rfl rfl hl.1 rfl (lv_room (Nat.le_of_ble_eq_true rfl)) dX8_init_98 ⟨Nat.le_of_ble_eq_true rfl, (Nat.le_of_ble_eq_true rfl)⟩) (fun g62 h63 H locs hEk64 hp w2_ => ?_)
        replace w := w2_
        clear w2_
        dsimp only at hp
        rw [← hEk64.at (k := (x + 71)) (by omega)]
        rw [← hEk64.at (k := x) (by omega)]
        replace hl : lv_has ls 2 [(1, .int y43), (0, .ref (g62.2.2.1 x))] := by rw [hEk64.at (k := x) (by omega)]; exact hl
        obtain ⟨hNk64, hfk64, Fk64⟩ := hp
        replace hO : h63 x = .inr (6, [.ref (g62.2.2.1 (x + 1)), .ref (g62.2.2.1 (x + 12)), .ref (g62.2.2.1 (x + 21)), .ref (g62.2.2.1 (x + 30)), .int 0, .ref (g62.2.2.1 (x + 49)), .ref (g62.2.2.1 (x + 53)), .null, .null, .null, .null]) := by rw [hfk64 _ (by omega), hO, hEk64.at (k := (x + 1)) (by omega), hEk64.at (k := (x + 12)) (by omega), hEk64.at (k := (x + 21)) (by omega), hEk64.at (k := (x + 30)) (by omega), hEk64.at (k := (x + 49)) (by omega), hEk64.at (k := (x + 53)) (by omega)]
        replace hck24 : h63 (x + 30) = .inl (g62.2.1 3, 2, .inr (.inr (.inr (.inr (va_up (va_up (fun _ => none) (0) (some (g62.2.2.1 (x + 31)))) ((0 + 1)) (some (g62.2.2.1 (x + 40)))))))) := by rw [hfk64 _ (by omega), hck24, hEk64.ct 3, hEk64.at (k := (x + 31)) (by omega), hEk64.at (k := (x + 40)) (by omega)]
        replace Fk6 := Fk6.ext hEk64 (h' := h63) (fun k_ a_ b_ => hfk64 k_ (by omega))
        replace Fk13 := Fk13.ext hEk64 (h' := h63) (fun k_ a_ b_ => hfk64 k_ (by omega))
        replace Fk20 := Fk20.ext hEk64 (h' := h63) (fun k_ a_ b_ => hfk64 k_ (by omega))
        replace Fk32 := Fk32.ext hEk64 (h' := h63) (fun k_ a_ b_ => hfk64 k_ (by omega))
        replace Fk41 := Fk41.ext hEk64 (h' := h63) (fun k_ a_ b_ => hfk64 k_ (by omega))
        replace Fk50 := Fk50.ext hEk64 (h' := h63) (fun k_ a_ b_ => hfk64 k_ (by omega))
        replace Fk57 := Fk57.ext hEk64 (h' := h63) (fun k_ a_ b_ => hfk64 k_ (by omega))
        replace hfr : ∀ k_, k_ < x → h63 k_ = h0 k_ := fun k_ hk_ => (hfk64 k_ (by omega)).trans (hfr k_ hk_)
        replace hE0 := hE0.trans hEk64
        clear hEk64 hfk64
        replace hN : g62.2.2.2 = x + 89 := by omega
        clear hNk64
        refine r_putF (ty := .object "EarlyValues$View") (C := RX8) (T := TX8) (N := 11) (ci := 6) hx hb hts inX8_init_X8 tyX8 tyX8_ok nmX8 hown w (by omega) hO rfl 7 (by decide) (hts (Cond.fieldLink RX8 47 "EarlyValues" "roughly" "LEarlyValues$View;") (List.mem_of_getElem? (i := 25) (by decide +kernel))) rfl rfl hin2 rfl (by decide +kernel) rfl rfl (Nat.le_of_ble_eq_true rfl) dX8_init_101 (fun h65 H locs eh65 w2_ => ?_)
        replace w := w2_
        clear w2_
        replace hO : h65 x = .inr (6, [.ref (g62.2.2.1 (x + 1)), .ref (g62.2.2.1 (x + 12)), .ref (g62.2.2.1 (x + 21)), .ref (g62.2.2.1 (x + 30)), .int 0, .ref (g62.2.2.1 (x + 49)), .ref (g62.2.2.1 (x + 53)), .ref (g62.2.2.1 (x + 71)), .null, .null, .null]) := by rw [eh65, va_up_self]; (try rfl)
        replace hck24 : h65 (x + 30) = .inl (g62.2.1 3, 2, .inr (.inr (.inr (.inr (va_up (va_up (fun _ => none) (0) (some (g62.2.2.1 (x + 31)))) ((0 + 1)) (some (g62.2.2.1 (x + 40)))))))) := by rw [eh65, va_up_ne _ _ (by omega)]; exact hck24
        replace Fk6 := Fk6.ext Ext.rf (h' := h65) (fun k_ a_ b_ => by rw [eh65, va_up_ne _ _ (by omega)])
        replace Fk13 := Fk13.ext Ext.rf (h' := h65) (fun k_ a_ b_ => by rw [eh65, va_up_ne _ _ (by omega)])
        replace Fk20 := Fk20.ext Ext.rf (h' := h65) (fun k_ a_ b_ => by rw [eh65, va_up_ne _ _ (by omega)])
        replace Fk32 := Fk32.ext Ext.rf (h' := h65) (fun k_ a_ b_ => by rw [eh65, va_up_ne _ _ (by omega)])
        replace Fk41 := Fk41.ext Ext.rf (h' := h65) (fun k_ a_ b_ => by rw [eh65, va_up_ne _ _ (by omega)])
        replace Fk50 := Fk50.ext Ext.rf (h' := h65) (fun k_ a_ b_ => by rw [eh65, va_up_ne _ _ (by omega)])
        replace Fk57 := Fk57.ext Ext.rf (h' := h65) (fun k_ a_ b_ => by rw [eh65, va_up_ne _ _ (by omega)])
        replace Fk64 := Fk64.ext Ext.rf (h' := h65) (fun k_ a_ b_ => by rw [eh65, va_up_ne _ _ (by omega)])
        replace hfr : ∀ k_, k_ < x → h65 k_ = h0 k_ := fun k_ hk_ => by rw [eh65, va_up_ne _ _ (by omega)]; exact hfr k_ hk_
        refine lv_aload_n hx hb dX8_init_104 rfl (lv_at hl 1 rfl) ?_
        refine r_new (ci := 0) (fs := [.int 0, .int 0, .int 0, .int 0, .null, .null, .null, .null, .int 0, .int 0, .null, .null, .int 0]) (C := RX0) (T := TX0) (N := 13) hx hb hts inX8_init_X0 tyX0 tyX0_ok hown (hts (Cond.classLink RX8 50 RX0) (List.mem_of_getElem? (i := 26) (by decide +kernel))) (hts (Cond.instantiable RX0 13) (List.mem_of_getElem? (i := 27) (by decide +kernel))) (hts (Cond.initialized RX0) (List.mem_of_getElem? (i := 28) (by decide +kernel))) w hA rfl (fun j hj => by rcases (show j = 0 ∨ j = 1 ∨ j = 2 ∨ j = 3 ∨ j = 4 ∨ j = 5 ∨ j = 6 ∨ j = 7 ∨ j = 8 ∨ j = 9 ∨ j = 10 ∨ j = 11 ∨ j = 12 by omega) with rfl | rfl | rfl | rfl | rfl | rfl | rfl | rfl | rfl | rfl | rfl | rfl | rfl <;> rfl) (Nat.le_of_ble_eq_true rfl) (Nat.le_of_ble_eq_true rfl) dX8_init_105 (fun g66 h67 H hEk68 hNk68 hfk68 hck68 w2_ => ?_)
        replace w := w2_
        clear w2_
        rw [hN] at hck68 hNk68 hfk68
        rw [hN]
        rw [← hEk68.at (k := x) (by omega)]
        replace hl : lv_has ls 2 [(1, .int y43), (0, .ref (g66.2.2.1 x))] := by rw [hEk68.at (k := x) (by omega)]; exact hl
        replace hO : h67 x = .inr (6, [.ref (g66.2.2.1 (x + 1)), .ref (g66.2.2.1 (x + 12)), .ref (g66.2.2.1 (x + 21)), .ref (g66.2.2.1 (x + 30)), .int 0, .ref (g66.2.2.1 (x + 49)), .ref (g66.2.2.1 (x + 53)), .ref (g66.2.2.1 (x + 71)), .null, .null, .null]) := by rw [hfk68 _ (by omega), hO, hEk68.at (k := (x + 1)) (by omega), hEk68.at (k := (x + 12)) (by omega), hEk68.at (k := (x + 21)) (by omega), hEk68.at (k := (x + 30)) (by omega), hEk68.at (k := (x + 49)) (by omega), hEk68.at (k := (x + 53)) (by omega), hEk68.at (k := (x + 71)) (by omega)]
        replace hck24 : h67 (x + 30) = .inl (g66.2.1 3, 2, .inr (.inr (.inr (.inr (va_up (va_up (fun _ => none) (0) (some (g66.2.2.1 (x + 31)))) ((0 + 1)) (some (g66.2.2.1 (x + 40)))))))) := by rw [hfk68 _ (by omega), hck24, hEk68.ct 3, hEk68.at (k := (x + 31)) (by omega), hEk68.at (k := (x + 40)) (by omega)]
        replace Fk6 := Fk6.ext hEk68 (h' := h67) (fun k_ a_ b_ => hfk68 k_ (by omega))
        replace Fk13 := Fk13.ext hEk68 (h' := h67) (fun k_ a_ b_ => hfk68 k_ (by omega))
        replace Fk20 := Fk20.ext hEk68 (h' := h67) (fun k_ a_ b_ => hfk68 k_ (by omega))
        replace Fk32 := Fk32.ext hEk68 (h' := h67) (fun k_ a_ b_ => hfk68 k_ (by omega))
        replace Fk41 := Fk41.ext hEk68 (h' := h67) (fun k_ a_ b_ => hfk68 k_ (by omega))
        replace Fk50 := Fk50.ext hEk68 (h' := h67) (fun k_ a_ b_ => hfk68 k_ (by omega))
        replace Fk57 := Fk57.ext hEk68 (h' := h67) (fun k_ a_ b_ => hfk68 k_ (by omega))
        replace Fk64 := Fk64.ext hEk68 (h' := h67) (fun k_ a_ b_ => hfk68 k_ (by omega))
        replace hfr : ∀ k_, k_ < x → h67 k_ = h0 k_ := fun k_ hk_ => (hfk68 k_ (by omega)).trans (hfr k_ hk_)
        replace hE0 := hE0.trans hEk68
        clear hEk68 hfk68
        replace hN : g66.2.2.2 = x + 90 := by omega
        clear hNk68
        refine lv_dup hx hb dX8_init_108 rfl ?_
        refine r_callN w hA (va_runI (As := []) (rest := [.ref (g66.2.2.1 (x + 89)), .ref (g66.2.2.1 x)]) ⟨hx, hb, hml, hown, hts⟩ (c_X0_init l (g0 := g66) (h0 := h67) (v := (x + 89)) (by omega) hck68) (cwI 0 hts gX8_init_X0_init rfl rfl rfl (hts (Cond.initialized RX0) (List.mem_of_getElem? (i := 28) (by decide +kernel))) (hts (Cond.methodLink RX8 52 yX0_init) (List.mem_of_getElem? (i := 90) (by decide +kernel))) (hts (Cond.instanceMethod yX0_init) (List.mem_of_getElem? (i := 91) (by decide +kernel))) rfl (by decide +kernel) ⟨Nat.le_of_ble_eq_true rfl, Nat.le_of_ble_eq_true rfl⟩) (r_preN w hA hX) rfl rfl hl.1 rfl (lv_room (Nat.le_of_ble_eq_true rfl)) dX8_init_109 ⟨Nat.le_of_ble_eq_true rfl, (Nat.le_of_ble_eq_true rfl)⟩) (fun g69 h70 H locs hEk71 hp w2_ => ?_)
        replace w := w2_
        clear w2_
        dsimp only at hp
        rw [← hEk71.at (k := (x + 89)) (by omega)]
        rw [← hEk71.at (k := x) (by omega)]
        replace hl : lv_has ls 2 [(1, .int y43), (0, .ref (g69.2.2.1 x))] := by rw [hEk71.at (k := x) (by omega)]; exact hl
        obtain ⟨hNk71, hfk71, Fk71⟩ := hp
        replace hO : h70 x = .inr (6, [.ref (g69.2.2.1 (x + 1)), .ref (g69.2.2.1 (x + 12)), .ref (g69.2.2.1 (x + 21)), .ref (g69.2.2.1 (x + 30)), .int 0, .ref (g69.2.2.1 (x + 49)), .ref (g69.2.2.1 (x + 53)), .ref (g69.2.2.1 (x + 71)), .null, .null, .null]) := by rw [hfk71 _ (by omega), hO, hEk71.at (k := (x + 1)) (by omega), hEk71.at (k := (x + 12)) (by omega), hEk71.at (k := (x + 21)) (by omega), hEk71.at (k := (x + 30)) (by omega), hEk71.at (k := (x + 49)) (by omega), hEk71.at (k := (x + 53)) (by omega), hEk71.at (k := (x + 71)) (by omega)]
        replace hck24 : h70 (x + 30) = .inl (g69.2.1 3, 2, .inr (.inr (.inr (.inr (va_up (va_up (fun _ => none) (0) (some (g69.2.2.1 (x + 31)))) ((0 + 1)) (some (g69.2.2.1 (x + 40)))))))) := by rw [hfk71 _ (by omega), hck24, hEk71.ct 3, hEk71.at (k := (x + 31)) (by omega), hEk71.at (k := (x + 40)) (by omega)]
        replace Fk6 := Fk6.ext hEk71 (h' := h70) (fun k_ a_ b_ => hfk71 k_ (by omega))
        replace Fk13 := Fk13.ext hEk71 (h' := h70) (fun k_ a_ b_ => hfk71 k_ (by omega))
        replace Fk20 := Fk20.ext hEk71 (h' := h70) (fun k_ a_ b_ => hfk71 k_ (by omega))
        replace Fk32 := Fk32.ext hEk71 (h' := h70) (fun k_ a_ b_ => hfk71 k_ (by omega))
        replace Fk41 := Fk41.ext hEk71 (h' := h70) (fun k_ a_ b_ => hfk71 k_ (by omega))
        replace Fk50 := Fk50.ext hEk71 (h' := h70) (fun k_ a_ b_ => hfk71 k_ (by omega))
        replace Fk57 := Fk57.ext hEk71 (h' := h70) (fun k_ a_ b_ => hfk71 k_ (by omega))
        replace Fk64 := Fk64.ext hEk71 (h' := h70) (fun k_ a_ b_ => hfk71 k_ (by omega))
        replace hfr : ∀ k_, k_ < x → h70 k_ = h0 k_ := fun k_ hk_ => (hfk71 k_ (by omega)).trans (hfr k_ hk_)
        replace hE0 := hE0.trans hEk71
        clear hEk71 hfk71
        replace hN : g69.2.2.2 = x + 107 := by omega
        clear hNk71
        refine r_putF (ty := .object "EarlyValues$View") (C := RX8) (T := TX8) (N := 11) (ci := 6) hx hb hts inX8_init_X8 tyX8 tyX8_ok nmX8 hown w (by omega) hO rfl 8 (by decide) (hts (Cond.fieldLink RX8 53 "EarlyValues" "finely" "LEarlyValues$View;") (List.mem_of_getElem? (i := 29) (by decide +kernel))) rfl rfl hin2 rfl (by decide +kernel) rfl rfl (Nat.le_of_ble_eq_true rfl) dX8_init_112 (fun h72 H locs eh72 w2_ => ?_)
        replace w := w2_
        clear w2_
        replace hO : h72 x = .inr (6, [.ref (g69.2.2.1 (x + 1)), .ref (g69.2.2.1 (x + 12)), .ref (g69.2.2.1 (x + 21)), .ref (g69.2.2.1 (x + 30)), .int 0, .ref (g69.2.2.1 (x + 49)), .ref (g69.2.2.1 (x + 53)), .ref (g69.2.2.1 (x + 71)), .ref (g69.2.2.1 (x + 89)), .null, .null]) := by rw [eh72, va_up_self]; (try rfl)
        replace hck24 : h72 (x + 30) = .inl (g69.2.1 3, 2, .inr (.inr (.inr (.inr (va_up (va_up (fun _ => none) (0) (some (g69.2.2.1 (x + 31)))) ((0 + 1)) (some (g69.2.2.1 (x + 40)))))))) := by rw [eh72, va_up_ne _ _ (by omega)]; exact hck24
        replace Fk6 := Fk6.ext Ext.rf (h' := h72) (fun k_ a_ b_ => by rw [eh72, va_up_ne _ _ (by omega)])
        replace Fk13 := Fk13.ext Ext.rf (h' := h72) (fun k_ a_ b_ => by rw [eh72, va_up_ne _ _ (by omega)])
        replace Fk20 := Fk20.ext Ext.rf (h' := h72) (fun k_ a_ b_ => by rw [eh72, va_up_ne _ _ (by omega)])
        replace Fk32 := Fk32.ext Ext.rf (h' := h72) (fun k_ a_ b_ => by rw [eh72, va_up_ne _ _ (by omega)])
        replace Fk41 := Fk41.ext Ext.rf (h' := h72) (fun k_ a_ b_ => by rw [eh72, va_up_ne _ _ (by omega)])
        replace Fk50 := Fk50.ext Ext.rf (h' := h72) (fun k_ a_ b_ => by rw [eh72, va_up_ne _ _ (by omega)])
        replace Fk57 := Fk57.ext Ext.rf (h' := h72) (fun k_ a_ b_ => by rw [eh72, va_up_ne _ _ (by omega)])
        replace Fk64 := Fk64.ext Ext.rf (h' := h72) (fun k_ a_ b_ => by rw [eh72, va_up_ne _ _ (by omega)])
        replace Fk71 := Fk71.ext Ext.rf (h' := h72) (fun k_ a_ b_ => by rw [eh72, va_up_ne _ _ (by omega)])
        replace hfr : ∀ k_, k_ < x → h72 k_ = h0 k_ := fun k_ hk_ => by rw [eh72, va_up_ne _ _ (by omega)]; exact hfr k_ hk_
        refine lv_aload_n hx hb dX8_init_115 rfl (lv_at hl 1 rfl) ?_
        refine r_new (ci := 5) (fs := [.int 0, .int 0, .int 0, .int 0, .null, .null, .null, .null, .int 0, .int 0, .null, .null, .int 0]) (C := RX6) (T := TX6) (N := 13) hx hb hts inX8_init_X6 tyX6 tyX6_ok hown (hts (Cond.classLink RX8 37 RX6) (List.mem_of_getElem? (i := 18) (by decide +kernel))) (hts (Cond.instantiable RX6 13) (List.mem_of_getElem? (i := 19) (by decide +kernel))) (hts (Cond.initialized RX6) (List.mem_of_getElem? (i := 20) (by decide +kernel))) w hA rfl (fun j hj => by rcases (show j = 0 ∨ j = 1 ∨ j = 2 ∨ j = 3 ∨ j = 4 ∨ j = 5 ∨ j = 6 ∨ j = 7 ∨ j = 8 ∨ j = 9 ∨ j = 10 ∨ j = 11 ∨ j = 12 by omega) with rfl | rfl | rfl | rfl | rfl | rfl | rfl | rfl | rfl | rfl | rfl | rfl | rfl <;> rfl) (Nat.le_of_ble_eq_true rfl) (Nat.le_of_ble_eq_true rfl) dX8_init_116 (fun g73 h74 H hEk75 hNk75 hfk75 hck75 w2_ => ?_)
        replace w := w2_
        clear w2_
        rw [hN] at hck75 hNk75 hfk75
        rw [hN]
        rw [← hEk75.at (k := x) (by omega)]
        replace hl : lv_has ls 2 [(1, .int y43), (0, .ref (g73.2.2.1 x))] := by rw [hEk75.at (k := x) (by omega)]; exact hl
        replace hO : h74 x = .inr (6, [.ref (g73.2.2.1 (x + 1)), .ref (g73.2.2.1 (x + 12)), .ref (g73.2.2.1 (x + 21)), .ref (g73.2.2.1 (x + 30)), .int 0, .ref (g73.2.2.1 (x + 49)), .ref (g73.2.2.1 (x + 53)), .ref (g73.2.2.1 (x + 71)), .ref (g73.2.2.1 (x + 89)), .null, .null]) := by rw [hfk75 _ (by omega), hO, hEk75.at (k := (x + 1)) (by omega), hEk75.at (k := (x + 12)) (by omega), hEk75.at (k := (x + 21)) (by omega), hEk75.at (k := (x + 30)) (by omega), hEk75.at (k := (x + 49)) (by omega), hEk75.at (k := (x + 53)) (by omega), hEk75.at (k := (x + 71)) (by omega), hEk75.at (k := (x + 89)) (by omega)]
        replace hck24 : h74 (x + 30) = .inl (g73.2.1 3, 2, .inr (.inr (.inr (.inr (va_up (va_up (fun _ => none) (0) (some (g73.2.2.1 (x + 31)))) ((0 + 1)) (some (g73.2.2.1 (x + 40)))))))) := by rw [hfk75 _ (by omega), hck24, hEk75.ct 3, hEk75.at (k := (x + 31)) (by omega), hEk75.at (k := (x + 40)) (by omega)]
        replace Fk6 := Fk6.ext hEk75 (h' := h74) (fun k_ a_ b_ => hfk75 k_ (by omega))
        replace Fk13 := Fk13.ext hEk75 (h' := h74) (fun k_ a_ b_ => hfk75 k_ (by omega))
        replace Fk20 := Fk20.ext hEk75 (h' := h74) (fun k_ a_ b_ => hfk75 k_ (by omega))
        replace Fk32 := Fk32.ext hEk75 (h' := h74) (fun k_ a_ b_ => hfk75 k_ (by omega))
        replace Fk41 := Fk41.ext hEk75 (h' := h74) (fun k_ a_ b_ => hfk75 k_ (by omega))
        replace Fk50 := Fk50.ext hEk75 (h' := h74) (fun k_ a_ b_ => hfk75 k_ (by omega))
        replace Fk57 := Fk57.ext hEk75 (h' := h74) (fun k_ a_ b_ => hfk75 k_ (by omega))
        replace Fk64 := Fk64.ext hEk75 (h' := h74) (fun k_ a_ b_ => hfk75 k_ (by omega))
        replace Fk71 := Fk71.ext hEk75 (h' := h74) (fun k_ a_ b_ => hfk75 k_ (by omega))
        replace hfr : ∀ k_, k_ < x → h74 k_ = h0 k_ := fun k_ hk_ => (hfk75 k_ (by omega)).trans (hfr k_ hk_)
        replace hE0 := hE0.trans hEk75
        clear hEk75 hfk75
        replace hN : g73.2.2.2 = x + 108 := by omega
        clear hNk75
        refine lv_dup hx hb dX8_init_119 rfl ?_
        refine r_callN w hA (va_runI (As := []) (rest := [.ref (g73.2.2.1 (x + 107)), .ref (g73.2.2.1 x)]) ⟨hx, hb, hml, hown, hts⟩ (c_X6_init l (g0 := g73) (h0 := h74) (v := (x + 107)) (by omega) hck75) (cwI 0 hts gX8_init_X6_init rfl rfl rfl (hts (Cond.initialized RX6) (List.mem_of_getElem? (i := 20) (by decide +kernel))) (hts (Cond.methodLink RX8 39 yX6_init) (List.mem_of_getElem? (i := 58) (by decide +kernel))) (hts (Cond.instanceMethod yX6_init) (List.mem_of_getElem? (i := 59) (by decide +kernel))) rfl (by decide +kernel) ⟨Nat.le_of_ble_eq_true rfl, Nat.le_of_ble_eq_true rfl⟩) (r_preN w hA hX) rfl rfl hl.1 rfl (lv_room (Nat.le_of_ble_eq_true rfl)) dX8_init_120 ⟨Nat.le_of_ble_eq_true rfl, (Nat.le_of_ble_eq_true rfl)⟩) (fun g76 h77 H locs hEk78 hp w2_ => ?_)
        replace w := w2_
        clear w2_
        dsimp only at hp
        rw [← hEk78.at (k := (x + 107)) (by omega)]
        rw [← hEk78.at (k := x) (by omega)]
        replace hl : lv_has ls 2 [(1, .int y43), (0, .ref (g76.2.2.1 x))] := by rw [hEk78.at (k := x) (by omega)]; exact hl
        obtain ⟨hNk78, hfk78, Fk78⟩ := hp
        replace hO : h77 x = .inr (6, [.ref (g76.2.2.1 (x + 1)), .ref (g76.2.2.1 (x + 12)), .ref (g76.2.2.1 (x + 21)), .ref (g76.2.2.1 (x + 30)), .int 0, .ref (g76.2.2.1 (x + 49)), .ref (g76.2.2.1 (x + 53)), .ref (g76.2.2.1 (x + 71)), .ref (g76.2.2.1 (x + 89)), .null, .null]) := by rw [hfk78 _ (by omega), hO, hEk78.at (k := (x + 1)) (by omega), hEk78.at (k := (x + 12)) (by omega), hEk78.at (k := (x + 21)) (by omega), hEk78.at (k := (x + 30)) (by omega), hEk78.at (k := (x + 49)) (by omega), hEk78.at (k := (x + 53)) (by omega), hEk78.at (k := (x + 71)) (by omega), hEk78.at (k := (x + 89)) (by omega)]
        replace hck24 : h77 (x + 30) = .inl (g76.2.1 3, 2, .inr (.inr (.inr (.inr (va_up (va_up (fun _ => none) (0) (some (g76.2.2.1 (x + 31)))) ((0 + 1)) (some (g76.2.2.1 (x + 40)))))))) := by rw [hfk78 _ (by omega), hck24, hEk78.ct 3, hEk78.at (k := (x + 31)) (by omega), hEk78.at (k := (x + 40)) (by omega)]
        replace Fk6 := Fk6.ext hEk78 (h' := h77) (fun k_ a_ b_ => hfk78 k_ (by omega))
        replace Fk13 := Fk13.ext hEk78 (h' := h77) (fun k_ a_ b_ => hfk78 k_ (by omega))
        replace Fk20 := Fk20.ext hEk78 (h' := h77) (fun k_ a_ b_ => hfk78 k_ (by omega))
        replace Fk32 := Fk32.ext hEk78 (h' := h77) (fun k_ a_ b_ => hfk78 k_ (by omega))
        replace Fk41 := Fk41.ext hEk78 (h' := h77) (fun k_ a_ b_ => hfk78 k_ (by omega))
        replace Fk50 := Fk50.ext hEk78 (h' := h77) (fun k_ a_ b_ => hfk78 k_ (by omega))
        replace Fk57 := Fk57.ext hEk78 (h' := h77) (fun k_ a_ b_ => hfk78 k_ (by omega))
        replace Fk64 := Fk64.ext hEk78 (h' := h77) (fun k_ a_ b_ => hfk78 k_ (by omega))
        replace Fk71 := Fk71.ext hEk78 (h' := h77) (fun k_ a_ b_ => hfk78 k_ (by omega))
        replace hfr : ∀ k_, k_ < x → h77 k_ = h0 k_ := fun k_ hk_ => (hfk78 k_ (by omega)).trans (hfr k_ hk_)
        replace hE0 := hE0.trans hEk78
        clear hEk78 hfk78
        replace hN : g76.2.2.2 = x + 125 := by omega
        clear hNk78
        refine r_putF (ty := .object "EarlyValues$View") (C := RX8) (T := TX8) (N := 11) (ci := 6) hx hb hts inX8_init_X8 tyX8 tyX8_ok nmX8 hown w (by omega) hO rfl 9 (by decide) (hts (Cond.fieldLink RX8 56 "EarlyValues" "trialValues" "LEarlyValues$View;") (List.mem_of_getElem? (i := 30) (by decide +kernel))) rfl rfl hin2 rfl (by decide +kernel) rfl rfl (Nat.le_of_ble_eq_true rfl) dX8_init_123 (fun h79 H locs eh79 w2_ => ?_)
        replace w := w2_
        clear w2_
        replace hO : h79 x = .inr (6, [.ref (g76.2.2.1 (x + 1)), .ref (g76.2.2.1 (x + 12)), .ref (g76.2.2.1 (x + 21)), .ref (g76.2.2.1 (x + 30)), .int 0, .ref (g76.2.2.1 (x + 49)), .ref (g76.2.2.1 (x + 53)), .ref (g76.2.2.1 (x + 71)), .ref (g76.2.2.1 (x + 89)), .ref (g76.2.2.1 (x + 107)), .null]) := by rw [eh79, va_up_self]; (try rfl)
        replace hck24 : h79 (x + 30) = .inl (g76.2.1 3, 2, .inr (.inr (.inr (.inr (va_up (va_up (fun _ => none) (0) (some (g76.2.2.1 (x + 31)))) ((0 + 1)) (some (g76.2.2.1 (x + 40)))))))) := by rw [eh79, va_up_ne _ _ (by omega)]; exact hck24
        replace Fk6 := Fk6.ext Ext.rf (h' := h79) (fun k_ a_ b_ => by rw [eh79, va_up_ne _ _ (by omega)])
        replace Fk13 := Fk13.ext Ext.rf (h' := h79) (fun k_ a_ b_ => by rw [eh79, va_up_ne _ _ (by omega)])
        replace Fk20 := Fk20.ext Ext.rf (h' := h79) (fun k_ a_ b_ => by rw [eh79, va_up_ne _ _ (by omega)])
        replace Fk32 := Fk32.ext Ext.rf (h' := h79) (fun k_ a_ b_ => by rw [eh79, va_up_ne _ _ (by omega)])
        replace Fk41 := Fk41.ext Ext.rf (h' := h79) (fun k_ a_ b_ => by rw [eh79, va_up_ne _ _ (by omega)])
        replace Fk50 := Fk50.ext Ext.rf (h' := h79) (fun k_ a_ b_ => by rw [eh79, va_up_ne _ _ (by omega)])
        replace Fk57 := Fk57.ext Ext.rf (h' := h79) (fun k_ a_ b_ => by rw [eh79, va_up_ne _ _ (by omega)])
        replace Fk64 := Fk64.ext Ext.rf (h' := h79) (fun k_ a_ b_ => by rw [eh79, va_up_ne _ _ (by omega)])
        replace Fk71 := Fk71.ext Ext.rf (h' := h79) (fun k_ a_ b_ => by rw [eh79, va_up_ne _ _ (by omega)])
        replace Fk78 := Fk78.ext Ext.rf (h' := h79) (fun k_ a_ b_ => by rw [eh79, va_up_ne _ _ (by omega)])
        replace hfr : ∀ k_, k_ < x → h79 k_ = h0 k_ := fun k_ hk_ => by rw [eh79, va_up_ne _ _ (by omega)]; exact hfr k_ hk_
        refine lv_aload_n hx hb dX8_init_126 rfl (lv_at hl 1 rfl) ?_
        refine r_new (ci := 0) (fs := [.int 0, .int 0, .int 0, .int 0, .null, .null, .null, .null, .int 0, .int 0, .null, .null, .int 0]) (C := RX0) (T := TX0) (N := 13) hx hb hts inX8_init_X0 tyX0 tyX0_ok hown (hts (Cond.classLink RX8 50 RX0) (List.mem_of_getElem? (i := 26) (by decide +kernel))) (hts (Cond.instantiable RX0 13) (List.mem_of_getElem? (i := 27) (by decide +kernel))) (hts (Cond.initialized RX0) (List.mem_of_getElem? (i := 28) (by decide +kernel))) w hA rfl (fun j hj => by rcases (show j = 0 ∨ j = 1 ∨ j = 2 ∨ j = 3 ∨ j = 4 ∨ j = 5 ∨ j = 6 ∨ j = 7 ∨ j = 8 ∨ j = 9 ∨ j = 10 ∨ j = 11 ∨ j = 12 by omega) with rfl | rfl | rfl | rfl | rfl | rfl | rfl | rfl | rfl | rfl | rfl | rfl | rfl <;> rfl) (Nat.le_of_ble_eq_true rfl) (Nat.le_of_ble_eq_true rfl) dX8_init_127 (fun g80 h81 H hEk82 hNk82 hfk82 hck82 w2_ => ?_)
        replace w := w2_
        clear w2_
        rw [hN] at hck82 hNk82 hfk82
        rw [hN]
        rw [← hEk82.at (k := x) (by omega)]
        replace hl : lv_has ls 2 [(1, .int y43), (0, .ref (g80.2.2.1 x))] := by rw [hEk82.at (k := x) (by omega)]; exact hl
        replace hO : h81 x = .inr (6, [.ref (g80.2.2.1 (x + 1)), .ref (g80.2.2.1 (x + 12)), .ref (g80.2.2.1 (x + 21)), .ref (g80.2.2.1 (x + 30)), .int 0, .ref (g80.2.2.1 (x + 49)), .ref (g80.2.2.1 (x + 53)), .ref (g80.2.2.1 (x + 71)), .ref (g80.2.2.1 (x + 89)), .ref (g80.2.2.1 (x + 107)), .null]) := by rw [hfk82 _ (by omega), hO, hEk82.at (k := (x + 1)) (by omega), hEk82.at (k := (x + 12)) (by omega), hEk82.at (k := (x + 21)) (by omega), hEk82.at (k := (x + 30)) (by omega), hEk82.at (k := (x + 49)) (by omega), hEk82.at (k := (x + 53)) (by omega), hEk82.at (k := (x + 71)) (by omega), hEk82.at (k := (x + 89)) (by omega), hEk82.at (k := (x + 107)) (by omega)]
        replace hck24 : h81 (x + 30) = .inl (g80.2.1 3, 2, .inr (.inr (.inr (.inr (va_up (va_up (fun _ => none) (0) (some (g80.2.2.1 (x + 31)))) ((0 + 1)) (some (g80.2.2.1 (x + 40)))))))) := by rw [hfk82 _ (by omega), hck24, hEk82.ct 3, hEk82.at (k := (x + 31)) (by omega), hEk82.at (k := (x + 40)) (by omega)]
        replace Fk6 := Fk6.ext hEk82 (h' := h81) (fun k_ a_ b_ => hfk82 k_ (by omega))
        replace Fk13 := Fk13.ext hEk82 (h' := h81) (fun k_ a_ b_ => hfk82 k_ (by omega))
        replace Fk20 := Fk20.ext hEk82 (h' := h81) (fun k_ a_ b_ => hfk82 k_ (by omega))
        replace Fk32 := Fk32.ext hEk82 (h' := h81) (fun k_ a_ b_ => hfk82 k_ (by omega))
        replace Fk41 := Fk41.ext hEk82 (h' := h81) (fun k_ a_ b_ => hfk82 k_ (by omega))
        replace Fk50 := Fk50.ext hEk82 (h' := h81) (fun k_ a_ b_ => hfk82 k_ (by omega))
        replace Fk57 := Fk57.ext hEk82 (h' := h81) (fun k_ a_ b_ => hfk82 k_ (by omega))
        replace Fk64 := Fk64.ext hEk82 (h' := h81) (fun k_ a_ b_ => hfk82 k_ (by omega))
        replace Fk71 := Fk71.ext hEk82 (h' := h81) (fun k_ a_ b_ => hfk82 k_ (by omega))
        replace Fk78 := Fk78.ext hEk82 (h' := h81) (fun k_ a_ b_ => hfk82 k_ (by omega))
        replace hfr : ∀ k_, k_ < x → h81 k_ = h0 k_ := fun k_ hk_ => (hfk82 k_ (by omega)).trans (hfr k_ hk_)
        replace hE0 := hE0.trans hEk82
        clear hEk82 hfk82
        replace hN : g80.2.2.2 = x + 126 := by omega
        clear hNk82
        refine lv_dup hx hb dX8_init_130 rfl ?_
        refine r_callN w hA (va_runI (As := []) (rest := [.ref (g80.2.2.1 (x + 125)), .ref (g80.2.2.1 x)]) ⟨hx, hb, hml, hown, hts⟩ (c_X0_init l (g0 := g80) (h0 := h81) (v := (x + 125)) (by omega) hck82) (cwI 0 hts gX8_init_X0_init rfl rfl rfl (hts (Cond.initialized RX0) (List.mem_of_getElem? (i := 28) (by decide +kernel))) (hts (Cond.methodLink RX8 52 yX0_init) (List.mem_of_getElem? (i := 90) (by decide +kernel))) (hts (Cond.instanceMethod yX0_init) (List.mem_of_getElem? (i := 91) (by decide +kernel))) rfl (by decide +kernel) ⟨Nat.le_of_ble_eq_true rfl, Nat.le_of_ble_eq_true rfl⟩) (r_preN w hA hX) rfl rfl hl.1 rfl (lv_room (Nat.le_of_ble_eq_true rfl)) dX8_init_131 ⟨Nat.le_of_ble_eq_true rfl, (Nat.le_of_ble_eq_true rfl)⟩) (fun g83 h84 H locs hEk85 hp w2_ => ?_)
        replace w := w2_
        clear w2_
        dsimp only at hp
        rw [← hEk85.at (k := (x + 125)) (by omega)]
        rw [← hEk85.at (k := x) (by omega)]
        replace hl : lv_has ls 2 [(1, .int y43), (0, .ref (g83.2.2.1 x))] := by rw [hEk85.at (k := x) (by omega)]; exact hl
        obtain ⟨hNk85, hfk85, Fk85⟩ := hp
        replace hO : h84 x = .inr (6, [.ref (g83.2.2.1 (x + 1)), .ref (g83.2.2.1 (x + 12)), .ref (g83.2.2.1 (x + 21)), .ref (g83.2.2.1 (x + 30)), .int 0, .ref (g83.2.2.1 (x + 49)), .ref (g83.2.2.1 (x + 53)), .ref (g83.2.2.1 (x + 71)), .ref (g83.2.2.1 (x + 89)), .ref (g83.2.2.1 (x + 107)), .null]) := by rw [hfk85 _ (by omega), hO, hEk85.at (k := (x + 1)) (by omega), hEk85.at (k := (x + 12)) (by omega), hEk85.at (k := (x + 21)) (by omega), hEk85.at (k := (x + 30)) (by omega), hEk85.at (k := (x + 49)) (by omega), hEk85.at (k := (x + 53)) (by omega), hEk85.at (k := (x + 71)) (by omega), hEk85.at (k := (x + 89)) (by omega), hEk85.at (k := (x + 107)) (by omega)]
        replace hck24 : h84 (x + 30) = .inl (g83.2.1 3, 2, .inr (.inr (.inr (.inr (va_up (va_up (fun _ => none) (0) (some (g83.2.2.1 (x + 31)))) ((0 + 1)) (some (g83.2.2.1 (x + 40)))))))) := by rw [hfk85 _ (by omega), hck24, hEk85.ct 3, hEk85.at (k := (x + 31)) (by omega), hEk85.at (k := (x + 40)) (by omega)]
        replace Fk6 := Fk6.ext hEk85 (h' := h84) (fun k_ a_ b_ => hfk85 k_ (by omega))
        replace Fk13 := Fk13.ext hEk85 (h' := h84) (fun k_ a_ b_ => hfk85 k_ (by omega))
        replace Fk20 := Fk20.ext hEk85 (h' := h84) (fun k_ a_ b_ => hfk85 k_ (by omega))
        replace Fk32 := Fk32.ext hEk85 (h' := h84) (fun k_ a_ b_ => hfk85 k_ (by omega))
        replace Fk41 := Fk41.ext hEk85 (h' := h84) (fun k_ a_ b_ => hfk85 k_ (by omega))
        replace Fk50 := Fk50.ext hEk85 (h' := h84) (fun k_ a_ b_ => hfk85 k_ (by omega))
        replace Fk57 := Fk57.ext hEk85 (h' := h84) (fun k_ a_ b_ => hfk85 k_ (by omega))
        replace Fk64 := Fk64.ext hEk85 (h' := h84) (fun k_ a_ b_ => hfk85 k_ (by omega))
        replace Fk71 := Fk71.ext hEk85 (h' := h84) (fun k_ a_ b_ => hfk85 k_ (by omega))
        replace Fk78 := Fk78.ext hEk85 (h' := h84) (fun k_ a_ b_ => hfk85 k_ (by omega))
        replace hfr : ∀ k_, k_ < x → h84 k_ = h0 k_ := fun k_ hk_ => (hfk85 k_ (by omega)).trans (hfr k_ hk_)
        replace hE0 := hE0.trans hEk85
        clear hEk85 hfk85
        replace hN : g83.2.2.2 = x + 143 := by omega
        clear hNk85
        refine r_putF (ty := .object "EarlyValues$View") (C := RX8) (T := TX8) (N := 11) (ci := 6) hx hb hts inX8_init_X8 tyX8 tyX8_ok nmX8 hown w (by omega) hO rfl 10 (by decide) (hts (Cond.fieldLink RX8 59 "EarlyValues" "trialFinely" "LEarlyValues$View;") (List.mem_of_getElem? (i := 31) (by decide +kernel))) rfl rfl hin2 rfl (by decide +kernel) rfl rfl (Nat.le_of_ble_eq_true rfl) dX8_init_134 (fun h86 H locs eh86 w2_ => ?_)
        replace w := w2_
        clear w2_
        replace hO : h86 x = .inr (6, [.ref (g83.2.2.1 (x + 1)), .ref (g83.2.2.1 (x + 12)), .ref (g83.2.2.1 (x + 21)), .ref (g83.2.2.1 (x + 30)), .int 0, .ref (g83.2.2.1 (x + 49)), .ref (g83.2.2.1 (x + 53)), .ref (g83.2.2.1 (x + 71)), .ref (g83.2.2.1 (x + 89)), .ref (g83.2.2.1 (x + 107)), .ref (g83.2.2.1 (x + 125))]) := by rw [eh86, va_up_self]; (try rfl)
        replace hck24 : h86 (x + 30) = .inl (g83.2.1 3, 2, .inr (.inr (.inr (.inr (va_up (va_up (fun _ => none) (0) (some (g83.2.2.1 (x + 31)))) ((0 + 1)) (some (g83.2.2.1 (x + 40)))))))) := by rw [eh86, va_up_ne _ _ (by omega)]; exact hck24
        replace Fk6 := Fk6.ext Ext.rf (h' := h86) (fun k_ a_ b_ => by rw [eh86, va_up_ne _ _ (by omega)])
        replace Fk13 := Fk13.ext Ext.rf (h' := h86) (fun k_ a_ b_ => by rw [eh86, va_up_ne _ _ (by omega)])
        replace Fk20 := Fk20.ext Ext.rf (h' := h86) (fun k_ a_ b_ => by rw [eh86, va_up_ne _ _ (by omega)])
        replace Fk32 := Fk32.ext Ext.rf (h' := h86) (fun k_ a_ b_ => by rw [eh86, va_up_ne _ _ (by omega)])
        replace Fk41 := Fk41.ext Ext.rf (h' := h86) (fun k_ a_ b_ => by rw [eh86, va_up_ne _ _ (by omega)])
        replace Fk50 := Fk50.ext Ext.rf (h' := h86) (fun k_ a_ b_ => by rw [eh86, va_up_ne _ _ (by omega)])
        replace Fk57 := Fk57.ext Ext.rf (h' := h86) (fun k_ a_ b_ => by rw [eh86, va_up_ne _ _ (by omega)])
        replace Fk64 := Fk64.ext Ext.rf (h' := h86) (fun k_ a_ b_ => by rw [eh86, va_up_ne _ _ (by omega)])
        replace Fk71 := Fk71.ext Ext.rf (h' := h86) (fun k_ a_ b_ => by rw [eh86, va_up_ne _ _ (by omega)])
        replace Fk78 := Fk78.ext Ext.rf (h' := h86) (fun k_ a_ b_ => by rw [eh86, va_up_ne _ _ (by omega)])
        replace Fk85 := Fk85.ext Ext.rf (h' := h86) (fun k_ a_ b_ => by rw [eh86, va_up_ne _ _ (by omega)])
        replace hfr : ∀ k_, k_ < x → h86 k_ = h0 k_ := fun k_ hk_ => by rw [eh86, va_up_ne _ _ (by omega)]; exact hfr k_ hk_
        refine lv_aload_n hx hb dX8_init_137 rfl (lv_at hl 1 rfl) ?_
        have E_ : EvA g83 h86 x 0 := ⟨by omega, hO, by rw [hck24, ← kp_eq]⟩
        obtain ⟨⟨gs_, T_⟩, ⟨nn_, ta_, tk_, tl_, tb_, Pt_⟩⟩ := Fk6
        obtain ⟨n_, ga_, gk_, gl_, gb_, P_⟩ := Fk13
        refine r_callV w (va_runV (As := []) (rest := []) ⟨hx, hb, hml, hown, hts⟩ (c_X8_layStart l E_ T_ Pt_ P_) (cwV 0 hts gX8_init_X8_layStart rfl rfl rfl (by decide +kernel) ⟨Nat.le_of_ble_eq_true rfl, Nat.le_of_ble_eq_true rfl⟩) (r_preV w (by omega) hO rfl) rfl rfl hl.1 rfl (lv_room (Nat.le_of_ble_eq_true rfl)) dX8_init_138 ⟨Nat.le_of_ble_eq_true rfl, Nat.le_of_ble_eq_true rfl⟩) (fun h87 H locs hp w => ?_)
        obtain ⟨hfL, ⟨at2, bd2, gs2, T_⟩, Pt_, P_⟩ := hp
        have E_ := E_.fr (h' := h87) (fun k_ a_ b_ _ => hfL k_ (by omega))
        have Fk20 := Fk20.ext Ext.rf (h' := h87) (fun k_ a_ b_ => hfL k_ (by omega))
        have Fk32 := Fk32.ext Ext.rf (h' := h87) (fun k_ a_ b_ => hfL k_ (by omega))
        have Fk41 := Fk41.ext Ext.rf (h' := h87) (fun k_ a_ b_ => hfL k_ (by omega))
        have Fk50 := Fk50.ext Ext.rf (h' := h87) (fun k_ a_ b_ => hfL k_ (by omega))
        have Fk57 := Fk57.ext Ext.rf (h' := h87) (fun k_ a_ b_ => hfL k_ (by omega))
        have Fk64 := Fk64.ext Ext.rf (h' := h87) (fun k_ a_ b_ => hfL k_ (by omega))
        have Fk71 := Fk71.ext Ext.rf (h' := h87) (fun k_ a_ b_ => hfL k_ (by omega))
        have Fk78 := Fk78.ext Ext.rf (h' := h87) (fun k_ a_ b_ => hfL k_ (by omega))
        have Fk85 := Fk85.ext Ext.rf (h' := h87) (fun k_ a_ b_ => hfL k_ (by omega))
        have hfr : ∀ k_, k_ < x → h87 k_ = h0 k_ := fun k_ hk_ => (hfL k_ (by omega)).trans (hfr k_ hk_)
        refine W.widen (k := 142) (n := 5341) (Nat.le_of_ble_eq_true rfl) (Nat.le_of_ble_eq_true rfl) ?_
        refine r_nret hx hb hr hlocks w dX8_init_141 hE0 ?_
        dsimp only
        obtain ⟨gf_, gp_, gq_, K_⟩ := Fk50
        exact ⟨hN, hfr, stS_ok, ⟨_, E_, rfl⟩, ⟨_, _, _, _, T_, rfl, fun i_ hi_ => absurd hi_ (Nat.not_lt_zero _)⟩, Pt_, P_, Fk20, fun i_ hi_ => (by rcases (show i_ = 0 ∨ i_ = 1 by omega) with rfl | rfl; exact Fk32; exact Fk41), fun i_ hi_ => absurd hi_ (Nat.not_lt_zero _), ⟨_, _, _, _, K_, rfl, fun i_ hi_ => absurd hi_ (Nat.not_lt_zero _)⟩, Fk57.e, Fk64.e, Fk71.e, Fk78.any, Fk85.any⟩
      · have c44 : ¬ (((2 : Nat) : Int) ≤ ((((0 + 1) + 1) : Nat) : Int)) := fun q => c44 ((i_le (by decide : (2 : Int32).toInt = ((2 : Nat) : Int)) ty43).mpr q)
        exfalso; omega

