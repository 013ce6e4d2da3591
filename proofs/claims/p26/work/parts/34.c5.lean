abbrev rm_X5_readItem : Room := { frames := 7, cells := 0, slots := 0, locals := 155 }
set_option maxHeartbeats 4000000 in
set_option maxRecDepth 100000 in
theorem c_X5_readItem (l : Launch) {g : GE} {h : Nat → va_E} {t : Nat} {ln at_ bd : Int32} {gs : Nat → Int32} (T : TxA g h t ln at_ bd gs) {nn : Int32} {ga gk gl : Nat → Int32} {gb : Nat → Nat → Int32} (P : PrA g h (t + 1) nn ga gk gl gb) {n : Nat} {tx : Nat → Nat} (hsz : ln.toInt = (n : Int)) (hn200 : n ≤ 200) (hgx : ∀ i, i < n → (gs i).toInt = ((tx i : Nat) : Int)) (hlt : ∀ i, i < n → 32 ≤ tx i ∧ tx i ≤ 126) {M : PRG} {mb i : Nat} (R : CSp M mb nn ga gk gl gb) (hat : at_.toInt = (i : Int)) (hbd : bd.toInt = (mb : Int)) (hi : i < n) (hz0 : i = 0 → pN M = 0 ∧ mb = 0) (hz1 : pN M = 0 → i = 0) : MI l yX5_readItem wsX5_readItem rm_X5_readItem [.ref (g.2.2.1 t)] g h (fun r_ h2 => (∀ k, ¬ (t ≤ k ∧ k < t + 11) → h2 k = h k) ∧ ∃ (at2 bd2 n2 : Int32) (ga2 gk2 gl2 : Nat → Int32) (gb2 : Nat → Nat → Int32), TxA g h2 t ln at2 bd2 gs ∧ PrA g h2 (t + 1) n2 ga2 gk2 gl2 gb2 ∧ ((r_ = 1 ∧ ∃ s2 : PS, ItemOk (sgn tx n) (i, M, mb) s2 ∧ at2.toInt = ((s2.1 : Nat) : Int) ∧ bd2.toInt = ((s2.2.2 : Nat) : Int) ∧ CSp s2.2.1 s2.2.2 n2 ga2 gk2 gl2 gb2) ∨ (r_ = 0 ∧ ¬ ∃ s2, ItemOk (sgn tx n) (i, M, mb) s2))) := by
  refine Met.ofW (cc := cX5_readItem) (maxL := 2) (ret := (some .boolean)) (by decide) rfl ?_
  intro p e s m args below meth c s₁ B hml hv
  obtain ⟨rfl, w0⟩ := hv
  have hx := B.exec
  have hb := B.bytes
  have hr := B.returns
  have hts := atoms_spec (ws := wsX5_readItem) B.pre
  have hown : s.vm.findClass RX5 = some m.cls := findClass_of_methodNamed B.named
  have hlocks := B.notSynchronized
  have w := w0.start
  clear w0
  have hl := lv_entry ([.ref (g.2.2.1 t)]) (n := 2) (Nat.le_of_ble_eq_true rfl)
  rw [lg_entry_eq]
  generalize (lg_sl ([.ref (g.2.2.1 t)]) ++ List.replicate (2 - (lg_sl ([.ref (g.2.2.1 t)])).length) Slot.unset).toArray = ls at hl ⊢
  have hl : lv_has ls 2 [(0, .ref (g.2.2.1 t))] := hl
  have hfr : ∀ k_, ¬ (t ≤ k_ ∧ k_ < t + 11) → h k_ = h k_ := fun _ _ => rfl
  have hR2_ := R.2.1
  have hR3_ := R.2.2.1
  refine lv_aload_n hx hb dX5_readItem_0 rfl (lv_at hl 0 rfl) ?_
  refine r_callI w (va_runV (As := []) (rest := []) ⟨hx, hb, hml, hown, hts⟩ (c_X5_next l T hsz hn200 hgx hlt hat) (cwV 0 hts gX5_readItem_X5_next rfl rfl rfl (by decide +kernel) ⟨Nat.le_of_ble_eq_true rfl, Nat.le_of_ble_eq_true rfl⟩) (r_preV w (by have := T.1; omega) T.2.1 rfl) rfl rfl hl.1 rfl (lv_room (Nat.le_of_ble_eq_true rfl)) dX5_readItem_1 ⟨Nat.zero_le _, Nat.zero_le _⟩) (fun r2 h1 H locs hp w => ?_)
  obtain ⟨hfk3, atk3, T, hrk3, hak3, hzk3⟩ := hp
  have P := P.fr (h' := h1) (fun k_ h1_ h2_ => hfk3 k_ (by omega))
  have hfr : ∀ k_, ¬ (t ≤ k_ ∧ k_ < t + 11) → h1 k_ = h k_ := fun k_ hk_ => (hfk3 k_ (by omega))
  have slk3 := sgn_le (i := i) hlt
  refine lv_istore_n (lv' := [(1, .int r2), (0, .ref (g.2.2.1 t))]) hx hb dX5_readItem_4 rfl hl (by decide) rfl (fun ls hl => ?_)
  refine lv_iload_n hx hb dX5_readItem_5 rfl (lv_at hl 0 rfl) ?_
  refine lv_bipush (v := 110) hx hb dX5_readItem_6 (by decide) ?_
  refine lv_icmp_ne (tgt := 18) hx hb dX5_readItem_8 (by decide) (fun c4 => ?_) (fun c4 => ?_)
  · have c4 : ¬ ((((sgn tx n i) : Nat) : Int) = ((110 : Nat) : Int)) := fun q => c4 ((i_eq hrk3 (by decide : (110 : Int32).toInt = ((110 : Nat) : Int))).mpr q)
    refine lv_iload_n hx hb dX5_readItem_18 rfl (lv_at hl 0 rfl) ?_
    refine lv_bipush (v := 102) hx hb dX5_readItem_19 (by decide) ?_
    refine lv_icmp_ne (tgt := 35) hx hb dX5_readItem_21 (by decide) (fun c5 => ?_) (fun c5 => ?_)
    · have c5 : ¬ ((((sgn tx n i) : Nat) : Int) = ((102 : Nat) : Int)) := fun q => c5 ((i_eq hrk3 (by decide : (102 : Int32).toInt = ((102 : Nat) : Int))).mpr q)
      refine lv_iconst (v := 0) hx hb dX5_readItem_35 (by decide) ?_
      refine r_zret (v := 0) hx hb hr rfl hlocks w dX5_readItem_36 ?_
      refine ⟨hfr, _, _, _, _, _, _, _, T, P, Or.inr ⟨rfl, ?_⟩⟩
      rintro ⟨s_, ⟨x1_, x2_, -⟩ | ⟨x1_, p_, x2_, -⟩⟩
      · have x1b_ : sgn tx n i = 110 := x1_
        omega
      · have x1b_ : sgn tx n i = 102 := x1_
        omega
    · have c5 : (((sgn tx n i) : Nat) : Int) = ((102 : Nat) : Int) := (i_eq hrk3 (by decide : (102 : Int32).toInt = ((102 : Nat) : Int))).mp c5
      refine lv_aload_n hx hb dX5_readItem_24 rfl (lv_at hl 1 rfl) ?_
      refine r_callI w (va_runV (As := []) (rest := []) ⟨hx, hb, hml, hown, hts⟩ (c_X5_readFunction l T P hsz hn200 hgx hlt R (hak3 (by omega)) hbd (by omega)) (cwV 0 hts gX5_readItem_X5_readFunction rfl rfl rfl (by decide +kernel) ⟨Nat.le_of_ble_eq_true rfl, Nat.le_of_ble_eq_true rfl⟩) (r_preV w (by have := T.1; omega) T.2.1 rfl) rfl rfl hl.1 rfl (lv_room (Nat.le_of_ble_eq_true rfl)) dX5_readItem_25 ⟨Nat.zero_le _, Nat.zero_le _⟩) (fun r7 h6 H locs hp w => ?_)
      obtain ⟨hfk8, atk8, bdk8, gkk8, glk8, gbk8, T, P, hRk8⟩ := hp
      have hfr : ∀ k_, ¬ (t ≤ k_ ∧ k_ < t + 11) → h6 k_ = h k_ := fun k_ hk_ => (hfk8 k_ (by omega)).trans (hfr k_ hk_)
      have hbk8 : Bq r7 (∃ p9, FnOk (sgn tx n) (i + 1) M mb p9) := hRk8.elim (fun q_ => Or.inl ⟨q_.1, q_.2.elim (fun p_ z_ => ⟨p_, z_.1⟩)⟩) (fun q_ => Or.inr ⟨q_.1, q_.2⟩)
      refine lv_if_eq (tgt := 35) hx hb dX5_readItem_28 (by decide) (fun c9 => ?_) (fun c9 => ?_)
      · have c9 := hbk8.eq c9
        refine lv_iconst (v := 0) hx hb dX5_readItem_35 (by decide) ?_
        refine r_zret (v := 0) hx hb hr rfl hlocks w dX5_readItem_36 ?_
        refine ⟨hfr, _, _, _, _, _, _, _, T, P, Or.inr ⟨rfl, ?_⟩⟩
        rintro ⟨s_, ⟨x1_, x2_, -⟩ | ⟨x1_, p_, x2_, -⟩⟩
        · have x1b_ : sgn tx n i = 110 := x1_
          omega
        · exact c9 ⟨p_, x2_⟩
      · have c9 := hbk8.ne c9
        refine lv_iconst (v := 1) hx hb dX5_readItem_31 (by decide) ?_
        refine lv_goto (tgt := 36) hx hb dX5_readItem_32 (by decide) ?_
        refine r_zret (v := 1) hx hb hr rfl hlocks w dX5_readItem_36 ?_
        obtain ⟨-, p9, w1_, w2_, w3_, w4_⟩ := hRk8.resolve_right (fun q_ => q_.2 c9)
        exact ⟨hfr, _, _, _, _, _, _, _, T, P, Or.inl ⟨rfl, _, Or.inr ⟨by show sgn tx n i = 102; omega, p9, w1_, rfl⟩, w2_, w3_, w4_⟩⟩
  · have c4 : (((sgn tx n i) : Nat) : Int) = ((110 : Nat) : Int) := (i_eq hrk3 (by decide : (110 : Int32).toInt = ((110 : Nat) : Int))).mp c4
    refine lv_aload_n hx hb dX5_readItem_11 rfl (lv_at hl 1 rfl) ?_
    refine r_callI w (va_runV (As := []) (rest := []) ⟨hx, hb, hml, hown, hts⟩ (c_X5_readArguments l T P hsz hn200 hgx hlt (hak3 (by omega)) R.1 (by omega)) (cwV 0 hts gX5_readItem_X5_readArguments rfl rfl rfl (by decide +kernel) ⟨Nat.le_of_ble_eq_true rfl, Nat.le_of_ble_eq_true rfl⟩) (r_preV w (by have := T.1; omega) T.2.1 rfl) rfl rfl hl.1 rfl (lv_room (Nat.le_of_ble_eq_true rfl)) dX5_readItem_12 ⟨Nat.zero_le _, Nat.zero_le _⟩) (fun r11 h10 H locs hp w => ?_)
    obtain ⟨hfk12, atk12, nnk12, gak12, T, P, hRk12⟩ := hp
    have hfr : ∀ k_, ¬ (t ≤ k_ ∧ k_ < t + 11) → h10 k_ = h k_ := fun k_ hk_ => (hfk12 k_ (by omega)).trans (hfr k_ hk_)
    have hbk12 : Bq r11 (r11 = 1) := by rcases hRk12 with q_ | ⟨_, q_ | q_⟩; exact Or.inr ⟨q_.2, by rw [q_.2]; decide⟩; exact Or.inl ⟨q_.1, q_.1⟩; exact Or.inr ⟨q_.1, by rw [q_.1]; decide⟩
    refine lv_goto (tgt := 36) hx hb dX5_readItem_15 (by decide) ?_
    refine r_zret (v := r11) hx hb hr hbk12.nar hlocks w dX5_readItem_36 ?_
    rcases hRk12 with ⟨q1_, q2_⟩ | ⟨q1_, ⟨q2_, cw, q3_, q4_, q5_, q6_, q7_, q8_⟩ | ⟨q2_, q3_⟩⟩
    · refine ⟨hfr, _, _, _, _, _, _, _, T, P, Or.inr ⟨q2_, ?_⟩⟩
      rintro ⟨s_, ⟨x1_, x2_, -⟩ | ⟨x1_, -⟩⟩
      · have x2b_ : i = 0 := x2_
        have := (hz0 x2b_).1
        omega
      · have x1b_ : sgn tx n i = 102 := x1_
        omega
    · refine ⟨hfr, _, _, _, _, _, _, _, T, P, Or.inl ⟨q2_, _, Or.inl ⟨by show sgn tx n i = 110; omega, by show i = 0; exact hz1 q1_, cw, q3_, q4_, q5_, rfl⟩, q6_, hbd, ?_⟩⟩
      have hz_ := hz0 (hz1 q1_)
      refine ⟨q7_, by show mb ≤ _; omega, q3_.1, fun j_ hj_ => ⟨q8_ j_ hj_, ?_⟩, fun j_ hj_ => (by have hj2_ : j_ < mb := hj_; omega), fun j_ hj_ => (by have hj2_ : j_ < mb := hj_; omega), fun j_ hj_ => (by have hj2_ : j_ < mb := hj_; omega)⟩
      have hd_ := q3_.2.1 j_ hj_
      unfold dgt at hd_
      show sgn tx n (i + 1 + j_) - 48 ≤ 3
      omega
    · refine ⟨hfr, _, _, _, _, _, _, _, T, P, Or.inr ⟨q2_, ?_⟩⟩
      rintro ⟨s_, ⟨x1_, x2_, c_, x3_, x4_, x5_, -⟩ | ⟨x1_, -⟩⟩
      · exact q3_ ⟨c_, x3_, x4_, x5_⟩
      · have x1b_ : sgn tx n i = 102 := x1_
        omega

