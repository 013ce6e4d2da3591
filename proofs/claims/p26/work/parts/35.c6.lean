theorem csp0 {nn : Int32} {ga gk gl : Nat → Int32} {gb : Nat → Nat → Int32} (h : nn.toInt = 0) : CSp ps0.2.1 0 nn ga gk gl gb :=
  ⟨h, Nat.le_refl _, by decide, fun i hi => absurd hi (Nat.not_lt_zero _), fun i hi => absurd hi (Nat.not_lt_zero _), fun i hi => absurd hi (Nat.not_lt_zero _), fun i hi => absurd hi (Nat.not_lt_zero _)⟩
theorem inX5_read_X3 : ∀ w ∈ wsX30, w ∈ wsX5_read := by decide +kernel
theorem inX5_read_X5 : ∀ w ∈ wsX50, w ∈ wsX5_read := by decide +kernel
abbrev rm_X5_read : Room := { frames := 8, cells := 0, slots := 0, locals := 176 }
set_option maxHeartbeats 4000000 in
set_option maxRecDepth 100000 in
theorem c_X5_read (l : Launch) {g : GE} {h : Nat → va_E} {t : Nat} {ln at_ bd : Int32} {gs : Nat → Int32} (T : TxA g h t ln at_ bd gs) {nn : Int32} {ga gk gl : Nat → Int32} {gb : Nat → Nat → Int32} (P : PrA g h (t + 1) nn ga gk gl gb) {n : Nat} {tx : Nat → Nat} (hsz : ln.toInt = (n : Int)) (hn200 : n ≤ 200) (hgx : ∀ i, i < n → (gs i).toInt = ((tx i : Nat) : Int)) (hlt : ∀ i, i < n → 32 ≤ tx i ∧ tx i ≤ 126) : MI l yX5_read wsX5_read rm_X5_read [.ref (g.2.2.1 t)] g h (fun r_ h2 => (∀ k, ¬ (t ≤ k ∧ k < t + 11) → h2 k = h k) ∧ ∃ (at2 bd2 n2 : Int32) (ga2 gk2 gl2 : Nat → Int32) (gb2 : Nat → Nat → Int32) (tt : PS), TxA g h2 t ln at2 bd2 gs ∧ PrA g h2 (t + 1) n2 ga2 gk2 gl2 gb2 ∧ RunE (sgn tx n) n tt ∧ ((n ≤ tt.1 ∧ r_.toInt = -4 ∧ bd2.toInt = ((tt.2.2 : Nat) : Int) ∧ CSp tt.2.1 tt.2.2 n2 ga2 gk2 gl2 gb2) ∨ (tt.1 < n ∧ r_.toInt = ((tt.1 : Nat) : Int)))) := by
  refine Met.ofW (cc := cX5_read) (maxL := 3) (ret := (some .int)) (by decide) rfl ?_
  intro p e s m args below meth c s₁ B hml hv
  obtain ⟨rfl, w0⟩ := hv
  have hx := B.exec
  have hb := B.bytes
  have hr := B.returns
  have hts := atoms_spec (ws := wsX5_read) B.pre
  have hown : s.vm.findClass RX5 = some m.cls := findClass_of_methodNamed B.named
  have hlocks := B.notSynchronized
  have w := w0.start
  clear w0
  have hl := lv_entry ([.ref (g.2.2.1 t)]) (n := 3) (Nat.le_of_ble_eq_true rfl)
  rw [lg_entry_eq]
  generalize (lg_sl ([.ref (g.2.2.1 t)]) ++ List.replicate (3 - (lg_sl ([.ref (g.2.2.1 t)])).length) Slot.unset).toArray = ls at hl ⊢
  have hl : lv_has ls 3 [(0, .ref (g.2.2.1 t))] := hl
  have cuts : ∀ N : Nat, (∀ (kk : Nat) (i1 : Nat) (M1 : PRG) (mb1 : Nat) (x1 : Int32) (at1 : Int32) (bd1 : Int32) (n1 : Int32) (ga1 : Nat → Int32) (gk1 : Nat → Int32) (gl1 : Nat → Int32) (gb1 : Nat → Nat → Int32) (hc : Nat → va_E) (H : Heap) (locs : List Loc) (ls : Array Slot), WD g (inW g) s hc H locs → lv_has ls 3 [(0, .ref (g.2.2.1 t)), (1, .int x1)] → (RunR (sgn tx n) n kk (i1, M1, mb1)) → (i1 ≤ n) → (kk ≤ i1) → (x1.toInt = ((kk : Nat) : Int)) → (i1 = 0 → pN M1 = 0 ∧ mb1 = 0) → (pN M1 = 0 → i1 = 0) → (at1.toInt = ((i1 : Nat) : Int)) → (bd1.toInt = ((mb1 : Nat) : Int)) → (CSp M1 mb1 n1 ga1 gk1 gl1 gb1) → (TxA g hc t ln at1 bd1 gs) → (PrA g hc (t + 1) n1 ga1 gk1 gl1 gb1) → (∀ k, ¬ (t ≤ k ∧ k < t + 11) → hc k = h k) → 210 - i1 < N → W p l e (headSpec wsX5_read rm_X5_read).room s m ([.ref (g.2.2.1 t)] : List Value).toArray below meth c H locs 0 0 (MQ below (va_Qi (fun r_ h2 => (∀ k, ¬ (t ≤ k ∧ k < t + 11) → h2 k = h k) ∧ ∃ (at2 bd2 n2 : Int32) (ga2 gk2 gl2 : Nat → Int32) (gb2 : Nat → Nat → Int32) (tt : PS), TxA g h2 t ln at2 bd2 gs ∧ PrA g h2 (t + 1) n2 ga2 gk2 gl2 gb2 ∧ RunE (sgn tx n) n tt ∧ ((n ≤ tt.1 ∧ r_.toInt = -4 ∧ bd2.toInt = ((tt.2.2 : Nat) : Int) ∧ CSp tt.2.1 tt.2.2 n2 ga2 gk2 gl2 gb2) ∨ (tt.1 < n ∧ r_.toInt = ((tt.1 : Nat) : Int)))) (Wd g) (inW g)) ([.ref (g.2.2.1 t)] : List Value).toArray s 0 0 (inW g)) (F0 m 20 ls [])) := by
    intro N
    induction N with
    | zero => exact by intros; omega
    | succ N ih =>
      have ih20 := ih
      · intro kk i1 M1 mb1 x1 at1 bd1 n1 ga1 gk1 gl1 gb1 hc H locs ls w hl hrun hin hkk hx1 hz0 hz1 hat1 hbd1 R1 T P hfr hN_
        refine lv_iload_n hx hb dX5_read_20 rfl (lv_at hl 1 rfl) ?_
        refine lv_sipush (v := 200) hx hb dX5_read_21 (by decide) ?_
        refine lv_icmp_ge (tgt := 58) hx hb dX5_read_24 (by decide) (fun c1 => ?_) (fun c1 => ?_)
        · have c1 : ((200 : Nat) : Int) ≤ ((kk : Nat) : Int) := (i_le (by decide : (200 : Int32).toInt = ((200 : Nat) : Int)) hx1).mp c1
          refine lv_bipush (v := (-4)) hx hb dX5_read_58 (by decide) ?_
          refine r_iret (v := (-4)) hx hb hr hlocks w dX5_read_60 ?_
          exact ⟨hfr, _, _, _, _, _, _, _, (i1, M1, mb1), T, P, ⟨⟨kk, hrun⟩, Or.inl (by show n ≤ i1; omega)⟩, Or.inl ⟨by show n ≤ i1; omega, rfl, hbd1, R1⟩⟩
        · have c1 : ¬ (((200 : Nat) : Int) ≤ ((kk : Nat) : Int)) := fun q => c1 ((i_le (by decide : (200 : Int32).toInt = ((200 : Nat) : Int)) hx1).mpr q)
          refine lv_aload_n hx hb dX5_read_27 rfl (lv_at hl 0 rfl) ?_
          refine r_get (C := RX5) (T := TX5) (N := 5) (ci := 4) hx hb hts inX5_read_X5 hown w (by have := T.1; omega) T.2.1 rfl 3 (by decide) (hts (Cond.fieldLink RX5 26 "EarlyValues$Text" "at" "I") (List.mem_of_getElem? (i := 1) (by decide +kernel))) rfl rfl dX5_read_28 ?_
          refine lv_aload_n hx hb dX5_read_31 rfl (lv_at hl 0 rfl) ?_
          refine r_get (C := RX5) (T := TX5) (N := 5) (ci := 4) hx hb hts inX5_read_X5 hown w (by have := T.1; omega) T.2.1 rfl 1 (by decide) (hts (Cond.fieldLink RX5 22 "EarlyValues$Text" "length" "I") (List.mem_of_getElem? (i := 5) (by decide +kernel))) rfl rfl dX5_read_32 ?_
          refine lv_icmp_ge (tgt := 58) hx hb dX5_read_35 (by decide) (fun c2 => ?_) (fun c2 => ?_)
          · have c2 : ((n : Nat) : Int) ≤ ((i1 : Nat) : Int) := (i_le hsz hat1).mp c2
            refine lv_bipush (v := (-4)) hx hb dX5_read_58 (by decide) ?_
            refine r_iret (v := (-4)) hx hb hr hlocks w dX5_read_60 ?_
            exact ⟨hfr, _, _, _, _, _, _, _, (i1, M1, mb1), T, P, ⟨⟨kk, hrun⟩, Or.inl (by show n ≤ i1; omega)⟩, Or.inl ⟨by show n ≤ i1; omega, rfl, hbd1, R1⟩⟩
          · have c2 : ¬ (((n : Nat) : Int) ≤ ((i1 : Nat) : Int)) := fun q => c2 ((i_le hsz hat1).mpr q)
            refine lv_aload_n hx hb dX5_read_38 rfl (lv_at hl 0 rfl) ?_
            refine r_get (C := RX5) (T := TX5) (N := 5) (ci := 4) hx hb hts inX5_read_X5 hown w (by have := T.1; omega) T.2.1 rfl 3 (by decide) (hts (Cond.fieldLink RX5 26 "EarlyValues$Text" "at" "I") (List.mem_of_getElem? (i := 1) (by decide +kernel))) rfl rfl dX5_read_39 ?_
            refine lv_istore_n (lv' := [(2, .int at1), (0, .ref (g.2.2.1 t)), (1, .int x1)]) hx hb dX5_read_42 rfl hl (by decide) rfl (fun ls hl => ?_)
            refine lv_aload_n hx hb dX5_read_43 rfl (lv_at hl 1 rfl) ?_
            refine r_callI w (va_runV (As := []) (rest := []) ⟨hx, hb, hml, hown, hts⟩ (c_X5_readItem l T P hsz hn200 hgx hlt (M := M1) (mb := mb1) (i := i1) R1 hat1 hbd1 (by omega) hz0 hz1) (cwV 0 hts gX5_read_X5_readItem rfl rfl rfl (by decide +kernel) ⟨Nat.le_of_ble_eq_true rfl, Nat.le_of_ble_eq_true rfl⟩) (r_preV w (by have := T.1; omega) T.2.1 rfl) rfl rfl hl.1 rfl (lv_room (Nat.le_of_ble_eq_true rfl)) dX5_read_44 ⟨Nat.zero_le _, Nat.zero_le _⟩) (fun r4 h3 H locs hp w => ?_)
            obtain ⟨hfk5, atk5, bdk5, nnk5, gak5, gkk5, glk5, gbk5, T, P, hRk5⟩ := hp
            have hfr : ∀ k_, ¬ (t ≤ k_ ∧ k_ < t + 11) → h3 k_ = h k_ := fun k_ hk_ => (hfk5 k_ (by omega)).trans (hfr k_ hk_)
            have hbk5 : Bq r4 (∃ s2, ItemOk (sgn tx n) (i1, M1, mb1) s2) := hRk5.elim (fun q_ => Or.inl ⟨q_.1, q_.2.elim (fun s_ z_ => ⟨s_, z_.1⟩)⟩) (fun q_ => Or.inr ⟨q_.1, q_.2⟩)
            refine lv_if_ne (tgt := 52) hx hb dX5_read_47 (by decide) (fun c6 => ?_) (fun c6 => ?_)
            · have c6 := hbk5.ne c6
              obtain ⟨-, s2_, w1_, w2_, w3_, w4_⟩ := hRk5.resolve_right (fun q_ => q_.2 c6)
              obtain ⟨i2_, M2_, m2_⟩ := s2_
              have hat_ := w1_.at
              have ht1_ : i1 < i2_ := hat_.1
              have ht2_ : i2_ ≤ n := hat_.2.1
              have ht3_ : 0 < i2_ := hat_.2.2.1
              have ht4_ : 0 < pN M2_ := hat_.2.2.2
              obtain ⟨y7, ey7⟩ : ∃ y : Int32, y = x1 + (1) := ⟨_, rfl⟩
              have ty7 : y7.toInt = (((kk + 1) : Nat) : Int) := i_addN ey7 hx1 (by decide : (1 : Int32).toInt = ((1 : Nat) : Int)) (by omega)
              refine lv_iinc (v := y7) (lv' := [(1, .int y7), (2, .int at1), (0, .ref (g.2.2.1 t))]) hx hb dX5_read_52 hl (k := 2) rfl (by rw [ey7]; rfl) (by decide) rfl (fun ls hl => ?_)
              refine lv_goto (tgt := 20) hx hb dX5_read_55 (by decide) ?_
              exact ih20 (kk + 1) i2_ M2_ m2_ y7 atk5 bdk5 nnk5 gak5 gkk5 glk5 gbk5 h3 _ _ _ w (lv_sub hl [2, 0] rfl) (⟨_, hrun, by show i1 < n; omega, w1_⟩) (by omega) (by omega) ty7 (fun q_ => by omega) (fun q_ => by omega) w2_ w3_ w4_ T P hfr (by omega)
            · have c6 := hbk5.eq c6
              refine lv_iload_n hx hb dX5_read_50 rfl (lv_at hl 0 rfl) ?_
              refine r_iret (v := at1) hx hb hr hlocks w dX5_read_51 ?_
              exact ⟨hfr, _, _, _, _, _, _, _, (i1, M1, mb1), T, P, ⟨⟨kk, hrun⟩, Or.inr c6⟩, Or.inr ⟨by show i1 < n; omega, hat1⟩⟩
  have ih20 := cuts (300)
  refine lv_aload_n hx hb dX5_read_0 rfl (lv_at hl 0 rfl) ?_
  refine lv_iconst (v := 0) hx hb dX5_read_1 (by decide) ?_
  refine r_put (ty := .int) (C := RX5) (T := TX5) (N := 5) (ci := 4) hx hb hts inX5_read_X5 tyX5 tyX5_ok nmX5 hown w (by have := T.1; omega) T.2.1 rfl 3 (by decide) (hts (Cond.fieldLink RX5 26 "EarlyValues$Text" "at" "I") (List.mem_of_getElem? (i := 1) (by decide +kernel))) rfl rfl (by decide +kernel) rfl rfl (Nat.le_of_ble_eq_true rfl) dX5_read_2 (fun h8 H locs eh8 w => ?_)
  have T := T.s0 eh8
  have hfr : ∀ k_, ¬ (t ≤ k_ ∧ k_ < t + 11) → h8 k_ = h k_ := fun k_ hk_ => by rw [eh8, va_up_ne _ _ (by omega)]
  have P := P.fr (h' := h8) (fun k_ h1_ h2_ => by rw [eh8, va_up_ne _ _ (by omega)])
  refine lv_aload_n hx hb dX5_read_5 rfl (lv_at hl 0 rfl) ?_
  refine lv_iconst (v := 0) hx hb dX5_read_6 (by decide) ?_
  refine r_put (ty := .int) (C := RX5) (T := TX5) (N := 5) (ci := 4) hx hb hts inX5_read_X5 tyX5 tyX5_ok nmX5 hown w (by have := T.1; omega) T.2.1 rfl 4 (by decide) (hts (Cond.fieldLink RX5 29 "EarlyValues$Text" "bodies" "I") (List.mem_of_getElem? (i := 2) (by decide +kernel))) rfl rfl (by decide +kernel) rfl rfl (Nat.le_of_ble_eq_true rfl) dX5_read_7 (fun h9 H locs eh9 w => ?_)
  have T := T.s0 eh9
  have hfr : ∀ k_, ¬ (t ≤ k_ ∧ k_ < t + 11) → h9 k_ = h k_ := fun k_ hk_ => by rw [eh9, va_up_ne _ _ (by omega)]; exact hfr k_ hk_
  have P := P.fr (h' := h9) (fun k_ h1_ h2_ => by rw [eh9, va_up_ne _ _ (by omega)])
  refine lv_aload_n hx hb dX5_read_10 rfl (lv_at hl 0 rfl) ?_
  refine r_get (C := RX5) (T := TX5) (N := 5) (ci := 4) hx hb hts inX5_read_X5 hown w (by have := T.1; omega) T.2.1 rfl 0 (by decide) (hts (Cond.fieldLink RX5 12 "EarlyValues$Text" "told" "LEarlyValues$Program;") (List.mem_of_getElem? (i := 3) (by decide +kernel))) rfl rfl dX5_read_11 ?_
  refine lv_iconst (v := 0) hx hb dX5_read_14 (by decide) ?_
  refine r_put (ty := .int) (C := RX3) (T := TX3) (N := 5) (ci := 2) hx hb hts inX5_read_X3 tyX3 tyX3_ok nmX3 hown w (by have := P.1; omega) P.c0 rfl 0 (by decide) (hts (Cond.fieldLink RX5 32 "EarlyValues$Program" "functions" "I") (List.mem_of_getElem? (i := 4) (by decide +kernel))) rfl rfl (by decide +kernel) rfl rfl (Nat.le_of_ble_eq_true rfl) dX5_read_15 (fun h10 H locs eh10 w => ?_)
  have P := P.s0 eh10
  have hfr : ∀ k_, ¬ (t ≤ k_ ∧ k_ < t + 11) → h10 k_ = h k_ := fun k_ hk_ => by rw [eh10, va_up_ne _ _ (by omega)]; exact hfr k_ hk_
  have T := T.fr (h' := h10) (fun k_ h1_ h2_ h3_ => by rw [eh10, va_up_ne _ _ (by omega)])
  refine lv_iconst (v := 0) hx hb dX5_read_18 (by decide) ?_
  refine lv_istore_n (lv' := [(1, .int 0), (0, .ref (g.2.2.1 t))]) hx hb dX5_read_19 rfl hl (by decide) rfl (fun ls hl => ?_)
  exact ih20 0 0 ps0.2.1 0 0 0 0 0 ga gk gl gb h10 _ _ _ w (lv_sub hl [1, 0] rfl) rfl (Nat.zero_le _) (by omega) ((by decide : (0 : Int32).toInt = ((0 : Nat) : Int))) (fun _ => ⟨rfl, rfl⟩) (fun _ => rfl) (by decide) (by decide) (csp0 (by decide)) T P hfr (by omega)

