theorem cb_up {i mb p : Nat} {S : Nat → Nat} {gb gb1 gz : Nat → Nat → Int32} {x : Int32} (h : (∀ j, j < p → (gb1 mb j).toInt = ((mNum ((S (i + j) : Nat) : Int) : Nat) : Int)) ∧ ∀ q, q ≠ mb → gb1 q = gb q) (hx : x.toInt = ((mNum ((S (i + p) : Nat) : Int) : Nat) : Int)) (e : va_up gb1 mb (upd (gb1 mb) p x) = gz) : (∀ j, j < p + 1 → (gz mb j).toInt = ((mNum ((S (i + j) : Nat) : Int) : Nat) : Int)) ∧ ∀ q, q ≠ mb → gz q = gb q := by
  subst e
  refine ⟨fun j hj => ?_, fun q hq => by rw [va_up_ne _ _ hq]; exact h.2 q hq⟩
  rw [va_up_self]
  by_cases q : j = p
  · rw [q, pk_us]; exact hx
  · rw [pk_un q]; exact h.1 j (by omega)
/-- the functions told so far in the class's Program, mb of them whole -/
def CSp (M : PRG) (mb : Nat) (nn : Int32) (ga gk gl : Nat → Int32) (gb : Nat → Nat → Int32) : Prop :=
  nn.toInt = ((pN M : Nat) : Int) ∧ mb ≤ pN M ∧ pN M ≤ 4 ∧ (∀ i, i < pN M → (ga i).toInt = (pA M i : Int) ∧ pA M i ≤ 3) ∧ (∀ i, i < mb → (gk i).toInt = ((pK M i : Nat) : Int)) ∧ (∀ i, i < mb → (gl i).toInt = ((pL M i : Nat) : Int)) ∧ ∀ i, i < mb → ∀ j, j < pL M i → (gb i j).toInt = ((pB M i j : Nat) : Int)
theorem CSp.fn {S : Nat → Nat} {M : PRG} {mb i p9 : Nat} {nn : Int32} {ga gk gl gk2 gl2 : Nat → Int32} {gb gb2 : Nat → Nat → Int32} {x : Int32} (R : CSp M mb nn ga gk gl gb) (hF : FnOk S i M mb p9) (e1 : upd gk mb x = gk2) (hx : x.toInt = ((S i - 48 : Nat) : Int)) (h1 : ∀ q, q ≠ mb → gl2 q = gl q) (h2 : ∀ q, q ≠ mb → gb2 q = gb q) (h3 : (gl2 mb).toInt = ((p9 : Nat) : Int)) (h4 : ∀ j, j < p9 → (gb2 mb j).toInt = ((mNum ((S (i + 1 + 1 + j) : Nat) : Int) : Nat) : Int)) : CSp (mFn S M mb i p9) (mb + 1) nn ga gk2 gl2 gb2 := by
  obtain ⟨a1, a2, a3, a4, a5, a6, a7⟩ := R
  obtain ⟨f1, -⟩ := hF
  subst e1
  refine ⟨a1, by show mb + 1 ≤ pN M; omega, a3, a4, fun j hj => ?_, fun j hj => ?_, fun j hj k hk => ?_⟩
  · show (upd gk mb x j).toInt = (((if j = mb then S i - 48 else pK M j) : Nat) : Int)
    by_cases q : j = mb
    · rw [if_pos q, q, pk_us]; exact hx
    · rw [if_neg q, pk_un q]; exact a5 j (by omega)
  · show (gl2 j).toInt = (((if j = mb then p9 else pL M j) : Nat) : Int)
    by_cases q : j = mb
    · rw [if_pos q, q]; exact h3
    · rw [if_neg q, h1 j q]; exact a6 j (by omega)
  · have hk' : k < (if j = mb then p9 else pL M j) := hk
    show (gb2 j k).toInt = (((if j = mb then mNum ((S (i + 1 + 1 + k) : Nat) : Int) else pB M j k) : Nat) : Int)
    by_cases q : j = mb
    · rw [if_pos q] at hk' ⊢; rw [q]; exact h4 k hk'
    · rw [if_neg q] at hk' ⊢; rw [h2 j q]; exact a7 j (by omega) k hk'
theorem inX5_readArguments_X3 : ∀ w ∈ wsX30, w ∈ wsX5_readArguments := by decide +kernel
theorem inX5_readArguments_X5 : ∀ w ∈ wsX50, w ∈ wsX5_readArguments := by decide +kernel
abbrev rm_X5_readArguments : Room := { frames := 1, cells := 0, slots := 0, locals := 21 }
set_option maxHeartbeats 4000000 in
set_option maxRecDepth 100000 in
theorem c_X5_readArguments (l : Launch) {g : GE} {h : Nat → va_E} {t : Nat} {ln at_ bd : Int32} {gs : Nat → Int32} (T : TxA g h t ln at_ bd gs) {nn : Int32} {ga gk gl : Nat → Int32} {gb : Nat → Nat → Int32} (P : PrA g h (t + 1) nn ga gk gl gb) {n : Nat} {tx : Nat → Nat} (hsz : ln.toInt = (n : Int)) (hn200 : n ≤ 200) (hgx : ∀ i, i < n → (gs i).toInt = ((tx i : Nat) : Int)) (hlt : ∀ i, i < n → 32 ≤ tx i ∧ tx i ≤ 126) {i Nq : Nat} (hat : at_.toInt = (i : Int)) (hN : nn.toInt = (Nq : Int)) (hi : i ≤ n) : MI l yX5_readArguments wsX5_readArguments rm_X5_readArguments [.ref (g.2.2.1 t)] g h (fun r_ h2 => (∀ k, ¬ (t ≤ k ∧ k < t + 11) → h2 k = h k) ∧ ∃ (at2 n2 : Int32) (ga2 : Nat → Int32), TxA g h2 t ln at2 bd gs ∧ PrA g h2 (t + 1) n2 ga2 gk gl gb ∧ ((0 < Nq ∧ r_ = 0) ∨ (Nq = 0 ∧ ((r_ = 1 ∧ ∃ cw, NumE (sgn tx n) i cw ∧ 0 < cw ∧ sgn tx n (i + cw) = 59 ∧ at2.toInt = ((i + cw + 1 : Nat) : Int) ∧ n2.toInt = ((cw : Nat) : Int) ∧ ∀ j, j < cw → (ga2 j).toInt = ((sgn tx n (i + j) - 48 : Nat) : Int)) ∨ (r_ = 0 ∧ ¬ ∃ cw, NumE (sgn tx n) i cw ∧ 0 < cw ∧ sgn tx n (i + cw) = 59))))) := by
  refine Met.ofW (cc := cX5_readArguments) (maxL := 3) (ret := (some .boolean)) (by decide) rfl ?_
  intro p e s m args below meth c s₁ B hml hv
  obtain ⟨rfl, w0⟩ := hv
  have hx := B.exec
  have hb := B.bytes
  have hr := B.returns
  have hts := atoms_spec (ws := wsX5_readArguments) B.pre
  have hown : s.vm.findClass RX5 = some m.cls := findClass_of_methodNamed B.named
  have hlocks := B.notSynchronized
  have w := w0.start
  clear w0
  have hl := lv_entry ([.ref (g.2.2.1 t)]) (n := 3) (Nat.le_of_ble_eq_true rfl)
  rw [lg_entry_eq]
  generalize (lg_sl ([.ref (g.2.2.1 t)]) ++ List.replicate (3 - (lg_sl ([.ref (g.2.2.1 t)])).length) Slot.unset).toArray = ls at hl ⊢
  have hl : lv_has ls 3 [(0, .ref (g.2.2.1 t))] := hl
  have hfr : ∀ k_, ¬ (t ≤ k_ ∧ k_ < t + 11) → h k_ = h k_ := fun _ _ => rfl
  have cuts : ∀ N : Nat, (∀ (f9 : Nat) (x1 : Int32) (at1 : Int32) (n1 : Int32) (ga1 : Nat → Int32) (hc : Nat → va_E) (H : Heap) (locs : List Loc) (ls : Array Slot), WD g (inW g) s hc H locs → lv_has ls 3 [(0, .ref (g.2.2.1 t)), (1, .int x1)] → (f9 ≤ 4) → (x1.toInt = ((f9 : Nat) : Int)) → (at1.toInt = ((i + f9 : Nat) : Int)) → (n1.toInt = ((f9 : Nat) : Int)) → (∀ j, j < f9 → dgt (sgn tx n (i + j))) → (∀ j, j < f9 → (ga1 j).toInt = ((sgn tx n (i + j) - 48 : Nat) : Int)) → (i + f9 ≤ n) → (Nq = 0) → (TxA g hc t ln at1 bd gs) → (PrA g hc (t + 1) n1 ga1 gk gl gb) → (∀ k, ¬ (t ≤ k ∧ k < t + 11) → hc k = h k) → 5 - f9 < N → W p l e (headSpec wsX5_readArguments rm_X5_readArguments).room s m ([.ref (g.2.2.1 t)] : List Value).toArray below meth c H locs 0 0 (MQ below (va_Qi (fun r_ h2 => (∀ k, ¬ (t ≤ k ∧ k < t + 11) → h2 k = h k) ∧ ∃ (at2 n2 : Int32) (ga2 : Nat → Int32), TxA g h2 t ln at2 bd gs ∧ PrA g h2 (t + 1) n2 ga2 gk gl gb ∧ ((0 < Nq ∧ r_ = 0) ∨ (Nq = 0 ∧ ((r_ = 1 ∧ ∃ cw, NumE (sgn tx n) i cw ∧ 0 < cw ∧ sgn tx n (i + cw) = 59 ∧ at2.toInt = ((i + cw + 1 : Nat) : Int) ∧ n2.toInt = ((cw : Nat) : Int) ∧ ∀ j, j < cw → (ga2 j).toInt = ((sgn tx n (i + j) - 48 : Nat) : Int)) ∨ (r_ = 0 ∧ ¬ ∃ cw, NumE (sgn tx n) i cw ∧ 0 < cw ∧ sgn tx n (i + cw) = 59))))) (Wd g) (inW g)) ([.ref (g.2.2.1 t)] : List Value).toArray s 0 0 (inW g)) (F0 m 14 ls [])) := by
    intro N
    induction N with
    | zero => exact by intros; omega
    | succ N ih =>
      have ih14 := ih
      · intro f9 x1 at1 n1 ga1 hc H locs ls w hl hf4 hx1 hat1 hn1 hdg hga hin hN0 T P hfr hN_
        refine lv_iload_n hx hb dX5_readArguments_14 rfl (lv_at hl 1 rfl) ?_
        refine lv_iconst (v := 4) hx hb dX5_readArguments_15 (by decide) ?_
        refine lv_icmp_ge (tgt := 83) hx hb dX5_readArguments_16 (by decide) (fun c1 => ?_) (fun c1 => ?_)
        · have c1 : ((4 : Nat) : Int) ≤ ((f9 : Nat) : Int) := (i_le (by decide : (4 : Int32).toInt = ((4 : Nat) : Int)) hx1).mp c1
          refine lv_aload_n hx hb dX5_readArguments_83 rfl (lv_at hl 0 rfl) ?_
          refine r_callI w (va_runV (As := []) (rest := []) ⟨hx, hb, hml, hown, hts⟩ (c_X5_next l T hsz hn200 hgx hlt hat1) (cwV 0 hts gX5_readArguments_X5_next rfl rfl rfl (by decide +kernel) ⟨Nat.le_of_ble_eq_true rfl, Nat.le_of_ble_eq_true rfl⟩) (r_preV w (by have := T.1; omega) T.2.1 rfl) rfl rfl hl.1 rfl (lv_room (Nat.le_of_ble_eq_true rfl)) dX5_readArguments_84 ⟨Nat.zero_le _, Nat.zero_le _⟩) (fun r3 h2 H locs hp w => ?_)
          obtain ⟨hfk4, atk4, T, hrk4, hak4, hzk4⟩ := hp
          have P := P.fr (h' := h2) (fun k_ h1_ h2_ => hfk4 k_ (by omega))
          have hfr : ∀ k_, ¬ (t ≤ k_ ∧ k_ < t + 11) → h2 k_ = h k_ := fun k_ hk_ => (hfk4 k_ (by omega)).trans (hfr k_ hk_)
          have slk4 := sgn_le (i := (i + f9)) hlt
          refine lv_bipush (v := 59) hx hb dX5_readArguments_87 (by decide) ?_
          refine lv_icmp_ne (tgt := 96) hx hb dX5_readArguments_89 (by decide) (fun c5 => ?_) (fun c5 => ?_)
          · have c5 : ¬ ((((sgn tx n ((i + f9))) : Nat) : Int) = ((59 : Nat) : Int)) := fun q => c5 ((i_eq hrk4 (by decide : (59 : Int32).toInt = ((59 : Nat) : Int))).mpr q)
            refine lv_iconst (v := 0) hx hb dX5_readArguments_96 (by decide) ?_
            refine r_zret (v := 0) hx hb hr rfl hlocks w dX5_readArguments_97 ?_
            refine ⟨hfr, _, _, _, T, P, Or.inr ⟨hN0, Or.inr ⟨rfl, ?_⟩⟩⟩
            rintro ⟨cw, a1_, a2_, a3_⟩
            have e_ := a1_.inj ⟨by omega, hdg, by first | exact Or.inl (by omega) | exact Or.inr (fun q_ => by unfold dgt at q_; omega)⟩
            subst e_
            omega
          · have c5 : (((sgn tx n ((i + f9))) : Nat) : Int) = ((59 : Nat) : Int) := (i_eq hrk4 (by decide : (59 : Int32).toInt = ((59 : Nat) : Int))).mp c5
            refine lv_iconst (v := 1) hx hb dX5_readArguments_92 (by decide) ?_
            refine lv_goto (tgt := 97) hx hb dX5_readArguments_93 (by decide) ?_
            refine r_zret (v := 1) hx hb hr rfl hlocks w dX5_readArguments_97 ?_
            exact ⟨hfr, _, _, _, T, P, Or.inr ⟨hN0, Or.inl ⟨rfl, f9, ⟨by omega, hdg, by first | exact Or.inl (by omega) | exact Or.inr (fun q_ => by unfold dgt at q_; omega)⟩, by omega, by omega, (hak4 (by omega)), hn1, hga⟩⟩⟩
        · have c1 : ¬ (((4 : Nat) : Int) ≤ ((f9 : Nat) : Int)) := fun q => c1 ((i_le (by decide : (4 : Int32).toInt = ((4 : Nat) : Int)) hx1).mpr q)
          refine lv_aload_n hx hb dX5_readArguments_19 rfl (lv_at hl 0 rfl) ?_
          refine r_callI w (va_runV (As := []) (rest := []) ⟨hx, hb, hml, hown, hts⟩ (c_X5_next l T hsz hn200 hgx hlt hat1) (cwV 0 hts gX5_readArguments_X5_next rfl rfl rfl (by decide +kernel) ⟨Nat.le_of_ble_eq_true rfl, Nat.le_of_ble_eq_true rfl⟩) (r_preV w (by have := T.1; omega) T.2.1 rfl) rfl rfl hl.1 rfl (lv_room (Nat.le_of_ble_eq_true rfl)) dX5_readArguments_20 ⟨Nat.zero_le _, Nat.zero_le _⟩) (fun r7 h6 H locs hp w => ?_)
          obtain ⟨hfk8, atk8, T, hrk8, hak8, hzk8⟩ := hp
          have P := P.fr (h' := h6) (fun k_ h1_ h2_ => hfk8 k_ (by omega))
          have hfr : ∀ k_, ¬ (t ≤ k_ ∧ k_ < t + 11) → h6 k_ = h k_ := fun k_ hk_ => (hfk8 k_ (by omega)).trans (hfr k_ hk_)
          have slk8 := sgn_le (i := (i + f9)) hlt
          refine lv_istore_n (lv' := [(2, .int r7), (0, .ref (g.2.2.1 t)), (1, .int x1)]) hx hb dX5_readArguments_23 rfl hl (by decide) rfl (fun ls hl => ?_)
          refine lv_iload_n hx hb dX5_readArguments_24 rfl (lv_at hl 0 rfl) ?_
          refine lv_bipush (v := 59) hx hb dX5_readArguments_25 (by decide) ?_
          refine lv_icmp_ne (tgt := 40) hx hb dX5_readArguments_27 (by decide) (fun c9 => ?_) (fun c9 => ?_)
          · have c9 : ¬ ((((sgn tx n ((i + f9))) : Nat) : Int) = ((59 : Nat) : Int)) := fun q => c9 ((i_eq hrk8 (by decide : (59 : Int32).toInt = ((59 : Nat) : Int))).mpr q)
            refine lv_iload_n hx hb dX5_readArguments_40 rfl (lv_at hl 0 rfl) ?_
            refine lv_bipush (v := 48) hx hb dX5_readArguments_41 (by decide) ?_
            refine lv_icmp_lt (tgt := 52) hx hb dX5_readArguments_43 (by decide) (fun c10 => ?_) (fun c10 => ?_)
            · have c10 : (((sgn tx n ((i + f9))) : Nat) : Int) < ((48 : Nat) : Int) := (i_lt hrk8 (by decide : (48 : Int32).toInt = ((48 : Nat) : Int))).mp c10
              refine lv_iconst (v := 0) hx hb dX5_readArguments_52 (by decide) ?_
              refine r_zret (v := 0) hx hb hr rfl hlocks w dX5_readArguments_53 ?_
              refine ⟨hfr, _, _, _, T, P, Or.inr ⟨hN0, Or.inr ⟨rfl, ?_⟩⟩⟩
              rintro ⟨cw, a1_, a2_, a3_⟩
              have e_ := a1_.inj ⟨by omega, hdg, by first | exact Or.inl (by omega) | exact Or.inr (fun q_ => by unfold dgt at q_; omega)⟩
              subst e_
              omega
            · have c10 : ¬ ((((sgn tx n ((i + f9))) : Nat) : Int) < ((48 : Nat) : Int)) := fun q => c10 ((i_lt hrk8 (by decide : (48 : Int32).toInt = ((48 : Nat) : Int))).mpr q)
              refine lv_iload_n hx hb dX5_readArguments_46 rfl (lv_at hl 0 rfl) ?_
              refine lv_bipush (v := 51) hx hb dX5_readArguments_47 (by decide) ?_
              refine lv_icmp_le (tgt := 54) hx hb dX5_readArguments_49 (by decide) (fun c11 => ?_) (fun c11 => ?_)
              · have c11 : (((sgn tx n ((i + f9))) : Nat) : Int) ≤ ((51 : Nat) : Int) := (i_le hrk8 (by decide : (51 : Int32).toInt = ((51 : Nat) : Int))).mp c11
                refine lv_aload_n hx hb dX5_readArguments_54 rfl (lv_at hl 1 rfl) ?_
                refine r_get (C := RX5) (T := TX5) (N := 5) (ci := 4) hx hb hts inX5_readArguments_X5 hown w (by have := T.1; omega) T.2.1 rfl 0 (by decide) (hts (Cond.fieldLink RX5 12 "EarlyValues$Text" "told" "LEarlyValues$Program;") (List.mem_of_getElem? (i := 1) (by decide +kernel))) rfl rfl dX5_readArguments_55 ?_
                refine r_get (C := RX3) (T := TX3) (N := 5) (ci := 2) hx hb hts inX5_readArguments_X3 hown w (by have := P.1; omega) P.c0 rfl 1 (by decide) (hts (Cond.fieldLink RX5 49 "EarlyValues$Program" "arguments" "[I") (List.mem_of_getElem? (i := 3) (by decide +kernel))) rfl rfl dX5_readArguments_58 ?_
                refine lv_iload_n hx hb dX5_readArguments_61 rfl (lv_at hl 2 rfl) ?_
                refine lv_iload_n hx hb dX5_readArguments_62 rfl (lv_at hl 0 rfl) ?_
                refine lv_bipush (v := 48) hx hb dX5_readArguments_63 (by decide) ?_
                refine lv_isub hx hb dX5_readArguments_65 ?_
                refine lv_topi (fun y12 ey12 => ?_)
                have ty12 : y12.toInt = ((((sgn tx n ((i + f9))) - 48) : Nat) : Int) := i_subN ey12 hrk8 (by decide : (48 : Int32).toInt = ((48 : Nat) : Int)) (by omega)
                refine r_iast (j := f9) hx hb w (by have := P.1; omega) P.c1 hx1 (by omega) dX5_readArguments_66 (fun h13 H locs eh13 w => ?_)
                have P := P.s1 eh13
                generalize egz14 : upd ga1 f9 y12 = gz14 at P
                have hfr : ∀ k_, ¬ (t ≤ k_ ∧ k_ < t + 11) → h13 k_ = h k_ := fun k_ hk_ => by rw [eh13, va_up_ne _ _ (by omega)]; exact hfr k_ hk_
                have T := T.fr (h' := h13) (fun k_ h1_ h2_ h3_ => by rw [eh13, va_up_ne _ _ (by omega)])
                refine lv_aload_n hx hb dX5_readArguments_67 rfl (lv_at hl 1 rfl) ?_
                refine r_get (C := RX5) (T := TX5) (N := 5) (ci := 4) hx hb hts inX5_readArguments_X5 hown w (by have := T.1; omega) T.2.1 rfl 0 (by decide) (hts (Cond.fieldLink RX5 12 "EarlyValues$Text" "told" "LEarlyValues$Program;") (List.mem_of_getElem? (i := 1) (by decide +kernel))) rfl rfl dX5_readArguments_68 ?_
                refine lv_iload_n hx hb dX5_readArguments_71 rfl (lv_at hl 2 rfl) ?_
                refine lv_iconst (v := 1) hx hb dX5_readArguments_72 (by decide) ?_
                refine lv_iadd hx hb dX5_readArguments_73 ?_
                refine lv_topi (fun y15 ey15 => ?_)
                have ty15 : y15.toInt = (((f9 + 1) : Nat) : Int) := i_addN ey15 hx1 (by decide : (1 : Int32).toInt = ((1 : Nat) : Int)) (by omega)
                refine r_put (ty := .int) (C := RX3) (T := TX3) (N := 5) (ci := 2) hx hb hts inX5_readArguments_X3 tyX3 tyX3_ok nmX3 hown w (by have := P.1; omega) P.c0 rfl 0 (by decide) (hts (Cond.fieldLink RX5 32 "EarlyValues$Program" "functions" "I") (List.mem_of_getElem? (i := 2) (by decide +kernel))) rfl rfl (by decide +kernel) rfl rfl (Nat.le_of_ble_eq_true rfl) dX5_readArguments_74 (fun h16 H locs eh16 w => ?_)
                have P := P.s0 eh16
                have hfr : ∀ k_, ¬ (t ≤ k_ ∧ k_ < t + 11) → h16 k_ = h k_ := fun k_ hk_ => by rw [eh16, va_up_ne _ _ (by omega)]; exact hfr k_ hk_
                have T := T.fr (h' := h16) (fun k_ h1_ h2_ h3_ => by rw [eh16, va_up_ne _ _ (by omega)])
                obtain ⟨y17, ey17⟩ : ∃ y : Int32, y = x1 + (1) := ⟨_, rfl⟩
                have ty17 : y17.toInt = (((f9 + 1) : Nat) : Int) := i_addN ey17 hx1 (by decide : (1 : Int32).toInt = ((1 : Nat) : Int)) (by omega)
                refine lv_iinc (v := y17) (lv' := [(1, .int y17), (2, .int r7), (0, .ref (g.2.2.1 t))]) hx hb dX5_readArguments_77 hl (k := 2) rfl (by rw [ey17]; rfl) (by decide) rfl (fun ls hl => ?_)
                refine lv_goto (tgt := 14) hx hb dX5_readArguments_80 (by decide) ?_
                exact ih14 (f9 + 1) y17 atk8 y15 gz14 h16 _ _ _ w (lv_sub hl [2, 0] rfl) (by omega) ty17 ((hak8 (by omega)).trans (by omega)) ty15 (fun j_ hj_ => by rcases Nat.lt_succ_iff_lt_or_eq.mp hj_ with z_ | z_; exact hdg j_ z_; rw [z_]; exact ⟨by omega, by omega⟩) (nm_up hga ty12 egz14) (by omega) hN0 T P hfr (by omega)
              · have c11 : ¬ ((((sgn tx n ((i + f9))) : Nat) : Int) ≤ ((51 : Nat) : Int)) := fun q => c11 ((i_le hrk8 (by decide : (51 : Int32).toInt = ((51 : Nat) : Int))).mpr q)
                refine lv_iconst (v := 0) hx hb dX5_readArguments_52 (by decide) ?_
                refine r_zret (v := 0) hx hb hr rfl hlocks w dX5_readArguments_53 ?_
                refine ⟨hfr, _, _, _, T, P, Or.inr ⟨hN0, Or.inr ⟨rfl, ?_⟩⟩⟩
                rintro ⟨cw, a1_, a2_, a3_⟩
                have e_ := a1_.inj ⟨by omega, hdg, by first | exact Or.inl (by omega) | exact Or.inr (fun q_ => by unfold dgt at q_; omega)⟩
                subst e_
                omega
          · have c9 : (((sgn tx n ((i + f9))) : Nat) : Int) = ((59 : Nat) : Int) := (i_eq hrk8 (by decide : (59 : Int32).toInt = ((59 : Nat) : Int))).mp c9
            refine lv_iload_n hx hb dX5_readArguments_30 rfl (lv_at hl 2 rfl) ?_
            refine lv_if_le (tgt := 38) hx hb dX5_readArguments_31 (by decide) (fun c18 => ?_) (fun c18 => ?_)
            · have c18 : ((f9 : Nat) : Int) ≤ (0 : Int) := (i_le hx1 (rfl : (0 : Int32).toInt = 0)).mp c18
              refine lv_iconst (v := 0) hx hb dX5_readArguments_38 (by decide) ?_
              refine r_zret (v := 0) hx hb hr rfl hlocks w dX5_readArguments_39 ?_
              refine ⟨hfr, _, _, _, T, P, Or.inr ⟨hN0, Or.inr ⟨rfl, ?_⟩⟩⟩
              rintro ⟨cw, a1_, a2_, a3_⟩
              have e_ := a1_.inj ⟨by omega, hdg, by first | exact Or.inl (by omega) | exact Or.inr (fun q_ => by unfold dgt at q_; omega)⟩
              subst e_
              omega
            · have c18 : ¬ (((f9 : Nat) : Int) ≤ (0 : Int)) := fun q => c18 ((i_le hx1 (rfl : (0 : Int32).toInt = 0)).mpr q)
              refine lv_iconst (v := 1) hx hb dX5_readArguments_34 (by decide) ?_
              refine lv_goto (tgt := 39) hx hb dX5_readArguments_35 (by decide) ?_
              refine r_zret (v := 1) hx hb hr rfl hlocks w dX5_readArguments_39 ?_
              exact ⟨hfr, _, _, _, T, P, Or.inr ⟨hN0, Or.inl ⟨rfl, f9, ⟨by omega, hdg, by first | exact Or.inl (by omega) | exact Or.inr (fun q_ => by unfold dgt at q_; omega)⟩, by omega, by omega, (hak8 (by omega)), hn1, hga⟩⟩⟩
  have ih14 := cuts (10)
  refine lv_aload_n hx hb dX5_readArguments_0 rfl (lv_at hl 0 rfl) ?_
  refine r_get (C := RX5) (T := TX5) (N := 5) (ci := 4) hx hb hts inX5_readArguments_X5 hown w (by have := T.1; omega) T.2.1 rfl 0 (by decide) (hts (Cond.fieldLink RX5 12 "EarlyValues$Text" "told" "LEarlyValues$Program;") (List.mem_of_getElem? (i := 1) (by decide +kernel))) rfl rfl dX5_readArguments_1 ?_
  refine r_get (C := RX3) (T := TX3) (N := 5) (ci := 2) hx hb hts inX5_readArguments_X3 hown w (by have := P.1; omega) P.c0 rfl 0 (by decide) (hts (Cond.fieldLink RX5 32 "EarlyValues$Program" "functions" "I") (List.mem_of_getElem? (i := 2) (by decide +kernel))) rfl rfl dX5_readArguments_4 ?_
  refine lv_if_le (tgt := 12) hx hb dX5_readArguments_7 (by decide) (fun c19 => ?_) (fun c19 => ?_)
  · have c19 : ((Nq : Nat) : Int) ≤ (0 : Int) := (i_le hN (rfl : (0 : Int32).toInt = 0)).mp c19
    have hN0 : Nq = 0 := by omega
    refine lv_iconst (v := 0) hx hb dX5_readArguments_12 (by decide) ?_
    refine lv_istore_n (lv' := [(1, .int 0), (0, .ref (g.2.2.1 t))]) hx hb dX5_readArguments_13 rfl hl (by decide) rfl (fun ls hl => ?_)
    exact ih14 0 0 at_ nn ga h _ _ _ w (lv_sub hl [1, 0] rfl) (Nat.zero_le _) ((by decide : (0 : Int32).toInt = ((0 : Nat) : Int))) hat (hN.trans (by omega)) (fun j_ hj_ => absurd hj_ (Nat.not_lt_zero _)) (fun j_ hj_ => absurd hj_ (Nat.not_lt_zero _)) (by omega) hN0 T P hfr (by omega)
  · have c19 : ¬ (((Nq : Nat) : Int) ≤ (0 : Int)) := fun q => c19 ((i_le hN (rfl : (0 : Int32).toInt = 0)).mpr q)
    refine lv_iconst (v := 0) hx hb dX5_readArguments_10 (by decide) ?_
    refine r_zret (v := 0) hx hb hr rfl hlocks w dX5_readArguments_11 ?_
    exact ⟨hfr, _, _, _, T, P, Or.inl ⟨by omega, rfl⟩⟩

theorem inX5_readBody_X3 : ∀ w ∈ wsX30, w ∈ wsX5_readBody := by decide +kernel
theorem inX5_readBody_X5 : ∀ w ∈ wsX50, w ∈ wsX5_readBody := by decide +kernel
abbrev rm_X5_readBody : Room := { frames := 5, cells := 0, slots := 0, locals := 111 }
set_option maxHeartbeats 4000000 in
set_option maxRecDepth 100000 in
theorem c_X5_readBody (l : Launch) {g : GE} {h : Nat → va_E} {t : Nat} {ln at_ bd : Int32} {gs : Nat → Int32} (T : TxA g h t ln at_ bd gs) {nn : Int32} {ga gk gl : Nat → Int32} {gb : Nat → Nat → Int32} (P : PrA g h (t + 1) nn ga gk gl gb) {n : Nat} {tx : Nat → Nat} (hsz : ln.toInt = (n : Int)) (hn200 : n ≤ 200) (hgx : ∀ i, i < n → (gs i).toInt = ((tx i : Nat) : Int)) (hlt : ∀ i, i < n → 32 ≤ tx i ∧ tx i ≤ 126) {pn : Nat} {pa : Nat → Nat} (hn : nn.toInt = (pn : Int)) (hn4 : pn ≤ 4) (ha : ∀ i, i < pn → (ga i).toInt = (pa i : Int) ∧ pa i ≤ 3) {i mb : Nat} (hat : at_.toInt = (i : Int)) (hbd : bd.toInt = (mb : Int)) (hmb : mb < pn) (hi : i ≤ n) : MI l yX5_readBody wsX5_readBody rm_X5_readBody [.ref (g.2.2.1 t)] g h (fun r_ h2 => (∀ k, ¬ (t ≤ k ∧ k < t + 11) → h2 k = h k) ∧ ∃ (at2 : Int32) (gl2 : Nat → Int32) (gb2 : Nat → Nat → Int32), TxA g h2 t ln at2 bd gs ∧ PrA g h2 (t + 1) nn ga gk gl2 gb2 ∧ (∀ q, q ≠ mb → gl2 q = gl q) ∧ (∀ q, q ≠ mb → gb2 q = gb q) ∧ ((r_ = 1 ∧ ∃ p9, p9 ≤ 24 ∧ BodyR (sgn tx n) pn pa mb i p9 0 ∧ at2.toInt = ((i + p9 : Nat) : Int) ∧ (gl2 mb).toInt = ((p9 : Nat) : Int) ∧ ∀ j, j < p9 → (gb2 mb j).toInt = ((mNum ((sgn tx n (i + j) : Nat) : Int) : Nat) : Int)) ∨ (r_ = 0 ∧ ¬ ∃ p9, p9 ≤ 24 ∧ BodyR (sgn tx n) pn pa mb i p9 0))) := by
  refine Met.ofW (cc := cX5_readBody) (maxL := 4) (ret := (some .boolean)) (by decide) rfl ?_
  intro p e s m args below meth c s₁ B hml hv
  obtain ⟨rfl, w0⟩ := hv
  have hx := B.exec
  have hb := B.bytes
  have hr := B.returns
  have hts := atoms_spec (ws := wsX5_readBody) B.pre
  have hown : s.vm.findClass RX5 = some m.cls := findClass_of_methodNamed B.named
  have hlocks := B.notSynchronized
  have w := w0.start
  clear w0
  have hl := lv_entry ([.ref (g.2.2.1 t)]) (n := 4) (Nat.le_of_ble_eq_true rfl)
  rw [lg_entry_eq]
  generalize (lg_sl ([.ref (g.2.2.1 t)]) ++ List.replicate (4 - (lg_sl ([.ref (g.2.2.1 t)])).length) Slot.unset).toArray = ls at hl ⊢
  have hl : lv_has ls 4 [(0, .ref (g.2.2.1 t))] := hl
  have hfr : ∀ k_, ¬ (t ≤ k_ ∧ k_ < t + 11) → h k_ = h k_ := fun _ _ => rfl
  have cuts : ∀ N : Nat, (∀ (p9 : Nat) (m9 : Nat) (x1 : Int32) (x2 : Int32) (at1 : Int32) (gb1 : Nat → Nat → Int32) (hc : Nat → va_E) (H : Heap) (locs : List Loc) (ls : Array Slot), WD g (inW g) s hc H locs → lv_has ls 4 [(0, .ref (g.2.2.1 t)), (1, .int x1), (2, .int x2)] → (p9 ≤ 24) → (BodyR (sgn tx n) pn pa mb i p9 m9) → (x1.toInt = ((m9 : Nat) : Int)) → (x2.toInt = ((p9 : Nat) : Int)) → (at1.toInt = ((i + p9 : Nat) : Int)) → (i + p9 ≤ n) → ((∀ j, j < p9 → (gb1 mb j).toInt = ((mNum ((sgn tx n (i + j) : Nat) : Int) : Nat) : Int)) ∧ ∀ q, q ≠ mb → gb1 q = gb q) → (TxA g hc t ln at1 bd gs) → (PrA g hc (t + 1) nn ga gk gl gb1) → (∀ k, ¬ (t ≤ k ∧ k < t + 11) → hc k = h k) → 25 - p9 < N → W p l e (headSpec wsX5_readBody rm_X5_readBody).room s m ([.ref (g.2.2.1 t)] : List Value).toArray below meth c H locs 0 0 (MQ below (va_Qi (fun r_ h2 => (∀ k, ¬ (t ≤ k ∧ k < t + 11) → h2 k = h k) ∧ ∃ (at2 : Int32) (gl2 : Nat → Int32) (gb2 : Nat → Nat → Int32), TxA g h2 t ln at2 bd gs ∧ PrA g h2 (t + 1) nn ga gk gl2 gb2 ∧ (∀ q, q ≠ mb → gl2 q = gl q) ∧ (∀ q, q ≠ mb → gb2 q = gb q) ∧ ((r_ = 1 ∧ ∃ p9, p9 ≤ 24 ∧ BodyR (sgn tx n) pn pa mb i p9 0 ∧ at2.toInt = ((i + p9 : Nat) : Int) ∧ (gl2 mb).toInt = ((p9 : Nat) : Int) ∧ ∀ j, j < p9 → (gb2 mb j).toInt = ((mNum ((sgn tx n (i + j) : Nat) : Int) : Nat) : Int)) ∨ (r_ = 0 ∧ ¬ ∃ p9, p9 ≤ 24 ∧ BodyR (sgn tx n) pn pa mb i p9 0))) (Wd g) (inW g)) ([.ref (g.2.2.1 t)] : List Value).toArray s 0 0 (inW g)) (F0 m 4 ls [])) := by
    intro N
    induction N with
    | zero => exact by intros; omega
    | succ N ih =>
      have ih4 := ih
      · intro p9 m9 x1 x2 at1 gb1 hc H locs ls w hl hp24 hbr hx1 hx2 hat1 hin hgb T P hfr hN_
        refine lv_iload_n hx hb dX5_readBody_4 rfl (lv_at hl 1 rfl) ?_
        refine lv_if_le (tgt := 73) hx hb dX5_readBody_5 (by decide) (fun c1 => ?_) (fun c1 => ?_)
        · have c1 : ((m9 : Nat) : Int) ≤ (0 : Int) := (i_le hx1 (rfl : (0 : Int32).toInt = 0)).mp c1
          refine lv_aload_n hx hb dX5_readBody_73 rfl (lv_at hl 0 rfl) ?_
          refine r_get (C := RX5) (T := TX5) (N := 5) (ci := 4) hx hb hts inX5_readBody_X5 hown w (by have := T.1; omega) T.2.1 rfl 0 (by decide) (hts (Cond.fieldLink RX5 12 "EarlyValues$Text" "told" "LEarlyValues$Program;") (List.mem_of_getElem? (i := 1) (by decide +kernel))) rfl rfl dX5_readBody_74 ?_
          refine r_get (C := RX3) (T := TX3) (N := 5) (ci := 2) hx hb hts inX5_readBody_X3 hown w (by have := P.1; omega) P.c0 rfl 3 (by decide) (hts (Cond.fieldLink RX5 79 "EarlyValues$Program" "lengths" "[I") (List.mem_of_getElem? (i := 4) (by decide +kernel))) rfl rfl dX5_readBody_77 ?_
          refine lv_aload_n hx hb dX5_readBody_80 rfl (lv_at hl 0 rfl) ?_
          refine r_get (C := RX5) (T := TX5) (N := 5) (ci := 4) hx hb hts inX5_readBody_X5 hown w (by have := T.1; omega) T.2.1 rfl 4 (by decide) (hts (Cond.fieldLink RX5 29 "EarlyValues$Text" "bodies" "I") (List.mem_of_getElem? (i := 2) (by decide +kernel))) rfl rfl dX5_readBody_81 ?_
          refine lv_iload_n hx hb dX5_readBody_84 rfl (lv_at hl 2 rfl) ?_
          refine r_iast (j := mb) hx hb w (by have := P.1; omega) P.c3 hbd (by omega) dX5_readBody_85 (fun h2 H locs eh2 w => ?_)
          have P := P.s3 eh2
          generalize egz3 : upd gl mb x2 = gz3 at P
          have hfr : ∀ k_, ¬ (t ≤ k_ ∧ k_ < t + 11) → h2 k_ = h k_ := fun k_ hk_ => by rw [eh2, va_up_ne _ _ (by omega)]; exact hfr k_ hk_
          have T := T.fr (h' := h2) (fun k_ h1_ h2_ h3_ => by rw [eh2, va_up_ne _ _ (by omega)])
          refine lv_iload_n hx hb dX5_readBody_86 rfl (lv_at hl 1 rfl) ?_
          refine lv_if_ne (tgt := 94) hx hb dX5_readBody_87 (by decide) (fun c4 => ?_) (fun c4 => ?_)
          · have c4 : ¬ (((m9 : Nat) : Int) = (0 : Int)) := fun q => c4 ((i_eq hx1 (rfl : (0 : Int32).toInt = 0)).mpr q)
            refine lv_iconst (v := 0) hx hb dX5_readBody_94 (by decide) ?_
            refine r_zret (v := 0) hx hb hr rfl hlocks w dX5_readBody_95 ?_
            refine ⟨hfr, _, _, _, T, P, fun q_ hq_ => by rw [← egz3, pk_un hq_], hgb.2, Or.inr ⟨rfl, ?_⟩⟩
            rintro ⟨q9_, h1_, h2_⟩
            exact hbr.stop (by omega) (Or.inl (by omega)) h1_ h2_
          · have c4 : ((m9 : Nat) : Int) = (0 : Int) := (i_eq hx1 (rfl : (0 : Int32).toInt = 0)).mp c4
            refine lv_iconst (v := 1) hx hb dX5_readBody_90 (by decide) ?_
            refine lv_goto (tgt := 95) hx hb dX5_readBody_91 (by decide) ?_
            refine r_zret (v := 1) hx hb hr rfl hlocks w dX5_readBody_95 ?_
            have hm0_ : m9 = 0 := by omega
            subst hm0_
            exact ⟨hfr, _, _, _, T, P, fun q_ hq_ => by rw [← egz3, pk_un hq_], hgb.2, Or.inl ⟨rfl, p9, by omega, hbr, hat1, by rw [← egz3, pk_us]; exact hx2, hgb.1⟩⟩
        · have c1 : ¬ (((m9 : Nat) : Int) ≤ (0 : Int)) := fun q => c1 ((i_le hx1 (rfl : (0 : Int32).toInt = 0)).mpr q)
          refine lv_iload_n hx hb dX5_readBody_8 rfl (lv_at hl 2 rfl) ?_
          refine lv_bipush (v := 24) hx hb dX5_readBody_9 (by decide) ?_
          refine lv_icmp_ge (tgt := 73) hx hb dX5_readBody_11 (by decide) (fun c5 => ?_) (fun c5 => ?_)
          · have c5 : ((24 : Nat) : Int) ≤ ((p9 : Nat) : Int) := (i_le (by decide : (24 : Int32).toInt = ((24 : Nat) : Int)) hx2).mp c5
            refine lv_aload_n hx hb dX5_readBody_73 rfl (lv_at hl 0 rfl) ?_
            refine r_get (C := RX5) (T := TX5) (N := 5) (ci := 4) hx hb hts inX5_readBody_X5 hown w (by have := T.1; omega) T.2.1 rfl 0 (by decide) (hts (Cond.fieldLink RX5 12 "EarlyValues$Text" "told" "LEarlyValues$Program;") (List.mem_of_getElem? (i := 1) (by decide +kernel))) rfl rfl dX5_readBody_74 ?_
            refine r_get (C := RX3) (T := TX3) (N := 5) (ci := 2) hx hb hts inX5_readBody_X3 hown w (by have := P.1; omega) P.c0 rfl 3 (by decide) (hts (Cond.fieldLink RX5 79 "EarlyValues$Program" "lengths" "[I") (List.mem_of_getElem? (i := 4) (by decide +kernel))) rfl rfl dX5_readBody_77 ?_
            refine lv_aload_n hx hb dX5_readBody_80 rfl (lv_at hl 0 rfl) ?_
            refine r_get (C := RX5) (T := TX5) (N := 5) (ci := 4) hx hb hts inX5_readBody_X5 hown w (by have := T.1; omega) T.2.1 rfl 4 (by decide) (hts (Cond.fieldLink RX5 29 "EarlyValues$Text" "bodies" "I") (List.mem_of_getElem? (i := 2) (by decide +kernel))) rfl rfl dX5_readBody_81 ?_
            refine lv_iload_n hx hb dX5_readBody_84 rfl (lv_at hl 2 rfl) ?_
            refine r_iast (j := mb) hx hb w (by have := P.1; omega) P.c3 hbd (by omega) dX5_readBody_85 (fun h6 H locs eh6 w => ?_)
            have P := P.s3 eh6
            generalize egz7 : upd gl mb x2 = gz7 at P
            have hfr : ∀ k_, ¬ (t ≤ k_ ∧ k_ < t + 11) → h6 k_ = h k_ := fun k_ hk_ => by rw [eh6, va_up_ne _ _ (by omega)]; exact hfr k_ hk_
            have T := T.fr (h' := h6) (fun k_ h1_ h2_ h3_ => by rw [eh6, va_up_ne _ _ (by omega)])
            refine lv_iload_n hx hb dX5_readBody_86 rfl (lv_at hl 1 rfl) ?_
            refine lv_if_ne (tgt := 94) hx hb dX5_readBody_87 (by decide) (fun c8 => ?_) (fun c8 => ?_)
            · have c8 : ¬ (((m9 : Nat) : Int) = (0 : Int)) := fun q => c8 ((i_eq hx1 (rfl : (0 : Int32).toInt = 0)).mpr q)
              refine lv_iconst (v := 0) hx hb dX5_readBody_94 (by decide) ?_
              refine r_zret (v := 0) hx hb hr rfl hlocks w dX5_readBody_95 ?_
              refine ⟨hfr, _, _, _, T, P, fun q_ hq_ => by rw [← egz7, pk_un hq_], hgb.2, Or.inr ⟨rfl, ?_⟩⟩
              rintro ⟨q9_, h1_, h2_⟩
              exact hbr.stop (by omega) (Or.inl (by omega)) h1_ h2_
            · have c8 : ((m9 : Nat) : Int) = (0 : Int) := (i_eq hx1 (rfl : (0 : Int32).toInt = 0)).mp c8
              refine lv_iconst (v := 1) hx hb dX5_readBody_90 (by decide) ?_
              refine lv_goto (tgt := 95) hx hb dX5_readBody_91 (by decide) ?_
              refine r_zret (v := 1) hx hb hr rfl hlocks w dX5_readBody_95 ?_
              have hm0_ : m9 = 0 := by omega
              subst hm0_
              exact ⟨hfr, _, _, _, T, P, fun q_ hq_ => by rw [← egz7, pk_un hq_], hgb.2, Or.inl ⟨rfl, p9, by omega, hbr, hat1, by rw [← egz7, pk_us]; exact hx2, hgb.1⟩⟩
          · have c5 : ¬ (((24 : Nat) : Int) ≤ ((p9 : Nat) : Int)) := fun q => c5 ((i_le (by decide : (24 : Int32).toInt = ((24 : Nat) : Int)) hx2).mpr q)
            have hmb0_ := BodyR.ub (fun i_ hi_ => (ha i_ hi_).2) hbr
            refine lv_aload_n hx hb dX5_readBody_14 rfl (lv_at hl 0 rfl) ?_
            refine r_callI w (va_runV (As := []) (rest := []) ⟨hx, hb, hml, hown, hts⟩ (c_X5_next l T hsz hn200 hgx hlt hat1) (cwV 0 hts gX5_readBody_X5_next rfl rfl rfl (by decide +kernel) ⟨Nat.le_of_ble_eq_true rfl, Nat.le_of_ble_eq_true rfl⟩) (r_preV w (by have := T.1; omega) T.2.1 rfl) rfl rfl hl.1 rfl (lv_room (Nat.le_of_ble_eq_true rfl)) dX5_readBody_15 ⟨Nat.zero_le _, Nat.zero_le _⟩) (fun r10 h9 H locs hp w => ?_)
            obtain ⟨hfk11, atk11, T, hrk11, hak11, hzk11⟩ := hp
            have P := P.fr (h' := h9) (fun k_ h1_ h2_ => hfk11 k_ (by omega))
            have hfr : ∀ k_, ¬ (t ≤ k_ ∧ k_ < t + 11) → h9 k_ = h k_ := fun k_ hk_ => (hfk11 k_ (by omega)).trans (hfr k_ hk_)
            have slk11 := sgn_le (i := (i + p9)) hlt
            refine r_callI w (va_runS (As := [.int r10]) (rest := []) ⟨hx, hb, hml, hown, hts⟩ (c_X2_numberOf l r10) (va_cwS 1 hts gX5_readBody_X2_numberOf rfl rfl rfl (by decide +kernel) ⟨Nat.le_of_ble_eq_true rfl, Nat.le_of_ble_eq_true rfl⟩) (r_preS w) rfl rfl hl.1 rfl (lv_room (Nat.le_of_ble_eq_true rfl)) dX5_readBody_18 ⟨Nat.zero_le _, Nat.zero_le _⟩) (fun r13 h12 H locs hp w => ?_)
            obtain ⟨eh_, qq14⟩ := hp
            have eh_ := eh_.symm
            subst eh_
            rw [(hrk11 : r10.toInt = _)] at qq14
            refine lv_istore_n (lv' := [(3, .int r13), (0, .ref (g.2.2.1 t)), (1, .int x1), (2, .int x2)]) hx hb dX5_readBody_21 rfl hl (by decide) rfl (fun ls hl => ?_)
            refine lv_aload_n hx hb dX5_readBody_22 rfl (lv_at hl 1 rfl) ?_
            refine r_get (C := RX5) (T := TX5) (N := 5) (ci := 4) hx hb hts inX5_readBody_X5 hown w (by have := T.1; omega) T.2.1 rfl 0 (by decide) (hts (Cond.fieldLink RX5 12 "EarlyValues$Text" "told" "LEarlyValues$Program;") (List.mem_of_getElem? (i := 1) (by decide +kernel))) rfl rfl dX5_readBody_23 ?_
            refine lv_aload_n hx hb dX5_readBody_26 rfl (lv_at hl 1 rfl) ?_
            refine r_get (C := RX5) (T := TX5) (N := 5) (ci := 4) hx hb hts inX5_readBody_X5 hown w (by have := T.1; omega) T.2.1 rfl 4 (by decide) (hts (Cond.fieldLink RX5 29 "EarlyValues$Text" "bodies" "I") (List.mem_of_getElem? (i := 2) (by decide +kernel))) rfl rfl dX5_readBody_27 ?_
            refine lv_iload_n hx hb dX5_readBody_30 rfl (lv_at hl 0 rfl) ?_
            refine r_callI w (va_runV (As := [.int bd, .int r13]) (rest := []) ⟨hx, hb, hml, hown, hts⟩ (c_X3_mayStand l P hn hn4 ha bd r13 (by omega)) (cwV 2 hts gX5_readBody_X3_mayStand rfl rfl rfl (by decide +kernel) ⟨Nat.le_of_ble_eq_true rfl, Nat.le_of_ble_eq_true rfl⟩) (r_preV w (by have := P.1; omega) P.c0 rfl) rfl rfl hl.1 rfl (lv_room (Nat.le_of_ble_eq_true rfl)) dX5_readBody_31 ⟨Nat.zero_le _, Nat.zero_le _⟩) (fun r16 h15 H locs hp w => ?_)
            obtain ⟨eh_, qq17⟩ := hp
            have eh_ := eh_.symm
            subst eh_
            refine lv_if_ne (tgt := 39) hx hb dX5_readBody_34 (by decide) (fun c18 => ?_) (fun c18 => ?_)
            · have c18 := qq17.ne c18
              obtain ⟨k1_, k2_⟩ := qq14.resolve_right (fun q_ => by have := q_.2; omega)
              have hmm_ : mMay pn pa mb (mNum ((sgn tx n (i + p9) : Nat) : Int)) := by
                have q_ := c18.2.2.2
                rw [show bd.toInt.toNat = mb by omega, show r13.toInt.toNat = (mNum ((sgn tx n (i + p9) : Nat) : Int)) by omega] at q_
                exact q_
              have hmp_ := mParts_le (k := (mNum ((sgn tx n (i + p9) : Nat) : Int))) (fun i_ hi_ => (ha i_ hi_).2)
              have hsi_ := mNum_c ((sgn tx n (i + p9) : Nat) : Int)
              refine lv_aload_n hx hb dX5_readBody_39 rfl (lv_at hl 1 rfl) ?_
              refine r_get (C := RX5) (T := TX5) (N := 5) (ci := 4) hx hb hts inX5_readBody_X5 hown w (by have := T.1; omega) T.2.1 rfl 0 (by decide) (hts (Cond.fieldLink RX5 12 "EarlyValues$Text" "told" "LEarlyValues$Program;") (List.mem_of_getElem? (i := 1) (by decide +kernel))) rfl rfl dX5_readBody_40 ?_
              refine r_get (C := RX3) (T := TX3) (N := 5) (ci := 2) hx hb hts inX5_readBody_X3 hown w (by have := P.1; omega) P.c0 rfl 4 (by decide) (hts (Cond.fieldLink RX5 73 "EarlyValues$Program" "bodies" "[[I") (List.mem_of_getElem? (i := 3) (by decide +kernel))) rfl rfl dX5_readBody_43 ?_
              refine lv_aload_n hx hb dX5_readBody_46 rfl (lv_at hl 1 rfl) ?_
              refine r_get (C := RX5) (T := TX5) (N := 5) (ci := 4) hx hb hts inX5_readBody_X5 hown w (by have := T.1; omega) T.2.1 rfl 4 (by decide) (hts (Cond.fieldLink RX5 29 "EarlyValues$Text" "bodies" "I") (List.mem_of_getElem? (i := 2) (by decide +kernel))) rfl rfl dX5_readBody_47 ?_
              refine r_aald (t := 4) (j := mb) hx hb w (by decide) (by have := P.1; omega) P.c4 hbd (by omega) (rowsF_in (by omega)) dX5_readBody_50 ?_
              refine lv_iload_n hx hb dX5_readBody_51 rfl (lv_at hl 3 rfl) ?_
              refine lv_iload_n hx hb dX5_readBody_52 rfl (lv_at hl 0 rfl) ?_
              refine r_iast (j := p9) hx hb w (by have := P.1; omega) (P.c5 (i := mb) (by omega)) hx2 (by omega) dX5_readBody_53 (fun h19 H locs eh19 w => ?_)
              have P := P.s5 (i := mb) (by omega) eh19
              generalize egb20 : va_up gb1 mb (upd (gb1 mb) p9 r13) = gb20 at P
              have hfr : ∀ k_, ¬ (t ≤ k_ ∧ k_ < t + 11) → h19 k_ = h k_ := fun k_ hk_ => by rw [eh19, va_up_ne _ _ (by omega)]; exact hfr k_ hk_
              have T := T.fr (h' := h19) (fun k_ h1_ h2_ h3_ => by rw [eh19, va_up_ne _ _ (by omega)])
              refine lv_iload_n hx hb dX5_readBody_54 rfl (lv_at hl 2 rfl) ?_
              refine lv_aload_n hx hb dX5_readBody_55 rfl (lv_at hl 1 rfl) ?_
              refine r_get (C := RX5) (T := TX5) (N := 5) (ci := 4) hx hb hts inX5_readBody_X5 hown w (by have := T.1; omega) T.2.1 rfl 0 (by decide) (hts (Cond.fieldLink RX5 12 "EarlyValues$Text" "told" "LEarlyValues$Program;") (List.mem_of_getElem? (i := 1) (by decide +kernel))) rfl rfl dX5_readBody_56 ?_
              refine lv_iload_n hx hb dX5_readBody_59 rfl (lv_at hl 0 rfl) ?_
              refine r_callI w (va_runV (As := [.int r13]) (rest := [.int x1]) ⟨hx, hb, hml, hown, hts⟩ (c_X3_partsOf l P hn hn4 ha r13 k2_ (by omega)) (cwV 1 hts gX5_readBody_X3_partsOf rfl rfl rfl (by decide +kernel) ⟨Nat.le_of_ble_eq_true rfl, Nat.le_of_ble_eq_true rfl⟩) (r_preV w (by have := P.1; omega) P.c0 rfl) rfl rfl hl.1 rfl (lv_room (Nat.le_of_ble_eq_true rfl)) dX5_readBody_60 ⟨Nat.zero_le _, Nat.zero_le _⟩) (fun r22 h21 H locs hp w => ?_)
              obtain ⟨eh_, qq23⟩ := hp
              have eh_ := eh_.symm
              subst eh_
              refine lv_iconst (v := 1) hx hb dX5_readBody_63 (by decide) ?_
              refine lv_isub hx hb dX5_readBody_64 ?_
              refine lv_topi (fun y24 ey24 => ?_)
              have ty24 : y24.toInt = (((mParts pn pa (mNum ((sgn tx n (i + p9) : Nat) : Int))) : Nat) : Int) - ((1 : Nat) : Int) := i_sub ey24 qq23 (by decide : (1 : Int32).toInt = ((1 : Nat) : Int)) (by omega)
              refine lv_iadd hx hb dX5_readBody_65 ?_
              refine lv_topi (fun y25 ey25 => ?_)
              have ty25 : y25.toInt = ((m9 : Nat) : Int) + ((((mParts pn pa (mNum ((sgn tx n (i + p9) : Nat) : Int))) : Nat) : Int) - ((1 : Nat) : Int)) := i_add ey25 hx1 ty24 (by omega)
              refine lv_istore_n (lv' := [(1, .int y25), (3, .int r13), (0, .ref (g.2.2.1 t)), (2, .int x2)]) hx hb dX5_readBody_66 rfl hl (by decide) rfl (fun ls hl => ?_)
              obtain ⟨y26, ey26⟩ : ∃ y : Int32, y = x2 + (1) := ⟨_, rfl⟩
              have ty26 : y26.toInt = (((p9 + 1) : Nat) : Int) := i_addN ey26 hx2 (by decide : (1 : Int32).toInt = ((1 : Nat) : Int)) (by omega)
              refine lv_iinc (v := y26) (lv' := [(2, .int y26), (1, .int y25), (3, .int r13), (0, .ref (g.2.2.1 t))]) hx hb dX5_readBody_67 hl (k := 3) rfl (by rw [ey26]; rfl) (by decide) rfl (fun ls hl => ?_)
              refine lv_goto (tgt := 4) hx hb dX5_readBody_70 (by decide) ?_
              exact ih4 (p9 + 1) ((m9 + mParts pn pa (mNum ((sgn tx n (i + p9) : Nat) : Int)) - 1)) y25 y26 atk11 gb20 h19 _ _ _ w (lv_sub hl [3, 1, 0] rfl) (by omega) (⟨m9, hbr, by omega, k1_, hmm_, rfl⟩) (ty25.trans (by omega)) ty26 ((hak11 (by omega)).trans (by omega)) (by omega) (cb_up hgb k2_ egb20) T P hfr (by omega)
            · have c18 := qq17.eq c18
              refine lv_iconst (v := 0) hx hb dX5_readBody_37 (by decide) ?_
              refine r_zret (v := 0) hx hb hr rfl hlocks w dX5_readBody_38 ?_
              refine ⟨hfr, _, _, _, T, P, fun _ _ => rfl, hgb.2, Or.inr ⟨rfl, ?_⟩⟩
              rintro ⟨q9_, h1_, h2_⟩
              refine hbr.stop (by omega) (Or.inr (fun q_ => c18 ?_)) h1_ h2_
              have k2_ := (qq14.resolve_right (fun z_ => by have := z_.1; have := q_.1; omega)).2
              refine ⟨by omega, by omega, by omega, ?_⟩
              rw [show bd.toInt.toNat = mb by omega, show r13.toInt.toNat = (mNum ((sgn tx n (i + p9) : Nat) : Int)) by omega]
              exact q_.2
  have ih4 := cuts (30)
  refine lv_iconst (v := 1) hx hb dX5_readBody_0 (by decide) ?_
  refine lv_istore_n (lv' := [(1, .int 1), (0, .ref (g.2.2.1 t))]) hx hb dX5_readBody_1 rfl hl (by decide) rfl (fun ls hl => ?_)
  refine lv_iconst (v := 0) hx hb dX5_readBody_2 (by decide) ?_
  refine lv_istore_n (lv' := [(2, .int 0), (1, .int 1), (0, .ref (g.2.2.1 t))]) hx hb dX5_readBody_3 rfl hl (by decide) rfl (fun ls hl => ?_)
  exact ih4 0 1 1 0 at_ gb h _ _ _ w (lv_sub hl [2, 1, 0] rfl) (Nat.zero_le _) rfl ((by decide : (1 : Int32).toInt = ((1 : Nat) : Int))) ((by decide : (0 : Int32).toInt = ((0 : Nat) : Int))) hat hi (⟨fun j_ hj_ => absurd hj_ (Nat.not_lt_zero _), fun _ _ => rfl⟩) T P hfr (by omega)

theorem inX5_readFunction_X3 : ∀ w ∈ wsX30, w ∈ wsX5_readFunction := by decide +kernel
theorem inX5_readFunction_X5 : ∀ w ∈ wsX50, w ∈ wsX5_readFunction := by decide +kernel
abbrev rm_X5_readFunction : Room := { frames := 6, cells := 0, slots := 0, locals := 134 }
set_option maxHeartbeats 4000000 in
set_option maxRecDepth 100000 in
theorem c_X5_readFunction (l : Launch) {g : GE} {h : Nat → va_E} {t : Nat} {ln at_ bd : Int32} {gs : Nat → Int32} (T : TxA g h t ln at_ bd gs) {nn : Int32} {ga gk gl : Nat → Int32} {gb : Nat → Nat → Int32} (P : PrA g h (t + 1) nn ga gk gl gb) {n : Nat} {tx : Nat → Nat} (hsz : ln.toInt = (n : Int)) (hn200 : n ≤ 200) (hgx : ∀ i, i < n → (gs i).toInt = ((tx i : Nat) : Int)) (hlt : ∀ i, i < n → 32 ≤ tx i ∧ tx i ≤ 126) {M : PRG} {mb i : Nat} (R : CSp M mb nn ga gk gl gb) (hat : at_.toInt = (i : Int)) (hbd : bd.toInt = (mb : Int)) (hi : i ≤ n) : MI l yX5_readFunction wsX5_readFunction rm_X5_readFunction [.ref (g.2.2.1 t)] g h (fun r_ h2 => (∀ k, ¬ (t ≤ k ∧ k < t + 11) → h2 k = h k) ∧ ∃ (at2 bd2 : Int32) (gk2 gl2 : Nat → Int32) (gb2 : Nat → Nat → Int32), TxA g h2 t ln at2 bd2 gs ∧ PrA g h2 (t + 1) nn ga gk2 gl2 gb2 ∧ ((r_ = 1 ∧ ∃ p9, FnOk (sgn tx n) i M mb p9 ∧ at2.toInt = ((i + 1 + 1 + p9 + 1 : Nat) : Int) ∧ bd2.toInt = ((mb + 1 : Nat) : Int) ∧ CSp (mFn (sgn tx n) M mb i p9) (mb + 1) nn ga gk2 gl2 gb2) ∨ (r_ = 0 ∧ ¬ ∃ p9, FnOk (sgn tx n) i M mb p9))) := by
  refine Met.ofW (cc := cX5_readFunction) (maxL := 2) (ret := (some .boolean)) (by decide) rfl ?_
  intro p e s m args below meth c s₁ B hml hv
  obtain ⟨rfl, w0⟩ := hv
  have hx := B.exec
  have hb := B.bytes
  have hr := B.returns
  have hts := atoms_spec (ws := wsX5_readFunction) B.pre
  have hown : s.vm.findClass RX5 = some m.cls := findClass_of_methodNamed B.named
  have hlocks := B.notSynchronized
  have w := w0.start
  clear w0
  have hl := lv_entry ([.ref (g.2.2.1 t)]) (n := 2) (Nat.le_of_ble_eq_true rfl)
  rw [lg_entry_eq]
  generalize (lg_sl ([.ref (g.2.2.1 t)]) ++ List.replicate (2 - (lg_sl ([.ref (g.2.2.1 t)])).length) Slot.unset).toArray = ls at hl ⊢
  have hl : lv_has ls 2 [(0, .ref (g.2.2.1 t))] := hl
  have hfr : ∀ k_, ¬ (t ≤ k_ ∧ k_ < t + 11) → h k_ = h k_ := fun _ _ => rfl
  have hR2_ := R.2.1
  have hR3_ := R.2.2.1
  refine lv_aload_n hx hb dX5_readFunction_0 rfl (lv_at hl 0 rfl) ?_
  refine r_get (C := RX5) (T := TX5) (N := 5) (ci := 4) hx hb hts inX5_readFunction_X5 hown w (by have := T.1; omega) T.2.1 rfl 0 (by decide) (hts (Cond.fieldLink RX5 12 "EarlyValues$Text" "told" "LEarlyValues$Program;") (List.mem_of_getElem? (i := 1) (by decide +kernel))) rfl rfl dX5_readFunction_1 ?_
  refine lv_aload_n hx hb dX5_readFunction_4 rfl (lv_at hl 0 rfl) ?_
  refine r_get (C := RX5) (T := TX5) (N := 5) (ci := 4) hx hb hts inX5_readFunction_X5 hown w (by have := T.1; omega) T.2.1 rfl 4 (by decide) (hts (Cond.fieldLink RX5 29 "EarlyValues$Text" "bodies" "I") (List.mem_of_getElem? (i := 2) (by decide +kernel))) rfl rfl dX5_readFunction_5 ?_
  refine r_callI w (va_runV (As := [.int bd]) (rest := []) ⟨hx, hb, hml, hown, hts⟩ (c_X3_has l P bd) (cwV 1 hts gX5_readFunction_X3_has rfl rfl rfl (by decide +kernel) ⟨Nat.le_of_ble_eq_true rfl, Nat.le_of_ble_eq_true rfl⟩) (r_preV w (by have := P.1; omega) P.c0 rfl) rfl rfl hl.1 rfl (lv_room (Nat.le_of_ble_eq_true rfl)) dX5_readFunction_8 ⟨Nat.zero_le _, Nat.zero_le _⟩) (fun r2 h1 H locs hp w => ?_)
  obtain ⟨eh_, qq3⟩ := hp
  have eh_ := eh_.symm
  subst eh_
  have b4 : Bq r2 (0 ≤ ((mb : Nat) : Int) ∧ ((mb : Nat) : Int) < (((pN M) : Nat) : Int)) := qq3.iff (by rw [(hbd : bd.toInt = _), (R.1 : nn.toInt = _)])
  refine lv_if_ne (tgt := 16) hx hb dX5_readFunction_11 (by decide) (fun c5 => ?_) (fun c5 => ?_)
  · have c5 := b4.ne c5
    refine lv_aload_n hx hb dX5_readFunction_16 rfl (lv_at hl 0 rfl) ?_
    refine r_callI w (va_runV (As := []) (rest := []) ⟨hx, hb, hml, hown, hts⟩ (c_X5_next l T hsz hn200 hgx hlt hat) (cwV 0 hts gX5_readFunction_X5_next rfl rfl rfl (by decide +kernel) ⟨Nat.le_of_ble_eq_true rfl, Nat.le_of_ble_eq_true rfl⟩) (r_preV w (by have := T.1; omega) T.2.1 rfl) rfl rfl hl.1 rfl (lv_room (Nat.le_of_ble_eq_true rfl)) dX5_readFunction_17 ⟨Nat.zero_le _, Nat.zero_le _⟩) (fun r7 h6 H locs hp w => ?_)
    obtain ⟨hfk8, atk8, T, hrk8, hak8, hzk8⟩ := hp
    have P := P.fr (h' := h6) (fun k_ h1_ h2_ => hfk8 k_ (by omega))
    have hfr : ∀ k_, ¬ (t ≤ k_ ∧ k_ < t + 11) → h6 k_ = h k_ := fun k_ hk_ => (hfk8 k_ (by omega))
    have slk8 := sgn_le (i := i) hlt
    refine lv_bipush (v := 48) hx hb dX5_readFunction_20 (by decide) ?_
    refine lv_isub hx hb dX5_readFunction_22 ?_
    refine lv_topi (fun y9 ey9 => ?_)
    have ty9 : y9.toInt = (((sgn tx n i) : Nat) : Int) - ((48 : Nat) : Int) := i_sub ey9 hrk8 (by decide : (48 : Int32).toInt = ((48 : Nat) : Int)) (by omega)
    refine lv_istore_n (lv' := [(1, .int y9), (0, .ref (g.2.2.1 t))]) hx hb dX5_readFunction_23 rfl hl (by decide) rfl (fun ls hl => ?_)
    refine lv_iload_n hx hb dX5_readFunction_24 rfl (lv_at hl 0 rfl) ?_
    refine lv_if_lt (tgt := 33) hx hb dX5_readFunction_25 (by decide) (fun c10 => ?_) (fun c10 => ?_)
    · have c10 : ((((sgn tx n i) : Nat) : Int) - ((48 : Nat) : Int)) < (0 : Int) := (i_lt ty9 (rfl : (0 : Int32).toInt = 0)).mp c10
      refine lv_iconst (v := 0) hx hb dX5_readFunction_33 (by decide) ?_
      refine r_zret (v := 0) hx hb hr rfl hlocks w dX5_readFunction_34 ?_
      refine ⟨hfr, _, _, _, _, _, T, P, Or.inr ⟨rfl, ?_⟩⟩
      rintro ⟨p9, f1_, f2_, f3_, f4_, f5_, f6_⟩
      unfold dgt at f2_
      omega
    · have c10 : ¬ (((((sgn tx n i) : Nat) : Int) - ((48 : Nat) : Int)) < (0 : Int)) := fun q => c10 ((i_lt ty9 (rfl : (0 : Int32).toInt = 0)).mpr q)
      refine lv_iload_n hx hb dX5_readFunction_28 rfl (lv_at hl 0 rfl) ?_
      refine lv_iconst (v := 3) hx hb dX5_readFunction_29 (by decide) ?_
      refine lv_icmp_le (tgt := 35) hx hb dX5_readFunction_30 (by decide) (fun c11 => ?_) (fun c11 => ?_)
      · have c11 : ((((sgn tx n i) : Nat) : Int) - ((48 : Nat) : Int)) ≤ ((3 : Nat) : Int) := (i_le ty9 (by decide : (3 : Int32).toInt = ((3 : Nat) : Int))).mp c11
        refine lv_aload_n hx hb dX5_readFunction_35 rfl (lv_at hl 1 rfl) ?_
        refine r_get (C := RX5) (T := TX5) (N := 5) (ci := 4) hx hb hts inX5_readFunction_X5 hown w (by have := T.1; omega) T.2.1 rfl 0 (by decide) (hts (Cond.fieldLink RX5 12 "EarlyValues$Text" "told" "LEarlyValues$Program;") (List.mem_of_getElem? (i := 1) (by decide +kernel))) rfl rfl dX5_readFunction_36 ?_
        refine r_get (C := RX3) (T := TX3) (N := 5) (ci := 2) hx hb hts inX5_readFunction_X3 hown w (by have := P.1; omega) P.c0 rfl 2 (by decide) (hts (Cond.fieldLink RX5 57 "EarlyValues$Program" "kinds" "[I") (List.mem_of_getElem? (i := 3) (by decide +kernel))) rfl rfl dX5_readFunction_39 ?_
        refine lv_aload_n hx hb dX5_readFunction_42 rfl (lv_at hl 1 rfl) ?_
        refine r_get (C := RX5) (T := TX5) (N := 5) (ci := 4) hx hb hts inX5_readFunction_X5 hown w (by have := T.1; omega) T.2.1 rfl 4 (by decide) (hts (Cond.fieldLink RX5 29 "EarlyValues$Text" "bodies" "I") (List.mem_of_getElem? (i := 2) (by decide +kernel))) rfl rfl dX5_readFunction_43 ?_
        refine lv_iload_n hx hb dX5_readFunction_46 rfl (lv_at hl 0 rfl) ?_
        refine r_iast (j := mb) hx hb w (by have := P.1; omega) P.c2 hbd (by omega) dX5_readFunction_47 (fun h12 H locs eh12 w => ?_)
        have P := P.s2 eh12
        generalize egz13 : upd gk mb y9 = gz13 at P
        have hfr : ∀ k_, ¬ (t ≤ k_ ∧ k_ < t + 11) → h12 k_ = h k_ := fun k_ hk_ => by rw [eh12, va_up_ne _ _ (by omega)]; exact hfr k_ hk_
        have T := T.fr (h' := h12) (fun k_ h1_ h2_ h3_ => by rw [eh12, va_up_ne _ _ (by omega)])
        refine lv_aload_n hx hb dX5_readFunction_48 rfl (lv_at hl 1 rfl) ?_
        refine r_callI w (va_runV (As := []) (rest := []) ⟨hx, hb, hml, hown, hts⟩ (c_X5_next l T hsz hn200 hgx hlt (hak8 (by omega))) (cwV 0 hts gX5_readFunction_X5_next rfl rfl rfl (by decide +kernel) ⟨Nat.le_of_ble_eq_true rfl, Nat.le_of_ble_eq_true rfl⟩) (r_preV w (by have := T.1; omega) T.2.1 rfl) rfl rfl hl.1 rfl (lv_room (Nat.le_of_ble_eq_true rfl)) dX5_readFunction_49 ⟨Nat.zero_le _, Nat.zero_le _⟩) (fun r15 h14 H locs hp w => ?_)
        obtain ⟨hfk16, atk16, T, hrk16, hak16, hzk16⟩ := hp
        have P := P.fr (h' := h14) (fun k_ h1_ h2_ => hfk16 k_ (by omega))
        have hfr : ∀ k_, ¬ (t ≤ k_ ∧ k_ < t + 11) → h14 k_ = h k_ := fun k_ hk_ => (hfk16 k_ (by omega)).trans (hfr k_ hk_)
        have slk16 := sgn_le (i := (i + 1)) hlt
        refine lv_bipush (v := 44) hx hb dX5_readFunction_52 (by decide) ?_
        refine lv_icmp_ne (tgt := 73) hx hb dX5_readFunction_54 (by decide) (fun c17 => ?_) (fun c17 => ?_)
        · have c17 : ¬ ((((sgn tx n ((i + 1))) : Nat) : Int) = ((44 : Nat) : Int)) := fun q => c17 ((i_eq hrk16 (by decide : (44 : Int32).toInt = ((44 : Nat) : Int))).mpr q)
          refine lv_iconst (v := 0) hx hb dX5_readFunction_73 (by decide) ?_
          refine r_zret (v := 0) hx hb hr rfl hlocks w dX5_readFunction_74 ?_
          refine ⟨hfr, _, _, _, _, _, T, P, Or.inr ⟨rfl, ?_⟩⟩
          rintro ⟨p9, f1_, f2_, f3_, f4_, f5_, f6_⟩
          unfold dgt at f2_
          omega
        · have c17 : (((sgn tx n ((i + 1))) : Nat) : Int) = ((44 : Nat) : Int) := (i_eq hrk16 (by decide : (44 : Int32).toInt = ((44 : Nat) : Int))).mp c17
          refine lv_aload_n hx hb dX5_readFunction_57 rfl (lv_at hl 1 rfl) ?_
          refine r_callI w (va_runV (As := []) (rest := []) ⟨hx, hb, hml, hown, hts⟩ (c_X5_readBody l T P hsz hn200 hgx hlt (pn := pN M) (pa := pA M) R.1 R.2.2.1 R.2.2.2.1 (mb := mb) (hak16 (by omega)) hbd (by omega) (by omega)) (cwV 0 hts gX5_readFunction_X5_readBody rfl rfl rfl (by decide +kernel) ⟨Nat.le_of_ble_eq_true rfl, Nat.le_of_ble_eq_true rfl⟩) (r_preV w (by have := T.1; omega) T.2.1 rfl) rfl rfl hl.1 rfl (lv_room (Nat.le_of_ble_eq_true rfl)) dX5_readFunction_58 ⟨Nat.zero_le _, Nat.zero_le _⟩) (fun r19 h18 H locs hp w => ?_)
          obtain ⟨hfk20, atk20, glk20, gbk20, T, P, hlk20, hBk20, hRk20⟩ := hp
          have hfr : ∀ k_, ¬ (t ≤ k_ ∧ k_ < t + 11) → h18 k_ = h k_ := fun k_ hk_ => (hfk20 k_ (by omega)).trans (hfr k_ hk_)
          have hbk20 : Bq r19 (∃ p9, p9 ≤ 24 ∧ BodyR (sgn tx n) (pN M) (pA M) mb (((i + 1) + 1)) p9 0) := hRk20.elim (fun q_ => Or.inl ⟨q_.1, q_.2.elim (fun p_ z_ => ⟨p_, z_.1, z_.2.1⟩)⟩) (fun q_ => Or.inr ⟨q_.1, q_.2⟩)
          refine lv_if_eq (tgt := 73) hx hb dX5_readFunction_61 (by decide) (fun c21 => ?_) (fun c21 => ?_)
          · have c21 := hbk20.eq c21
            refine lv_iconst (v := 0) hx hb dX5_readFunction_73 (by decide) ?_
            refine r_zret (v := 0) hx hb hr rfl hlocks w dX5_readFunction_74 ?_
            refine ⟨hfr, _, _, _, _, _, T, P, Or.inr ⟨rfl, ?_⟩⟩
            rintro ⟨p9, f1_, f2_, f3_, f4_, f5_, f6_⟩
            exact c21 ⟨p9, f4_, f5_⟩
          · have c21 := hbk20.ne c21
            obtain ⟨-, p9, b1_, b2_, b3_, b4_, b5_⟩ := hRk20.resolve_right (fun q_ => q_.2 c21)
            have hin9_ : ((i + 1) + 1) + p9 ≤ 600 := by omega
            refine lv_aload_n hx hb dX5_readFunction_64 rfl (lv_at hl 1 rfl) ?_
            refine r_callI w (va_runV (As := []) (rest := []) ⟨hx, hb, hml, hown, hts⟩ (c_X5_next l T hsz hn200 hgx hlt b3_) (cwV 0 hts gX5_readFunction_X5_next rfl rfl rfl (by decide +kernel) ⟨Nat.le_of_ble_eq_true rfl, Nat.le_of_ble_eq_true rfl⟩) (r_preV w (by have := T.1; omega) T.2.1 rfl) rfl rfl hl.1 rfl (lv_room (Nat.le_of_ble_eq_true rfl)) dX5_readFunction_65 ⟨Nat.zero_le _, Nat.zero_le _⟩) (fun r23 h22 H locs hp w => ?_)
            obtain ⟨hfk24, atk24, T, hrk24, hak24, hzk24⟩ := hp
            have P := P.fr (h' := h22) (fun k_ h1_ h2_ => hfk24 k_ (by omega))
            have hfr : ∀ k_, ¬ (t ≤ k_ ∧ k_ < t + 11) → h22 k_ = h k_ := fun k_ hk_ => (hfk24 k_ (by omega)).trans (hfr k_ hk_)
            have slk24 := sgn_le (i := (((i + 1) + 1) + p9)) hlt
            refine lv_bipush (v := 59) hx hb dX5_readFunction_68 (by decide) ?_
            refine lv_icmp_eq (tgt := 75) hx hb dX5_readFunction_70 (by decide) (fun c25 => ?_) (fun c25 => ?_)
            · have c25 : (((sgn tx n ((((i + 1) + 1) + p9))) : Nat) : Int) = ((59 : Nat) : Int) := (i_eq hrk24 (by decide : (59 : Int32).toInt = ((59 : Nat) : Int))).mp c25
              refine lv_aload_n hx hb dX5_readFunction_75 rfl (lv_at hl 1 rfl) ?_
              refine lv_dup hx hb dX5_readFunction_76 rfl ?_
              refine r_get (C := RX5) (T := TX5) (N := 5) (ci := 4) hx hb hts inX5_readFunction_X5 hown w (by have := T.1; omega) T.2.1 rfl 4 (by decide) (hts (Cond.fieldLink RX5 29 "EarlyValues$Text" "bodies" "I") (List.mem_of_getElem? (i := 2) (by decide +kernel))) rfl rfl dX5_readFunction_77 ?_
              refine lv_iconst (v := 1) hx hb dX5_readFunction_80 (by decide) ?_
              refine lv_iadd hx hb dX5_readFunction_81 ?_
              refine lv_topi (fun y26 ey26 => ?_)
              have ty26 : y26.toInt = (((mb + 1) : Nat) : Int) := i_addN ey26 hbd (by decide : (1 : Int32).toInt = ((1 : Nat) : Int)) (by omega)
              refine r_put (ty := .int) (C := RX5) (T := TX5) (N := 5) (ci := 4) hx hb hts inX5_readFunction_X5 tyX5 tyX5_ok nmX5 hown w (by have := T.1; omega) T.2.1 rfl 4 (by decide) (hts (Cond.fieldLink RX5 29 "EarlyValues$Text" "bodies" "I") (List.mem_of_getElem? (i := 2) (by decide +kernel))) rfl rfl (by decide +kernel) rfl rfl (Nat.le_of_ble_eq_true rfl) dX5_readFunction_82 (fun h27 H locs eh27 w => ?_)
              have T := T.s0 eh27
              have hfr : ∀ k_, ¬ (t ≤ k_ ∧ k_ < t + 11) → h27 k_ = h k_ := fun k_ hk_ => by rw [eh27, va_up_ne _ _ (by omega)]; exact hfr k_ hk_
              have P := P.fr (h' := h27) (fun k_ h1_ h2_ => by rw [eh27, va_up_ne _ _ (by omega)])
              refine lv_iconst (v := 1) hx hb dX5_readFunction_85 (by decide) ?_
              refine r_zret (v := 1) hx hb hr rfl hlocks w dX5_readFunction_86 ?_
              have hF_ : FnOk (sgn tx n) i M mb p9 := ⟨by omega, ⟨by omega, by omega⟩, by omega, b1_, b2_, by omega⟩
              exact ⟨hfr, _, _, _, _, _, T, P, Or.inl ⟨rfl, p9, hF_, (hak24 (by omega)), ty26, R.fn hF_ egz13 (ty9.trans (by omega)) hlk20 hBk20 b4_ b5_⟩⟩
            · have c25 : ¬ ((((sgn tx n ((((i + 1) + 1) + p9))) : Nat) : Int) = ((59 : Nat) : Int)) := fun q => c25 ((i_eq hrk24 (by decide : (59 : Int32).toInt = ((59 : Nat) : Int))).mpr q)
              refine lv_iconst (v := 0) hx hb dX5_readFunction_73 (by decide) ?_
              refine r_zret (v := 0) hx hb hr rfl hlocks w dX5_readFunction_74 ?_
              refine ⟨hfr, _, _, _, _, _, T, P, Or.inr ⟨rfl, ?_⟩⟩
              rintro ⟨p9_, f1_, f2_, f3_, f4_, f5_, f6_⟩
              have e_ := f5_.uni b2_
              subst e_
              omega
      · have c11 : ¬ (((((sgn tx n i) : Nat) : Int) - ((48 : Nat) : Int)) ≤ ((3 : Nat) : Int)) := fun q => c11 ((i_le ty9 (by decide : (3 : Int32).toInt = ((3 : Nat) : Int))).mpr q)
        refine lv_iconst (v := 0) hx hb dX5_readFunction_33 (by decide) ?_
        refine r_zret (v := 0) hx hb hr rfl hlocks w dX5_readFunction_34 ?_
        refine ⟨hfr, _, _, _, _, _, T, P, Or.inr ⟨rfl, ?_⟩⟩
        rintro ⟨p9, f1_, f2_, f3_, f4_, f5_, f6_⟩
        unfold dgt at f2_
        omega
  · have c5 := b4.eq c5
    refine lv_iconst (v := 0) hx hb dX5_readFunction_14 (by decide) ?_
    refine r_zret (v := 0) hx hb hr rfl hlocks w dX5_readFunction_15 ?_
    refine ⟨hfr, _, _, _, _, _, T, P, Or.inr ⟨rfl, ?_⟩⟩
    rintro ⟨p9, f1_, f2_, f3_, f4_, f5_, f6_⟩
    unfold dgt at f2_
    omega

