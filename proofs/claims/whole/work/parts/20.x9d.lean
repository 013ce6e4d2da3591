theorem mIs_iff {u c x y z : Nat} : mIs u c x y z ↔ (x < mB u ∧ y < mB u ∧ z < mB u ∧ (c ≤ 0 → x = 0) ∧ (c ≤ 1 → y = 0) ∧ (c ≤ 2 → z = 0)) := ⟨mIs_lt, fun h => mIs_of h.1 h.2.1 h.2.2.1 h.2.2.2.1 h.2.2.2.2.1 h.2.2.2.2.2⟩
theorem mStep_t {u : Nat} {P : PRG} {T : Nat → Nat → Nat} {f row : Nat} (h : mStop u P f row) : mStep u P T f row = mN u := by unfold mStep; exact if_pos h
theorem mStep_f {u : Nat} {P : PRG} {T : Nat → Nat → Nat} {f row : Nat} (h : ¬ mStop u P f row) : mStep u P T f row = mBody u P T (mArg u P f row) f := by unfold mStep; exact if_neg h
theorem mArg_eq {u : Nat} {P : PRG} {f row i j v : Nat} (hi : i < pA P f) (hj : (if pK P f = 3 then pA P f - 1 - i else i) = j) (hv : mDig u row j = v) : mArg u P f row i = v := by
  unfold mArg
  rw [if_pos hi, hj, hv]
theorem dig3 {u x y z : Nat} (hx : x < mB u) (hy : y < mB u) (hz : z < mB u) : mDig u (x + mB u * y + mB u * mB u * z) 0 = x ∧ mDig u (x + mB u * y + mB u * mB u * z) 1 = y ∧ mDig u (x + mB u * y + mB u * mB u * z) 2 = z := by
  refine ⟨?_, ?_, ?_⟩ <;> rw [dig_i (by omega) hx hy hz] <;> rfl
theorem mStop_iff {u : Nat} {P : PRG} {f R x y z : Nat} (h3 : pA P f ≤ 3) (d0 : mDig u R 0 = x) (d1 : mDig u R 1 = y) (d2 : mDig u R 2 = z) : mStop u P f R ↔ ((pK P f = 1 ∨ pK P f = 3) ∧ ((0 < pA P f ∧ x = mN u) ∨ (1 < pA P f ∧ y = mN u) ∨ (2 < pA P f ∧ z = mN u))) ∨ (pK P f = 2 ∧ 0 < pA P f ∧ x = mN u) := by
  unfold mStop
  constructor
  · rintro (⟨a, i, b, c⟩ | ⟨a, b, c⟩)
    · refine Or.inl ⟨a, ?_⟩
      rcases (show i = 0 ∨ i = 1 ∨ i = 2 by omega) with e | e | e <;> subst e
      · exact Or.inl ⟨b, d0.symm.trans c⟩
      · exact Or.inr (Or.inl ⟨b, d1.symm.trans c⟩)
      · exact Or.inr (Or.inr ⟨b, d2.symm.trans c⟩)
    · exact Or.inr ⟨a, b, d0.symm.trans c⟩
  · rintro (⟨a, ⟨b, c⟩ | ⟨b, c⟩ | ⟨b, c⟩⟩ | ⟨a, b, c⟩)
    · exact Or.inl ⟨a, 0, b, d0.trans c⟩
    · exact Or.inl ⟨a, 1, b, d1.trans c⟩
    · exact Or.inl ⟨a, 2, b, d2.trans c⟩
    · exact Or.inr ⟨a, b, d0.trans c⟩
theorem mIx_ex {u c row : Nat} (hu : u < 3) (hc : c ≤ 3) (h : row < mB u ^ c) : ∃ q, q < 125 ∧ mIs u c (q / 25) (q / 5 % 5) (q % 5) ∧ mIx u q = row := by
  have key : ∀ b : Nat, (b = 5 ∨ b = 2 ∨ b = 4) → mB u = b → row < b ^ c → ∃ q, q < 125 ∧ mIs u c (q / 25) (q / 5 % 5) (q % 5) ∧ mIx u q = row := by
    intro b hb e hr
    have ex : ∃ x y z : Nat, x < b ∧ y < b ∧ z < b ∧ x + b * y + b * b * z = row ∧ (c ≤ 0 → x = 0) ∧ (c ≤ 1 → y = 0) ∧ (c ≤ 2 → z = 0) := by
      rcases (show c = 0 ∨ c = 1 ∨ c = 2 ∨ c = 3 by omega) with q | q | q | q <;> subst q <;> rcases hb with q | q | q <;> subst q <;>
        (first | (refine ⟨0, 0, 0, by omega, by omega, by omega, ?_, ?_, ?_, ?_⟩ <;> omega) | (refine ⟨row, 0, 0, by omega, by omega, by omega, ?_, ?_, ?_, ?_⟩ <;> omega) | (refine ⟨row % 5, row / 5, 0, by omega, by omega, by omega, ?_, ?_, ?_, ?_⟩ <;> omega) | (refine ⟨row % 2, row / 2, 0, by omega, by omega, by omega, ?_, ?_, ?_, ?_⟩ <;> omega) | (refine ⟨row % 4, row / 4, 0, by omega, by omega, by omega, ?_, ?_, ?_, ?_⟩ <;> omega) | (refine ⟨row % 5, row / 5 % 5, row / 25, by omega, by omega, by omega, ?_, ?_, ?_, ?_⟩ <;> omega) | (refine ⟨row % 2, row / 2 % 2, row / 4, by omega, by omega, by omega, ?_, ?_, ?_, ?_⟩ <;> omega) | (refine ⟨row % 4, row / 4 % 4, row / 16, by omega, by omega, by omega, ?_, ?_, ?_, ?_⟩ <;> omega))
    obtain ⟨x, y, z, a1, a2, a3, a4, a5, a6, a7⟩ := ex
    have hb5 : b ≤ 5 := by omega
    have e1 : (25 * x + 5 * y + z) / 25 = x := by omega
    have e2 : (25 * x + 5 * y + z) / 5 % 5 = y := by omega
    have e3 : (25 * x + 5 * y + z) % 5 = z := by omega
    refine ⟨25 * x + 5 * y + z, by omega, ?_, ?_⟩
    · rw [e1, e2, e3]; exact mIs_of (by omega) (by omega) (by omega) a5 a6 a7
    · unfold mIx; rw [e1, e2, e3, e]; exact a4
  rcases mB_c hu with ⟨_, e⟩ | ⟨_, e⟩ | ⟨_, e⟩ <;> exact key _ (by omega) e (by rw [e] at h; exact h)
theorem mIx_in {u c row : Nat} (hc : c ≤ 3) (h : mIs u c (row / 25) (row / 5 % 5) (row % 5)) : mIx u row < mB u ^ c := mIx_lt hc h
/-- a round's value at a place of the reference's table -/
def NV (u : Nat) (M : PRG) (T : Nat → Nat → Nat) (f row : Nat) (v : Int32) : Prop := (mIs u (pA M f) (row / 25) (row / 5 % 5) (row % 5) → v.toInt = ((T f (mIx u row) : Nat) : Int)) ∧ (¬ mIs u (pA M f) (row / 25) (row / 5 % 5) (row % 5) → v.toInt = ((mN u : Nat) : Int))
def Df (u : Nat) (M : PRG) (k f row : Nat) : Prop := mIs u (pA M f) (row / 25) (row / 5 % 5) (row % 5) ∧ mTab u M k f (mIx u row) ≠ mTab u M (k + 1) f (mIx u row)
theorem nv_up {u : Nat} {M : PRG} {T : Nat → Nat → Nat} {f row : Nat} {gn gz : Nat → Int32} {x : Int32} (h : ∀ f_ row_, f_ < pN M → row_ < 125 → (f_ < f ∨ (f_ = f ∧ row_ < row)) → NV u M T f_ row_ (gn (125 * f_ + row_))) (hr : row < 125) (hx : NV u M T f row x) (e : upd gn (125 * f + row) x = gz) :
    ∀ f_ row_, f_ < pN M → row_ < 125 → (f_ < f ∨ (f_ = f ∧ row_ < row + 1)) → NV u M T f_ row_ (gz (125 * f_ + row_)) := by
  subst e
  intro f_ row_ a b c
  by_cases q : f_ = f ∧ row_ = row
  · rw [q.1, q.2, pk_us]; exact hx
  · rw [pk_un (by omega)]; exact h f_ row_ a b (by omega)
theorem nv_ch1 {u : Nat} {M : PRG} {k f row : Nat} (h : ∃ f_ row_, f_ < pN M ∧ row_ < 125 ∧ (f_ < f ∨ (f_ = f ∧ row_ < row)) ∧ Df u M k f_ row_) : Bq 1 (∃ f_ row_, f_ < pN M ∧ row_ < 125 ∧ (f_ < f ∨ (f_ = f ∧ row_ < row + 1)) ∧ Df u M k f_ row_) := by
  obtain ⟨a, b, c, d, e, q⟩ := h
  exact Bq.t ⟨a, b, c, d, by omega, q⟩
theorem nv_ch0 {u : Nat} {M : PRG} {k f row : Nat} {r : Int32} (hf : f < pN M) (hr : row < 125) (h : ¬ ∃ f_ row_, f_ < pN M ∧ row_ < 125 ∧ (f_ < f ∨ (f_ = f ∧ row_ < row)) ∧ Df u M k f_ row_) (hb : Bq r (Df u M k f row)) : Bq r (∃ f_ row_, f_ < pN M ∧ row_ < 125 ∧ (f_ < f ∨ (f_ = f ∧ row_ < row + 1)) ∧ Df u M k f_ row_) := by
  refine hb.iff ⟨fun q => ⟨f, row, hf, hr, Or.inr ⟨rfl, by omega⟩, q⟩, ?_⟩
  rintro ⟨a, b, c, d, e, q⟩
  by_cases z : a = f ∧ b = row
  · rw [z.1, z.2] at q; exact q
  · exact absurd ⟨a, b, c, d, by omega, q⟩ h
theorem nv_fin {u : Nat} {M : PRG} {k f : Nat} (hu : u < 3) (hP : PV M) (hf : f = pN M) : (∃ f_ row_, f_ < pN M ∧ row_ < 125 ∧ f_ < f ∧ Df u M k f_ row_) ↔ ¬ Stable u M k := by
  constructor
  · rintro ⟨a, b, c, d, _, i, q⟩ S
    exact q (S a (mIx u b) c (mIx_in (hP.2.2 a c).1 i))
  · intro S
    refine Classical.byContradiction fun q => S fun a b c d => Classical.byContradiction fun z => ?_
    obtain ⟨w, w1, w2, w3⟩ := mIx_ex hu (hP.2.2 a c).1 d
    exact q ⟨a, w, c, w1, by omega, w2, by rw [w3]; exact z⟩
theorem cp_up {u i : Nat} {gt gt1 gn gz : Nat → Int32} (h : ∀ q, gt1 q = if 500 * u ≤ q ∧ q < 500 * u + i then gn (q - 500 * u) else gt q) (e : upd gt1 (500 * u + i) (gn i) = gz) : ∀ q, gz q = if 500 * u ≤ q ∧ q < 500 * u + (i + 1) then gn (q - 500 * u) else gt q := by
  subst e
  intro q
  by_cases z : q = 500 * u + i
  · rw [z, pk_us, if_pos (by omega)]; congr 1; omega
  · rw [pk_un z, h q]
    by_cases y : 500 * u ≤ q ∧ q < 500 * u + i
    · rw [if_pos y, if_pos (by omega)]
    · rw [if_neg y, if_neg (by omega)]
theorem cp_rt {u : Nat} {M : PRG} {T : Nat → Nat → Nat} {gt gt1 gn : Nat → Int32} (h : ∀ q, gt1 q = if 500 * u ≤ q ∧ q < 500 * u + 125 * pN M then gn (q - 500 * u) else gt q) (hn : ∀ f_ row_, f_ < pN M → row_ < 125 → NV u M T f_ row_ (gn (125 * f_ + row_))) : RT u M gt1 T := by
  intro f row hf hr
  have := hn f row hf hr
  have e : gt1 (500 * u + 125 * f + row) = gn (125 * f + row) := by
    rw [h, if_pos (by omega)]; congr 1; omega
  rw [e]; exact this
theorem cp_out {u i : Nat} {gt gt1 gn : Nat → Int32} (h : ∀ q, gt1 q = if 500 * u ≤ q ∧ q < 500 * u + i then gn (q - 500 * u) else gt q) (hi : i ≤ 500) : ∀ q, ¬ (500 * u ≤ q ∧ q < 500 * u + 500) → gt1 q = gt q := fun q hq => by rw [h, if_neg (by omega)]
theorem inX9_isRow_X9 : ∀ w ∈ wsX90, w ∈ wsX9_isRow := by decide +kernel
abbrev rm_X9_isRow : Room := { frames := 1, cells := 0, slots := 0, locals := 22 }
set_option maxHeartbeats 4000000 in
set_option maxRecDepth 100000 in
theorem c_X9_isRow (l : Launch) {g : GE} {h : Nat → va_E} {r : Nat} {nm kn um sv sz ra rm : Int32} {ga gk gl gB gt gn gr gp gh gv gs gx gf : Nat → Int32} (D : MdA g h r nm kn um sv sz ra rm ga gk gl gB gt gn gr gp gh gv gs gx gf) {M : PRG} (S : RS M nm ga gk gl gB) (hP : PV M) {u : Nat} (hu : u < 3) {f : Nat} (p0 p1 p2 p3 p4 : Int32) (hp0 : p0.toInt = (f : Int)) (hf : f < pN M) (hp4 : p4.toInt = ((mB u : Nat) : Int)) : MI l yX9_isRow wsX9_isRow rm_X9_isRow [.ref (g.2.2.1 r), .int p0, .int p1, .int p2, .int p3, .int p4] g h (fun r h2 => h2 = h ∧ Bq r (0 ≤ p1.toInt ∧ 0 ≤ p2.toInt ∧ 0 ≤ p3.toInt ∧ mIs u (pA M f) p1.toInt.toNat p2.toInt.toNat p3.toInt.toNat)) := by
  refine Met.ofW (cc := cX9_isRow) (maxL := 7) (ret := (some .boolean)) (by decide) rfl ?_
  intro p e s m args below meth c s₁ B hml hv
  obtain ⟨rfl, w0⟩ := hv
  have hx := B.exec
  have hb := B.bytes
  have hr := B.returns
  have hts := atoms_spec (ws := wsX9_isRow) B.pre
  have hown : s.vm.findClass RX9 = some m.cls := findClass_of_methodNamed B.named
  have hlocks := B.notSynchronized
  have w := w0.start
  clear w0
  have hl := lv_entry ([.ref (g.2.2.1 r), .int p0, .int p1, .int p2, .int p3, .int p4]) (n := 7) (Nat.le_of_ble_eq_true rfl)
  rw [lg_entry_eq]
  generalize (lg_sl ([.ref (g.2.2.1 r), .int p0, .int p1, .int p2, .int p3, .int p4]) ++ List.replicate (7 - (lg_sl ([.ref (g.2.2.1 r), .int p0, .int p1, .int p2, .int p3, .int p4])).length) Slot.unset).toArray = ls at hl ⊢
  have hl : lv_has ls 7 [(0, .ref (g.2.2.1 r)), (1, .int p0), (2, .int p1), (3, .int p2), (4, .int p3), (5, .int p4)] := hl
  have hn4 := hP.2.1
  have hB_ := mB_c hu
  have ha3 := (hP.2.2 f hf).1
  have hi_ := mIs_iff (u := u) (c := pA M f) (x := p1.toInt.toNat) (y := p2.toInt.toNat) (z := p3.toInt.toNat)
  refine lv_aload_n hx hb dX9_isRow_0 rfl (lv_at hl 0 rfl) ?_
  refine r_get (C := RX9) (T := TX9) (N := 20) (ci := 7) hx hb hts inX9_isRow_X9 hown w (by have := D.1; omega) D.c0 rfl 1 (by decide) (hts (Cond.fieldLink RX9 7 "EarlyValuesModel" "argsOf" "[I") (List.mem_of_getElem? (i := 1) (by decide +kernel))) rfl rfl dX9_isRow_1 ?_
  refine lv_iload_n hx hb dX9_isRow_4 rfl (lv_at hl 1 rfl) ?_
  refine r_iald (j := f) hx hb w (by have := D.1; omega) D.c1 hp0 (by omega) dX9_isRow_5 ?_
  refine lv_istore (lv' := [(6, .int (ga f)), (0, .ref (g.2.2.1 r)), (1, .int p0), (2, .int p1), (3, .int p2), (4, .int p3), (5, .int p4)]) hx hb dX9_isRow_6 hl (by decide) rfl (fun ls hl => ?_)
  refine lv_iload_n hx hb dX9_isRow_8 rfl (lv_at hl 3 rfl) ?_
  refine lv_iconst (v := 0) hx hb dX9_isRow_9 (by decide) ?_
  refine lv_iload hx hb dX9_isRow_10 (lv_at hl 0 rfl) ?_
  refine lv_if_le (tgt := 22) hx hb dX9_isRow_12 (by decide) (fun c1 => ?_) (fun c1 => ?_)
  · have c1 : (((pA M f) : Nat) : Int) ≤ (0 : Int) := (i_le (S.2.1 f (by omega)) (rfl : (0 : Int32).toInt = 0)).mp c1
    refine lv_iconst (v := 0) hx hb dX9_isRow_22 (by decide) ?_
    refine r_callI w (va_runS (As := [.int p1, .int 0, .int 0]) (rest := []) ⟨hx, hb, hml, hown, hts⟩ (c_X9_in l p1 0 0) (va_cwS 3 hts gX9_isRow_X9_in rfl rfl rfl (by decide +kernel) ⟨Nat.le_of_ble_eq_true rfl, Nat.le_of_ble_eq_true rfl⟩) (r_preS w) rfl rfl hl.1 rfl (lv_room (Nat.le_of_ble_eq_true rfl)) dX9_isRow_23 ⟨Nat.zero_le _, Nat.zero_le _⟩) (fun r3 h2 H locs hp w => ?_)
    obtain ⟨eh_, qq4⟩ := hp
    have eh_ := eh_.symm
    subst eh_
    have b5 : Bq r3 (((0 : Nat) : Int) ≤ p1.toInt ∧ p1.toInt ≤ ((0 : Nat) : Int)) := qq4.iff (by rw [((rfl : p1.toInt = p1.toInt) : (p1 : Int32).toInt = _), ((by decide : (0 : Int32).toInt = ((0 : Nat) : Int)) : (0 : Int32).toInt = _)])
    refine lv_if_eq (tgt := 78) hx hb dX9_isRow_26 (by decide) (fun c6 => ?_) (fun c6 => ?_)
    · have c6 := b5.eq c6
      refine lv_iconst (v := 0) hx hb dX9_isRow_78 (by decide) ?_
      refine r_zret (v := 0) hx hb hr rfl hlocks w dX9_isRow_79 ?_
      rw [hi_]
      exact ⟨rfl, by first | exact Bq.t (by omega) | exact Bq.f (by omega)⟩
    · have c6 := b5.ne c6
      refine lv_iload_n hx hb dX9_isRow_29 rfl (lv_at hl 4 rfl) ?_
      refine lv_iconst (v := 0) hx hb dX9_isRow_30 (by decide) ?_
      refine lv_iload hx hb dX9_isRow_31 (lv_at hl 0 rfl) ?_
      refine lv_iconst (v := 1) hx hb dX9_isRow_33 (by decide) ?_
      refine lv_icmp_le (tgt := 44) hx hb dX9_isRow_34 (by decide) (fun c7 => ?_) (fun c7 => ?_)
      · have c7 : (((pA M f) : Nat) : Int) ≤ ((1 : Nat) : Int) := (i_le (S.2.1 f (by omega)) (by decide : (1 : Int32).toInt = ((1 : Nat) : Int))).mp c7
        refine lv_iconst (v := 0) hx hb dX9_isRow_44 (by decide) ?_
        refine r_callI w (va_runS (As := [.int p2, .int 0, .int 0]) (rest := []) ⟨hx, hb, hml, hown, hts⟩ (c_X9_in l p2 0 0) (va_cwS 3 hts gX9_isRow_X9_in rfl rfl rfl (by decide +kernel) ⟨Nat.le_of_ble_eq_true rfl, Nat.le_of_ble_eq_true rfl⟩) (r_preS w) rfl rfl hl.1 rfl (lv_room (Nat.le_of_ble_eq_true rfl)) dX9_isRow_45 ⟨Nat.zero_le _, Nat.zero_le _⟩) (fun r9 h8 H locs hp w => ?_)
        obtain ⟨eh_, qq10⟩ := hp
        have eh_ := eh_.symm
        subst eh_
        have b11 : Bq r9 (((0 : Nat) : Int) ≤ p2.toInt ∧ p2.toInt ≤ ((0 : Nat) : Int)) := qq10.iff (by rw [((rfl : p2.toInt = p2.toInt) : (p2 : Int32).toInt = _), ((by decide : (0 : Int32).toInt = ((0 : Nat) : Int)) : (0 : Int32).toInt = _)])
        refine lv_if_eq (tgt := 78) hx hb dX9_isRow_48 (by decide) (fun c12 => ?_) (fun c12 => ?_)
        · have c12 := b11.eq c12
          refine lv_iconst (v := 0) hx hb dX9_isRow_78 (by decide) ?_
          refine r_zret (v := 0) hx hb hr rfl hlocks w dX9_isRow_79 ?_
          rw [hi_]
          exact ⟨rfl, by first | exact Bq.t (by omega) | exact Bq.f (by omega)⟩
        · have c12 := b11.ne c12
          refine lv_iload hx hb dX9_isRow_51 (lv_at hl 5 rfl) ?_
          refine lv_iconst (v := 0) hx hb dX9_isRow_53 (by decide) ?_
          refine lv_iload hx hb dX9_isRow_54 (lv_at hl 0 rfl) ?_
          refine lv_iconst (v := 2) hx hb dX9_isRow_56 (by decide) ?_
          refine lv_icmp_le (tgt := 67) hx hb dX9_isRow_57 (by decide) (fun c13 => ?_) (fun c13 => ?_)
          · have c13 : (((pA M f) : Nat) : Int) ≤ ((2 : Nat) : Int) := (i_le (S.2.1 f (by omega)) (by decide : (2 : Int32).toInt = ((2 : Nat) : Int))).mp c13
            refine lv_iconst (v := 0) hx hb dX9_isRow_67 (by decide) ?_
            refine r_callI w (va_runS (As := [.int p3, .int 0, .int 0]) (rest := []) ⟨hx, hb, hml, hown, hts⟩ (c_X9_in l p3 0 0) (va_cwS 3 hts gX9_isRow_X9_in rfl rfl rfl (by decide +kernel) ⟨Nat.le_of_ble_eq_true rfl, Nat.le_of_ble_eq_true rfl⟩) (r_preS w) rfl rfl hl.1 rfl (lv_room (Nat.le_of_ble_eq_true rfl)) dX9_isRow_68 ⟨Nat.zero_le _, Nat.zero_le _⟩) (fun r15 h14 H locs hp w => ?_)
            obtain ⟨eh_, qq16⟩ := hp
            have eh_ := eh_.symm
            subst eh_
            have b17 : Bq r15 (((0 : Nat) : Int) ≤ p3.toInt ∧ p3.toInt ≤ ((0 : Nat) : Int)) := qq16.iff (by rw [((rfl : p3.toInt = p3.toInt) : (p3 : Int32).toInt = _), ((by decide : (0 : Int32).toInt = ((0 : Nat) : Int)) : (0 : Int32).toInt = _)])
            refine lv_if_eq (tgt := 78) hx hb dX9_isRow_71 (by decide) (fun c18 => ?_) (fun c18 => ?_)
            · have c18 := b17.eq c18
              refine lv_iconst (v := 0) hx hb dX9_isRow_78 (by decide) ?_
              refine r_zret (v := 0) hx hb hr rfl hlocks w dX9_isRow_79 ?_
              rw [hi_]
              exact ⟨rfl, by first | exact Bq.t (by omega) | exact Bq.f (by omega)⟩
            · have c18 := b17.ne c18
              refine lv_iconst (v := 1) hx hb dX9_isRow_74 (by decide) ?_
              refine lv_goto (tgt := 79) hx hb dX9_isRow_75 (by decide) ?_
              refine r_zret (v := 1) hx hb hr rfl hlocks w dX9_isRow_79 ?_
              rw [hi_]
              exact ⟨rfl, by first | exact Bq.t (by omega) | exact Bq.f (by omega)⟩
          · have c13 : ¬ ((((pA M f) : Nat) : Int) ≤ ((2 : Nat) : Int)) := fun q => c13 ((i_le (S.2.1 f (by omega)) (by decide : (2 : Int32).toInt = ((2 : Nat) : Int))).mpr q)
            refine lv_iload hx hb dX9_isRow_60 (lv_at hl 6 rfl) ?_
            refine lv_iconst (v := 1) hx hb dX9_isRow_62 (by decide) ?_
            refine lv_isub hx hb dX9_isRow_63 ?_
            refine lv_topi (fun y19 ey19 => ?_)
            have ty19 : y19.toInt = (((mB u) : Nat) : Int) - ((1 : Nat) : Int) := i_sub ey19 hp4 (by decide : (1 : Int32).toInt = ((1 : Nat) : Int)) (by omega)
            refine lv_goto (tgt := 68) hx hb dX9_isRow_64 (by decide) ?_
            refine r_callI w (va_runS (As := [.int p3, .int 0, .int y19]) (rest := []) ⟨hx, hb, hml, hown, hts⟩ (c_X9_in l p3 0 y19) (va_cwS 3 hts gX9_isRow_X9_in rfl rfl rfl (by decide +kernel) ⟨Nat.le_of_ble_eq_true rfl, Nat.le_of_ble_eq_true rfl⟩) (r_preS w) rfl rfl hl.1 rfl (lv_room (Nat.le_of_ble_eq_true rfl)) dX9_isRow_68 ⟨Nat.zero_le _, Nat.zero_le _⟩) (fun r21 h20 H locs hp w => ?_)
            obtain ⟨eh_, qq22⟩ := hp
            have eh_ := eh_.symm
            subst eh_
            have b23 : Bq r21 (((0 : Nat) : Int) ≤ p3.toInt ∧ p3.toInt ≤ ((((mB u) : Nat) : Int) - ((1 : Nat) : Int))) := qq22.iff (by rw [((rfl : p3.toInt = p3.toInt) : (p3 : Int32).toInt = _), ((by decide : (0 : Int32).toInt = ((0 : Nat) : Int)) : (0 : Int32).toInt = _), (ty19 : (y19 : Int32).toInt = _)])
            refine lv_if_eq (tgt := 78) hx hb dX9_isRow_71 (by decide) (fun c24 => ?_) (fun c24 => ?_)
            · have c24 := b23.eq c24
              refine lv_iconst (v := 0) hx hb dX9_isRow_78 (by decide) ?_
              refine r_zret (v := 0) hx hb hr rfl hlocks w dX9_isRow_79 ?_
              rw [hi_]
              exact ⟨rfl, by first | exact Bq.t (by omega) | exact Bq.f (by omega)⟩
            · have c24 := b23.ne c24
              refine lv_iconst (v := 1) hx hb dX9_isRow_74 (by decide) ?_
              refine lv_goto (tgt := 79) hx hb dX9_isRow_75 (by decide) ?_
              refine r_zret (v := 1) hx hb hr rfl hlocks w dX9_isRow_79 ?_
              rw [hi_]
              exact ⟨rfl, by first | exact Bq.t (by omega) | exact Bq.f (by omega)⟩
      · have c7 : ¬ ((((pA M f) : Nat) : Int) ≤ ((1 : Nat) : Int)) := fun q => c7 ((i_le (S.2.1 f (by omega)) (by decide : (1 : Int32).toInt = ((1 : Nat) : Int))).mpr q)
        refine lv_iload hx hb dX9_isRow_37 (lv_at hl 6 rfl) ?_
        refine lv_iconst (v := 1) hx hb dX9_isRow_39 (by decide) ?_
        refine lv_isub hx hb dX9_isRow_40 ?_
        refine lv_topi (fun y25 ey25 => ?_)
        have ty25 : y25.toInt = (((mB u) : Nat) : Int) - ((1 : Nat) : Int) := i_sub ey25 hp4 (by decide : (1 : Int32).toInt = ((1 : Nat) : Int)) (by omega)
        refine lv_goto (tgt := 45) hx hb dX9_isRow_41 (by decide) ?_
        refine r_callI w (va_runS (As := [.int p2, .int 0, .int y25]) (rest := []) ⟨hx, hb, hml, hown, hts⟩ (c_X9_in l p2 0 y25) (va_cwS 3 hts gX9_isRow_X9_in rfl rfl rfl (by decide +kernel) ⟨Nat.le_of_ble_eq_true rfl, Nat.le_of_ble_eq_true rfl⟩) (r_preS w) rfl rfl hl.1 rfl (lv_room (Nat.le_of_ble_eq_true rfl)) dX9_isRow_45 ⟨Nat.zero_le _, Nat.zero_le _⟩) (fun r27 h26 H locs hp w => ?_)
        obtain ⟨eh_, qq28⟩ := hp
        have eh_ := eh_.symm
        subst eh_
        have b29 : Bq r27 (((0 : Nat) : Int) ≤ p2.toInt ∧ p2.toInt ≤ ((((mB u) : Nat) : Int) - ((1 : Nat) : Int))) := qq28.iff (by rw [((rfl : p2.toInt = p2.toInt) : (p2 : Int32).toInt = _), ((by decide : (0 : Int32).toInt = ((0 : Nat) : Int)) : (0 : Int32).toInt = _), (ty25 : (y25 : Int32).toInt = _)])
        refine lv_if_eq (tgt := 78) hx hb dX9_isRow_48 (by decide) (fun c30 => ?_) (fun c30 => ?_)
        · have c30 := b29.eq c30
          refine lv_iconst (v := 0) hx hb dX9_isRow_78 (by decide) ?_
          refine r_zret (v := 0) hx hb hr rfl hlocks w dX9_isRow_79 ?_
          rw [hi_]
          exact ⟨rfl, by first | exact Bq.t (by omega) | exact Bq.f (by omega)⟩
        · have c30 := b29.ne c30
          refine lv_iload hx hb dX9_isRow_51 (lv_at hl 5 rfl) ?_
          refine lv_iconst (v := 0) hx hb dX9_isRow_53 (by decide) ?_
          refine lv_iload hx hb dX9_isRow_54 (lv_at hl 0 rfl) ?_
          refine lv_iconst (v := 2) hx hb dX9_isRow_56 (by decide) ?_
          refine lv_icmp_le (tgt := 67) hx hb dX9_isRow_57 (by decide) (fun c31 => ?_) (fun c31 => ?_)
          · have c31 : (((pA M f) : Nat) : Int) ≤ ((2 : Nat) : Int) := (i_le (S.2.1 f (by omega)) (by decide : (2 : Int32).toInt = ((2 : Nat) : Int))).mp c31
            refine lv_iconst (v := 0) hx hb dX9_isRow_67 (by decide) ?_
            refine r_callI w (va_runS (As := [.int p3, .int 0, .int 0]) (rest := []) ⟨hx, hb, hml, hown, hts⟩ (c_X9_in l p3 0 0) (va_cwS 3 hts gX9_isRow_X9_in rfl rfl rfl (by decide +kernel) ⟨Nat.le_of_ble_eq_true rfl, Nat.le_of_ble_eq_true rfl⟩) (r_preS w) rfl rfl hl.1 rfl (lv_room (Nat.le_of_ble_eq_true rfl)) dX9_isRow_68 ⟨Nat.zero_le _, Nat.zero_le _⟩) (fun r33 h32 H locs hp w => ?_)
            obtain ⟨eh_, qq34⟩ := hp
            have eh_ := eh_.symm
            subst eh_
            have b35 : Bq r33 (((0 : Nat) : Int) ≤ p3.toInt ∧ p3.toInt ≤ ((0 : Nat) : Int)) := qq34.iff (by rw [((rfl : p3.toInt = p3.toInt) : (p3 : Int32).toInt = _), ((by decide : (0 : Int32).toInt = ((0 : Nat) : Int)) : (0 : Int32).toInt = _)])
            refine lv_if_eq (tgt := 78) hx hb dX9_isRow_71 (by decide) (fun c36 => ?_) (fun c36 => ?_)
            · have c36 := b35.eq c36
              refine lv_iconst (v := 0) hx hb dX9_isRow_78 (by decide) ?_
              refine r_zret (v := 0) hx hb hr rfl hlocks w dX9_isRow_79 ?_
              rw [hi_]
              exact ⟨rfl, by first | exact Bq.t (by omega) | exact Bq.f (by omega)⟩
            · have c36 := b35.ne c36
              refine lv_iconst (v := 1) hx hb dX9_isRow_74 (by decide) ?_
              refine lv_goto (tgt := 79) hx hb dX9_isRow_75 (by decide) ?_
              refine r_zret (v := 1) hx hb hr rfl hlocks w dX9_isRow_79 ?_
              rw [hi_]
              exact ⟨rfl, by first | exact Bq.t (by omega) | exact Bq.f (by omega)⟩
          · have c31 : ¬ ((((pA M f) : Nat) : Int) ≤ ((2 : Nat) : Int)) := fun q => c31 ((i_le (S.2.1 f (by omega)) (by decide : (2 : Int32).toInt = ((2 : Nat) : Int))).mpr q)
            refine lv_iload hx hb dX9_isRow_60 (lv_at hl 6 rfl) ?_
            refine lv_iconst (v := 1) hx hb dX9_isRow_62 (by decide) ?_
            refine lv_isub hx hb dX9_isRow_63 ?_
            refine lv_topi (fun y37 ey37 => ?_)
            have ty37 : y37.toInt = (((mB u) : Nat) : Int) - ((1 : Nat) : Int) := i_sub ey37 hp4 (by decide : (1 : Int32).toInt = ((1 : Nat) : Int)) (by omega)
            refine lv_goto (tgt := 68) hx hb dX9_isRow_64 (by decide) ?_
            refine r_callI w (va_runS (As := [.int p3, .int 0, .int y37]) (rest := []) ⟨hx, hb, hml, hown, hts⟩ (c_X9_in l p3 0 y37) (va_cwS 3 hts gX9_isRow_X9_in rfl rfl rfl (by decide +kernel) ⟨Nat.le_of_ble_eq_true rfl, Nat.le_of_ble_eq_true rfl⟩) (r_preS w) rfl rfl hl.1 rfl (lv_room (Nat.le_of_ble_eq_true rfl)) dX9_isRow_68 ⟨Nat.zero_le _, Nat.zero_le _⟩) (fun r39 h38 H locs hp w => ?_)
            obtain ⟨eh_, qq40⟩ := hp
            have eh_ := eh_.symm
            subst eh_
            have b41 : Bq r39 (((0 : Nat) : Int) ≤ p3.toInt ∧ p3.toInt ≤ ((((mB u) : Nat) : Int) - ((1 : Nat) : Int))) := qq40.iff (by rw [((rfl : p3.toInt = p3.toInt) : (p3 : Int32).toInt = _), ((by decide : (0 : Int32).toInt = ((0 : Nat) : Int)) : (0 : Int32).toInt = _), (ty37 : (y37 : Int32).toInt = _)])
            refine lv_if_eq (tgt := 78) hx hb dX9_isRow_71 (by decide) (fun c42 => ?_) (fun c42 => ?_)
            · have c42 := b41.eq c42
              refine lv_iconst (v := 0) hx hb dX9_isRow_78 (by decide) ?_
              refine r_zret (v := 0) hx hb hr rfl hlocks w dX9_isRow_79 ?_
              rw [hi_]
              exact ⟨rfl, by first | exact Bq.t (by omega) | exact Bq.f (by omega)⟩
            · have c42 := b41.ne c42
              refine lv_iconst (v := 1) hx hb dX9_isRow_74 (by decide) ?_
              refine lv_goto (tgt := 79) hx hb dX9_isRow_75 (by decide) ?_
              refine r_zret (v := 1) hx hb hr rfl hlocks w dX9_isRow_79 ?_
              rw [hi_]
              exact ⟨rfl, by first | exact Bq.t (by omega) | exact Bq.f (by omega)⟩
  · have c1 : ¬ ((((pA M f) : Nat) : Int) ≤ (0 : Int)) := fun q => c1 ((i_le (S.2.1 f (by omega)) (rfl : (0 : Int32).toInt = 0)).mpr q)
    refine lv_iload hx hb dX9_isRow_15 (lv_at hl 6 rfl) ?_
    refine lv_iconst (v := 1) hx hb dX9_isRow_17 (by decide) ?_
    refine lv_isub hx hb dX9_isRow_18 ?_
    refine lv_topi (fun y43 ey43 => ?_)
    have ty43 : y43.toInt = (((mB u) : Nat) : Int) - ((1 : Nat) : Int) := i_sub ey43 hp4 (by decide : (1 : Int32).toInt = ((1 : Nat) : Int)) (by omega)
    refine lv_goto (tgt := 23) hx hb dX9_isRow_19 (by decide) ?_
    refine r_callI w (va_runS (As := [.int p1, .int 0, .int y43]) (rest := []) ⟨hx, hb, hml, hown, hts⟩ (c_X9_in l p1 0 y43) (va_cwS 3 hts gX9_isRow_X9_in rfl rfl rfl (by decide +kernel) ⟨Nat.le_of_ble_eq_true rfl, Nat.le_of_ble_eq_true rfl⟩) (r_preS w) rfl rfl hl.1 rfl (lv_room (Nat.le_of_ble_eq_true rfl)) dX9_isRow_23 ⟨Nat.zero_le _, Nat.zero_le _⟩) (fun r45 h44 H locs hp w => ?_)
    obtain ⟨eh_, qq46⟩ := hp
    have eh_ := eh_.symm
    subst eh_
    have b47 : Bq r45 (((0 : Nat) : Int) ≤ p1.toInt ∧ p1.toInt ≤ ((((mB u) : Nat) : Int) - ((1 : Nat) : Int))) := qq46.iff (by rw [((rfl : p1.toInt = p1.toInt) : (p1 : Int32).toInt = _), ((by decide : (0 : Int32).toInt = ((0 : Nat) : Int)) : (0 : Int32).toInt = _), (ty43 : (y43 : Int32).toInt = _)])
    refine lv_if_eq (tgt := 78) hx hb dX9_isRow_26 (by decide) (fun c48 => ?_) (fun c48 => ?_)
    · have c48 := b47.eq c48
      refine lv_iconst (v := 0) hx hb dX9_isRow_78 (by decide) ?_
      refine r_zret (v := 0) hx hb hr rfl hlocks w dX9_isRow_79 ?_
      rw [hi_]
      exact ⟨rfl, by first | exact Bq.t (by omega) | exact Bq.f (by omega)⟩
    · have c48 := b47.ne c48
      refine lv_iload_n hx hb dX9_isRow_29 rfl (lv_at hl 4 rfl) ?_
      refine lv_iconst (v := 0) hx hb dX9_isRow_30 (by decide) ?_
      refine lv_iload hx hb dX9_isRow_31 (lv_at hl 0 rfl) ?_
      refine lv_iconst (v := 1) hx hb dX9_isRow_33 (by decide) ?_
      refine lv_icmp_le (tgt := 44) hx hb dX9_isRow_34 (by decide) (fun c49 => ?_) (fun c49 => ?_)
      · have c49 : (((pA M f) : Nat) : Int) ≤ ((1 : Nat) : Int) := (i_le (S.2.1 f (by omega)) (by decide : (1 : Int32).toInt = ((1 : Nat) : Int))).mp c49
        refine lv_iconst (v := 0) hx hb dX9_isRow_44 (by decide) ?_
        refine r_callI w (va_runS (As := [.int p2, .int 0, .int 0]) (rest := []) ⟨hx, hb, hml, hown, hts⟩ (c_X9_in l p2 0 0) (va_cwS 3 hts gX9_isRow_X9_in rfl rfl rfl (by decide +kernel) ⟨Nat.le_of_ble_eq_true rfl, Nat.le_of_ble_eq_true rfl⟩) (r_preS w) rfl rfl hl.1 rfl (lv_room (Nat.le_of_ble_eq_true rfl)) dX9_isRow_45 ⟨Nat.zero_le _, Nat.zero_le _⟩) (fun r51 h50 H locs hp w => ?_)
        obtain ⟨eh_, qq52⟩ := hp
        have eh_ := eh_.symm
        subst eh_
        have b53 : Bq r51 (((0 : Nat) : Int) ≤ p2.toInt ∧ p2.toInt ≤ ((0 : Nat) : Int)) := qq52.iff (by rw [((rfl : p2.toInt = p2.toInt) : (p2 : Int32).toInt = _), ((by decide : (0 : Int32).toInt = ((0 : Nat) : Int)) : (0 : Int32).toInt = _)])
        refine lv_if_eq (tgt := 78) hx hb dX9_isRow_48 (by decide) (fun c54 => ?_) (fun c54 => ?_)
        · have c54 := b53.eq c54
          refine lv_iconst (v := 0) hx hb dX9_isRow_78 (by decide) ?_
          refine r_zret (v := 0) hx hb hr rfl hlocks w dX9_isRow_79 ?_
          rw [hi_]
          exact ⟨rfl, by first | exact Bq.t (by omega) | exact Bq.f (by omega)⟩
        · have c54 := b53.ne c54
          refine lv_iload hx hb dX9_isRow_51 (lv_at hl 5 rfl) ?_
          refine lv_iconst (v := 0) hx hb dX9_isRow_53 (by decide) ?_
          refine lv_iload hx hb dX9_isRow_54 (lv_at hl 0 rfl) ?_
          refine lv_iconst (v := 2) hx hb dX9_isRow_56 (by decide) ?_
          refine lv_icmp_le (tgt := 67) hx hb dX9_isRow_57 (by decide) (fun c55 => ?_) (fun c55 => ?_)
          · have c55 : (((pA M f) : Nat) : Int) ≤ ((2 : Nat) : Int) := (i_le (S.2.1 f (by omega)) (by decide : (2 : Int32).toInt = ((2 : Nat) : Int))).mp c55
            refine lv_iconst (v := 0) hx hb dX9_isRow_67 (by decide) ?_
            refine r_callI w (va_runS (As := [.int p3, .int 0, .int 0]) (rest := []) ⟨hx, hb, hml, hown, hts⟩ (c_X9_in l p3 0 0) (va_cwS 3 hts gX9_isRow_X9_in rfl rfl rfl (by decide +kernel) ⟨Nat.le_of_ble_eq_true rfl, Nat.le_of_ble_eq_true rfl⟩) (r_preS w) rfl rfl hl.1 rfl (lv_room (Nat.le_of_ble_eq_true rfl)) dX9_isRow_68 ⟨Nat.zero_le _, Nat.zero_le _⟩) (fun r57 h56 H locs hp w => ?_)
            obtain ⟨eh_, qq58⟩ := hp
            have eh_ := eh_.symm
            subst eh_
            have b59 : Bq r57 (((0 : Nat) : Int) ≤ p3.toInt ∧ p3.toInt ≤ ((0 : Nat) : Int)) := qq58.iff (by rw [((rfl : p3.toInt = p3.toInt) : (p3 : Int32).toInt = _), ((by decide : (0 : Int32).toInt = ((0 : Nat) : Int)) : (0 : Int32).toInt = _)])
            refine lv_if_eq (tgt := 78) hx hb dX9_isRow_71 (by decide) (fun c60 => ?_) (fun c60 => ?_)
            · have c60 := b59.eq c60
              refine lv_iconst (v := 0) hx hb dX9_isRow_78 (by decide) ?_
              refine r_zret (v := 0) hx hb hr rfl hlocks w dX9_isRow_79 ?_
              rw [hi_]
              exact ⟨rfl, by first | exact Bq.t (by omega) | exact Bq.f (by omega)⟩
            · have c60 := b59.ne c60
              refine lv_iconst (v := 1) hx hb dX9_isRow_74 (by decide) ?_
              refine lv_goto (tgt := 79) hx hb dX9_isRow_75 (by decide) ?_
              refine r_zret (v := 1) hx hb hr rfl hlocks w dX9_isRow_79 ?_
              rw [hi_]
              exact ⟨rfl, by first | exact Bq.t (by omega) | exact Bq.f (by omega)⟩
          · have c55 : ¬ ((((pA M f) : Nat) : Int) ≤ ((2 : Nat) : Int)) := fun q => c55 ((i_le (S.2.1 f (by omega)) (by decide : (2 : Int32).toInt = ((2 : Nat) : Int))).mpr q)
            refine lv_iload hx hb dX9_isRow_60 (lv_at hl 6 rfl) ?_
            refine lv_iconst (v := 1) hx hb dX9_isRow_62 (by decide) ?_
            refine lv_isub hx hb dX9_isRow_63 ?_
            refine lv_topi (fun y61 ey61 => ?_)
            have ty61 : y61.toInt = (((mB u) : Nat) : Int) - ((1 : Nat) : Int) := i_sub ey61 hp4 (by decide : (1 : Int32).toInt = ((1 : Nat) : Int)) (by omega)
            refine lv_goto (tgt := 68) hx hb dX9_isRow_64 (by decide) ?_
            refine r_callI w (va_runS (As := [.int p3, .int 0, .int y61]) (rest := []) ⟨hx, hb, hml, hown, hts⟩ (c_X9_in l p3 0 y61) (va_cwS 3 hts gX9_isRow_X9_in rfl rfl rfl (by decide +kernel) ⟨Nat.le_of_ble_eq_true rfl, Nat.le_of_ble_eq_true rfl⟩) (r_preS w) rfl rfl hl.1 rfl (lv_room (Nat.le_of_ble_eq_true rfl)) dX9_isRow_68 ⟨Nat.zero_le _, Nat.zero_le _⟩) (fun r63 h62 H locs hp w => ?_)
            obtain ⟨eh_, qq64⟩ := hp
            have eh_ := eh_.symm
            subst eh_
            have b65 : Bq r63 (((0 : Nat) : Int) ≤ p3.toInt ∧ p3.toInt ≤ ((((mB u) : Nat) : Int) - ((1 : Nat) : Int))) := qq64.iff (by rw [((rfl : p3.toInt = p3.toInt) : (p3 : Int32).toInt = _), ((by decide : (0 : Int32).toInt = ((0 : Nat) : Int)) : (0 : Int32).toInt = _), (ty61 : (y61 : Int32).toInt = _)])
            refine lv_if_eq (tgt := 78) hx hb dX9_isRow_71 (by decide) (fun c66 => ?_) (fun c66 => ?_)
            · have c66 := b65.eq c66
              refine lv_iconst (v := 0) hx hb dX9_isRow_78 (by decide) ?_
              refine r_zret (v := 0) hx hb hr rfl hlocks w dX9_isRow_79 ?_
              rw [hi_]
              exact ⟨rfl, by first | exact Bq.t (by omega) | exact Bq.f (by omega)⟩
            · have c66 := b65.ne c66
              refine lv_iconst (v := 1) hx hb dX9_isRow_74 (by decide) ?_
              refine lv_goto (tgt := 79) hx hb dX9_isRow_75 (by decide) ?_
              refine r_zret (v := 1) hx hb hr rfl hlocks w dX9_isRow_79 ?_
              rw [hi_]
              exact ⟨rfl, by first | exact Bq.t (by omega) | exact Bq.f (by omega)⟩
      · have c49 : ¬ ((((pA M f) : Nat) : Int) ≤ ((1 : Nat) : Int)) := fun q => c49 ((i_le (S.2.1 f (by omega)) (by decide : (1 : Int32).toInt = ((1 : Nat) : Int))).mpr q)
        refine lv_iload hx hb dX9_isRow_37 (lv_at hl 6 rfl) ?_
        refine lv_iconst (v := 1) hx hb dX9_isRow_39 (by decide) ?_
        refine lv_isub hx hb dX9_isRow_40 ?_
        refine lv_topi (fun y67 ey67 => ?_)
        have ty67 : y67.toInt = (((mB u) : Nat) : Int) - ((1 : Nat) : Int) := i_sub ey67 hp4 (by decide : (1 : Int32).toInt = ((1 : Nat) : Int)) (by omega)
        refine lv_goto (tgt := 45) hx hb dX9_isRow_41 (by decide) ?_
        refine r_callI w (va_runS (As := [.int p2, .int 0, .int y67]) (rest := []) ⟨hx, hb, hml, hown, hts⟩ (c_X9_in l p2 0 y67) (va_cwS 3 hts gX9_isRow_X9_in rfl rfl rfl (by decide +kernel) ⟨Nat.le_of_ble_eq_true rfl, Nat.le_of_ble_eq_true rfl⟩) (r_preS w) rfl rfl hl.1 rfl (lv_room (Nat.le_of_ble_eq_true rfl)) dX9_isRow_45 ⟨Nat.zero_le _, Nat.zero_le _⟩) (fun r69 h68 H locs hp w => ?_)
        obtain ⟨eh_, qq70⟩ := hp
        have eh_ := eh_.symm
        subst eh_
        have b71 : Bq r69 (((0 : Nat) : Int) ≤ p2.toInt ∧ p2.toInt ≤ ((((mB u) : Nat) : Int) - ((1 : Nat) : Int))) := qq70.iff (by rw [((rfl : p2.toInt = p2.toInt) : (p2 : Int32).toInt = _), ((by decide : (0 : Int32).toInt = ((0 : Nat) : Int)) : (0 : Int32).toInt = _), (ty67 : (y67 : Int32).toInt = _)])
        refine lv_if_eq (tgt := 78) hx hb dX9_isRow_48 (by decide) (fun c72 => ?_) (fun c72 => ?_)
        · have c72 := b71.eq c72
          refine lv_iconst (v := 0) hx hb dX9_isRow_78 (by decide) ?_
          refine r_zret (v := 0) hx hb hr rfl hlocks w dX9_isRow_79 ?_
          rw [hi_]
          exact ⟨rfl, by first | exact Bq.t (by omega) | exact Bq.f (by omega)⟩
        · have c72 := b71.ne c72
          refine lv_iload hx hb dX9_isRow_51 (lv_at hl 5 rfl) ?_
          refine lv_iconst (v := 0) hx hb dX9_isRow_53 (by decide) ?_
          refine lv_iload hx hb dX9_isRow_54 (lv_at hl 0 rfl) ?_
          refine lv_iconst (v := 2) hx hb dX9_isRow_56 (by decide) ?_
          refine lv_icmp_le (tgt := 67) hx hb dX9_isRow_57 (by decide) (fun c73 => ?_) (fun c73 => ?_)
          · have c73 : (((pA M f) : Nat) : Int) ≤ ((2 : Nat) : Int) := (i_le (S.2.1 f (by omega)) (by decide : (2 : Int32).toInt = ((2 : Nat) : Int))).mp c73
            refine lv_iconst (v := 0) hx hb dX9_isRow_67 (by decide) ?_
            refine r_callI w (va_runS (As := [.int p3, .int 0, .int 0]) (rest := []) ⟨hx, hb, hml, hown, hts⟩ (c_X9_in l p3 0 0) (va_cwS 3 hts gX9_isRow_X9_in rfl rfl rfl (by decide +kernel) ⟨Nat.le_of_ble_eq_true rfl, Nat.le_of_ble_eq_true rfl⟩) (r_preS w) rfl rfl hl.1 rfl (lv_room (Nat.le_of_ble_eq_true rfl)) dX9_isRow_68 ⟨Nat.zero_le _, Nat.zero_le _⟩) (fun r75 h74 H locs hp w => ?_)
            obtain ⟨eh_, qq76⟩ := hp
            have eh_ := eh_.symm
            subst eh_
            have b77 : Bq r75 (((0 : Nat) : Int) ≤ p3.toInt ∧ p3.toInt ≤ ((0 : Nat) : Int)) := qq76.iff (by rw [((rfl : p3.toInt = p3.toInt) : (p3 : Int32).toInt = _), ((by decide : (0 : Int32).toInt = ((0 : Nat) : Int)) : (0 : Int32).toInt = _)])
            refine lv_if_eq (tgt := 78) hx hb dX9_isRow_71 (by decide) (fun c78 => ?_) (fun c78 => ?_)
            · have c78 := b77.eq c78
              refine lv_iconst (v := 0) hx hb dX9_isRow_78 (by decide) ?_
              refine r_zret (v := 0) hx hb hr rfl hlocks w dX9_isRow_79 ?_
              rw [hi_]
              exact ⟨rfl, by first | exact Bq.t (by omega) | exact Bq.f (by omega)⟩
            · have c78 := b77.ne c78
              refine lv_iconst (v := 1) hx hb dX9_isRow_74 (by decide) ?_
              refine lv_goto (tgt := 79) hx hb dX9_isRow_75 (by decide) ?_
              refine r_zret (v := 1) hx hb hr rfl hlocks w dX9_isRow_79 ?_
              rw [hi_]
              exact ⟨rfl, by first | exact Bq.t (by omega) | exact Bq.f (by omega)⟩
          · have c73 : ¬ ((((pA M f) : Nat) : Int) ≤ ((2 : Nat) : Int)) := fun q => c73 ((i_le (S.2.1 f (by omega)) (by decide : (2 : Int32).toInt = ((2 : Nat) : Int))).mpr q)
            refine lv_iload hx hb dX9_isRow_60 (lv_at hl 6 rfl) ?_
            refine lv_iconst (v := 1) hx hb dX9_isRow_62 (by decide) ?_
            refine lv_isub hx hb dX9_isRow_63 ?_
            refine lv_topi (fun y79 ey79 => ?_)
            have ty79 : y79.toInt = (((mB u) : Nat) : Int) - ((1 : Nat) : Int) := i_sub ey79 hp4 (by decide : (1 : Int32).toInt = ((1 : Nat) : Int)) (by omega)
            refine lv_goto (tgt := 68) hx hb dX9_isRow_64 (by decide) ?_
            refine r_callI w (va_runS (As := [.int p3, .int 0, .int y79]) (rest := []) ⟨hx, hb, hml, hown, hts⟩ (c_X9_in l p3 0 y79) (va_cwS 3 hts gX9_isRow_X9_in rfl rfl rfl (by decide +kernel) ⟨Nat.le_of_ble_eq_true rfl, Nat.le_of_ble_eq_true rfl⟩) (r_preS w) rfl rfl hl.1 rfl (lv_room (Nat.le_of_ble_eq_true rfl)) dX9_isRow_68 ⟨Nat.zero_le _, Nat.zero_le _⟩) (fun r81 h80 H locs hp w => ?_)
            obtain ⟨eh_, qq82⟩ := hp
            have eh_ := eh_.symm
            subst eh_
            have b83 : Bq r81 (((0 : Nat) : Int) ≤ p3.toInt ∧ p3.toInt ≤ ((((mB u) : Nat) : Int) - ((1 : Nat) : Int))) := qq82.iff (by rw [((rfl : p3.toInt = p3.toInt) : (p3 : Int32).toInt = _), ((by decide : (0 : Int32).toInt = ((0 : Nat) : Int)) : (0 : Int32).toInt = _), (ty79 : (y79 : Int32).toInt = _)])
            refine lv_if_eq (tgt := 78) hx hb dX9_isRow_71 (by decide) (fun c84 => ?_) (fun c84 => ?_)
            · have c84 := b83.eq c84
              refine lv_iconst (v := 0) hx hb dX9_isRow_78 (by decide) ?_
              refine r_zret (v := 0) hx hb hr rfl hlocks w dX9_isRow_79 ?_
              rw [hi_]
              exact ⟨rfl, by first | exact Bq.t (by omega) | exact Bq.f (by omega)⟩
            · have c84 := b83.ne c84
              refine lv_iconst (v := 1) hx hb dX9_isRow_74 (by decide) ?_
              refine lv_goto (tgt := 79) hx hb dX9_isRow_75 (by decide) ?_
              refine r_zret (v := 1) hx hb hr rfl hlocks w dX9_isRow_79 ?_
              rw [hi_]
              exact ⟨rfl, by first | exact Bq.t (by omega) | exact Bq.f (by omega)⟩

theorem inX9_comesTo_X9 : ∀ w ∈ wsX90, w ∈ wsX9_comesTo := by decide +kernel
abbrev rm_X9_comesTo : Room := { frames := 3, cells := 0, slots := 0, locals := 79 }
set_option maxHeartbeats 4000000 in
set_option maxRecDepth 100000 in
theorem c_X9_comesTo (l : Launch) {g : GE} {h : Nat → va_E} {r : Nat} {nm kn um sv sz ra rm : Int32} {ga gk gl gB gt gn gr gp gh gv gs gx gf : Nat → Int32} (D : MdA g h r nm kn um sv sz ra rm ga gk gl gB gt gn gr gp gh gv gs gx gf) {M : PRG} (S : RS M nm ga gk gl gB) (hP : PV M) {u : Nat} (hu : u < 3) {T : Nat → Nat → Nat} (hL : TLt u M T) (hT : RT u M gt T) {f x y z : Nat} (p0 p1 p2 p3 p4 : Int32) (hp0 : p0.toInt = (u : Int)) (hp1 : p1.toInt = (f : Int)) (hf : f < pN M) (hp2 : p2.toInt = (x : Int)) (hp3 : p3.toInt = (y : Int)) (hp4 : p4.toInt = (z : Int)) (hI : mIs u (pA M f) x y z) : MI l yX9_comesTo wsX9_comesTo rm_X9_comesTo [.ref (g.2.2.1 r), .int p0, .int p1, .int p2, .int p3, .int p4] g h (fun r_ h2 => (∀ k, ¬ (r ≤ k ∧ k < r + 14) → h2 k = h k) ∧ r_.toInt = ((mStep u M T f (x + mB u * y + mB u * mB u * z) : Nat) : Int) ∧ ∃ gp2 : Nat → Int32, MdA g h2 r nm kn um sv sz ra rm ga gk gl gB gt gn gr gp2 gh gv gs gx gf) := by
  refine Met.ofW (cc := cX9_comesTo) (maxL := 10) (ret := (some .int)) (by decide) rfl ?_
  intro p e s m args below meth c s₁ B hml hv
  obtain ⟨rfl, w0⟩ := hv
  have hx := B.exec
  have hb := B.bytes
  have hr := B.returns
  have hts := atoms_spec (ws := wsX9_comesTo) B.pre
  have hown : s.vm.findClass RX9 = some m.cls := findClass_of_methodNamed B.named
  have hlocks := B.notSynchronized
  have w := w0.start
  clear w0
  have hl := lv_entry ([.ref (g.2.2.1 r), .int p0, .int p1, .int p2, .int p3, .int p4]) (n := 10) (Nat.le_of_ble_eq_true rfl)
  rw [lg_entry_eq]
  generalize (lg_sl ([.ref (g.2.2.1 r), .int p0, .int p1, .int p2, .int p3, .int p4]) ++ List.replicate (10 - (lg_sl ([.ref (g.2.2.1 r), .int p0, .int p1, .int p2, .int p3, .int p4])).length) Slot.unset).toArray = ls at hl ⊢
  have hl : lv_has ls 10 [(0, .ref (g.2.2.1 r)), (1, .int p0), (2, .int p1), (3, .int p2), (4, .int p3), (5, .int p4)] := hl
  have hn4 := hP.2.1
  obtain ⟨ha3, hk3, -⟩ := hP.2.2 f hf
  obtain ⟨hi1, hi2, hi3, -⟩ := mIs_lt hI
  obtain ⟨d0, d1, d2⟩ := dig3 hi1 hi2 hi3
  have hst_ := mStop_iff (P := M) (f := f) ha3 d0 d1 d2
  have cuts : ∀ N : Nat, (∀ (x8 : Int32) (hc : Nat → va_E) (H : Heap) (locs : List Loc) (ls : Array Slot), WD g (inW g) s hc H locs → lv_has ls 10 [(0, .ref (g.2.2.1 r)), (1, .int p0), (2, .int p1), (3, .int p2), (4, .int p3), (5, .int p4), (6, .int ((ga f))), (7, .int ((gk f))), (8, .int x8)] → (Bq x8 ((0 < pA M f ∧ x = mN u) ∨ (1 < pA M f ∧ y = mN u) ∨ (2 < pA M f ∧ z = mN u))) → (MdA g hc r nm kn um sv sz ra rm ga gk gl gB gt gn gr gp gh gv gs gx gf) → (hc = h) → 2 < N → W p l e (headSpec wsX9_comesTo rm_X9_comesTo).room s m ([.ref (g.2.2.1 r), .int p0, .int p1, .int p2, .int p3, .int p4] : List Value).toArray below meth c H locs 0 0 (MQ below (va_Qi (fun r_ h2 => (∀ k, ¬ (r ≤ k ∧ k < r + 14) → h2 k = h k) ∧ r_.toInt = ((mStep u M T f (x + mB u * y + mB u * mB u * z) : Nat) : Int) ∧ ∃ gp2 : Nat → Int32, MdA g h2 r nm kn um sv sz ra rm ga gk gl gB gt gn gr gp2 gh gv gs gx gf) (Wd g) (inW g)) ([.ref (g.2.2.1 r), .int p0, .int p1, .int p2, .int p3, .int p4] : List Value).toArray s 0 0 (inW g)) (F0 m 66 ls [])) ∧ (∀ (x8 : Int32) (x9 : Int32) (hc : Nat → va_E) (H : Heap) (locs : List Loc) (ls : Array Slot), WD g (inW g) s hc H locs → lv_has ls 10 [(0, .ref (g.2.2.1 r)), (1, .int p0), (2, .int p1), (3, .int p2), (4, .int p3), (5, .int p4), (6, .int ((ga f))), (7, .int ((gk f))), (8, .int x8), (9, .int x9)] → (Bq x8 ((0 < pA M f ∧ x = mN u) ∨ (1 < pA M f ∧ y = mN u) ∨ (2 < pA M f ∧ z = mN u))) → (Bq x9 (0 < pA M f ∧ x = mN u)) → (MdA g hc r nm kn um sv sz ra rm ga gk gl gB gt gn gr gp gh gv gs gx gf) → (hc = h) → 1 < N → W p l e (headSpec wsX9_comesTo rm_X9_comesTo).room s m ([.ref (g.2.2.1 r), .int p0, .int p1, .int p2, .int p3, .int p4] : List Value).toArray below meth c H locs 0 0 (MQ below (va_Qi (fun r_ h2 => (∀ k, ¬ (r ≤ k ∧ k < r + 14) → h2 k = h k) ∧ r_.toInt = ((mStep u M T f (x + mB u * y + mB u * mB u * z) : Nat) : Int) ∧ ∃ gp2 : Nat → Int32, MdA g h2 r nm kn um sv sz ra rm ga gk gl gB gt gn gr gp2 gh gv gs gx gf) (Wd g) (inW g)) ([.ref (g.2.2.1 r), .int p0, .int p1, .int p2, .int p3, .int p4] : List Value).toArray s 0 0 (inW g)) (F0 m 86 ls [])) := by
    intro N
    induction N with
    | zero => exact ⟨by intros; omega, by intros; omega⟩
    | succ N ih =>
      obtain ⟨ih66, ih86⟩ := ih
      refine ⟨?_, ?_⟩
      · intro x8 hc H locs ls w hl hx8 D hh hN_
        refine lv_iload hx hb dX9_comesTo_66 (lv_at hl 6 rfl) ?_
        refine lv_if_le (tgt := 83) hx hb dX9_comesTo_68 (by decide) (fun c1 => ?_) (fun c1 => ?_)
        · have c1 : (((pA M f) : Nat) : Int) ≤ (0 : Int) := (i_le (S.2.1 f hf) (rfl : (0 : Int32).toInt = 0)).mp c1
          refine lv_iconst (v := 0) hx hb dX9_comesTo_83 (by decide) ?_
          refine lv_istore (lv' := [(9, .int 0), (0, .ref (g.2.2.1 r)), (1, .int p0), (2, .int p1), (3, .int p2), (4, .int p3), (5, .int p4), (6, .int ((ga f))), (7, .int ((gk f))), (8, .int x8)]) hx hb dX9_comesTo_84 hl (by decide) rfl (fun ls hl => ?_)
          exact ih86 x8 0 hc _ _ _ w (lv_sub hl [1, 2, 3, 4, 5, 6, 7, 8, 9, 0] rfl) hx8 (by first | exact Bq.t (by omega) | exact Bq.f (by omega)) D hh (by omega)
        · have c1 : ¬ ((((pA M f) : Nat) : Int) ≤ (0 : Int)) := fun q => c1 ((i_le (S.2.1 f hf) (rfl : (0 : Int32).toInt = 0)).mpr q)
          refine lv_iload_n hx hb dX9_comesTo_71 rfl (lv_at hl 1 rfl) ?_
          refine lv_iload_n hx hb dX9_comesTo_72 rfl (lv_at hl 3 rfl) ?_
          refine r_callI w (va_runS (As := [.int p0, .int p2]) (rest := []) ⟨hx, hb, hml, hown, hts⟩ (c_X9_isNever l hu p0 p2 hp0 hp2) (va_cwS 2 hts gX9_comesTo_X9_isNever rfl rfl rfl (by decide +kernel) ⟨Nat.le_of_ble_eq_true rfl, Nat.le_of_ble_eq_true rfl⟩) (r_preS w) rfl rfl hl.1 rfl (lv_room (Nat.le_of_ble_eq_true rfl)) dX9_comesTo_73 ⟨Nat.zero_le _, Nat.zero_le _⟩) (fun r3 h2 H locs hp w => ?_)
          obtain ⟨eh_, qq4⟩ := hp
          have eh_ := eh_.symm
          subst eh_
          refine lv_if_eq (tgt := 83) hx hb dX9_comesTo_76 (by decide) (fun c5 => ?_) (fun c5 => ?_)
          · have c5 := qq4.eq c5
            refine lv_iconst (v := 0) hx hb dX9_comesTo_83 (by decide) ?_
            refine lv_istore (lv' := [(9, .int 0), (0, .ref (g.2.2.1 r)), (1, .int p0), (2, .int p1), (3, .int p2), (4, .int p3), (5, .int p4), (6, .int ((ga f))), (7, .int ((gk f))), (8, .int x8)]) hx hb dX9_comesTo_84 hl (by decide) rfl (fun ls hl => ?_)
            exact ih86 x8 0 hc _ _ _ w (lv_sub hl [1, 2, 3, 4, 5, 6, 7, 8, 9, 0] rfl) hx8 (by first | exact Bq.t (by omega) | exact Bq.f (by omega)) D hh (by omega)
          · have c5 := qq4.ne c5
            refine lv_iconst (v := 1) hx hb dX9_comesTo_79 (by decide) ?_
            refine lv_goto (tgt := 84) hx hb dX9_comesTo_80 (by decide) ?_
            refine lv_istore (lv' := [(9, .int 1), (0, .ref (g.2.2.1 r)), (1, .int p0), (2, .int p1), (3, .int p2), (4, .int p3), (5, .int p4), (6, .int ((ga f))), (7, .int ((gk f))), (8, .int x8)]) hx hb dX9_comesTo_84 hl (by decide) rfl (fun ls hl => ?_)
            exact ih86 x8 1 hc _ _ _ w (lv_sub hl [1, 2, 3, 4, 5, 6, 7, 8, 9, 0] rfl) hx8 (by first | exact Bq.t (by omega) | exact Bq.f (by omega)) D hh (by omega)
      · intro x8 x9 hc H locs ls w hl hx8 hx9 D hh hN_
        refine lv_iload hx hb dX9_comesTo_86 (lv_at hl 7 rfl) ?_
        refine lv_iconst (v := 1) hx hb dX9_comesTo_88 (by decide) ?_
        refine lv_icmp_eq (tgt := 98) hx hb dX9_comesTo_89 (by decide) (fun c6 => ?_) (fun c6 => ?_)
        · have c6 : (((pK M f) : Nat) : Int) = ((1 : Nat) : Int) := (i_eq (S.2.2.1 f hf) (by decide : (1 : Int32).toInt = ((1 : Nat) : Int))).mp c6
          refine lv_iload hx hb dX9_comesTo_98 (lv_at hl 8 rfl) ?_
          refine lv_if_ne (tgt := 114) hx hb dX9_comesTo_100 (by decide) (fun c7 => ?_) (fun c7 => ?_)
          · have c7 := hx8.ne c7
            refine lv_iload_n hx hb dX9_comesTo_114 rfl (lv_at hl 1 rfl) ?_
            refine r_callI w (va_runS (As := [.int p0]) (rest := []) ⟨hx, hb, hml, hown, hts⟩ (c_X9_neverOf l hu p0 hp0) (va_cwS 1 hts gX9_comesTo_X9_neverOf rfl rfl rfl (by decide +kernel) ⟨Nat.le_of_ble_eq_true rfl, Nat.le_of_ble_eq_true rfl⟩) (r_preS w) rfl rfl hl.1 rfl (lv_room (Nat.le_of_ble_eq_true rfl)) dX9_comesTo_115 ⟨Nat.zero_le _, Nat.zero_le _⟩) (fun r9 h8 H locs hp w => ?_)
            obtain ⟨eh_, qq10⟩ := hp
            have eh_ := eh_.symm
            subst eh_
            refine r_iret (v := r9) hx hb hr hlocks w dX9_comesTo_118 ?_
            exact ⟨fun k_ _ => by rw [hh], qq10.trans (by rw [mStep_t (hst_.mpr (by omega))]), gp, D⟩
          · have c7 := hx8.eq c7
            refine lv_iload hx hb dX9_comesTo_103 (lv_at hl 7 rfl) ?_
            refine lv_iconst (v := 2) hx hb dX9_comesTo_105 (by decide) ?_
            refine lv_icmp_ne (tgt := 119) hx hb dX9_comesTo_106 (by decide) (fun c11 => ?_) (fun c11 => ?_)
            · have c11 : ¬ ((((pK M f) : Nat) : Int) = ((2 : Nat) : Int)) := fun q => c11 ((i_eq (S.2.2.1 f hf) (by decide : (2 : Int32).toInt = ((2 : Nat) : Int))).mpr q)
              refine lv_iload hx hb dX9_comesTo_119 (lv_at hl 7 rfl) ?_
              refine lv_iconst (v := 3) hx hb dX9_comesTo_121 (by decide) ?_
              refine lv_icmp_ne (tgt := 143) hx hb dX9_comesTo_122 (by decide) (fun c12 => ?_) (fun c12 => ?_)
              · have c12 : ¬ ((((pK M f) : Nat) : Int) = ((3 : Nat) : Int)) := fun q => c12 ((i_eq (S.2.2.1 f hf) (by decide : (3 : Int32).toInt = ((3 : Nat) : Int))).mpr q)
                refine lv_iload hx hb dX9_comesTo_143 (lv_at hl 7 rfl) ?_
                refine lv_iconst (v := 3) hx hb dX9_comesTo_145 (by decide) ?_
                refine lv_icmp_ne (tgt := 169) hx hb dX9_comesTo_146 (by decide) (fun c13 => ?_) (fun c13 => ?_)
                · have c13 : ¬ ((((pK M f) : Nat) : Int) = ((3 : Nat) : Int)) := fun q => c13 ((i_eq (S.2.2.1 f hf) (by decide : (3 : Int32).toInt = ((3 : Nat) : Int))).mpr q)
                  refine lv_aload_n hx hb dX9_comesTo_169 rfl (lv_at hl 0 rfl) ?_
                  refine lv_iload_n hx hb dX9_comesTo_170 rfl (lv_at hl 1 rfl) ?_
                  refine lv_iload_n hx hb dX9_comesTo_171 rfl (lv_at hl 2 rfl) ?_
                  refine lv_iload_n hx hb dX9_comesTo_172 rfl (lv_at hl 3 rfl) ?_
                  refine lv_iload hx hb dX9_comesTo_173 (lv_at hl 4 rfl) ?_
                  refine lv_iload hx hb dX9_comesTo_175 (lv_at hl 5 rfl) ?_
                  refine r_callI w (va_runV (As := [.int p0, .int p1, .int p2, .int p3, .int p4]) (rest := []) ⟨hx, hb, hml, hown, hts⟩ (c_X9_bodyBy l D S hP hu hL hT (xs := mArg u M f (x + mB u * y + mB u * mB u * z)) p0 p1 p2 p3 p4 hp0 hp1 hf (fun q_ => by first | (exfalso; omega) | exact hp2.trans (by rw [mArg_eq (j := 0) q_ (by first | (rw [if_pos (by omega)]; omega) | rw [if_neg (by omega)]) d0])) (fun q_ => by first | (exfalso; omega) | exact hp3.trans (by rw [mArg_eq (j := 1) q_ (by first | (rw [if_pos (by omega)]; omega) | rw [if_neg (by omega)]) d1])) (fun q_ => by first | (exfalso; omega) | exact hp4.trans (by rw [mArg_eq (j := 2) q_ (by first | (rw [if_pos (by omega)]; omega) | rw [if_neg (by omega)]) d2])) (mArg_lt u M f _)) (cwV 5 hts gX9_comesTo_X9_bodyBy rfl rfl rfl (by decide +kernel) ⟨Nat.le_of_ble_eq_true rfl, Nat.le_of_ble_eq_true rfl⟩) (r_preV w (by have := D.1; omega) D.c0 rfl) rfl rfl hl.1 rfl (lv_room (Nat.le_of_ble_eq_true rfl)) dX9_comesTo_177 ⟨Nat.zero_le _, Nat.zero_le _⟩) (fun r15 h14 H locs hp w => ?_)
                  obtain ⟨hfk16, hrk16, gpk16, D⟩ := hp
                  refine r_iret (v := r15) hx hb hr hlocks w dX9_comesTo_180 ?_
                  exact ⟨fun k_ hk_ => (hfk16 k_ hk_).trans (by rw [hh]), hrk16.trans (by rw [mStep_f (fun q_ => absurd (hst_.mp q_) (by omega))]), _, D⟩
                · have c13 : (((pK M f) : Nat) : Int) = ((3 : Nat) : Int) := (i_eq (S.2.2.1 f hf) (by decide : (3 : Int32).toInt = ((3 : Nat) : Int))).mp c13
                  refine lv_iload hx hb dX9_comesTo_149 (lv_at hl 6 rfl) ?_
                  refine lv_iconst (v := 3) hx hb dX9_comesTo_151 (by decide) ?_
                  refine lv_icmp_ne (tgt := 169) hx hb dX9_comesTo_152 (by decide) (fun c17 => ?_) (fun c17 => ?_)
                  · have c17 : ¬ ((((pA M f) : Nat) : Int) = ((3 : Nat) : Int)) := fun q => c17 ((i_eq (S.2.1 f hf) (by decide : (3 : Int32).toInt = ((3 : Nat) : Int))).mpr q)
                    refine lv_aload_n hx hb dX9_comesTo_169 rfl (lv_at hl 0 rfl) ?_
                    refine lv_iload_n hx hb dX9_comesTo_170 rfl (lv_at hl 1 rfl) ?_
                    refine lv_iload_n hx hb dX9_comesTo_171 rfl (lv_at hl 2 rfl) ?_
                    refine lv_iload_n hx hb dX9_comesTo_172 rfl (lv_at hl 3 rfl) ?_
                    refine lv_iload hx hb dX9_comesTo_173 (lv_at hl 4 rfl) ?_
                    refine lv_iload hx hb dX9_comesTo_175 (lv_at hl 5 rfl) ?_
                    refine r_callI w (va_runV (As := [.int p0, .int p1, .int p2, .int p3, .int p4]) (rest := []) ⟨hx, hb, hml, hown, hts⟩ (c_X9_bodyBy l D S hP hu hL hT (xs := mArg u M f (x + mB u * y + mB u * mB u * z)) p0 p1 p2 p3 p4 hp0 hp1 hf (fun q_ => by first | (exfalso; omega) | exact hp2.trans (by rw [mArg_eq (j := 0) q_ (by first | (rw [if_pos (by omega)]; omega) | rw [if_neg (by omega)]) d0])) (fun q_ => by first | (exfalso; omega) | exact hp3.trans (by rw [mArg_eq (j := 1) q_ (by first | (rw [if_pos (by omega)]; omega) | rw [if_neg (by omega)]) d1])) (fun q_ => by first | (exfalso; omega) | exact hp4.trans (by rw [mArg_eq (j := 2) q_ (by first | (rw [if_pos (by omega)]; omega) | rw [if_neg (by omega)]) d2])) (mArg_lt u M f _)) (cwV 5 hts gX9_comesTo_X9_bodyBy rfl rfl rfl (by decide +kernel) ⟨Nat.le_of_ble_eq_true rfl, Nat.le_of_ble_eq_true rfl⟩) (r_preV w (by have := D.1; omega) D.c0 rfl) rfl rfl hl.1 rfl (lv_room (Nat.le_of_ble_eq_true rfl)) dX9_comesTo_177 ⟨Nat.zero_le _, Nat.zero_le _⟩) (fun r19 h18 H locs hp w => ?_)
                    obtain ⟨hfk20, hrk20, gpk20, D⟩ := hp
                    refine r_iret (v := r19) hx hb hr hlocks w dX9_comesTo_180 ?_
                    exact ⟨fun k_ hk_ => (hfk20 k_ hk_).trans (by rw [hh]), hrk20.trans (by rw [mStep_f (fun q_ => absurd (hst_.mp q_) (by omega))]), _, D⟩
                  · have c17 : (((pA M f) : Nat) : Int) = ((3 : Nat) : Int) := (i_eq (S.2.1 f hf) (by decide : (3 : Int32).toInt = ((3 : Nat) : Int))).mp c17
                    refine lv_aload_n hx hb dX9_comesTo_155 rfl (lv_at hl 0 rfl) ?_
                    refine lv_iload_n hx hb dX9_comesTo_156 rfl (lv_at hl 1 rfl) ?_
                    refine lv_iload_n hx hb dX9_comesTo_157 rfl (lv_at hl 2 rfl) ?_
                    refine lv_iload hx hb dX9_comesTo_158 (lv_at hl 5 rfl) ?_
                    refine lv_iload hx hb dX9_comesTo_160 (lv_at hl 4 rfl) ?_
                    refine lv_iload_n hx hb dX9_comesTo_162 rfl (lv_at hl 3 rfl) ?_
                    refine r_callI w (va_runV (As := [.int p0, .int p1, .int p4, .int p3, .int p2]) (rest := []) ⟨hx, hb, hml, hown, hts⟩ (c_X9_bodyBy l D S hP hu hL hT (xs := mArg u M f (x + mB u * y + mB u * mB u * z)) p0 p1 p4 p3 p2 hp0 hp1 hf (fun q_ => by first | (exfalso; omega) | exact hp4.trans (by rw [mArg_eq (j := 2) q_ (by first | (rw [if_pos (by omega)]; omega) | rw [if_neg (by omega)]) d2])) (fun q_ => by first | (exfalso; omega) | exact hp3.trans (by rw [mArg_eq (j := 1) q_ (by first | (rw [if_pos (by omega)]; omega) | rw [if_neg (by omega)]) d1])) (fun q_ => by first | (exfalso; omega) | exact hp2.trans (by rw [mArg_eq (j := 0) q_ (by first | (rw [if_pos (by omega)]; omega) | rw [if_neg (by omega)]) d0])) (mArg_lt u M f _)) (cwV 5 hts gX9_comesTo_X9_bodyBy rfl rfl rfl (by decide +kernel) ⟨Nat.le_of_ble_eq_true rfl, Nat.le_of_ble_eq_true rfl⟩) (r_preV w (by have := D.1; omega) D.c0 rfl) rfl rfl hl.1 rfl (lv_room (Nat.le_of_ble_eq_true rfl)) dX9_comesTo_163 ⟨Nat.zero_le _, Nat.zero_le _⟩) (fun r22 h21 H locs hp w => ?_)
                    obtain ⟨hfk23, hrk23, gpk23, D⟩ := hp
                    refine lv_goto (tgt := 180) hx hb dX9_comesTo_166 (by decide) ?_
                    refine r_iret (v := r22) hx hb hr hlocks w dX9_comesTo_180 ?_
                    exact ⟨fun k_ hk_ => (hfk23 k_ hk_).trans (by rw [hh]), hrk23.trans (by rw [mStep_f (fun q_ => absurd (hst_.mp q_) (by omega))]), _, D⟩
              · have c12 : (((pK M f) : Nat) : Int) = ((3 : Nat) : Int) := (i_eq (S.2.2.1 f hf) (by decide : (3 : Int32).toInt = ((3 : Nat) : Int))).mp c12
                refine lv_iload hx hb dX9_comesTo_125 (lv_at hl 6 rfl) ?_
                refine lv_iconst (v := 2) hx hb dX9_comesTo_127 (by decide) ?_
                refine lv_icmp_ne (tgt := 143) hx hb dX9_comesTo_128 (by decide) (fun c24 => ?_) (fun c24 => ?_)
                · have c24 : ¬ ((((pA M f) : Nat) : Int) = ((2 : Nat) : Int)) := fun q => c24 ((i_eq (S.2.1 f hf) (by decide : (2 : Int32).toInt = ((2 : Nat) : Int))).mpr q)
                  refine lv_iload hx hb dX9_comesTo_143 (lv_at hl 7 rfl) ?_
                  refine lv_iconst (v := 3) hx hb dX9_comesTo_145 (by decide) ?_
                  refine lv_icmp_ne (tgt := 169) hx hb dX9_comesTo_146 (by decide) (fun c25 => ?_) (fun c25 => ?_)
                  · have c25 : ¬ ((((pK M f) : Nat) : Int) = ((3 : Nat) : Int)) := fun q => c25 ((i_eq (S.2.2.1 f hf) (by decide : (3 : Int32).toInt = ((3 : Nat) : Int))).mpr q)
                    refine lv_aload_n hx hb dX9_comesTo_169 rfl (lv_at hl 0 rfl) ?_
                    refine lv_iload_n hx hb dX9_comesTo_170 rfl (lv_at hl 1 rfl) ?_
                    refine lv_iload_n hx hb dX9_comesTo_171 rfl (lv_at hl 2 rfl) ?_
                    refine lv_iload_n hx hb dX9_comesTo_172 rfl (lv_at hl 3 rfl) ?_
                    refine lv_iload hx hb dX9_comesTo_173 (lv_at hl 4 rfl) ?_
                    refine lv_iload hx hb dX9_comesTo_175 (lv_at hl 5 rfl) ?_
                    refine r_callI w (va_runV (As := [.int p0, .int p1, .int p2, .int p3, .int p4]) (rest := []) ⟨hx, hb, hml, hown, hts⟩ (c_X9_bodyBy l D S hP hu hL hT (xs := mArg u M f (x + mB u * y + mB u * mB u * z)) p0 p1 p2 p3 p4 hp0 hp1 hf (fun q_ => by first | (exfalso; omega) | exact hp2.trans (by rw [mArg_eq (j := 0) q_ (by first | (rw [if_pos (by omega)]; omega) | rw [if_neg (by omega)]) d0])) (fun q_ => by first | (exfalso; omega) | exact hp3.trans (by rw [mArg_eq (j := 1) q_ (by first | (rw [if_pos (by omega)]; omega) | rw [if_neg (by omega)]) d1])) (fun q_ => by first | (exfalso; omega) | exact hp4.trans (by rw [mArg_eq (j := 2) q_ (by first | (rw [if_pos (by omega)]; omega) | rw [if_neg (by omega)]) d2])) (mArg_lt u M f _)) (cwV 5 hts gX9_comesTo_X9_bodyBy rfl rfl rfl (by decide +kernel) ⟨Nat.le_of_ble_eq_true rfl, Nat.le_of_ble_eq_true rfl⟩) (r_preV w (by have := D.1; omega) D.c0 rfl) rfl rfl hl.1 rfl (lv_room (Nat.le_of_ble_eq_true rfl)) dX9_comesTo_177 ⟨Nat.zero_le _, Nat.zero_le _⟩) (fun r27 h26 H locs hp w => ?_)
                    obtain ⟨hfk28, hrk28, gpk28, D⟩ := hp
                    refine r_iret (v := r27) hx hb hr hlocks w dX9_comesTo_180 ?_
                    exact ⟨fun k_ hk_ => (hfk28 k_ hk_).trans (by rw [hh]), hrk28.trans (by rw [mStep_f (fun q_ => absurd (hst_.mp q_) (by omega))]), _, D⟩
                  · have c25 : (((pK M f) : Nat) : Int) = ((3 : Nat) : Int) := (i_eq (S.2.2.1 f hf) (by decide : (3 : Int32).toInt = ((3 : Nat) : Int))).mp c25
                    refine lv_iload hx hb dX9_comesTo_149 (lv_at hl 6 rfl) ?_
                    refine lv_iconst (v := 3) hx hb dX9_comesTo_151 (by decide) ?_
                    refine lv_icmp_ne (tgt := 169) hx hb dX9_comesTo_152 (by decide) (fun c29 => ?_) (fun c29 => ?_)
                    · have c29 : ¬ ((((pA M f) : Nat) : Int) = ((3 : Nat) : Int)) := fun q => c29 ((i_eq (S.2.1 f hf) (by decide : (3 : Int32).toInt = ((3 : Nat) : Int))).mpr q)
                      refine lv_aload_n hx hb dX9_comesTo_169 rfl (lv_at hl 0 rfl) ?_
                      refine lv_iload_n hx hb dX9_comesTo_170 rfl (lv_at hl 1 rfl) ?_
                      refine lv_iload_n hx hb dX9_comesTo_171 rfl (lv_at hl 2 rfl) ?_
                      refine lv_iload_n hx hb dX9_comesTo_172 rfl (lv_at hl 3 rfl) ?_
                      refine lv_iload hx hb dX9_comesTo_173 (lv_at hl 4 rfl) ?_
                      refine lv_iload hx hb dX9_comesTo_175 (lv_at hl 5 rfl) ?_
                      refine r_callI w (va_runV (As := [.int p0, .int p1, .int p2, .int p3, .int p4]) (rest := []) ⟨hx, hb, hml, hown, hts⟩ (c_X9_bodyBy l D S hP hu hL hT (xs := mArg u M f (x + mB u * y + mB u * mB u * z)) p0 p1 p2 p3 p4 hp0 hp1 hf (fun q_ => by first | (exfalso; omega) | exact hp2.trans (by rw [mArg_eq (j := 0) q_ (by first | (rw [if_pos (by omega)]; omega) | rw [if_neg (by omega)]) d0])) (fun q_ => by first | (exfalso; omega) | exact hp3.trans (by rw [mArg_eq (j := 1) q_ (by first | (rw [if_pos (by omega)]; omega) | rw [if_neg (by omega)]) d1])) (fun q_ => by first | (exfalso; omega) | exact hp4.trans (by rw [mArg_eq (j := 2) q_ (by first | (rw [if_pos (by omega)]; omega) | rw [if_neg (by omega)]) d2])) (mArg_lt u M f _)) (cwV 5 hts gX9_comesTo_X9_bodyBy rfl rfl rfl (by decide +kernel) ⟨Nat.le_of_ble_eq_true rfl, Nat.le_of_ble_eq_true rfl⟩) (r_preV w (by have := D.1; omega) D.c0 rfl) rfl rfl hl.1 rfl (lv_room (Nat.le_of_ble_eq_true rfl)) dX9_comesTo_177 ⟨Nat.zero_le _, Nat.zero_le _⟩) (fun r31 h30 H locs hp w => ?_)
                      obtain ⟨hfk32, hrk32, gpk32, D⟩ := hp
                      refine r_iret (v := r31) hx hb hr hlocks w dX9_comesTo_180 ?_
                      exact ⟨fun k_ hk_ => (hfk32 k_ hk_).trans (by rw [hh]), hrk32.trans (by rw [mStep_f (fun q_ => absurd (hst_.mp q_) (by omega))]), _, D⟩
                    · have c29 : (((pA M f) : Nat) : Int) = ((3 : Nat) : Int) := (i_eq (S.2.1 f hf) (by decide : (3 : Int32).toInt = ((3 : Nat) : Int))).mp c29
                      refine lv_aload_n hx hb dX9_comesTo_155 rfl (lv_at hl 0 rfl) ?_
                      refine lv_iload_n hx hb dX9_comesTo_156 rfl (lv_at hl 1 rfl) ?_
                      refine lv_iload_n hx hb dX9_comesTo_157 rfl (lv_at hl 2 rfl) ?_
                      refine lv_iload hx hb dX9_comesTo_158 (lv_at hl 5 rfl) ?_
                      refine lv_iload hx hb dX9_comesTo_160 (lv_at hl 4 rfl) ?_
                      refine lv_iload_n hx hb dX9_comesTo_162 rfl (lv_at hl 3 rfl) ?_
                      refine r_callI w (va_runV (As := [.int p0, .int p1, .int p4, .int p3, .int p2]) (rest := []) ⟨hx, hb, hml, hown, hts⟩ (c_X9_bodyBy l D S hP hu hL hT (xs := mArg u M f (x + mB u * y + mB u * mB u * z)) p0 p1 p4 p3 p2 hp0 hp1 hf (fun q_ => by first | (exfalso; omega) | exact hp4.trans (by rw [mArg_eq (j := 2) q_ (by first | (rw [if_pos (by omega)]; omega) | rw [if_neg (by omega)]) d2])) (fun q_ => by first | (exfalso; omega) | exact hp3.trans (by rw [mArg_eq (j := 1) q_ (by first | (rw [if_pos (by omega)]; omega) | rw [if_neg (by omega)]) d1])) (fun q_ => by first | (exfalso; omega) | exact hp2.trans (by rw [mArg_eq (j := 0) q_ (by first | (rw [if_pos (by omega)]; omega) | rw [if_neg (by omega)]) d0])) (mArg_lt u M f _)) (cwV 5 hts gX9_comesTo_X9_bodyBy rfl rfl rfl (by decide +kernel) ⟨Nat.le_of_ble_eq_true rfl, Nat.le_of_ble_eq_true rfl⟩) (r_preV w (by have := D.1; omega) D.c0 rfl) rfl rfl hl.1 rfl (lv_room (Nat.le_of_ble_eq_true rfl)) dX9_comesTo_163 ⟨Nat.zero_le _, Nat.zero_le _⟩) (fun r34 h33 H locs hp w => ?_)
                      obtain ⟨hfk35, hrk35, gpk35, D⟩ := hp
                      refine lv_goto (tgt := 180) hx hb dX9_comesTo_166 (by decide) ?_
                      refine r_iret (v := r34) hx hb hr hlocks w dX9_comesTo_180 ?_
                      exact ⟨fun k_ hk_ => (hfk35 k_ hk_).trans (by rw [hh]), hrk35.trans (by rw [mStep_f (fun q_ => absurd (hst_.mp q_) (by omega))]), _, D⟩
                · have c24 : (((pA M f) : Nat) : Int) = ((2 : Nat) : Int) := (i_eq (S.2.1 f hf) (by decide : (2 : Int32).toInt = ((2 : Nat) : Int))).mp c24
                  refine lv_aload_n hx hb dX9_comesTo_131 rfl (lv_at hl 0 rfl) ?_
                  refine lv_iload_n hx hb dX9_comesTo_132 rfl (lv_at hl 1 rfl) ?_
                  refine lv_iload_n hx hb dX9_comesTo_133 rfl (lv_at hl 2 rfl) ?_
                  refine lv_iload hx hb dX9_comesTo_134 (lv_at hl 4 rfl) ?_
                  refine lv_iload_n hx hb dX9_comesTo_136 rfl (lv_at hl 3 rfl) ?_
                  refine lv_iload hx hb dX9_comesTo_137 (lv_at hl 5 rfl) ?_
                  refine r_callI w (va_runV (As := [.int p0, .int p1, .int p3, .int p2, .int p4]) (rest := []) ⟨hx, hb, hml, hown, hts⟩ (c_X9_bodyBy l D S hP hu hL hT (xs := mArg u M f (x + mB u * y + mB u * mB u * z)) p0 p1 p3 p2 p4 hp0 hp1 hf (fun q_ => by first | (exfalso; omega) | exact hp3.trans (by rw [mArg_eq (j := 1) q_ (by first | (rw [if_pos (by omega)]; omega) | rw [if_neg (by omega)]) d1])) (fun q_ => by first | (exfalso; omega) | exact hp2.trans (by rw [mArg_eq (j := 0) q_ (by first | (rw [if_pos (by omega)]; omega) | rw [if_neg (by omega)]) d0])) (fun q_ => by first | (exfalso; omega) | exact hp4.trans (by rw [mArg_eq (j := 2) q_ (by first | (rw [if_pos (by omega)]; omega) | rw [if_neg (by omega)]) d2])) (mArg_lt u M f _)) (cwV 5 hts gX9_comesTo_X9_bodyBy rfl rfl rfl (by decide +kernel) ⟨Nat.le_of_ble_eq_true rfl, Nat.le_of_ble_eq_true rfl⟩) (r_preV w (by have := D.1; omega) D.c0 rfl) rfl rfl hl.1 rfl (lv_room (Nat.le_of_ble_eq_true rfl)) dX9_comesTo_139 ⟨Nat.zero_le _, Nat.zero_le _⟩) (fun r37 h36 H locs hp w => ?_)
                  obtain ⟨hfk38, hrk38, gpk38, D⟩ := hp
                  refine r_iret (v := r37) hx hb hr hlocks w dX9_comesTo_142 ?_
                  exact ⟨fun k_ hk_ => (hfk38 k_ hk_).trans (by rw [hh]), hrk38.trans (by rw [mStep_f (fun q_ => absurd (hst_.mp q_) (by omega))]), _, D⟩
            · have c11 : (((pK M f) : Nat) : Int) = ((2 : Nat) : Int) := (i_eq (S.2.2.1 f hf) (by decide : (2 : Int32).toInt = ((2 : Nat) : Int))).mp c11
              refine lv_iload hx hb dX9_comesTo_109 (lv_at hl 9 rfl) ?_
              refine lv_if_eq (tgt := 119) hx hb dX9_comesTo_111 (by decide) (fun c39 => ?_) (fun c39 => ?_)
              · have c39 := hx9.eq c39
                refine lv_iload hx hb dX9_comesTo_119 (lv_at hl 7 rfl) ?_
                refine lv_iconst (v := 3) hx hb dX9_comesTo_121 (by decide) ?_
                refine lv_icmp_ne (tgt := 143) hx hb dX9_comesTo_122 (by decide) (fun c40 => ?_) (fun c40 => ?_)
                · have c40 : ¬ ((((pK M f) : Nat) : Int) = ((3 : Nat) : Int)) := fun q => c40 ((i_eq (S.2.2.1 f hf) (by decide : (3 : Int32).toInt = ((3 : Nat) : Int))).mpr q)
                  refine lv_iload hx hb dX9_comesTo_143 (lv_at hl 7 rfl) ?_
                  refine lv_iconst (v := 3) hx hb dX9_comesTo_145 (by decide) ?_
                  refine lv_icmp_ne (tgt := 169) hx hb dX9_comesTo_146 (by decide) (fun c41 => ?_) (fun c41 => ?_)
                  · have c41 : ¬ ((((pK M f) : Nat) : Int) = ((3 : Nat) : Int)) := fun q => c41 ((i_eq (S.2.2.1 f hf) (by decide : (3 : Int32).toInt = ((3 : Nat) : Int))).mpr q)
                    refine lv_aload_n hx hb dX9_comesTo_169 rfl (lv_at hl 0 rfl) ?_
                    refine lv_iload_n hx hb dX9_comesTo_170 rfl (lv_at hl 1 rfl) ?_
                    refine lv_iload_n hx hb dX9_comesTo_171 rfl (lv_at hl 2 rfl) ?_
                    refine lv_iload_n hx hb dX9_comesTo_172 rfl (lv_at hl 3 rfl) ?_
                    refine lv_iload hx hb dX9_comesTo_173 (lv_at hl 4 rfl) ?_
                    refine lv_iload hx hb dX9_comesTo_175 (lv_at hl 5 rfl) ?_
                    refine r_callI w (va_runV (As := [.int p0, .int p1, .int p2, .int p3, .int p4]) (rest := []) ⟨hx, hb, hml, hown, hts⟩ (c_X9_bodyBy l D S hP hu hL hT (xs := mArg u M f (x + mB u * y + mB u * mB u * z)) p0 p1 p2 p3 p4 hp0 hp1 hf (fun q_ => by first | (exfalso; omega) | exact hp2.trans (by rw [mArg_eq (j := 0) q_ (by first | (rw [if_pos (by omega)]; omega) | rw [if_neg (by omega)]) d0])) (fun q_ => by first | (exfalso; omega) | exact hp3.trans (by rw [mArg_eq (j := 1) q_ (by first | (rw [if_pos (by omega)]; omega) | rw [if_neg (by omega)]) d1])) (fun q_ => by first | (exfalso; omega) | exact hp4.trans (by rw [mArg_eq (j := 2) q_ (by first | (rw [if_pos (by omega)]; omega) | rw [if_neg (by omega)]) d2])) (mArg_lt u M f _)) (cwV 5 hts gX9_comesTo_X9_bodyBy rfl rfl rfl (by decide +kernel) ⟨Nat.le_of_ble_eq_true rfl, Nat.le_of_ble_eq_true rfl⟩) (r_preV w (by have := D.1; omega) D.c0 rfl) rfl rfl hl.1 rfl (lv_room (Nat.le_of_ble_eq_true rfl)) dX9_comesTo_177 ⟨Nat.zero_le _, Nat.zero_le _⟩) (fun r43 h42 H locs hp w => ?_)
                    obtain ⟨hfk44, hrk44, gpk44, D⟩ := hp
                    refine r_iret (v := r43) hx hb hr hlocks w dX9_comesTo_180 ?_
                    exact ⟨fun k_ hk_ => (hfk44 k_ hk_).trans (by rw [hh]), hrk44.trans (by rw [mStep_f (fun q_ => absurd (hst_.mp q_) (by omega))]), _, D⟩
                  · have c41 : (((pK M f) : Nat) : Int) = ((3 : Nat) : Int) := (i_eq (S.2.2.1 f hf) (by decide : (3 : Int32).toInt = ((3 : Nat) : Int))).mp c41
                    refine lv_iload hx hb dX9_comesTo_149 (lv_at hl 6 rfl) ?_
                    refine lv_iconst (v := 3) hx hb dX9_comesTo_151 (by decide) ?_
                    refine lv_icmp_ne (tgt := 169) hx hb dX9_comesTo_152 (by decide) (fun c45 => ?_) (fun c45 => ?_)
                    · have c45 : ¬ ((((pA M f) : Nat) : Int) = ((3 : Nat) : Int)) := fun q => c45 ((i_eq (S.2.1 f hf) (by decide : (3 : Int32).toInt = ((3 : Nat) : Int))).mpr q)
                      refine lv_aload_n hx hb dX9_comesTo_169 rfl (lv_at hl 0 rfl) ?_
                      refine lv_iload_n hx hb dX9_comesTo_170 rfl (lv_at hl 1 rfl) ?_
                      refine lv_iload_n hx hb dX9_comesTo_171 rfl (lv_at hl 2 rfl) ?_
                      refine lv_iload_n hx hb dX9_comesTo_172 rfl (lv_at hl 3 rfl) ?_
                      refine lv_iload hx hb dX9_comesTo_173 (lv_at hl 4 rfl) ?_
                      refine lv_iload hx hb dX9_comesTo_175 (lv_at hl 5 rfl) ?_
                      refine r_callI w (va_runV (As := [.int p0, .int p1, .int p2, .int p3, .int p4]) (rest := []) ⟨hx, hb, hml, hown, hts⟩ (c_X9_bodyBy l D S hP hu hL hT (xs := mArg u M f (x + mB u * y + mB u * mB u * z)) p0 p1 p2 p3 p4 hp0 hp1 hf (fun q_ => by first | (exfalso; omega) | exact hp2.trans (by rw [mArg_eq (j := 0) q_ (by first | (rw [if_pos (by omega)]; omega) | rw [if_neg (by omega)]) d0])) (fun q_ => by first | (exfalso; omega) | exact hp3.trans (by rw [mArg_eq (j := 1) q_ (by first | (rw [if_pos (by omega)]; omega) | rw [if_neg (by omega)]) d1])) (fun q_ => by first | (exfalso; omega) | exact hp4.trans (by rw [mArg_eq (j := 2) q_ (by first | (rw [if_pos (by omega)]; omega) | rw [if_neg (by omega)]) d2])) (mArg_lt u M f _)) (cwV 5 hts gX9_comesTo_X9_bodyBy rfl rfl rfl (by decide +kernel) ⟨Nat.le_of_ble_eq_true rfl, Nat.le_of_ble_eq_true rfl⟩) (r_preV w (by have := D.1; omega) D.c0 rfl) rfl rfl hl.1 rfl (lv_room (Nat.le_of_ble_eq_true rfl)) dX9_comesTo_177 ⟨Nat.zero_le _, Nat.zero_le _⟩) (fun r47 h46 H locs hp w => ?_)
                      obtain ⟨hfk48, hrk48, gpk48, D⟩ := hp
                      refine r_iret (v := r47) hx hb hr hlocks w dX9_comesTo_180 ?_
                      exact ⟨fun k_ hk_ => (hfk48 k_ hk_).trans (by rw [hh]), hrk48.trans (by rw [mStep_f (fun q_ => absurd (hst_.mp q_) (by omega))]), _, D⟩
                    · have c45 : (((pA M f) : Nat) : Int) = ((3 : Nat) : Int) := (i_eq (S.2.1 f hf) (by decide : (3 : Int32).toInt = ((3 : Nat) : Int))).mp c45
                      refine lv_aload_n hx hb dX9_comesTo_155 rfl (lv_at hl 0 rfl) ?_
                      refine lv_iload_n hx hb dX9_comesTo_156 rfl (lv_at hl 1 rfl) ?_
                      refine lv_iload_n hx hb dX9_comesTo_157 rfl (lv_at hl 2 rfl) ?_
                      refine lv_iload hx hb dX9_comesTo_158 (lv_at hl 5 rfl) ?_
                      refine lv_iload hx hb dX9_comesTo_160 (lv_at hl 4 rfl) ?_
                      refine lv_iload_n hx hb dX9_comesTo_162 rfl (lv_at hl 3 rfl) ?_
                      refine r_callI w (va_runV (As := [.int p0, .int p1, .int p4, .int p3, .int p2]) (rest := []) ⟨hx, hb, hml, hown, hts⟩ (c_X9_bodyBy l D S hP hu hL hT (xs := mArg u M f (x + mB u * y + mB u * mB u * z)) p0 p1 p4 p3 p2 hp0 hp1 hf (fun q_ => by first | (exfalso; omega) | exact hp4.trans (by rw [mArg_eq (j := 2) q_ (by first | (rw [if_pos (by omega)]; omega) | rw [if_neg (by omega)]) d2])) (fun q_ => by first | (exfalso; omega) | exact hp3.trans (by rw [mArg_eq (j := 1) q_ (by first | (rw [if_pos (by omega)]; omega) | rw [if_neg (by omega)]) d1])) (fun q_ => by first | (exfalso; omega) | exact hp2.trans (by rw [mArg_eq (j := 0) q_ (by first | (rw [if_pos (by omega)]; omega) | rw [if_neg (by omega)]) d0])) (mArg_lt u M f _)) (cwV 5 hts gX9_comesTo_X9_bodyBy rfl rfl rfl (by decide +kernel) ⟨Nat.le_of_ble_eq_true rfl, Nat.le_of_ble_eq_true rfl⟩) (r_preV w (by have := D.1; omega) D.c0 rfl) rfl rfl hl.1 rfl (lv_room (Nat.le_of_ble_eq_true rfl)) dX9_comesTo_163 ⟨Nat.zero_le _, Nat.zero_le _⟩) (fun r50 h49 H locs hp w => ?_)
                      obtain ⟨hfk51, hrk51, gpk51, D⟩ := hp
                      refine lv_goto (tgt := 180) hx hb dX9_comesTo_166 (by decide) ?_
                      refine r_iret (v := r50) hx hb hr hlocks w dX9_comesTo_180 ?_
                      exact ⟨fun k_ hk_ => (hfk51 k_ hk_).trans (by rw [hh]), hrk51.trans (by rw [mStep_f (fun q_ => absurd (hst_.mp q_) (by omega))]), _, D⟩
                · have c40 : (((pK M f) : Nat) : Int) = ((3 : Nat) : Int) := (i_eq (S.2.2.1 f hf) (by decide : (3 : Int32).toInt = ((3 : Nat) : Int))).mp c40
                  refine lv_iload hx hb dX9_comesTo_125 (lv_at hl 6 rfl) ?_
                  refine lv_iconst (v := 2) hx hb dX9_comesTo_127 (by decide) ?_
                  refine lv_icmp_ne (tgt := 143) hx hb dX9_comesTo_128 (by decide) (fun c52 => ?_) (fun c52 => ?_)
                  · have c52 : ¬ ((((pA M f) : Nat) : Int) = ((2 : Nat) : Int)) := fun q => c52 ((i_eq (S.2.1 f hf) (by decide : (2 : Int32).toInt = ((2 : Nat) : Int))).mpr q)
                    refine lv_iload hx hb dX9_comesTo_143 (lv_at hl 7 rfl) ?_
                    refine lv_iconst (v := 3) hx hb dX9_comesTo_145 (by decide) ?_
                    refine lv_icmp_ne (tgt := 169) hx hb dX9_comesTo_146 (by decide) (fun c53 => ?_) (fun c53 => ?_)
                    · have c53 : ¬ ((((pK M f) : Nat) : Int) = ((3 : Nat) : Int)) := fun q => c53 ((i_eq (S.2.2.1 f hf) (by decide : (3 : Int32).toInt = ((3 : Nat) : Int))).mpr q)
                      refine lv_aload_n hx hb dX9_comesTo_169 rfl (lv_at hl 0 rfl) ?_
                      refine lv_iload_n hx hb dX9_comesTo_170 rfl (lv_at hl 1 rfl) ?_
                      refine lv_iload_n hx hb dX9_comesTo_171 rfl (lv_at hl 2 rfl) ?_
                      refine lv_iload_n hx hb dX9_comesTo_172 rfl (lv_at hl 3 rfl) ?_
                      refine lv_iload hx hb dX9_comesTo_173 (lv_at hl 4 rfl) ?_
                      refine lv_iload hx hb dX9_comesTo_175 (lv_at hl 5 rfl) ?_
                      refine r_callI w (va_runV (As := [.int p0, .int p1, .int p2, .int p3, .int p4]) (rest := []) ⟨hx, hb, hml, hown, hts⟩ (c_X9_bodyBy l D S hP hu hL hT (xs := mArg u M f (x + mB u * y + mB u * mB u * z)) p0 p1 p2 p3 p4 hp0 hp1 hf (fun q_ => by first | (exfalso; omega) | exact hp2.trans (by rw [mArg_eq (j := 0) q_ (by first | (rw [if_pos (by omega)]; omega) | rw [if_neg (by omega)]) d0])) (fun q_ => by first | (exfalso; omega) | exact hp3.trans (by rw [mArg_eq (j := 1) q_ (by first | (rw [if_pos (by omega)]; omega) | rw [if_neg (by omega)]) d1])) (fun q_ => by first | (exfalso; omega) | exact hp4.trans (by rw [mArg_eq (j := 2) q_ (by first | (rw [if_pos (by omega)]; omega) | rw [if_neg (by omega)]) d2])) (mArg_lt u M f _)) (cwV 5 hts gX9_comesTo_X9_bodyBy rfl rfl rfl (by decide +kernel) ⟨Nat.le_of_ble_eq_true rfl, Nat.le_of_ble_eq_true rfl⟩) (r_preV w (by have := D.1; omega) D.c0 rfl) rfl rfl hl.1 rfl (lv_room (Nat.le_of_ble_eq_true rfl)) dX9_comesTo_177 ⟨Nat.zero_le _, Nat.zero_le _⟩) (fun r55 h54 H locs hp w => ?_)
                      obtain ⟨hfk56, hrk56, gpk56, D⟩ := hp
                      refine r_iret (v := r55) hx hb hr hlocks w dX9_comesTo_180 ?_
                      exact ⟨fun k_ hk_ => (hfk56 k_ hk_).trans (by rw [hh]), hrk56.trans (by rw [mStep_f (fun q_ => absurd (hst_.mp q_) (by omega))]), _, D⟩
                    · have c53 : (((pK M f) : Nat) : Int) = ((3 : Nat) : Int) := (i_eq (S.2.2.1 f hf) (by decide : (3 : Int32).toInt = ((3 : Nat) : Int))).mp c53
                      refine lv_iload hx hb dX9_comesTo_149 (lv_at hl 6 rfl) ?_
                      refine lv_iconst (v := 3) hx hb dX9_comesTo_151 (by decide) ?_
                      refine lv_icmp_ne (tgt := 169) hx hb dX9_comesTo_152 (by decide) (fun c57 => ?_) (fun c57 => ?_)
                      · have c57 : ¬ ((((pA M f) : Nat) : Int) = ((3 : Nat) : Int)) := fun q => c57 ((i_eq (S.2.1 f hf) (by decide : (3 : Int32).toInt = ((3 : Nat) : Int))).mpr q)
                        refine lv_aload_n hx hb dX9_comesTo_169 rfl (lv_at hl 0 rfl) ?_
                        refine lv_iload_n hx hb dX9_comesTo_170 rfl (lv_at hl 1 rfl) ?_
                        refine lv_iload_n hx hb dX9_comesTo_171 rfl (lv_at hl 2 rfl) ?_
                        refine lv_iload_n hx hb dX9_comesTo_172 rfl (lv_at hl 3 rfl) ?_
                        refine lv_iload hx hb dX9_comesTo_173 (lv_at hl 4 rfl) ?_
                        refine lv_iload hx hb dX9_comesTo_175 (lv_at hl 5 rfl) ?_
                        refine r_callI w (va_runV (As := [.int p0, .int p1, .int p2, .int p3, .int p4]) (rest := []) ⟨hx, hb, hml, hown, hts⟩ (c_X9_bodyBy l D S hP hu hL hT (xs := mArg u M f (x + mB u * y + mB u * mB u * z)) p0 p1 p2 p3 p4 hp0 hp1 hf (fun q_ => by first | (exfalso; omega) | exact hp2.trans (by rw [mArg_eq (j := 0) q_ (by first | (rw [if_pos (by omega)]; omega) | rw [if_neg (by omega)]) d0])) (fun q_ => by first | (exfalso; omega) | exact hp3.trans (by rw [mArg_eq (j := 1) q_ (by first | (rw [if_pos (by omega)]; omega) | rw [if_neg (by omega)]) d1])) (fun q_ => by first | (exfalso; omega) | exact hp4.trans (by rw [mArg_eq (j := 2) q_ (by first | (rw [if_pos (by omega)]; omega) | rw [if_neg (by omega)]) d2])) (mArg_lt u M f _)) (cwV 5 hts gX9_comesTo_X9_bodyBy rfl rfl rfl (by decide +kernel) ⟨Nat.le_of_ble_eq_true rfl, Nat.le_of_ble_eq_true rfl⟩) (r_preV w (by have := D.1; omega) D.c0 rfl) rfl rfl hl.1 rfl (lv_room (Nat.le_of_ble_eq_true rfl)) dX9_comesTo_177 ⟨Nat.zero_le _, Nat.zero_le _⟩) (fun r59 h58 H locs hp w => ?_)
                        obtain ⟨hfk60, hrk60, gpk60, D⟩ := hp
                        refine r_iret (v := r59) hx hb hr hlocks w dX9_comesTo_180 ?_
                        exact ⟨fun k_ hk_ => (hfk60 k_ hk_).trans (by rw [hh]), hrk60.trans (by rw [mStep_f (fun q_ => absurd (hst_.mp q_) (by omega))]), _, D⟩
                      · have c57 : (((pA M f) : Nat) : Int) = ((3 : Nat) : Int) := (i_eq (S.2.1 f hf) (by decide : (3 : Int32).toInt = ((3 : Nat) : Int))).mp c57
                        refine lv_aload_n hx hb dX9_comesTo_155 rfl (lv_at hl 0 rfl) ?_
                        refine lv_iload_n hx hb dX9_comesTo_156 rfl (lv_at hl 1 rfl) ?_
                        refine lv_iload_n hx hb dX9_comesTo_157 rfl (lv_at hl 2 rfl) ?_
                        refine lv_iload hx hb dX9_comesTo_158 (lv_at hl 5 rfl) ?_
                        refine lv_iload hx hb dX9_comesTo_160 (lv_at hl 4 rfl) ?_
                        refine lv_iload_n hx hb dX9_comesTo_162 rfl (lv_at hl 3 rfl) ?_
                        refine r_callI w (va_runV (As := [.int p0, .int p1, .int p4, .int p3, .int p2]) (rest := []) ⟨hx, hb, hml, hown, hts⟩ (c_X9_bodyBy l D S hP hu hL hT (xs := mArg u M f (x + mB u * y + mB u * mB u * z)) p0 p1 p4 p3 p2 hp0 hp1 hf (fun q_ => by first | (exfalso; omega) | exact hp4.trans (by rw [mArg_eq (j := 2) q_ (by first | (rw [if_pos (by omega)]; omega) | rw [if_neg (by omega)]) d2])) (fun q_ => by first | (exfalso; omega) | exact hp3.trans (by rw [mArg_eq (j := 1) q_ (by first | (rw [if_pos (by omega)]; omega) | rw [if_neg (by omega)]) d1])) (fun q_ => by first | (exfalso; omega) | exact hp2.trans (by rw [mArg_eq (j := 0) q_ (by first | (rw [if_pos (by omega)]; omega) | rw [if_neg (by omega)]) d0])) (mArg_lt u M f _)) (cwV 5 hts gX9_comesTo_X9_bodyBy rfl rfl rfl (by decide +kernel) ⟨Nat.le_of_ble_eq_true rfl, Nat.le_of_ble_eq_true rfl⟩) (r_preV w (by have := D.1; omega) D.c0 rfl) rfl rfl hl.1 rfl (lv_room (Nat.le_of_ble_eq_true rfl)) dX9_comesTo_163 ⟨Nat.zero_le _, Nat.zero_le _⟩) (fun r62 h61 H locs hp w => ?_)
                        obtain ⟨hfk63, hrk63, gpk63, D⟩ := hp
                        refine lv_goto (tgt := 180) hx hb dX9_comesTo_166 (by decide) ?_
                        refine r_iret (v := r62) hx hb hr hlocks w dX9_comesTo_180 ?_
                        exact ⟨fun k_ hk_ => (hfk63 k_ hk_).trans (by rw [hh]), hrk63.trans (by rw [mStep_f (fun q_ => absurd (hst_.mp q_) (by omega))]), _, D⟩
                  · have c52 : (((pA M f) : Nat) : Int) = ((2 : Nat) : Int) := (i_eq (S.2.1 f hf) (by decide : (2 : Int32).toInt = ((2 : Nat) : Int))).mp c52
                    refine lv_aload_n hx hb dX9_comesTo_131 rfl (lv_at hl 0 rfl) ?_
                    refine lv_iload_n hx hb dX9_comesTo_132 rfl (lv_at hl 1 rfl) ?_
                    refine lv_iload_n hx hb dX9_comesTo_133 rfl (lv_at hl 2 rfl) ?_
                    refine lv_iload hx hb dX9_comesTo_134 (lv_at hl 4 rfl) ?_
                    refine lv_iload_n hx hb dX9_comesTo_136 rfl (lv_at hl 3 rfl) ?_
                    refine lv_iload hx hb dX9_comesTo_137 (lv_at hl 5 rfl) ?_
                    refine r_callI w (va_runV (As := [.int p0, .int p1, .int p3, .int p2, .int p4]) (rest := []) ⟨hx, hb, hml, hown, hts⟩ (c_X9_bodyBy l D S hP hu hL hT (xs := mArg u M f (x + mB u * y + mB u * mB u * z)) p0 p1 p3 p2 p4 hp0 hp1 hf (fun q_ => by first | (exfalso; omega) | exact hp3.trans (by rw [mArg_eq (j := 1) q_ (by first | (rw [if_pos (by omega)]; omega) | rw [if_neg (by omega)]) d1])) (fun q_ => by first | (exfalso; omega) | exact hp2.trans (by rw [mArg_eq (j := 0) q_ (by first | (rw [if_pos (by omega)]; omega) | rw [if_neg (by omega)]) d0])) (fun q_ => by first | (exfalso; omega) | exact hp4.trans (by rw [mArg_eq (j := 2) q_ (by first | (rw [if_pos (by omega)]; omega) | rw [if_neg (by omega)]) d2])) (mArg_lt u M f _)) (cwV 5 hts gX9_comesTo_X9_bodyBy rfl rfl rfl (by decide +kernel) ⟨Nat.le_of_ble_eq_true rfl, Nat.le_of_ble_eq_true rfl⟩) (r_preV w (by have := D.1; omega) D.c0 rfl) rfl rfl hl.1 rfl (lv_room (Nat.le_of_ble_eq_true rfl)) dX9_comesTo_139 ⟨Nat.zero_le _, Nat.zero_le _⟩) (fun r65 h64 H locs hp w => ?_)
                    obtain ⟨hfk66, hrk66, gpk66, D⟩ := hp
                    refine r_iret (v := r65) hx hb hr hlocks w dX9_comesTo_142 ?_
                    exact ⟨fun k_ hk_ => (hfk66 k_ hk_).trans (by rw [hh]), hrk66.trans (by rw [mStep_f (fun q_ => absurd (hst_.mp q_) (by omega))]), _, D⟩
              · have c39 := hx9.ne c39
                refine lv_iload_n hx hb dX9_comesTo_114 rfl (lv_at hl 1 rfl) ?_
                refine r_callI w (va_runS (As := [.int p0]) (rest := []) ⟨hx, hb, hml, hown, hts⟩ (c_X9_neverOf l hu p0 hp0) (va_cwS 1 hts gX9_comesTo_X9_neverOf rfl rfl rfl (by decide +kernel) ⟨Nat.le_of_ble_eq_true rfl, Nat.le_of_ble_eq_true rfl⟩) (r_preS w) rfl rfl hl.1 rfl (lv_room (Nat.le_of_ble_eq_true rfl)) dX9_comesTo_115 ⟨Nat.zero_le _, Nat.zero_le _⟩) (fun r68 h67 H locs hp w => ?_)
                obtain ⟨eh_, qq69⟩ := hp
                have eh_ := eh_.symm
                subst eh_
                refine r_iret (v := r68) hx hb hr hlocks w dX9_comesTo_118 ?_
                exact ⟨fun k_ _ => by rw [hh], qq69.trans (by rw [mStep_t (hst_.mpr (by omega))]), gp, D⟩
        · have c6 : ¬ ((((pK M f) : Nat) : Int) = ((1 : Nat) : Int)) := fun q => c6 ((i_eq (S.2.2.1 f hf) (by decide : (1 : Int32).toInt = ((1 : Nat) : Int))).mpr q)
          refine lv_iload hx hb dX9_comesTo_92 (lv_at hl 7 rfl) ?_
          refine lv_iconst (v := 3) hx hb dX9_comesTo_94 (by decide) ?_
          refine lv_icmp_ne (tgt := 103) hx hb dX9_comesTo_95 (by decide) (fun c70 => ?_) (fun c70 => ?_)
          · have c70 : ¬ ((((pK M f) : Nat) : Int) = ((3 : Nat) : Int)) := fun q => c70 ((i_eq (S.2.2.1 f hf) (by decide : (3 : Int32).toInt = ((3 : Nat) : Int))).mpr q)
            refine lv_iload hx hb dX9_comesTo_103 (lv_at hl 7 rfl) ?_
            refine lv_iconst (v := 2) hx hb dX9_comesTo_105 (by decide) ?_
            refine lv_icmp_ne (tgt := 119) hx hb dX9_comesTo_106 (by decide) (fun c71 => ?_) (fun c71 => ?_)
            · have c71 : ¬ ((((pK M f) : Nat) : Int) = ((2 : Nat) : Int)) := fun q => c71 ((i_eq (S.2.2.1 f hf) (by decide : (2 : Int32).toInt = ((2 : Nat) : Int))).mpr q)
              refine lv_iload hx hb dX9_comesTo_119 (lv_at hl 7 rfl) ?_
              refine lv_iconst (v := 3) hx hb dX9_comesTo_121 (by decide) ?_
              refine lv_icmp_ne (tgt := 143) hx hb dX9_comesTo_122 (by decide) (fun c72 => ?_) (fun c72 => ?_)
              · have c72 : ¬ ((((pK M f) : Nat) : Int) = ((3 : Nat) : Int)) := fun q => c72 ((i_eq (S.2.2.1 f hf) (by decide : (3 : Int32).toInt = ((3 : Nat) : Int))).mpr q)
                refine lv_iload hx hb dX9_comesTo_143 (lv_at hl 7 rfl) ?_
                refine lv_iconst (v := 3) hx hb dX9_comesTo_145 (by decide) ?_
                refine lv_icmp_ne (tgt := 169) hx hb dX9_comesTo_146 (by decide) (fun c73 => ?_) (fun c73 => ?_)
                · have c73 : ¬ ((((pK M f) : Nat) : Int) = ((3 : Nat) : Int)) := fun q => c73 ((i_eq (S.2.2.1 f hf) (by decide : (3 : Int32).toInt = ((3 : Nat) : Int))).mpr q)
                  refine lv_aload_n hx hb dX9_comesTo_169 rfl (lv_at hl 0 rfl) ?_
                  refine lv_iload_n hx hb dX9_comesTo_170 rfl (lv_at hl 1 rfl) ?_
                  refine lv_iload_n hx hb dX9_comesTo_171 rfl (lv_at hl 2 rfl) ?_
                  refine lv_iload_n hx hb dX9_comesTo_172 rfl (lv_at hl 3 rfl) ?_
                  refine lv_iload hx hb dX9_comesTo_173 (lv_at hl 4 rfl) ?_
                  refine lv_iload hx hb dX9_comesTo_175 (lv_at hl 5 rfl) ?_
                  refine r_callI w (va_runV (As := [.int p0, .int p1, .int p2, .int p3, .int p4]) (rest := []) ⟨hx, hb, hml, hown, hts⟩ (c_X9_bodyBy l D S hP hu hL hT (xs := mArg u M f (x + mB u * y + mB u * mB u * z)) p0 p1 p2 p3 p4 hp0 hp1 hf (fun q_ => by first | (exfalso; omega) | exact hp2.trans (by rw [mArg_eq (j := 0) q_ (by first | (rw [if_pos (by omega)]; omega) | rw [if_neg (by omega)]) d0])) (fun q_ => by first | (exfalso; omega) | exact hp3.trans (by rw [mArg_eq (j := 1) q_ (by first | (rw [if_pos (by omega)]; omega) | rw [if_neg (by omega)]) d1])) (fun q_ => by first | (exfalso; omega) | exact hp4.trans (by rw [mArg_eq (j := 2) q_ (by first | (rw [if_pos (by omega)]; omega) | rw [if_neg (by omega)]) d2])) (mArg_lt u M f _)) (cwV 5 hts gX9_comesTo_X9_bodyBy rfl rfl rfl (by decide +kernel) ⟨Nat.le_of_ble_eq_true rfl, Nat.le_of_ble_eq_true rfl⟩) (r_preV w (by have := D.1; omega) D.c0 rfl) rfl rfl hl.1 rfl (lv_room (Nat.le_of_ble_eq_true rfl)) dX9_comesTo_177 ⟨Nat.zero_le _, Nat.zero_le _⟩) (fun r75 h74 H locs hp w => ?_)
                  obtain ⟨hfk76, hrk76, gpk76, D⟩ := hp
                  refine r_iret (v := r75) hx hb hr hlocks w dX9_comesTo_180 ?_
                  exact ⟨fun k_ hk_ => (hfk76 k_ hk_).trans (by rw [hh]), hrk76.trans (by rw [mStep_f (fun q_ => absurd (hst_.mp q_) (by omega))]), _, D⟩
                · have c73 : (((pK M f) : Nat) : Int) = ((3 : Nat) : Int) := (i_eq (S.2.2.1 f hf) (by decide : (3 : Int32).toInt = ((3 : Nat) : Int))).mp c73
                  refine lv_iload hx hb dX9_comesTo_149 (lv_at hl 6 rfl) ?_
                  refine lv_iconst (v := 3) hx hb dX9_comesTo_151 (by decide) ?_
                  refine lv_icmp_ne (tgt := 169) hx hb dX9_comesTo_152 (by decide) (fun c77 => ?_) (fun c77 => ?_)
                  · have c77 : ¬ ((((pA M f) : Nat) : Int) = ((3 : Nat) : Int)) := fun q => c77 ((i_eq (S.2.1 f hf) (by decide : (3 : Int32).toInt = ((3 : Nat) : Int))).mpr q)
                    refine lv_aload_n hx hb dX9_comesTo_169 rfl (lv_at hl 0 rfl) ?_
                    refine lv_iload_n hx hb dX9_comesTo_170 rfl (lv_at hl 1 rfl) ?_
                    refine lv_iload_n hx hb dX9_comesTo_171 rfl (lv_at hl 2 rfl) ?_
                    refine lv_iload_n hx hb dX9_comesTo_172 rfl (lv_at hl 3 rfl) ?_
                    refine lv_iload hx hb dX9_comesTo_173 (lv_at hl 4 rfl) ?_
                    refine lv_iload hx hb dX9_comesTo_175 (lv_at hl 5 rfl) ?_
                    refine r_callI w (va_runV (As := [.int p0, .int p1, .int p2, .int p3, .int p4]) (rest := []) ⟨hx, hb, hml, hown, hts⟩ (c_X9_bodyBy l D S hP hu hL hT (xs := mArg u M f (x + mB u * y + mB u * mB u * z)) p0 p1 p2 p3 p4 hp0 hp1 hf (fun q_ => by first | (exfalso; omega) | exact hp2.trans (by rw [mArg_eq (j := 0) q_ (by first | (rw [if_pos (by omega)]; omega) | rw [if_neg (by omega)]) d0])) (fun q_ => by first | (exfalso; omega) | exact hp3.trans (by rw [mArg_eq (j := 1) q_ (by first | (rw [if_pos (by omega)]; omega) | rw [if_neg (by omega)]) d1])) (fun q_ => by first | (exfalso; omega) | exact hp4.trans (by rw [mArg_eq (j := 2) q_ (by first | (rw [if_pos (by omega)]; omega) | rw [if_neg (by omega)]) d2])) (mArg_lt u M f _)) (cwV 5 hts gX9_comesTo_X9_bodyBy rfl rfl rfl (by decide +kernel) ⟨Nat.le_of_ble_eq_true rfl, Nat.le_of_ble_eq_true rfl⟩) (r_preV w (by have := D.1; omega) D.c0 rfl) rfl rfl hl.1 rfl (lv_room (Nat.le_of_ble_eq_true rfl)) dX9_comesTo_177 ⟨Nat.zero_le _, Nat.zero_le _⟩) (fun r79 h78 H locs hp w => ?_)
                    obtain ⟨hfk80, hrk80, gpk80, D⟩ := hp
                    refine r_iret (v := r79) hx hb hr hlocks w dX9_comesTo_180 ?_
                    exact ⟨fun k_ hk_ => (hfk80 k_ hk_).trans (by rw [hh]), hrk80.trans (by rw [mStep_f (fun q_ => absurd (hst_.mp q_) (by omega))]), _, D⟩
                  · have c77 : (((pA M f) : Nat) : Int) = ((3 : Nat) : Int) := (i_eq (S.2.1 f hf) (by decide : (3 : Int32).toInt = ((3 : Nat) : Int))).mp c77
                    refine lv_aload_n hx hb dX9_comesTo_155 rfl (lv_at hl 0 rfl) ?_
                    refine lv_iload_n hx hb dX9_comesTo_156 rfl (lv_at hl 1 rfl) ?_
                    refine lv_iload_n hx hb dX9_comesTo_157 rfl (lv_at hl 2 rfl) ?_
                    refine lv_iload hx hb dX9_comesTo_158 (lv_at hl 5 rfl) ?_
                    refine lv_iload hx hb dX9_comesTo_160 (lv_at hl 4 rfl) ?_
                    refine lv_iload_n hx hb dX9_comesTo_162 rfl (lv_at hl 3 rfl) ?_
                    refine r_callI w (va_runV (As := [.int p0, .int p1, .int p4, .int p3, .int p2]) (rest := []) ⟨hx, hb, hml, hown, hts⟩ (c_X9_bodyBy l D S hP hu hL hT (xs := mArg u M f (x + mB u * y + mB u * mB u * z)) p0 p1 p4 p3 p2 hp0 hp1 hf (fun q_ => by first | (exfalso; omega) | exact hp4.trans (by rw [mArg_eq (j := 2) q_ (by first | (rw [if_pos (by omega)]; omega) | rw [if_neg (by omega)]) d2])) (fun q_ => by first | (exfalso; omega) | exact hp3.trans (by rw [mArg_eq (j := 1) q_ (by first | (rw [if_pos (by omega)]; omega) | rw [if_neg (by omega)]) d1])) (fun q_ => by first | (exfalso; omega) | exact hp2.trans (by rw [mArg_eq (j := 0) q_ (by first | (rw [if_pos (by omega)]; omega) | rw [if_neg (by omega)]) d0])) (mArg_lt u M f _)) (cwV 5 hts gX9_comesTo_X9_bodyBy rfl rfl rfl (by decide +kernel) ⟨Nat.le_of_ble_eq_true rfl, Nat.le_of_ble_eq_true rfl⟩) (r_preV w (by have := D.1; omega) D.c0 rfl) rfl rfl hl.1 rfl (lv_room (Nat.le_of_ble_eq_true rfl)) dX9_comesTo_163 ⟨Nat.zero_le _, Nat.zero_le _⟩) (fun r82 h81 H locs hp w => ?_)
                    obtain ⟨hfk83, hrk83, gpk83, D⟩ := hp
                    refine lv_goto (tgt := 180) hx hb dX9_comesTo_166 (by decide) ?_
                    refine r_iret (v := r82) hx hb hr hlocks w dX9_comesTo_180 ?_
                    exact ⟨fun k_ hk_ => (hfk83 k_ hk_).trans (by rw [hh]), hrk83.trans (by rw [mStep_f (fun q_ => absurd (hst_.mp q_) (by omega))]), _, D⟩
              · have c72 : (((pK M f) : Nat) : Int) = ((3 : Nat) : Int) := (i_eq (S.2.2.1 f hf) (by decide : (3 : Int32).toInt = ((3 : Nat) : Int))).mp c72
                refine lv_iload hx hb dX9_comesTo_125 (lv_at hl 6 rfl) ?_
                refine lv_iconst (v := 2) hx hb dX9_comesTo_127 (by decide) ?_
                refine lv_icmp_ne (tgt := 143) hx hb dX9_comesTo_128 (by decide) (fun c84 => ?_) (fun c84 => ?_)
                · have c84 : ¬ ((((pA M f) : Nat) : Int) = ((2 : Nat) : Int)) := fun q => c84 ((i_eq (S.2.1 f hf) (by decide : (2 : Int32).toInt = ((2 : Nat) : Int))).mpr q)
                  refine lv_iload hx hb dX9_comesTo_143 (lv_at hl 7 rfl) ?_
                  refine lv_iconst (v := 3) hx hb dX9_comesTo_145 (by decide) ?_
                  refine lv_icmp_ne (tgt := 169) hx hb dX9_comesTo_146 (by decide) (fun c85 => ?_) (fun c85 => ?_)
                  · have c85 : ¬ ((((pK M f) : Nat) : Int) = ((3 : Nat) : Int)) := fun q => c85 ((i_eq (S.2.2.1 f hf) (by decide : (3 : Int32).toInt = ((3 : Nat) : Int))).mpr q)
                    refine lv_aload_n hx hb dX9_comesTo_169 rfl (lv_at hl 0 rfl) ?_
                    refine lv_iload_n hx hb dX9_comesTo_170 rfl (lv_at hl 1 rfl) ?_
                    refine lv_iload_n hx hb dX9_comesTo_171 rfl (lv_at hl 2 rfl) ?_
                    refine lv_iload_n hx hb dX9_comesTo_172 rfl (lv_at hl 3 rfl) ?_
                    refine lv_iload hx hb dX9_comesTo_173 (lv_at hl 4 rfl) ?_
                    refine lv_iload hx hb dX9_comesTo_175 (lv_at hl 5 rfl) ?_
                    refine r_callI w (va_runV (As := [.int p0, .int p1, .int p2, .int p3, .int p4]) (rest := []) ⟨hx, hb, hml, hown, hts⟩ (c_X9_bodyBy l D S hP hu hL hT (xs := mArg u M f (x + mB u * y + mB u * mB u * z)) p0 p1 p2 p3 p4 hp0 hp1 hf (fun q_ => by first | (exfalso; omega) | exact hp2.trans (by rw [mArg_eq (j := 0) q_ (by first | (rw [if_pos (by omega)]; omega) | rw [if_neg (by omega)]) d0])) (fun q_ => by first | (exfalso; omega) | exact hp3.trans (by rw [mArg_eq (j := 1) q_ (by first | (rw [if_pos (by omega)]; omega) | rw [if_neg (by omega)]) d1])) (fun q_ => by first | (exfalso; omega) | exact hp4.trans (by rw [mArg_eq (j := 2) q_ (by first | (rw [if_pos (by omega)]; omega) | rw [if_neg (by omega)]) d2])) (mArg_lt u M f _)) (cwV 5 hts gX9_comesTo_X9_bodyBy rfl rfl rfl (by decide +kernel) ⟨Nat.le_of_ble_eq_true rfl, Nat.le_of_ble_eq_true rfl⟩) (r_preV w (by have := D.1; omega) D.c0 rfl) rfl rfl hl.1 rfl (lv_room (Nat.le_of_ble_eq_true rfl)) dX9_comesTo_177 ⟨Nat.zero_le _, Nat.zero_le _⟩) (fun r87 h86 H locs hp w => ?_)
                    obtain ⟨hfk88, hrk88, gpk88, D⟩ := hp
                    refine r_iret (v := r87) hx hb hr hlocks w dX9_comesTo_180 ?_
                    exact ⟨fun k_ hk_ => (hfk88 k_ hk_).trans (by rw [hh]), hrk88.trans (by rw [mStep_f (fun q_ => absurd (hst_.mp q_) (by omega))]), _, D⟩
                  · have c85 : (((pK M f) : Nat) : Int) = ((3 : Nat) : Int) := (i_eq (S.2.2.1 f hf) (by decide : (3 : Int32).toInt = ((3 : Nat) : Int))).mp c85
                    refine lv_iload hx hb dX9_comesTo_149 (lv_at hl 6 rfl) ?_
                    refine lv_iconst (v := 3) hx hb dX9_comesTo_151 (by decide) ?_
                    refine lv_icmp_ne (tgt := 169) hx hb dX9_comesTo_152 (by decide) (fun c89 => ?_) (fun c89 => ?_)
                    · have c89 : ¬ ((((pA M f) : Nat) : Int) = ((3 : Nat) : Int)) := fun q => c89 ((i_eq (S.2.1 f hf) (by decide : (3 : Int32).toInt = ((3 : Nat) : Int))).mpr q)
                      refine lv_aload_n hx hb dX9_comesTo_169 rfl (lv_at hl 0 rfl) ?_
                      refine lv_iload_n hx hb dX9_comesTo_170 rfl (lv_at hl 1 rfl) ?_
                      refine lv_iload_n hx hb dX9_comesTo_171 rfl (lv_at hl 2 rfl) ?_
                      refine lv_iload_n hx hb dX9_comesTo_172 rfl (lv_at hl 3 rfl) ?_
                      refine lv_iload hx hb dX9_comesTo_173 (lv_at hl 4 rfl) ?_
                      refine lv_iload hx hb dX9_comesTo_175 (lv_at hl 5 rfl) ?_
                      refine r_callI w (va_runV (As := [.int p0, .int p1, .int p2, .int p3, .int p4]) (rest := []) ⟨hx, hb, hml, hown, hts⟩ (c_X9_bodyBy l D S hP hu hL hT (xs := mArg u M f (x + mB u * y + mB u * mB u * z)) p0 p1 p2 p3 p4 hp0 hp1 hf (fun q_ => by first | (exfalso; omega) | exact hp2.trans (by rw [mArg_eq (j := 0) q_ (by first | (rw [if_pos (by omega)]; omega) | rw [if_neg (by omega)]) d0])) (fun q_ => by first | (exfalso; omega) | exact hp3.trans (by rw [mArg_eq (j := 1) q_ (by first | (rw [if_pos (by omega)]; omega) | rw [if_neg (by omega)]) d1])) (fun q_ => by first | (exfalso; omega) | exact hp4.trans (by rw [mArg_eq (j := 2) q_ (by first | (rw [if_pos (by omega)]; omega) | rw [if_neg (by omega)]) d2])) (mArg_lt u M f _)) (cwV 5 hts gX9_comesTo_X9_bodyBy rfl rfl rfl (by decide +kernel) ⟨Nat.le_of_ble_eq_true rfl, Nat.le_of_ble_eq_true rfl⟩) (r_preV w (by have := D.1; omega) D.c0 rfl) rfl rfl hl.1 rfl (lv_room (Nat.le_of_ble_eq_true rfl)) dX9_comesTo_177 ⟨Nat.zero_le _, Nat.zero_le _⟩) (fun r91 h90 H locs hp w => ?_)
                      obtain ⟨hfk92, hrk92, gpk92, D⟩ := hp
                      refine r_iret (v := r91) hx hb hr hlocks w dX9_comesTo_180 ?_
                      exact ⟨fun k_ hk_ => (hfk92 k_ hk_).trans (by rw [hh]), hrk92.trans (by rw [mStep_f (fun q_ => absurd (hst_.mp q_) (by omega))]), _, D⟩
                    · have c89 : (((pA M f) : Nat) : Int) = ((3 : Nat) : Int) := (i_eq (S.2.1 f hf) (by decide : (3 : Int32).toInt = ((3 : Nat) : Int))).mp c89
                      refine lv_aload_n hx hb dX9_comesTo_155 rfl (lv_at hl 0 rfl) ?_
                      refine lv_iload_n hx hb dX9_comesTo_156 rfl (lv_at hl 1 rfl) ?_
                      refine lv_iload_n hx hb dX9_comesTo_157 rfl (lv_at hl 2 rfl) ?_
                      refine lv_iload hx hb dX9_comesTo_158 (lv_at hl 5 rfl) ?_
                      refine lv_iload hx hb dX9_comesTo_160 (lv_at hl 4 rfl) ?_
                      refine lv_iload_n hx hb dX9_comesTo_162 rfl (lv_at hl 3 rfl) ?_
                      refine r_callI w (va_runV (As := [.int p0, .int p1, .int p4, .int p3, .int p2]) (rest := []) ⟨hx, hb, hml, hown, hts⟩ (c_X9_bodyBy l D S hP hu hL hT (xs := mArg u M f (x + mB u * y + mB u * mB u * z)) p0 p1 p4 p3 p2 hp0 hp1 hf (fun q_ => by first | (exfalso; omega) | exact hp4.trans (by rw [mArg_eq (j := 2) q_ (by first | (rw [if_pos (by omega)]; omega) | rw [if_neg (by omega)]) d2])) (fun q_ => by first | (exfalso; omega) | exact hp3.trans (by rw [mArg_eq (j := 1) q_ (by first | (rw [if_pos (by omega)]; omega) | rw [if_neg (by omega)]) d1])) (fun q_ => by first | (exfalso; omega) | exact hp2.trans (by rw [mArg_eq (j := 0) q_ (by first | (rw [if_pos (by omega)]; omega) | rw [if_neg (by omega)]) d0])) (mArg_lt u M f _)) (cwV 5 hts gX9_comesTo_X9_bodyBy rfl rfl rfl (by decide +kernel) ⟨Nat.le_of_ble_eq_true rfl, Nat.le_of_ble_eq_true rfl⟩) (r_preV w (by have := D.1; omega) D.c0 rfl) rfl rfl hl.1 rfl (lv_room (Nat.le_of_ble_eq_true rfl)) dX9_comesTo_163 ⟨Nat.zero_le _, Nat.zero_le _⟩) (fun r94 h93 H locs hp w => ?_)
                      obtain ⟨hfk95, hrk95, gpk95, D⟩ := hp
                      refine lv_goto (tgt := 180) hx hb dX9_comesTo_166 (by decide) ?_
                      refine r_iret (v := r94) hx hb hr hlocks w dX9_comesTo_180 ?_
                      exact ⟨fun k_ hk_ => (hfk95 k_ hk_).trans (by rw [hh]), hrk95.trans (by rw [mStep_f (fun q_ => absurd (hst_.mp q_) (by omega))]), _, D⟩
                · have c84 : (((pA M f) : Nat) : Int) = ((2 : Nat) : Int) := (i_eq (S.2.1 f hf) (by decide : (2 : Int32).toInt = ((2 : Nat) : Int))).mp c84
                  refine lv_aload_n hx hb dX9_comesTo_131 rfl (lv_at hl 0 rfl) ?_
                  refine lv_iload_n hx hb dX9_comesTo_132 rfl (lv_at hl 1 rfl) ?_
                  refine lv_iload_n hx hb dX9_comesTo_133 rfl (lv_at hl 2 rfl) ?_
                  refine lv_iload hx hb dX9_comesTo_134 (lv_at hl 4 rfl) ?_
                  refine lv_iload_n hx hb dX9_comesTo_136 rfl (lv_at hl 3 rfl) ?_
                  refine lv_iload hx hb dX9_comesTo_137 (lv_at hl 5 rfl) ?_
                  refine r_callI w (va_runV (As := [.int p0, .int p1, .int p3, .int p2, .int p4]) (rest := []) ⟨hx, hb, hml, hown, hts⟩ (c_X9_bodyBy l D S hP hu hL hT (xs := mArg u M f (x + mB u * y + mB u * mB u * z)) p0 p1 p3 p2 p4 hp0 hp1 hf (fun q_ => by first | (exfalso; omega) | exact hp3.trans (by rw [mArg_eq (j := 1) q_ (by first | (rw [if_pos (by omega)]; omega) | rw [if_neg (by omega)]) d1])) (fun q_ => by first | (exfalso; omega) | exact hp2.trans (by rw [mArg_eq (j := 0) q_ (by first | (rw [if_pos (by omega)]; omega) | rw [if_neg (by omega)]) d0])) (fun q_ => by first | (exfalso; omega) | exact hp4.trans (by rw [mArg_eq (j := 2) q_ (by first | (rw [if_pos (by omega)]; omega) | rw [if_neg (by omega)]) d2])) (mArg_lt u M f _)) (cwV 5 hts gX9_comesTo_X9_bodyBy rfl rfl rfl (by decide +kernel) ⟨Nat.le_of_ble_eq_true rfl, Nat.le_of_ble_eq_true rfl⟩) (r_preV w (by have := D.1; omega) D.c0 rfl) rfl rfl hl.1 rfl (lv_room (Nat.le_of_ble_eq_true rfl)) dX9_comesTo_139 ⟨Nat.zero_le _, Nat.zero_le _⟩) (fun r97 h96 H locs hp w => ?_)
                  obtain ⟨hfk98, hrk98, gpk98, D⟩ := hp
                  refine r_iret (v := r97) hx hb hr hlocks w dX9_comesTo_142 ?_
                  exact ⟨fun k_ hk_ => (hfk98 k_ hk_).trans (by rw [hh]), hrk98.trans (by rw [mStep_f (fun q_ => absurd (hst_.mp q_) (by omega))]), _, D⟩
            · have c71 : (((pK M f) : Nat) : Int) = ((2 : Nat) : Int) := (i_eq (S.2.2.1 f hf) (by decide : (2 : Int32).toInt = ((2 : Nat) : Int))).mp c71
              refine lv_iload hx hb dX9_comesTo_109 (lv_at hl 9 rfl) ?_
              refine lv_if_eq (tgt := 119) hx hb dX9_comesTo_111 (by decide) (fun c99 => ?_) (fun c99 => ?_)
              · have c99 := hx9.eq c99
                refine lv_iload hx hb dX9_comesTo_119 (lv_at hl 7 rfl) ?_
                refine lv_iconst (v := 3) hx hb dX9_comesTo_121 (by decide) ?_
                refine lv_icmp_ne (tgt := 143) hx hb dX9_comesTo_122 (by decide) (fun c100 => ?_) (fun c100 => ?_)
                · have c100 : ¬ ((((pK M f) : Nat) : Int) = ((3 : Nat) : Int)) := fun q => c100 ((i_eq (S.2.2.1 f hf) (by decide : (3 : Int32).toInt = ((3 : Nat) : Int))).mpr q)
                  refine lv_iload hx hb dX9_comesTo_143 (lv_at hl 7 rfl) ?_
                  refine lv_iconst (v := 3) hx hb dX9_comesTo_145 (by decide) ?_
                  refine lv_icmp_ne (tgt := 169) hx hb dX9_comesTo_146 (by decide) (fun c101 => ?_) (fun c101 => ?_)
                  · have c101 : ¬ ((((pK M f) : Nat) : Int) = ((3 : Nat) : Int)) := fun q => c101 ((i_eq (S.2.2.1 f hf) (by decide : (3 : Int32).toInt = ((3 : Nat) : Int))).mpr q)
                    refine lv_aload_n hx hb dX9_comesTo_169 rfl (lv_at hl 0 rfl) ?_
                    refine lv_iload_n hx hb dX9_comesTo_170 rfl (lv_at hl 1 rfl) ?_
                    refine lv_iload_n hx hb dX9_comesTo_171 rfl (lv_at hl 2 rfl) ?_
                    refine lv_iload_n hx hb dX9_comesTo_172 rfl (lv_at hl 3 rfl) ?_
                    refine lv_iload hx hb dX9_comesTo_173 (lv_at hl 4 rfl) ?_
                    refine lv_iload hx hb dX9_comesTo_175 (lv_at hl 5 rfl) ?_
                    refine r_callI w (va_runV (As := [.int p0, .int p1, .int p2, .int p3, .int p4]) (rest := []) ⟨hx, hb, hml, hown, hts⟩ (c_X9_bodyBy l D S hP hu hL hT (xs := mArg u M f (x + mB u * y + mB u * mB u * z)) p0 p1 p2 p3 p4 hp0 hp1 hf (fun q_ => by first | (exfalso; omega) | exact hp2.trans (by rw [mArg_eq (j := 0) q_ (by first | (rw [if_pos (by omega)]; omega) | rw [if_neg (by omega)]) d0])) (fun q_ => by first | (exfalso; omega) | exact hp3.trans (by rw [mArg_eq (j := 1) q_ (by first | (rw [if_pos (by omega)]; omega) | rw [if_neg (by omega)]) d1])) (fun q_ => by first | (exfalso; omega) | exact hp4.trans (by rw [mArg_eq (j := 2) q_ (by first | (rw [if_pos (by omega)]; omega) | rw [if_neg (by omega)]) d2])) (mArg_lt u M f _)) (cwV 5 hts gX9_comesTo_X9_bodyBy rfl rfl rfl (by decide +kernel) ⟨Nat.le_of_ble_eq_true rfl, Nat.le_of_ble_eq_true rfl⟩) (r_preV w (by have := D.1; omega) D.c0 rfl) rfl rfl hl.1 rfl (lv_room (Nat.le_of_ble_eq_true rfl)) dX9_comesTo_177 ⟨Nat.zero_le _, Nat.zero_le _⟩) (fun r103 h102 H locs hp w => ?_)
                    obtain ⟨hfk104, hrk104, gpk104, D⟩ := hp
                    refine r_iret (v := r103) hx hb hr hlocks w dX9_comesTo_180 ?_
                    exact ⟨fun k_ hk_ => (hfk104 k_ hk_).trans (by rw [hh]), hrk104.trans (by rw [mStep_f (fun q_ => absurd (hst_.mp q_) (by omega))]), _, D⟩
                  · have c101 : (((pK M f) : Nat) : Int) = ((3 : Nat) : Int) := (i_eq (S.2.2.1 f hf) (by decide : (3 : Int32).toInt = ((3 : Nat) : Int))).mp c101
                    refine lv_iload hx hb dX9_comesTo_149 (lv_at hl 6 rfl) ?_
                    refine lv_iconst (v := 3) hx hb dX9_comesTo_151 (by decide) ?_
                    refine lv_icmp_ne (tgt := 169) hx hb dX9_comesTo_152 (by decide) (fun c105 => ?_) (fun c105 => ?_)
                    · have c105 : ¬ ((((pA M f) : Nat) : Int) = ((3 : Nat) : Int)) := fun q => c105 ((i_eq (S.2.1 f hf) (by decide : (3 : Int32).toInt = ((3 : Nat) : Int))).mpr q)
                      refine lv_aload_n hx hb dX9_comesTo_169 rfl (lv_at hl 0 rfl) ?_
                      refine lv_iload_n hx hb dX9_comesTo_170 rfl (lv_at hl 1 rfl) ?_
                      refine lv_iload_n hx hb dX9_comesTo_171 rfl (lv_at hl 2 rfl) ?_
                      refine lv_iload_n hx hb dX9_comesTo_172 rfl (lv_at hl 3 rfl) ?_
                      refine lv_iload hx hb dX9_comesTo_173 (lv_at hl 4 rfl) ?_
                      refine lv_iload hx hb dX9_comesTo_175 (lv_at hl 5 rfl) ?_
                      refine r_callI w (va_runV (As := [.int p0, .int p1, .int p2, .int p3, .int p4]) (rest := []) ⟨hx, hb, hml, hown, hts⟩ (c_X9_bodyBy l D S hP hu hL hT (xs := mArg u M f (x + mB u * y + mB u * mB u * z)) p0 p1 p2 p3 p4 hp0 hp1 hf (fun q_ => by first | (exfalso; omega) | exact hp2.trans (by rw [mArg_eq (j := 0) q_ (by first | (rw [if_pos (by omega)]; omega) | rw [if_neg (by omega)]) d0])) (fun q_ => by first | (exfalso; omega) | exact hp3.trans (by rw [mArg_eq (j := 1) q_ (by first | (rw [if_pos (by omega)]; omega) | rw [if_neg (by omega)]) d1])) (fun q_ => by first | (exfalso; omega) | exact hp4.trans (by rw [mArg_eq (j := 2) q_ (by first | (rw [if_pos (by omega)]; omega) | rw [if_neg (by omega)]) d2])) (mArg_lt u M f _)) (cwV 5 hts gX9_comesTo_X9_bodyBy rfl rfl rfl (by decide +kernel) ⟨Nat.le_of_ble_eq_true rfl, Nat.le_of_ble_eq_true rfl⟩) (r_preV w (by have := D.1; omega) D.c0 rfl) rfl rfl hl.1 rfl (lv_room (Nat.le_of_ble_eq_true rfl)) dX9_comesTo_177 ⟨Nat.zero_le _, Nat.zero_le _⟩) (fun r107 h106 H locs hp w => ?_)
                      obtain ⟨hfk108, hrk108, gpk108, D⟩ := hp
                      refine r_iret (v := r107) hx hb hr hlocks w dX9_comesTo_180 ?_
                      exact ⟨fun k_ hk_ => (hfk108 k_ hk_).trans (by rw [hh]), hrk108.trans (by rw [mStep_f (fun q_ => absurd (hst_.mp q_) (by omega))]), _, D⟩
                    · have c105 : (((pA M f) : Nat) : Int) = ((3 : Nat) : Int) := (i_eq (S.2.1 f hf) (by decide : (3 : Int32).toInt = ((3 : Nat) : Int))).mp c105
                      refine lv_aload_n hx hb dX9_comesTo_155 rfl (lv_at hl 0 rfl) ?_
                      refine lv_iload_n hx hb dX9_comesTo_156 rfl (lv_at hl 1 rfl) ?_
                      refine lv_iload_n hx hb dX9_comesTo_157 rfl (lv_at hl 2 rfl) ?_
                      refine lv_iload hx hb dX9_comesTo_158 (lv_at hl 5 rfl) ?_
                      refine lv_iload hx hb dX9_comesTo_160 (lv_at hl 4 rfl) ?_
                      refine lv_iload_n hx hb dX9_comesTo_162 rfl (lv_at hl 3 rfl) ?_
                      refine r_callI w (va_runV (As := [.int p0, .int p1, .int p4, .int p3, .int p2]) (rest := []) ⟨hx, hb, hml, hown, hts⟩ (c_X9_bodyBy l D S hP hu hL hT (xs := mArg u M f (x + mB u * y + mB u * mB u * z)) p0 p1 p4 p3 p2 hp0 hp1 hf (fun q_ => by first | (exfalso; omega) | exact hp4.trans (by rw [mArg_eq (j := 2) q_ (by first | (rw [if_pos (by omega)]; omega) | rw [if_neg (by omega)]) d2])) (fun q_ => by first | (exfalso; omega) | exact hp3.trans (by rw [mArg_eq (j := 1) q_ (by first | (rw [if_pos (by omega)]; omega) | rw [if_neg (by omega)]) d1])) (fun q_ => by first | (exfalso; omega) | exact hp2.trans (by rw [mArg_eq (j := 0) q_ (by first | (rw [if_pos (by omega)]; omega) | rw [if_neg (by omega)]) d0])) (mArg_lt u M f _)) (cwV 5 hts gX9_comesTo_X9_bodyBy rfl rfl rfl (by decide +kernel) ⟨Nat.le_of_ble_eq_true rfl, Nat.le_of_ble_eq_true rfl⟩) (r_preV w (by have := D.1; omega) D.c0 rfl) rfl rfl hl.1 rfl (lv_room (Nat.le_of_ble_eq_true rfl)) dX9_comesTo_163 ⟨Nat.zero_le _, Nat.zero_le _⟩) (fun r110 h109 H locs hp w => ?_)
                      obtain ⟨hfk111, hrk111, gpk111, D⟩ := hp
                      refine lv_goto (tgt := 180) hx hb dX9_comesTo_166 (by decide) ?_
                      refine r_iret (v := r110) hx hb hr hlocks w dX9_comesTo_180 ?_
                      exact ⟨fun k_ hk_ => (hfk111 k_ hk_).trans (by rw [hh]), hrk111.trans (by rw [mStep_f (fun q_ => absurd (hst_.mp q_) (by omega))]), _, D⟩
                · have c100 : (((pK M f) : Nat) : Int) = ((3 : Nat) : Int) := (i_eq (S.2.2.1 f hf) (by decide : (3 : Int32).toInt = ((3 : Nat) : Int))).mp c100
                  refine lv_iload hx hb dX9_comesTo_125 (lv_at hl 6 rfl) ?_
                  refine lv_iconst (v := 2) hx hb dX9_comesTo_127 (by decide) ?_
                  refine lv_icmp_ne (tgt := 143) hx hb dX9_comesTo_128 (by decide) (fun c112 => ?_) (fun c112 => ?_)
                  · have c112 : ¬ ((((pA M f) : Nat) : Int) = ((2 : Nat) : Int)) := fun q => c112 ((i_eq (S.2.1 f hf) (by decide : (2 : Int32).toInt = ((2 : Nat) : Int))).mpr q)
                    refine lv_iload hx hb dX9_comesTo_143 (lv_at hl 7 rfl) ?_
                    refine lv_iconst (v := 3) hx hb dX9_comesTo_145 (by decide) ?_
                    refine lv_icmp_ne (tgt := 169) hx hb dX9_comesTo_146 (by decide) (fun c113 => ?_) (fun c113 => ?_)
                    · have c113 : ¬ ((((pK M f) : Nat) : Int) = ((3 : Nat) : Int)) := fun q => c113 ((i_eq (S.2.2.1 f hf) (by decide : (3 : Int32).toInt = ((3 : Nat) : Int))).mpr q)
                      refine lv_aload_n hx hb dX9_comesTo_169 rfl (lv_at hl 0 rfl) ?_
                      refine lv_iload_n hx hb dX9_comesTo_170 rfl (lv_at hl 1 rfl) ?_
                      refine lv_iload_n hx hb dX9_comesTo_171 rfl (lv_at hl 2 rfl) ?_
                      refine lv_iload_n hx hb dX9_comesTo_172 rfl (lv_at hl 3 rfl) ?_
                      refine lv_iload hx hb dX9_comesTo_173 (lv_at hl 4 rfl) ?_
                      refine lv_iload hx hb dX9_comesTo_175 (lv_at hl 5 rfl) ?_
                      refine r_callI w (va_runV (As := [.int p0, .int p1, .int p2, .int p3, .int p4]) (rest := []) ⟨hx, hb, hml, hown, hts⟩ (c_X9_bodyBy l D S hP hu hL hT (xs := mArg u M f (x + mB u * y + mB u * mB u * z)) p0 p1 p2 p3 p4 hp0 hp1 hf (fun q_ => by first | (exfalso; omega) | exact hp2.trans (by rw [mArg_eq (j := 0) q_ (by first | (rw [if_pos (by omega)]; omega) | rw [if_neg (by omega)]) d0])) (fun q_ => by first | (exfalso; omega) | exact hp3.trans (by rw [mArg_eq (j := 1) q_ (by first | (rw [if_pos (by omega)]; omega) | rw [if_neg (by omega)]) d1])) (fun q_ => by first | (exfalso; omega) | exact hp4.trans (by rw [mArg_eq (j := 2) q_ (by first | (rw [if_pos (by omega)]; omega) | rw [if_neg (by omega)]) d2])) (mArg_lt u M f _)) (cwV 5 hts gX9_comesTo_X9_bodyBy rfl rfl rfl (by decide +kernel) ⟨Nat.le_of_ble_eq_true rfl, Nat.le_of_ble_eq_true rfl⟩) (r_preV w (by have := D.1; omega) D.c0 rfl) rfl rfl hl.1 rfl (lv_room (Nat.le_of_ble_eq_true rfl)) dX9_comesTo_177 ⟨Nat.zero_le _, Nat.zero_le _⟩) (fun r115 h114 H locs hp w => ?_)
                      obtain ⟨hfk116, hrk116, gpk116, D⟩ := hp
                      refine r_iret (v := r115) hx hb hr hlocks w dX9_comesTo_180 ?_
                      exact ⟨fun k_ hk_ => (hfk116 k_ hk_).trans (by rw [hh]), hrk116.trans (by rw [mStep_f (fun q_ => absurd (hst_.mp q_) (by omega))]), _, D⟩
                    · have c113 : (((pK M f) : Nat) : Int) = ((3 : Nat) : Int) := (i_eq (S.2.2.1 f hf) (by decide : (3 : Int32).toInt = ((3 : Nat) : Int))).mp c113
                      refine lv_iload hx hb dX9_comesTo_149 (lv_at hl 6 rfl) ?_
                      refine lv_iconst (v := 3) hx hb dX9_comesTo_151 (by decide) ?_
                      refine lv_icmp_ne (tgt := 169) hx hb dX9_comesTo_152 (by decide) (fun c117 => ?_) (fun c117 => ?_)
                      · have c117 : ¬ ((((pA M f) : Nat) : Int) = ((3 : Nat) : Int)) := fun q => c117 ((i_eq (S.2.1 f hf) (by decide : (3 : Int32).toInt = ((3 : Nat) : Int))).mpr q)
                        refine lv_aload_n hx hb dX9_comesTo_169 rfl (lv_at hl 0 rfl) ?_
                        refine lv_iload_n hx hb dX9_comesTo_170 rfl (lv_at hl 1 rfl) ?_
                        refine lv_iload_n hx hb dX9_comesTo_171 rfl (lv_at hl 2 rfl) ?_
                        refine lv_iload_n hx hb dX9_comesTo_172 rfl (lv_at hl 3 rfl) ?_
                        refine lv_iload hx hb dX9_comesTo_173 (lv_at hl 4 rfl) ?_
                        refine lv_iload hx hb dX9_comesTo_175 (lv_at hl 5 rfl) ?_
                        refine r_callI w (va_runV (As := [.int p0, .int p1, .int p2, .int p3, .int p4]) (rest := []) ⟨hx, hb, hml, hown, hts⟩ (c_X9_bodyBy l D S hP hu hL hT (xs := mArg u M f (x + mB u * y + mB u * mB u * z)) p0 p1 p2 p3 p4 hp0 hp1 hf (fun q_ => by first | (exfalso; omega) | exact hp2.trans (by rw [mArg_eq (j := 0) q_ (by first | (rw [if_pos (by omega)]; omega) | rw [if_neg (by omega)]) d0])) (fun q_ => by first | (exfalso; omega) | exact hp3.trans (by rw [mArg_eq (j := 1) q_ (by first | (rw [if_pos (by omega)]; omega) | rw [if_neg (by omega)]) d1])) (fun q_ => by first | (exfalso; omega) | exact hp4.trans (by rw [mArg_eq (j := 2) q_ (by first | (rw [if_pos (by omega)]; omega) | rw [if_neg (by omega)]) d2])) (mArg_lt u M f _)) (cwV 5 hts gX9_comesTo_X9_bodyBy rfl rfl rfl (by decide +kernel) ⟨Nat.le_of_ble_eq_true rfl, Nat.le_of_ble_eq_true rfl⟩) (r_preV w (by have := D.1; omega) D.c0 rfl) rfl rfl hl.1 rfl (lv_room (Nat.le_of_ble_eq_true rfl)) dX9_comesTo_177 ⟨Nat.zero_le _, Nat.zero_le _⟩) (fun r119 h118 H locs hp w => ?_)
                        obtain ⟨hfk120, hrk120, gpk120, D⟩ := hp
                        refine r_iret (v := r119) hx hb hr hlocks w dX9_comesTo_180 ?_
                        exact ⟨fun k_ hk_ => (hfk120 k_ hk_).trans (by rw [hh]), hrk120.trans (by rw [mStep_f (fun q_ => absurd (hst_.mp q_) (by omega))]), _, D⟩
                      · have c117 : (((pA M f) : Nat) : Int) = ((3 : Nat) : Int) := (i_eq (S.2.1 f hf) (by decide : (3 : Int32).toInt = ((3 : Nat) : Int))).mp c117
                        refine lv_aload_n hx hb dX9_comesTo_155 rfl (lv_at hl 0 rfl) ?_
                        refine lv_iload_n hx hb dX9_comesTo_156 rfl (lv_at hl 1 rfl) ?_
                        refine lv_iload_n hx hb dX9_comesTo_157 rfl (lv_at hl 2 rfl) ?_
                        refine lv_iload hx hb dX9_comesTo_158 (lv_at hl 5 rfl) ?_
                        refine lv_iload hx hb dX9_comesTo_160 (lv_at hl 4 rfl) ?_
                        refine lv_iload_n hx hb dX9_comesTo_162 rfl (lv_at hl 3 rfl) ?_
                        refine r_callI w (va_runV (As := [.int p0, .int p1, .int p4, .int p3, .int p2]) (rest := []) ⟨hx, hb, hml, hown, hts⟩ (c_X9_bodyBy l D S hP hu hL hT (xs := mArg u M f (x + mB u * y + mB u * mB u * z)) p0 p1 p4 p3 p2 hp0 hp1 hf (fun q_ => by first | (exfalso; omega) | exact hp4.trans (by rw [mArg_eq (j := 2) q_ (by first | (rw [if_pos (by omega)]; omega) | rw [if_neg (by omega)]) d2])) (fun q_ => by first | (exfalso; omega) | exact hp3.trans (by rw [mArg_eq (j := 1) q_ (by first | (rw [if_pos (by omega)]; omega) | rw [if_neg (by omega)]) d1])) (fun q_ => by first | (exfalso; omega) | exact hp2.trans (by rw [mArg_eq (j := 0) q_ (by first | (rw [if_pos (by omega)]; omega) | rw [if_neg (by omega)]) d0])) (mArg_lt u M f _)) (cwV 5 hts gX9_comesTo_X9_bodyBy rfl rfl rfl (by decide +kernel) ⟨Nat.le_of_ble_eq_true rfl, Nat.le_of_ble_eq_true rfl⟩) (r_preV w (by have := D.1; omega) D.c0 rfl) rfl rfl hl.1 rfl (lv_room (Nat.le_of_ble_eq_true rfl)) dX9_comesTo_163 ⟨Nat.zero_le _, Nat.zero_le _⟩) (fun r122 h121 H locs hp w => ?_)
                        obtain ⟨hfk123, hrk123, gpk123, D⟩ := hp
                        refine lv_goto (tgt := 180) hx hb dX9_comesTo_166 (by decide) ?_
                        refine r_iret (v := r122) hx hb hr hlocks w dX9_comesTo_180 ?_
                        exact ⟨fun k_ hk_ => (hfk123 k_ hk_).trans (by rw [hh]), hrk123.trans (by rw [mStep_f (fun q_ => absurd (hst_.mp q_) (by omega))]), _, D⟩
                  · have c112 : (((pA M f) : Nat) : Int) = ((2 : Nat) : Int) := (i_eq (S.2.1 f hf) (by decide : (2 : Int32).toInt = ((2 : Nat) : Int))).mp c112
                    refine lv_aload_n hx hb dX9_comesTo_131 rfl (lv_at hl 0 rfl) ?_
                    refine lv_iload_n hx hb dX9_comesTo_132 rfl (lv_at hl 1 rfl) ?_
                    refine lv_iload_n hx hb dX9_comesTo_133 rfl (lv_at hl 2 rfl) ?_
                    refine lv_iload hx hb dX9_comesTo_134 (lv_at hl 4 rfl) ?_
                    refine lv_iload_n hx hb dX9_comesTo_136 rfl (lv_at hl 3 rfl) ?_
                    refine lv_iload hx hb dX9_comesTo_137 (lv_at hl 5 rfl) ?_
                    refine r_callI w (va_runV (As := [.int p0, .int p1, .int p3, .int p2, .int p4]) (rest := []) ⟨hx, hb, hml, hown, hts⟩ (c_X9_bodyBy l D S hP hu hL hT (xs := mArg u M f (x + mB u * y + mB u * mB u * z)) p0 p1 p3 p2 p4 hp0 hp1 hf (fun q_ => by first | (exfalso; omega) | exact hp3.trans (by rw [mArg_eq (j := 1) q_ (by first | (rw [if_pos (by omega)]; omega) | rw [if_neg (by omega)]) d1])) (fun q_ => by first | (exfalso; omega) | exact hp2.trans (by rw [mArg_eq (j := 0) q_ (by first | (rw [if_pos (by omega)]; omega) | rw [if_neg (by omega)]) d0])) (fun q_ => by first | (exfalso; omega) | exact hp4.trans (by rw [mArg_eq (j := 2) q_ (by first | (rw [if_pos (by omega)]; omega) | rw [if_neg (by omega)]) d2])) (mArg_lt u M f _)) (cwV 5 hts gX9_comesTo_X9_bodyBy rfl rfl rfl (by decide +kernel) ⟨Nat.le_of_ble_eq_true rfl, Nat.le_of_ble_eq_true rfl⟩) (r_preV w (by have := D.1; omega) D.c0 rfl) rfl rfl hl.1 rfl (lv_room (Nat.le_of_ble_eq_true rfl)) dX9_comesTo_139 ⟨Nat.zero_le _, Nat.zero_le _⟩) (fun r125 h124 H locs hp w => ?_)
                    obtain ⟨hfk126, hrk126, gpk126, D⟩ := hp
                    refine r_iret (v := r125) hx hb hr hlocks w dX9_comesTo_142 ?_
                    exact ⟨fun k_ hk_ => (hfk126 k_ hk_).trans (by rw [hh]), hrk126.trans (by rw [mStep_f (fun q_ => absurd (hst_.mp q_) (by omega))]), _, D⟩
              · have c99 := hx9.ne c99
                refine lv_iload_n hx hb dX9_comesTo_114 rfl (lv_at hl 1 rfl) ?_
                refine r_callI w (va_runS (As := [.int p0]) (rest := []) ⟨hx, hb, hml, hown, hts⟩ (c_X9_neverOf l hu p0 hp0) (va_cwS 1 hts gX9_comesTo_X9_neverOf rfl rfl rfl (by decide +kernel) ⟨Nat.le_of_ble_eq_true rfl, Nat.le_of_ble_eq_true rfl⟩) (r_preS w) rfl rfl hl.1 rfl (lv_room (Nat.le_of_ble_eq_true rfl)) dX9_comesTo_115 ⟨Nat.zero_le _, Nat.zero_le _⟩) (fun r128 h127 H locs hp w => ?_)
                obtain ⟨eh_, qq129⟩ := hp
                have eh_ := eh_.symm
                subst eh_
                refine r_iret (v := r128) hx hb hr hlocks w dX9_comesTo_118 ?_
                exact ⟨fun k_ _ => by rw [hh], qq129.trans (by rw [mStep_t (hst_.mpr (by omega))]), gp, D⟩
          · have c70 : (((pK M f) : Nat) : Int) = ((3 : Nat) : Int) := (i_eq (S.2.2.1 f hf) (by decide : (3 : Int32).toInt = ((3 : Nat) : Int))).mp c70
            refine lv_iload hx hb dX9_comesTo_98 (lv_at hl 8 rfl) ?_
            refine lv_if_ne (tgt := 114) hx hb dX9_comesTo_100 (by decide) (fun c130 => ?_) (fun c130 => ?_)
            · have c130 := hx8.ne c130
              refine lv_iload_n hx hb dX9_comesTo_114 rfl (lv_at hl 1 rfl) ?_
              refine r_callI w (va_runS (As := [.int p0]) (rest := []) ⟨hx, hb, hml, hown, hts⟩ (c_X9_neverOf l hu p0 hp0) (va_cwS 1 hts gX9_comesTo_X9_neverOf rfl rfl rfl (by decide +kernel) ⟨Nat.le_of_ble_eq_true rfl, Nat.le_of_ble_eq_true rfl⟩) (r_preS w) rfl rfl hl.1 rfl (lv_room (Nat.le_of_ble_eq_true rfl)) dX9_comesTo_115 ⟨Nat.zero_le _, Nat.zero_le _⟩) (fun r132 h131 H locs hp w => ?_)
              obtain ⟨eh_, qq133⟩ := hp
              have eh_ := eh_.symm
              subst eh_
              refine r_iret (v := r132) hx hb hr hlocks w dX9_comesTo_118 ?_
              exact ⟨fun k_ _ => by rw [hh], qq133.trans (by rw [mStep_t (hst_.mpr (by omega))]), gp, D⟩
            · have c130 := hx8.eq c130
              refine lv_iload hx hb dX9_comesTo_103 (lv_at hl 7 rfl) ?_
              refine lv_iconst (v := 2) hx hb dX9_comesTo_105 (by decide) ?_
              refine lv_icmp_ne (tgt := 119) hx hb dX9_comesTo_106 (by decide) (fun c134 => ?_) (fun c134 => ?_)
              · have c134 : ¬ ((((pK M f) : Nat) : Int) = ((2 : Nat) : Int)) := fun q => c134 ((i_eq (S.2.2.1 f hf) (by decide : (2 : Int32).toInt = ((2 : Nat) : Int))).mpr q)
                refine lv_iload hx hb dX9_comesTo_119 (lv_at hl 7 rfl) ?_
                refine lv_iconst (v := 3) hx hb dX9_comesTo_121 (by decide) ?_
                refine lv_icmp_ne (tgt := 143) hx hb dX9_comesTo_122 (by decide) (fun c135 => ?_) (fun c135 => ?_)
                · have c135 : ¬ ((((pK M f) : Nat) : Int) = ((3 : Nat) : Int)) := fun q => c135 ((i_eq (S.2.2.1 f hf) (by decide : (3 : Int32).toInt = ((3 : Nat) : Int))).mpr q)
                  refine lv_iload hx hb dX9_comesTo_143 (lv_at hl 7 rfl) ?_
                  refine lv_iconst (v := 3) hx hb dX9_comesTo_145 (by decide) ?_
                  refine lv_icmp_ne (tgt := 169) hx hb dX9_comesTo_146 (by decide) (fun c136 => ?_) (fun c136 => ?_)
                  · have c136 : ¬ ((((pK M f) : Nat) : Int) = ((3 : Nat) : Int)) := fun q => c136 ((i_eq (S.2.2.1 f hf) (by decide : (3 : Int32).toInt = ((3 : Nat) : Int))).mpr q)
                    refine lv_aload_n hx hb dX9_comesTo_169 rfl (lv_at hl 0 rfl) ?_
                    refine lv_iload_n hx hb dX9_comesTo_170 rfl (lv_at hl 1 rfl) ?_
                    refine lv_iload_n hx hb dX9_comesTo_171 rfl (lv_at hl 2 rfl) ?_
                    refine lv_iload_n hx hb dX9_comesTo_172 rfl (lv_at hl 3 rfl) ?_
                    refine lv_iload hx hb dX9_comesTo_173 (lv_at hl 4 rfl) ?_
                    refine lv_iload hx hb dX9_comesTo_175 (lv_at hl 5 rfl) ?_
                    refine r_callI w (va_runV (As := [.int p0, .int p1, .int p2, .int p3, .int p4]) (rest := []) ⟨hx, hb, hml, hown, hts⟩ (c_X9_bodyBy l D S hP hu hL hT (xs := mArg u M f (x + mB u * y + mB u * mB u * z)) p0 p1 p2 p3 p4 hp0 hp1 hf (fun q_ => by first | (exfalso; omega) | exact hp2.trans (by rw [mArg_eq (j := 0) q_ (by first | (rw [if_pos (by omega)]; omega) | rw [if_neg (by omega)]) d0])) (fun q_ => by first | (exfalso; omega) | exact hp3.trans (by rw [mArg_eq (j := 1) q_ (by first | (rw [if_pos (by omega)]; omega) | rw [if_neg (by omega)]) d1])) (fun q_ => by first | (exfalso; omega) | exact hp4.trans (by rw [mArg_eq (j := 2) q_ (by first | (rw [if_pos (by omega)]; omega) | rw [if_neg (by omega)]) d2])) (mArg_lt u M f _)) (cwV 5 hts gX9_comesTo_X9_bodyBy rfl rfl rfl (by decide +kernel) ⟨Nat.le_of_ble_eq_true rfl, Nat.le_of_ble_eq_true rfl⟩) (r_preV w (by have := D.1; omega) D.c0 rfl) rfl rfl hl.1 rfl (lv_room (Nat.le_of_ble_eq_true rfl)) dX9_comesTo_177 ⟨Nat.zero_le _, Nat.zero_le _⟩) (fun r138 h137 H locs hp w => ?_)
                    obtain ⟨hfk139, hrk139, gpk139, D⟩ := hp
                    refine r_iret (v := r138) hx hb hr hlocks w dX9_comesTo_180 ?_
                    exact ⟨fun k_ hk_ => (hfk139 k_ hk_).trans (by rw [hh]), hrk139.trans (by rw [mStep_f (fun q_ => absurd (hst_.mp q_) (by omega))]), _, D⟩
                  · have c136 : (((pK M f) : Nat) : Int) = ((3 : Nat) : Int) := (i_eq (S.2.2.1 f hf) (by decide : (3 : Int32).toInt = ((3 : Nat) : Int))).mp c136
                    refine lv_iload hx hb dX9_comesTo_149 (lv_at hl 6 rfl) ?_
                    refine lv_iconst (v := 3) hx hb dX9_comesTo_151 (by decide) ?_
                    refine lv_icmp_ne (tgt := 169) hx hb dX9_comesTo_152 (by decide) (fun c140 => ?_) (fun c140 => ?_)
                    · have c140 : ¬ ((((pA M f) : Nat) : Int) = ((3 : Nat) : Int)) := fun q => c140 ((i_eq (S.2.1 f hf) (by decide : (3 : Int32).toInt = ((3 : Nat) : Int))).mpr q)
                      refine lv_aload_n hx hb dX9_comesTo_169 rfl (lv_at hl 0 rfl) ?_
                      refine lv_iload_n hx hb dX9_comesTo_170 rfl (lv_at hl 1 rfl) ?_
                      refine lv_iload_n hx hb dX9_comesTo_171 rfl (lv_at hl 2 rfl) ?_
                      refine lv_iload_n hx hb dX9_comesTo_172 rfl (lv_at hl 3 rfl) ?_
                      refine lv_iload hx hb dX9_comesTo_173 (lv_at hl 4 rfl) ?_
                      refine lv_iload hx hb dX9_comesTo_175 (lv_at hl 5 rfl) ?_
                      refine r_callI w (va_runV (As := [.int p0, .int p1, .int p2, .int p3, .int p4]) (rest := []) ⟨hx, hb, hml, hown, hts⟩ (c_X9_bodyBy l D S hP hu hL hT (xs := mArg u M f (x + mB u * y + mB u * mB u * z)) p0 p1 p2 p3 p4 hp0 hp1 hf (fun q_ => by first | (exfalso; omega) | exact hp2.trans (by rw [mArg_eq (j := 0) q_ (by first | (rw [if_pos (by omega)]; omega) | rw [if_neg (by omega)]) d0])) (fun q_ => by first | (exfalso; omega) | exact hp3.trans (by rw [mArg_eq (j := 1) q_ (by first | (rw [if_pos (by omega)]; omega) | rw [if_neg (by omega)]) d1])) (fun q_ => by first | (exfalso; omega) | exact hp4.trans (by rw [mArg_eq (j := 2) q_ (by first | (rw [if_pos (by omega)]; omega) | rw [if_neg (by omega)]) d2])) (mArg_lt u M f _)) (cwV 5 hts gX9_comesTo_X9_bodyBy rfl rfl rfl (by decide +kernel) ⟨Nat.le_of_ble_eq_true rfl, Nat.le_of_ble_eq_true rfl⟩) (r_preV w (by have := D.1; omega) D.c0 rfl) rfl rfl hl.1 rfl (lv_room (Nat.le_of_ble_eq_true rfl)) dX9_comesTo_177 ⟨Nat.zero_le _, Nat.zero_le _⟩) (fun r142 h141 H locs hp w => ?_)
                      obtain ⟨hfk143, hrk143, gpk143, D⟩ := hp
                      refine r_iret (v := r142) hx hb hr hlocks w dX9_comesTo_180 ?_
                      exact ⟨fun k_ hk_ => (hfk143 k_ hk_).trans (by rw [hh]), hrk143.trans (by rw [mStep_f (fun q_ => absurd (hst_.mp q_) (by omega))]), _, D⟩
                    · have c140 : (((pA M f) : Nat) : Int) = ((3 : Nat) : Int) := (i_eq (S.2.1 f hf) (by decide : (3 : Int32).toInt = ((3 : Nat) : Int))).mp c140
                      refine lv_aload_n hx hb dX9_comesTo_155 rfl (lv_at hl 0 rfl) ?_
                      refine lv_iload_n hx hb dX9_comesTo_156 rfl (lv_at hl 1 rfl) ?_
                      refine lv_iload_n hx hb dX9_comesTo_157 rfl (lv_at hl 2 rfl) ?_
                      refine lv_iload hx hb dX9_comesTo_158 (lv_at hl 5 rfl) ?_
                      refine lv_iload hx hb dX9_comesTo_160 (lv_at hl 4 rfl) ?_
                      refine lv_iload_n hx hb dX9_comesTo_162 rfl (lv_at hl 3 rfl) ?_
                      refine r_callI w (va_runV (As := [.int p0, .int p1, .int p4, .int p3, .int p2]) (rest := []) ⟨hx, hb, hml, hown, hts⟩ (c_X9_bodyBy l D S hP hu hL hT (xs := mArg u M f (x + mB u * y + mB u * mB u * z)) p0 p1 p4 p3 p2 hp0 hp1 hf (fun q_ => by first | (exfalso; omega) | exact hp4.trans (by rw [mArg_eq (j := 2) q_ (by first | (rw [if_pos (by omega)]; omega) | rw [if_neg (by omega)]) d2])) (fun q_ => by first | (exfalso; omega) | exact hp3.trans (by rw [mArg_eq (j := 1) q_ (by first | (rw [if_pos (by omega)]; omega) | rw [if_neg (by omega)]) d1])) (fun q_ => by first | (exfalso; omega) | exact hp2.trans (by rw [mArg_eq (j := 0) q_ (by first | (rw [if_pos (by omega)]; omega) | rw [if_neg (by omega)]) d0])) (mArg_lt u M f _)) (cwV 5 hts gX9_comesTo_X9_bodyBy rfl rfl rfl (by decide +kernel) ⟨Nat.le_of_ble_eq_true rfl, Nat.le_of_ble_eq_true rfl⟩) (r_preV w (by have := D.1; omega) D.c0 rfl) rfl rfl hl.1 rfl (lv_room (Nat.le_of_ble_eq_true rfl)) dX9_comesTo_163 ⟨Nat.zero_le _, Nat.zero_le _⟩) (fun r145 h144 H locs hp w => ?_)
                      obtain ⟨hfk146, hrk146, gpk146, D⟩ := hp
                      refine lv_goto (tgt := 180) hx hb dX9_comesTo_166 (by decide) ?_
                      refine r_iret (v := r145) hx hb hr hlocks w dX9_comesTo_180 ?_
                      exact ⟨fun k_ hk_ => (hfk146 k_ hk_).trans (by rw [hh]), hrk146.trans (by rw [mStep_f (fun q_ => absurd (hst_.mp q_) (by omega))]), _, D⟩
                · have c135 : (((pK M f) : Nat) : Int) = ((3 : Nat) : Int) := (i_eq (S.2.2.1 f hf) (by decide : (3 : Int32).toInt = ((3 : Nat) : Int))).mp c135
                  refine lv_iload hx hb dX9_comesTo_125 (lv_at hl 6 rfl) ?_
                  refine lv_iconst (v := 2) hx hb dX9_comesTo_127 (by decide) ?_
                  refine lv_icmp_ne (tgt := 143) hx hb dX9_comesTo_128 (by decide) (fun c147 => ?_) (fun c147 => ?_)
                  · have c147 : ¬ ((((pA M f) : Nat) : Int) = ((2 : Nat) : Int)) := fun q => c147 ((i_eq (S.2.1 f hf) (by decide : (2 : Int32).toInt = ((2 : Nat) : Int))).mpr q)
                    refine lv_iload hx hb dX9_comesTo_143 (lv_at hl 7 rfl) ?_
                    refine lv_iconst (v := 3) hx hb dX9_comesTo_145 (by decide) ?_
                    refine lv_icmp_ne (tgt := 169) hx hb dX9_comesTo_146 (by decide) (fun c148 => ?_) (fun c148 => ?_)
                    · have c148 : ¬ ((((pK M f) : Nat) : Int) = ((3 : Nat) : Int)) := fun q => c148 ((i_eq (S.2.2.1 f hf) (by decide : (3 : Int32).toInt = ((3 : Nat) : Int))).mpr q)
                      refine lv_aload_n hx hb dX9_comesTo_169 rfl (lv_at hl 0 rfl) ?_
                      refine lv_iload_n hx hb dX9_comesTo_170 rfl (lv_at hl 1 rfl) ?_
                      refine lv_iload_n hx hb dX9_comesTo_171 rfl (lv_at hl 2 rfl) ?_
                      refine lv_iload_n hx hb dX9_comesTo_172 rfl (lv_at hl 3 rfl) ?_
                      refine lv_iload hx hb dX9_comesTo_173 (lv_at hl 4 rfl) ?_
                      refine lv_iload hx hb dX9_comesTo_175 (lv_at hl 5 rfl) ?_
                      refine r_callI w (va_runV (As := [.int p0, .int p1, .int p2, .int p3, .int p4]) (rest := []) ⟨hx, hb, hml, hown, hts⟩ (c_X9_bodyBy l D S hP hu hL hT (xs := mArg u M f (x + mB u * y + mB u * mB u * z)) p0 p1 p2 p3 p4 hp0 hp1 hf (fun q_ => by first | (exfalso; omega) | exact hp2.trans (by rw [mArg_eq (j := 0) q_ (by first | (rw [if_pos (by omega)]; omega) | rw [if_neg (by omega)]) d0])) (fun q_ => by first | (exfalso; omega) | exact hp3.trans (by rw [mArg_eq (j := 1) q_ (by first | (rw [if_pos (by omega)]; omega) | rw [if_neg (by omega)]) d1])) (fun q_ => by first | (exfalso; omega) | exact hp4.trans (by rw [mArg_eq (j := 2) q_ (by first | (rw [if_pos (by omega)]; omega) | rw [if_neg (by omega)]) d2])) (mArg_lt u M f _)) (cwV 5 hts gX9_comesTo_X9_bodyBy rfl rfl rfl (by decide +kernel) ⟨Nat.le_of_ble_eq_true rfl, Nat.le_of_ble_eq_true rfl⟩) (r_preV w (by have := D.1; omega) D.c0 rfl) rfl rfl hl.1 rfl (lv_room (Nat.le_of_ble_eq_true rfl)) dX9_comesTo_177 ⟨Nat.zero_le _, Nat.zero_le _⟩) (fun r150 h149 H locs hp w => ?_)
                      obtain ⟨hfk151, hrk151, gpk151, D⟩ := hp
                      refine r_iret (v := r150) hx hb hr hlocks w dX9_comesTo_180 ?_
                      exact ⟨fun k_ hk_ => (hfk151 k_ hk_).trans (by rw [hh]), hrk151.trans (by rw [mStep_f (fun q_ => absurd (hst_.mp q_) (by omega))]), _, D⟩
                    · have c148 : (((pK M f) : Nat) : Int) = ((3 : Nat) : Int) := (i_eq (S.2.2.1 f hf) (by decide : (3 : Int32).toInt = ((3 : Nat) : Int))).mp c148
                      refine lv_iload hx hb dX9_comesTo_149 (lv_at hl 6 rfl) ?_
                      refine lv_iconst (v := 3) hx hb dX9_comesTo_151 (by decide) ?_
                      refine lv_icmp_ne (tgt := 169) hx hb dX9_comesTo_152 (by decide) (fun c152 => ?_) (fun c152 => ?_)
                      · have c152 : ¬ ((((pA M f) : Nat) : Int) = ((3 : Nat) : Int)) := fun q => c152 ((i_eq (S.2.1 f hf) (by decide : (3 : Int32).toInt = ((3 : Nat) : Int))).mpr q)
                        refine lv_aload_n hx hb dX9_comesTo_169 rfl (lv_at hl 0 rfl) ?_
                        refine lv_iload_n hx hb dX9_comesTo_170 rfl (lv_at hl 1 rfl) ?_
                        refine lv_iload_n hx hb dX9_comesTo_171 rfl (lv_at hl 2 rfl) ?_
                        refine lv_iload_n hx hb dX9_comesTo_172 rfl (lv_at hl 3 rfl) ?_
                        refine lv_iload hx hb dX9_comesTo_173 (lv_at hl 4 rfl) ?_
                        refine lv_iload hx hb dX9_comesTo_175 (lv_at hl 5 rfl) ?_
                        refine r_callI w (va_runV (As := [.int p0, .int p1, .int p2, .int p3, .int p4]) (rest := []) ⟨hx, hb, hml, hown, hts⟩ (c_X9_bodyBy l D S hP hu hL hT (xs := mArg u M f (x + mB u * y + mB u * mB u * z)) p0 p1 p2 p3 p4 hp0 hp1 hf (fun q_ => by first | (exfalso; omega) | exact hp2.trans (by rw [mArg_eq (j := 0) q_ (by first | (rw [if_pos (by omega)]; omega) | rw [if_neg (by omega)]) d0])) (fun q_ => by first | (exfalso; omega) | exact hp3.trans (by rw [mArg_eq (j := 1) q_ (by first | (rw [if_pos (by omega)]; omega) | rw [if_neg (by omega)]) d1])) (fun q_ => by first | (exfalso; omega) | exact hp4.trans (by rw [mArg_eq (j := 2) q_ (by first | (rw [if_pos (by omega)]; omega) | rw [if_neg (by omega)]) d2])) (mArg_lt u M f _)) (cwV 5 hts gX9_comesTo_X9_bodyBy rfl rfl rfl (by decide +kernel) ⟨Nat.le_of_ble_eq_true rfl, Nat.le_of_ble_eq_true rfl⟩) (r_preV w (by have := D.1; omega) D.c0 rfl) rfl rfl hl.1 rfl (lv_room (Nat.le_of_ble_eq_true rfl)) dX9_comesTo_177 ⟨Nat.zero_le _, Nat.zero_le _⟩) (fun r154 h153 H locs hp w => ?_)
                        obtain ⟨hfk155, hrk155, gpk155, D⟩ := hp
                        refine r_iret (v := r154) hx hb hr hlocks w dX9_comesTo_180 ?_
                        exact ⟨fun k_ hk_ => (hfk155 k_ hk_).trans (by rw [hh]), hrk155.trans (by rw [mStep_f (fun q_ => absurd (hst_.mp q_) (by omega))]), _, D⟩
                      · have c152 : (((pA M f) : Nat) : Int) = ((3 : Nat) : Int) := (i_eq (S.2.1 f hf) (by decide : (3 : Int32).toInt = ((3 : Nat) : Int))).mp c152
                        refine lv_aload_n hx hb dX9_comesTo_155 rfl (lv_at hl 0 rfl) ?_
                        refine lv_iload_n hx hb dX9_comesTo_156 rfl (lv_at hl 1 rfl) ?_
                        refine lv_iload_n hx hb dX9_comesTo_157 rfl (lv_at hl 2 rfl) ?_
                        refine lv_iload hx hb dX9_comesTo_158 (lv_at hl 5 rfl) ?_
                        refine lv_iload hx hb dX9_comesTo_160 (lv_at hl 4 rfl) ?_
                        refine lv_iload_n hx hb dX9_comesTo_162 rfl (lv_at hl 3 rfl) ?_
                        refine r_callI w (va_runV (As := [.int p0, .int p1, .int p4, .int p3, .int p2]) (rest := []) ⟨hx, hb, hml, hown, hts⟩ (c_X9_bodyBy l D S hP hu hL hT (xs := mArg u M f (x + mB u * y + mB u * mB u * z)) p0 p1 p4 p3 p2 hp0 hp1 hf (fun q_ => by first | (exfalso; omega) | exact hp4.trans (by rw [mArg_eq (j := 2) q_ (by first | (rw [if_pos (by omega)]; omega) | rw [if_neg (by omega)]) d2])) (fun q_ => by first | (exfalso; omega) | exact hp3.trans (by rw [mArg_eq (j := 1) q_ (by first | (rw [if_pos (by omega)]; omega) | rw [if_neg (by omega)]) d1])) (fun q_ => by first | (exfalso; omega) | exact hp2.trans (by rw [mArg_eq (j := 0) q_ (by first | (rw [if_pos (by omega)]; omega) | rw [if_neg (by omega)]) d0])) (mArg_lt u M f _)) (cwV 5 hts gX9_comesTo_X9_bodyBy rfl rfl rfl (by decide +kernel) ⟨Nat.le_of_ble_eq_true rfl, Nat.le_of_ble_eq_true rfl⟩) (r_preV w (by have := D.1; omega) D.c0 rfl) rfl rfl hl.1 rfl (lv_room (Nat.le_of_ble_eq_true rfl)) dX9_comesTo_163 ⟨Nat.zero_le _, Nat.zero_le _⟩) (fun r157 h156 H locs hp w => ?_)
                        obtain ⟨hfk158, hrk158, gpk158, D⟩ := hp
                        refine lv_goto (tgt := 180) hx hb dX9_comesTo_166 (by decide) ?_
                        refine r_iret (v := r157) hx hb hr hlocks w dX9_comesTo_180 ?_
                        exact ⟨fun k_ hk_ => (hfk158 k_ hk_).trans (by rw [hh]), hrk158.trans (by rw [mStep_f (fun q_ => absurd (hst_.mp q_) (by omega))]), _, D⟩
                  · have c147 : (((pA M f) : Nat) : Int) = ((2 : Nat) : Int) := (i_eq (S.2.1 f hf) (by decide : (2 : Int32).toInt = ((2 : Nat) : Int))).mp c147
                    refine lv_aload_n hx hb dX9_comesTo_131 rfl (lv_at hl 0 rfl) ?_
                    refine lv_iload_n hx hb dX9_comesTo_132 rfl (lv_at hl 1 rfl) ?_
                    refine lv_iload_n hx hb dX9_comesTo_133 rfl (lv_at hl 2 rfl) ?_
                    refine lv_iload hx hb dX9_comesTo_134 (lv_at hl 4 rfl) ?_
                    refine lv_iload_n hx hb dX9_comesTo_136 rfl (lv_at hl 3 rfl) ?_
                    refine lv_iload hx hb dX9_comesTo_137 (lv_at hl 5 rfl) ?_
                    refine r_callI w (va_runV (As := [.int p0, .int p1, .int p3, .int p2, .int p4]) (rest := []) ⟨hx, hb, hml, hown, hts⟩ (c_X9_bodyBy l D S hP hu hL hT (xs := mArg u M f (x + mB u * y + mB u * mB u * z)) p0 p1 p3 p2 p4 hp0 hp1 hf (fun q_ => by first | (exfalso; omega) | exact hp3.trans (by rw [mArg_eq (j := 1) q_ (by first | (rw [if_pos (by omega)]; omega) | rw [if_neg (by omega)]) d1])) (fun q_ => by first | (exfalso; omega) | exact hp2.trans (by rw [mArg_eq (j := 0) q_ (by first | (rw [if_pos (by omega)]; omega) | rw [if_neg (by omega)]) d0])) (fun q_ => by first | (exfalso; omega) | exact hp4.trans (by rw [mArg_eq (j := 2) q_ (by first | (rw [if_pos (by omega)]; omega) | rw [if_neg (by omega)]) d2])) (mArg_lt u M f _)) (cwV 5 hts gX9_comesTo_X9_bodyBy rfl rfl rfl (by decide +kernel) ⟨Nat.le_of_ble_eq_true rfl, Nat.le_of_ble_eq_true rfl⟩) (r_preV w (by have := D.1; omega) D.c0 rfl) rfl rfl hl.1 rfl (lv_room (Nat.le_of_ble_eq_true rfl)) dX9_comesTo_139 ⟨Nat.zero_le _, Nat.zero_le _⟩) (fun r160 h159 H locs hp w => ?_)
                    obtain ⟨hfk161, hrk161, gpk161, D⟩ := hp
                    refine r_iret (v := r160) hx hb hr hlocks w dX9_comesTo_142 ?_
                    exact ⟨fun k_ hk_ => (hfk161 k_ hk_).trans (by rw [hh]), hrk161.trans (by rw [mStep_f (fun q_ => absurd (hst_.mp q_) (by omega))]), _, D⟩
              · have c134 : (((pK M f) : Nat) : Int) = ((2 : Nat) : Int) := (i_eq (S.2.2.1 f hf) (by decide : (2 : Int32).toInt = ((2 : Nat) : Int))).mp c134
                refine lv_iload hx hb dX9_comesTo_109 (lv_at hl 9 rfl) ?_
                refine lv_if_eq (tgt := 119) hx hb dX9_comesTo_111 (by decide) (fun c162 => ?_) (fun c162 => ?_)
                · have c162 := hx9.eq c162
                  refine lv_iload hx hb dX9_comesTo_119 (lv_at hl 7 rfl) ?_
                  refine lv_iconst (v := 3) hx hb dX9_comesTo_121 (by decide) ?_
                  refine lv_icmp_ne (tgt := 143) hx hb dX9_comesTo_122 (by decide) (fun c163 => ?_) (fun c163 => ?_)
                  · have c163 : ¬ ((((pK M f) : Nat) : Int) = ((3 : Nat) : Int)) := fun q => c163 ((i_eq (S.2.2.1 f hf) (by decide : (3 : Int32).toInt = ((3 : Nat) : Int))).mpr q)
                    refine lv_iload hx hb dX9_comesTo_143 (lv_at hl 7 rfl) ?_
                    refine lv_iconst (v := 3) hx hb dX9_comesTo_145 (by decide) ?_
                    refine lv_icmp_ne (tgt := 169) hx hb dX9_comesTo_146 (by decide) (fun c164 => ?_) (fun c164 => ?_)
                    · have c164 : ¬ ((((pK M f) : Nat) : Int) = ((3 : Nat) : Int)) := fun q => c164 ((i_eq (S.2.2.1 f hf) (by decide : (3 : Int32).toInt = ((3 : Nat) : Int))).mpr q)
                      refine lv_aload_n hx hb dX9_comesTo_169 rfl (lv_at hl 0 rfl) ?_
                      refine lv_iload_n hx hb dX9_comesTo_170 rfl (lv_at hl 1 rfl) ?_
                      refine lv_iload_n hx hb dX9_comesTo_171 rfl (lv_at hl 2 rfl) ?_
                      refine lv_iload_n hx hb dX9_comesTo_172 rfl (lv_at hl 3 rfl) ?_
                      refine lv_iload hx hb dX9_comesTo_173 (lv_at hl 4 rfl) ?_
                      refine lv_iload hx hb dX9_comesTo_175 (lv_at hl 5 rfl) ?_
                      refine r_callI w (va_runV (As := [.int p0, .int p1, .int p2, .int p3, .int p4]) (rest := []) ⟨hx, hb, hml, hown, hts⟩ (c_X9_bodyBy l D S hP hu hL hT (xs := mArg u M f (x + mB u * y + mB u * mB u * z)) p0 p1 p2 p3 p4 hp0 hp1 hf (fun q_ => by first | (exfalso; omega) | exact hp2.trans (by rw [mArg_eq (j := 0) q_ (by first | (rw [if_pos (by omega)]; omega) | rw [if_neg (by omega)]) d0])) (fun q_ => by first | (exfalso; omega) | exact hp3.trans (by rw [mArg_eq (j := 1) q_ (by first | (rw [if_pos (by omega)]; omega) | rw [if_neg (by omega)]) d1])) (fun q_ => by first | (exfalso; omega) | exact hp4.trans (by rw [mArg_eq (j := 2) q_ (by first | (rw [if_pos (by omega)]; omega) | rw [if_neg (by omega)]) d2])) (mArg_lt u M f _)) (cwV 5 hts gX9_comesTo_X9_bodyBy rfl rfl rfl (by decide +kernel) ⟨Nat.le_of_ble_eq_true rfl, Nat.le_of_ble_eq_true rfl⟩) (r_preV w (by have := D.1; omega) D.c0 rfl) rfl rfl hl.1 rfl (lv_room (Nat.le_of_ble_eq_true rfl)) dX9_comesTo_177 ⟨Nat.zero_le _, Nat.zero_le _⟩) (fun r166 h165 H locs hp w => ?_)
                      obtain ⟨hfk167, hrk167, gpk167, D⟩ := hp
                      refine r_iret (v := r166) hx hb hr hlocks w dX9_comesTo_180 ?_
                      exact ⟨fun k_ hk_ => (hfk167 k_ hk_).trans (by rw [hh]), hrk167.trans (by rw [mStep_f (fun q_ => absurd (hst_.mp q_) (by omega))]), _, D⟩
                    · have c164 : (((pK M f) : Nat) : Int) = ((3 : Nat) : Int) := (i_eq (S.2.2.1 f hf) (by decide : (3 : Int32).toInt = ((3 : Nat) : Int))).mp c164
                      refine lv_iload hx hb dX9_comesTo_149 (lv_at hl 6 rfl) ?_
                      refine lv_iconst (v := 3) hx hb dX9_comesTo_151 (by decide) ?_
                      refine lv_icmp_ne (tgt := 169) hx hb dX9_comesTo_152 (by decide) (fun c168 => ?_) (fun c168 => ?_)
                      · have c168 : ¬ ((((pA M f) : Nat) : Int) = ((3 : Nat) : Int)) := fun q => c168 ((i_eq (S.2.1 f hf) (by decide : (3 : Int32).toInt = ((3 : Nat) : Int))).mpr q)
                        refine lv_aload_n hx hb dX9_comesTo_169 rfl (lv_at hl 0 rfl) ?_
                        refine lv_iload_n hx hb dX9_comesTo_170 rfl (lv_at hl 1 rfl) ?_
                        refine lv_iload_n hx hb dX9_comesTo_171 rfl (lv_at hl 2 rfl) ?_
                        refine lv_iload_n hx hb dX9_comesTo_172 rfl (lv_at hl 3 rfl) ?_
                        refine lv_iload hx hb dX9_comesTo_173 (lv_at hl 4 rfl) ?_
                        refine lv_iload hx hb dX9_comesTo_175 (lv_at hl 5 rfl) ?_
                        refine r_callI w (va_runV (As := [.int p0, .int p1, .int p2, .int p3, .int p4]) (rest := []) ⟨hx, hb, hml, hown, hts⟩ (c_X9_bodyBy l D S hP hu hL hT (xs := mArg u M f (x + mB u * y + mB u * mB u * z)) p0 p1 p2 p3 p4 hp0 hp1 hf (fun q_ => by first | (exfalso; omega) | exact hp2.trans (by rw [mArg_eq (j := 0) q_ (by first | (rw [if_pos (by omega)]; omega) | rw [if_neg (by omega)]) d0])) (fun q_ => by first | (exfalso; omega) | exact hp3.trans (by rw [mArg_eq (j := 1) q_ (by first | (rw [if_pos (by omega)]; omega) | rw [if_neg (by omega)]) d1])) (fun q_ => by first | (exfalso; omega) | exact hp4.trans (by rw [mArg_eq (j := 2) q_ (by first | (rw [if_pos (by omega)]; omega) | rw [if_neg (by omega)]) d2])) (mArg_lt u M f _)) (cwV 5 hts gX9_comesTo_X9_bodyBy rfl rfl rfl (by decide +kernel) ⟨Nat.le_of_ble_eq_true rfl, Nat.le_of_ble_eq_true rfl⟩) (r_preV w (by have := D.1; omega) D.c0 rfl) rfl rfl hl.1 rfl (lv_room (Nat.le_of_ble_eq_true rfl)) dX9_comesTo_177 ⟨Nat.zero_le _, Nat.zero_le _⟩) (fun r170 h169 H locs hp w => ?_)
                        obtain ⟨hfk171, hrk171, gpk171, D⟩ := hp
                        refine r_iret (v := r170) hx hb hr hlocks w dX9_comesTo_180 ?_
                        exact ⟨fun k_ hk_ => (hfk171 k_ hk_).trans (by rw [hh]), hrk171.trans (by rw [mStep_f (fun q_ => absurd (hst_.mp q_) (by omega))]), _, D⟩
                      · have c168 : (((pA M f) : Nat) : Int) = ((3 : Nat) : Int) := (i_eq (S.2.1 f hf) (by decide : (3 : Int32).toInt = ((3 : Nat) : Int))).mp c168
                        refine lv_aload_n hx hb dX9_comesTo_155 rfl (lv_at hl 0 rfl) ?_
                        refine lv_iload_n hx hb dX9_comesTo_156 rfl (lv_at hl 1 rfl) ?_
                        refine lv_iload_n hx hb dX9_comesTo_157 rfl (lv_at hl 2 rfl) ?_
                        refine lv_iload hx hb dX9_comesTo_158 (lv_at hl 5 rfl) ?_
                        refine lv_iload hx hb dX9_comesTo_160 (lv_at hl 4 rfl) ?_
                        refine lv_iload_n hx hb dX9_comesTo_162 rfl (lv_at hl 3 rfl) ?_
                        refine r_callI w (va_runV (As := [.int p0, .int p1, .int p4, .int p3, .int p2]) (rest := []) ⟨hx, hb, hml, hown, hts⟩ (c_X9_bodyBy l D S hP hu hL hT (xs := mArg u M f (x + mB u * y + mB u * mB u * z)) p0 p1 p4 p3 p2 hp0 hp1 hf (fun q_ => by first | (exfalso; omega) | exact hp4.trans (by rw [mArg_eq (j := 2) q_ (by first | (rw [if_pos (by omega)]; omega) | rw [if_neg (by omega)]) d2])) (fun q_ => by first | (exfalso; omega) | exact hp3.trans (by rw [mArg_eq (j := 1) q_ (by first | (rw [if_pos (by omega)]; omega) | rw [if_neg (by omega)]) d1])) (fun q_ => by first | (exfalso; omega) | exact hp2.trans (by rw [mArg_eq (j := 0) q_ (by first | (rw [if_pos (by omega)]; omega) | rw [if_neg (by omega)]) d0])) (mArg_lt u M f _)) (cwV 5 hts gX9_comesTo_X9_bodyBy rfl rfl rfl (by decide +kernel) ⟨Nat.le_of_ble_eq_true rfl, Nat.le_of_ble_eq_true rfl⟩) (r_preV w (by have := D.1; omega) D.c0 rfl) rfl rfl hl.1 rfl (lv_room (Nat.le_of_ble_eq_true rfl)) dX9_comesTo_163 ⟨Nat.zero_le _, Nat.zero_le _⟩) (fun r173 h172 H locs hp w => ?_)
                        obtain ⟨hfk174, hrk174, gpk174, D⟩ := hp
                        refine lv_goto (tgt := 180) hx hb dX9_comesTo_166 (by decide) ?_
                        refine r_iret (v := r173) hx hb hr hlocks w dX9_comesTo_180 ?_
                        exact ⟨fun k_ hk_ => (hfk174 k_ hk_).trans (by rw [hh]), hrk174.trans (by rw [mStep_f (fun q_ => absurd (hst_.mp q_) (by omega))]), _, D⟩
                  · have c163 : (((pK M f) : Nat) : Int) = ((3 : Nat) : Int) := (i_eq (S.2.2.1 f hf) (by decide : (3 : Int32).toInt = ((3 : Nat) : Int))).mp c163
                    refine lv_iload hx hb dX9_comesTo_125 (lv_at hl 6 rfl) ?_
                    refine lv_iconst (v := 2) hx hb dX9_comesTo_127 (by decide) ?_
                    refine lv_icmp_ne (tgt := 143) hx hb dX9_comesTo_128 (by decide) (fun c175 => ?_) (fun c175 => ?_)
                    · have c175 : ¬ ((((pA M f) : Nat) : Int) = ((2 : Nat) : Int)) := fun q => c175 ((i_eq (S.2.1 f hf) (by decide : (2 : Int32).toInt = ((2 : Nat) : Int))).mpr q)
                      refine lv_iload hx hb dX9_comesTo_143 (lv_at hl 7 rfl) ?_
                      refine lv_iconst (v := 3) hx hb dX9_comesTo_145 (by decide) ?_
                      refine lv_icmp_ne (tgt := 169) hx hb dX9_comesTo_146 (by decide) (fun c176 => ?_) (fun c176 => ?_)
                      · have c176 : ¬ ((((pK M f) : Nat) : Int) = ((3 : Nat) : Int)) := fun q => c176 ((i_eq (S.2.2.1 f hf) (by decide : (3 : Int32).toInt = ((3 : Nat) : Int))).mpr q)
                        refine lv_aload_n hx hb dX9_comesTo_169 rfl (lv_at hl 0 rfl) ?_
                        refine lv_iload_n hx hb dX9_comesTo_170 rfl (lv_at hl 1 rfl) ?_
                        refine lv_iload_n hx hb dX9_comesTo_171 rfl (lv_at hl 2 rfl) ?_
                        refine lv_iload_n hx hb dX9_comesTo_172 rfl (lv_at hl 3 rfl) ?_
                        refine lv_iload hx hb dX9_comesTo_173 (lv_at hl 4 rfl) ?_
                        refine lv_iload hx hb dX9_comesTo_175 (lv_at hl 5 rfl) ?_
                        refine r_callI w (va_runV (As := [.int p0, .int p1, .int p2, .int p3, .int p4]) (rest := []) ⟨hx, hb, hml, hown, hts⟩ (c_X9_bodyBy l D S hP hu hL hT (xs := mArg u M f (x + mB u * y + mB u * mB u * z)) p0 p1 p2 p3 p4 hp0 hp1 hf (fun q_ => by first | (exfalso; omega) | exact hp2.trans (by rw [mArg_eq (j := 0) q_ (by first | (rw [if_pos (by omega)]; omega) | rw [if_neg (by omega)]) d0])) (fun q_ => by first | (exfalso; omega) | exact hp3.trans (by rw [mArg_eq (j := 1) q_ (by first | (rw [if_pos (by omega)]; omega) | rw [if_neg (by omega)]) d1])) (fun q_ => by first | (exfalso; omega) | exact hp4.trans (by rw [mArg_eq (j := 2) q_ (by first | (rw [if_pos (by omega)]; omega) | rw [if_neg (by omega)]) d2])) (mArg_lt u M f _)) (cwV 5 hts gX9_comesTo_X9_bodyBy rfl rfl rfl (by decide +kernel) ⟨Nat.le_of_ble_eq_true rfl, Nat.le_of_ble_eq_true rfl⟩) (r_preV w (by have := D.1; omega) D.c0 rfl) rfl rfl hl.1 rfl (lv_room (Nat.le_of_ble_eq_true rfl)) dX9_comesTo_177 ⟨Nat.zero_le _, Nat.zero_le _⟩) (fun r178 h177 H locs hp w => ?_)
                        obtain ⟨hfk179, hrk179, gpk179, D⟩ := hp
                        refine r_iret (v := r178) hx hb hr hlocks w dX9_comesTo_180 ?_
                        exact ⟨fun k_ hk_ => (hfk179 k_ hk_).trans (by rw [hh]), hrk179.trans (by rw [mStep_f (fun q_ => absurd (hst_.mp q_) (by omega))]), _, D⟩
                      · have c176 : (((pK M f) : Nat) : Int) = ((3 : Nat) : Int) := (i_eq (S.2.2.1 f hf) (by decide : (3 : Int32).toInt = ((3 : Nat) : Int))).mp c176
                        refine lv_iload hx hb dX9_comesTo_149 (lv_at hl 6 rfl) ?_
                        refine lv_iconst (v := 3) hx hb dX9_comesTo_151 (by decide) ?_
                        refine lv_icmp_ne (tgt := 169) hx hb dX9_comesTo_152 (by decide) (fun c180 => ?_) (fun c180 => ?_)
                        · have c180 : ¬ ((((pA M f) : Nat) : Int) = ((3 : Nat) : Int)) := fun q => c180 ((i_eq (S.2.1 f hf) (by decide : (3 : Int32).toInt = ((3 : Nat) : Int))).mpr q)
                          refine lv_aload_n hx hb dX9_comesTo_169 rfl (lv_at hl 0 rfl) ?_
                          refine lv_iload_n hx hb dX9_comesTo_170 rfl (lv_at hl 1 rfl) ?_
                          refine lv_iload_n hx hb dX9_comesTo_171 rfl (lv_at hl 2 rfl) ?_
                          refine lv_iload_n hx hb dX9_comesTo_172 rfl (lv_at hl 3 rfl) ?_
                          refine lv_iload hx hb dX9_comesTo_173 (lv_at hl 4 rfl) ?_
                          refine lv_iload hx hb dX9_comesTo_175 (lv_at hl 5 rfl) ?_
                          refine r_callI w (va_runV (As := [.int p0, .int p1, .int p2, .int p3, .int p4]) (rest := []) ⟨hx, hb, hml, hown, hts⟩ (c_X9_bodyBy l D S hP hu hL hT (xs := mArg u M f (x + mB u * y + mB u * mB u * z)) p0 p1 p2 p3 p4 hp0 hp1 hf (fun q_ => by first | (exfalso; omega) | exact hp2.trans (by rw [mArg_eq (j := 0) q_ (by first | (rw [if_pos (by omega)]; omega) | rw [if_neg (by omega)]) d0])) (fun q_ => by first | (exfalso; omega) | exact hp3.trans (by rw [mArg_eq (j := 1) q_ (by first | (rw [if_pos (by omega)]; omega) | rw [if_neg (by omega)]) d1])) (fun q_ => by first | (exfalso; omega) | exact hp4.trans (by rw [mArg_eq (j := 2) q_ (by first | (rw [if_pos (by omega)]; omega) | rw [if_neg (by omega)]) d2])) (mArg_lt u M f _)) (cwV 5 hts gX9_comesTo_X9_bodyBy rfl rfl rfl (by decide +kernel) ⟨Nat.le_of_ble_eq_true rfl, Nat.le_of_ble_eq_true rfl⟩) (r_preV w (by have := D.1; omega) D.c0 rfl) rfl rfl hl.1 rfl (lv_room (Nat.le_of_ble_eq_true rfl)) dX9_comesTo_177 ⟨Nat.zero_le _, Nat.zero_le _⟩) (fun r182 h181 H locs hp w => ?_)
                          obtain ⟨hfk183, hrk183, gpk183, D⟩ := hp
                          refine r_iret (v := r182) hx hb hr hlocks w dX9_comesTo_180 ?_
                          exact ⟨fun k_ hk_ => (hfk183 k_ hk_).trans (by rw [hh]), hrk183.trans (by rw [mStep_f (fun q_ => absurd (hst_.mp q_) (by omega))]), _, D⟩
                        · have c180 : (((pA M f) : Nat) : Int) = ((3 : Nat) : Int) := (i_eq (S.2.1 f hf) (by decide : (3 : Int32).toInt = ((3 : Nat) : Int))).mp c180
                          refine lv_aload_n hx hb dX9_comesTo_155 rfl (lv_at hl 0 rfl) ?_
                          refine lv_iload_n hx hb dX9_comesTo_156 rfl (lv_at hl 1 rfl) ?_
                          refine lv_iload_n hx hb dX9_comesTo_157 rfl (lv_at hl 2 rfl) ?_
                          refine lv_iload hx hb dX9_comesTo_158 (lv_at hl 5 rfl) ?_
                          refine lv_iload hx hb dX9_comesTo_160 (lv_at hl 4 rfl) ?_
                          refine lv_iload_n hx hb dX9_comesTo_162 rfl (lv_at hl 3 rfl) ?_
                          refine r_callI w (va_runV (As := [.int p0, .int p1, .int p4, .int p3, .int p2]) (rest := []) ⟨hx, hb, hml, hown, hts⟩ (c_X9_bodyBy l D S hP hu hL hT (xs := mArg u M f (x + mB u * y + mB u * mB u * z)) p0 p1 p4 p3 p2 hp0 hp1 hf (fun q_ => by first | (exfalso; omega) | exact hp4.trans (by rw [mArg_eq (j := 2) q_ (by first | (rw [if_pos (by omega)]; omega) | rw [if_neg (by omega)]) d2])) (fun q_ => by first | (exfalso; omega) | exact hp3.trans (by rw [mArg_eq (j := 1) q_ (by first | (rw [if_pos (by omega)]; omega) | rw [if_neg (by omega)]) d1])) (fun q_ => by first | (exfalso; omega) | exact hp2.trans (by rw [mArg_eq (j := 0) q_ (by first | (rw [if_pos (by omega)]; omega) | rw [if_neg (by omega)]) d0])) (mArg_lt u M f _)) (cwV 5 hts gX9_comesTo_X9_bodyBy rfl rfl rfl (by decide +kernel) ⟨Nat.le_of_ble_eq_true rfl, Nat.le_of_ble_eq_true rfl⟩) (r_preV w (by have := D.1; omega) D.c0 rfl) rfl rfl hl.1 rfl (lv_room (Nat.le_of_ble_eq_true rfl)) dX9_comesTo_163 ⟨Nat.zero_le _, Nat.zero_le _⟩) (fun r185 h184 H locs hp w => ?_)
                          obtain ⟨hfk186, hrk186, gpk186, D⟩ := hp
                          refine lv_goto (tgt := 180) hx hb dX9_comesTo_166 (by decide) ?_
                          refine r_iret (v := r185) hx hb hr hlocks w dX9_comesTo_180 ?_
                          exact ⟨fun k_ hk_ => (hfk186 k_ hk_).trans (by rw [hh]), hrk186.trans (by rw [mStep_f (fun q_ => absurd (hst_.mp q_) (by omega))]), _, D⟩
                    · have c175 : (((pA M f) : Nat) : Int) = ((2 : Nat) : Int) := (i_eq (S.2.1 f hf) (by decide : (2 : Int32).toInt = ((2 : Nat) : Int))).mp c175
                      refine lv_aload_n hx hb dX9_comesTo_131 rfl (lv_at hl 0 rfl) ?_
                      refine lv_iload_n hx hb dX9_comesTo_132 rfl (lv_at hl 1 rfl) ?_
                      refine lv_iload_n hx hb dX9_comesTo_133 rfl (lv_at hl 2 rfl) ?_
                      refine lv_iload hx hb dX9_comesTo_134 (lv_at hl 4 rfl) ?_
                      refine lv_iload_n hx hb dX9_comesTo_136 rfl (lv_at hl 3 rfl) ?_
                      refine lv_iload hx hb dX9_comesTo_137 (lv_at hl 5 rfl) ?_
                      refine r_callI w (va_runV (As := [.int p0, .int p1, .int p3, .int p2, .int p4]) (rest := []) ⟨hx, hb, hml, hown, hts⟩ (c_X9_bodyBy l D S hP hu hL hT (xs := mArg u M f (x + mB u * y + mB u * mB u * z)) p0 p1 p3 p2 p4 hp0 hp1 hf (fun q_ => by first | (exfalso; omega) | exact hp3.trans (by rw [mArg_eq (j := 1) q_ (by first | (rw [if_pos (by omega)]; omega) | rw [if_neg (by omega)]) d1])) (fun q_ => by first | (exfalso; omega) | exact hp2.trans (by rw [mArg_eq (j := 0) q_ (by first | (rw [if_pos (by omega)]; omega) | rw [if_neg (by omega)]) d0])) (fun q_ => by first | (exfalso; omega) | exact hp4.trans (by rw [mArg_eq (j := 2) q_ (by first | (rw [if_pos (by omega)]; omega) | rw [if_neg (by omega)]) d2])) (mArg_lt u M f _)) (cwV 5 hts gX9_comesTo_X9_bodyBy rfl rfl rfl (by decide +kernel) ⟨Nat.le_of_ble_eq_true rfl, Nat.le_of_ble_eq_true rfl⟩) (r_preV w (by have := D.1; omega) D.c0 rfl) rfl rfl hl.1 rfl (lv_room (Nat.le_of_ble_eq_true rfl)) dX9_comesTo_139 ⟨Nat.zero_le _, Nat.zero_le _⟩) (fun r188 h187 H locs hp w => ?_)
                      obtain ⟨hfk189, hrk189, gpk189, D⟩ := hp
                      refine r_iret (v := r188) hx hb hr hlocks w dX9_comesTo_142 ?_
                      exact ⟨fun k_ hk_ => (hfk189 k_ hk_).trans (by rw [hh]), hrk189.trans (by rw [mStep_f (fun q_ => absurd (hst_.mp q_) (by omega))]), _, D⟩
                · have c162 := hx9.ne c162
                  refine lv_iload_n hx hb dX9_comesTo_114 rfl (lv_at hl 1 rfl) ?_
                  refine r_callI w (va_runS (As := [.int p0]) (rest := []) ⟨hx, hb, hml, hown, hts⟩ (c_X9_neverOf l hu p0 hp0) (va_cwS 1 hts gX9_comesTo_X9_neverOf rfl rfl rfl (by decide +kernel) ⟨Nat.le_of_ble_eq_true rfl, Nat.le_of_ble_eq_true rfl⟩) (r_preS w) rfl rfl hl.1 rfl (lv_room (Nat.le_of_ble_eq_true rfl)) dX9_comesTo_115 ⟨Nat.zero_le _, Nat.zero_le _⟩) (fun r191 h190 H locs hp w => ?_)
                  obtain ⟨eh_, qq192⟩ := hp
                  have eh_ := eh_.symm
                  subst eh_
                  refine r_iret (v := r191) hx hb hr hlocks w dX9_comesTo_118 ?_
                  exact ⟨fun k_ _ => by rw [hh], qq192.trans (by rw [mStep_t (hst_.mpr (by omega))]), gp, D⟩
  have cut0 := cuts (4)
  obtain ⟨ih66, ih86⟩ := cut0
  refine lv_aload_n hx hb dX9_comesTo_0 rfl (lv_at hl 0 rfl) ?_
  refine r_get (C := RX9) (T := TX9) (N := 20) (ci := 7) hx hb hts inX9_comesTo_X9 hown w (by have := D.1; omega) D.c0 rfl 1 (by decide) (hts (Cond.fieldLink RX9 7 "EarlyValuesModel" "argsOf" "[I") (List.mem_of_getElem? (i := 1) (by decide +kernel))) rfl rfl dX9_comesTo_1 ?_
  refine lv_iload_n hx hb dX9_comesTo_4 rfl (lv_at hl 2 rfl) ?_
  refine r_iald (j := f) hx hb w (by have := D.1; omega) D.c1 hp1 (by omega) dX9_comesTo_5 ?_
  refine lv_istore (lv' := [(6, .int (ga f)), (0, .ref (g.2.2.1 r)), (1, .int p0), (2, .int p1), (3, .int p2), (4, .int p3), (5, .int p4)]) hx hb dX9_comesTo_6 hl (by decide) rfl (fun ls hl => ?_)
  refine lv_aload_n hx hb dX9_comesTo_8 rfl (lv_at hl 1 rfl) ?_
  refine r_get (C := RX9) (T := TX9) (N := 20) (ci := 7) hx hb hts inX9_comesTo_X9 hown w (by have := D.1; omega) D.c0 rfl 2 (by decide) (hts (Cond.fieldLink RX9 13 "EarlyValuesModel" "kindOf" "[I") (List.mem_of_getElem? (i := 2) (by decide +kernel))) rfl rfl dX9_comesTo_9 ?_
  refine lv_iload_n hx hb dX9_comesTo_12 rfl (lv_at hl 3 rfl) ?_
  refine r_iald (j := f) hx hb w (by have := D.1; omega) D.c2 hp1 (by omega) dX9_comesTo_13 ?_
  refine lv_istore (lv' := [(7, .int (gk f)), (6, .int (ga f)), (0, .ref (g.2.2.1 r)), (1, .int p0), (2, .int p1), (3, .int p2), (4, .int p3), (5, .int p4)]) hx hb dX9_comesTo_14 hl (by decide) rfl (fun ls hl => ?_)
  refine lv_iload hx hb dX9_comesTo_16 (lv_at hl 1 rfl) ?_
  refine lv_if_le (tgt := 29) hx hb dX9_comesTo_18 (by decide) (fun c193 => ?_) (fun c193 => ?_)
  · have c193 : (((pA M f) : Nat) : Int) ≤ (0 : Int) := (i_le (S.2.1 f (by omega)) (rfl : (0 : Int32).toInt = 0)).mp c193
    refine lv_iload hx hb dX9_comesTo_29 (lv_at hl 1 rfl) ?_
    refine lv_iconst (v := 1) hx hb dX9_comesTo_31 (by decide) ?_
    refine lv_icmp_le (tgt := 44) hx hb dX9_comesTo_32 (by decide) (fun c194 => ?_) (fun c194 => ?_)
    · have c194 : (((pA M f) : Nat) : Int) ≤ ((1 : Nat) : Int) := (i_le (S.2.1 f (by omega)) (by decide : (1 : Int32).toInt = ((1 : Nat) : Int))).mp c194
      refine lv_iload hx hb dX9_comesTo_44 (lv_at hl 1 rfl) ?_
      refine lv_iconst (v := 2) hx hb dX9_comesTo_46 (by decide) ?_
      refine lv_icmp_le (tgt := 63) hx hb dX9_comesTo_47 (by decide) (fun c195 => ?_) (fun c195 => ?_)
      · have c195 : (((pA M f) : Nat) : Int) ≤ ((2 : Nat) : Int) := (i_le (S.2.1 f (by omega)) (by decide : (2 : Int32).toInt = ((2 : Nat) : Int))).mp c195
        refine lv_iconst (v := 0) hx hb dX9_comesTo_63 (by decide) ?_
        refine lv_istore (lv' := [(8, .int 0), (7, .int (gk f)), (6, .int (ga f)), (0, .ref (g.2.2.1 r)), (1, .int p0), (2, .int p1), (3, .int p2), (4, .int p3), (5, .int p4)]) hx hb dX9_comesTo_64 hl (by decide) rfl (fun ls hl => ?_)
        exact ih66 0 h _ _ _ w (lv_sub hl [3, 4, 5, 6, 7, 8, 2, 1, 0] rfl) (by first | exact Bq.t (by omega) | exact Bq.f (by omega)) D rfl (by omega)
      · have c195 : ¬ ((((pA M f) : Nat) : Int) ≤ ((2 : Nat) : Int)) := fun q => c195 ((i_le (S.2.1 f (by omega)) (by decide : (2 : Int32).toInt = ((2 : Nat) : Int))).mpr q)
        refine lv_iload_n hx hb dX9_comesTo_50 rfl (lv_at hl 3 rfl) ?_
        refine lv_iload hx hb dX9_comesTo_51 (lv_at hl 7 rfl) ?_
        refine r_callI w (va_runS (As := [.int p0, .int p4]) (rest := []) ⟨hx, hb, hml, hown, hts⟩ (c_X9_isNever l hu p0 p4 hp0 hp4) (va_cwS 2 hts gX9_comesTo_X9_isNever rfl rfl rfl (by decide +kernel) ⟨Nat.le_of_ble_eq_true rfl, Nat.le_of_ble_eq_true rfl⟩) (r_preS w) rfl rfl hl.1 rfl (lv_room (Nat.le_of_ble_eq_true rfl)) dX9_comesTo_53 ⟨Nat.zero_le _, Nat.zero_le _⟩) (fun r197 h196 H locs hp w => ?_)
        obtain ⟨eh_, qq198⟩ := hp
        have eh_ := eh_.symm
        subst eh_
        refine lv_if_eq (tgt := 63) hx hb dX9_comesTo_56 (by decide) (fun c199 => ?_) (fun c199 => ?_)
        · have c199 := qq198.eq c199
          refine lv_iconst (v := 0) hx hb dX9_comesTo_63 (by decide) ?_
          refine lv_istore (lv' := [(8, .int 0), (7, .int (gk f)), (6, .int (ga f)), (0, .ref (g.2.2.1 r)), (1, .int p0), (2, .int p1), (3, .int p2), (4, .int p3), (5, .int p4)]) hx hb dX9_comesTo_64 hl (by decide) rfl (fun ls hl => ?_)
          exact ih66 0 h _ _ _ w (lv_sub hl [3, 4, 5, 6, 7, 8, 2, 1, 0] rfl) (by first | exact Bq.t (by omega) | exact Bq.f (by omega)) D rfl (by omega)
        · have c199 := qq198.ne c199
          refine lv_iconst (v := 1) hx hb dX9_comesTo_59 (by decide) ?_
          refine lv_goto (tgt := 64) hx hb dX9_comesTo_60 (by decide) ?_
          refine lv_istore (lv' := [(8, .int 1), (7, .int (gk f)), (6, .int (ga f)), (0, .ref (g.2.2.1 r)), (1, .int p0), (2, .int p1), (3, .int p2), (4, .int p3), (5, .int p4)]) hx hb dX9_comesTo_64 hl (by decide) rfl (fun ls hl => ?_)
          exact ih66 1 h _ _ _ w (lv_sub hl [3, 4, 5, 6, 7, 8, 2, 1, 0] rfl) (by first | exact Bq.t (by omega) | exact Bq.f (by omega)) D rfl (by omega)
    · have c194 : ¬ ((((pA M f) : Nat) : Int) ≤ ((1 : Nat) : Int)) := fun q => c194 ((i_le (S.2.1 f (by omega)) (by decide : (1 : Int32).toInt = ((1 : Nat) : Int))).mpr q)
      refine lv_iload_n hx hb dX9_comesTo_35 rfl (lv_at hl 3 rfl) ?_
      refine lv_iload hx hb dX9_comesTo_36 (lv_at hl 6 rfl) ?_
      refine r_callI w (va_runS (As := [.int p0, .int p3]) (rest := []) ⟨hx, hb, hml, hown, hts⟩ (c_X9_isNever l hu p0 p3 hp0 hp3) (va_cwS 2 hts gX9_comesTo_X9_isNever rfl rfl rfl (by decide +kernel) ⟨Nat.le_of_ble_eq_true rfl, Nat.le_of_ble_eq_true rfl⟩) (r_preS w) rfl rfl hl.1 rfl (lv_room (Nat.le_of_ble_eq_true rfl)) dX9_comesTo_38 ⟨Nat.zero_le _, Nat.zero_le _⟩) (fun r201 h200 H locs hp w => ?_)
      obtain ⟨eh_, qq202⟩ := hp
      have eh_ := eh_.symm
      subst eh_
      refine lv_if_ne (tgt := 59) hx hb dX9_comesTo_41 (by decide) (fun c203 => ?_) (fun c203 => ?_)
      · have c203 := qq202.ne c203
        refine lv_iconst (v := 1) hx hb dX9_comesTo_59 (by decide) ?_
        refine lv_goto (tgt := 64) hx hb dX9_comesTo_60 (by decide) ?_
        refine lv_istore (lv' := [(8, .int 1), (7, .int (gk f)), (6, .int (ga f)), (0, .ref (g.2.2.1 r)), (1, .int p0), (2, .int p1), (3, .int p2), (4, .int p3), (5, .int p4)]) hx hb dX9_comesTo_64 hl (by decide) rfl (fun ls hl => ?_)
        exact ih66 1 h _ _ _ w (lv_sub hl [3, 4, 5, 6, 7, 8, 2, 1, 0] rfl) (by first | exact Bq.t (by omega) | exact Bq.f (by omega)) D rfl (by omega)
      · have c203 := qq202.eq c203
        refine lv_iload hx hb dX9_comesTo_44 (lv_at hl 1 rfl) ?_
        refine lv_iconst (v := 2) hx hb dX9_comesTo_46 (by decide) ?_
        refine lv_icmp_le (tgt := 63) hx hb dX9_comesTo_47 (by decide) (fun c204 => ?_) (fun c204 => ?_)
        · have c204 : (((pA M f) : Nat) : Int) ≤ ((2 : Nat) : Int) := (i_le (S.2.1 f (by omega)) (by decide : (2 : Int32).toInt = ((2 : Nat) : Int))).mp c204
          refine lv_iconst (v := 0) hx hb dX9_comesTo_63 (by decide) ?_
          refine lv_istore (lv' := [(8, .int 0), (7, .int (gk f)), (6, .int (ga f)), (0, .ref (g.2.2.1 r)), (1, .int p0), (2, .int p1), (3, .int p2), (4, .int p3), (5, .int p4)]) hx hb dX9_comesTo_64 hl (by decide) rfl (fun ls hl => ?_)
          exact ih66 0 h _ _ _ w (lv_sub hl [3, 4, 5, 6, 7, 8, 2, 1, 0] rfl) (by first | exact Bq.t (by omega) | exact Bq.f (by omega)) D rfl (by omega)
        · have c204 : ¬ ((((pA M f) : Nat) : Int) ≤ ((2 : Nat) : Int)) := fun q => c204 ((i_le (S.2.1 f (by omega)) (by decide : (2 : Int32).toInt = ((2 : Nat) : Int))).mpr q)
          refine lv_iload_n hx hb dX9_comesTo_50 rfl (lv_at hl 3 rfl) ?_
          refine lv_iload hx hb dX9_comesTo_51 (lv_at hl 7 rfl) ?_
          refine r_callI w (va_runS (As := [.int p0, .int p4]) (rest := []) ⟨hx, hb, hml, hown, hts⟩ (c_X9_isNever l hu p0 p4 hp0 hp4) (va_cwS 2 hts gX9_comesTo_X9_isNever rfl rfl rfl (by decide +kernel) ⟨Nat.le_of_ble_eq_true rfl, Nat.le_of_ble_eq_true rfl⟩) (r_preS w) rfl rfl hl.1 rfl (lv_room (Nat.le_of_ble_eq_true rfl)) dX9_comesTo_53 ⟨Nat.zero_le _, Nat.zero_le _⟩) (fun r206 h205 H locs hp w => ?_)
          obtain ⟨eh_, qq207⟩ := hp
          have eh_ := eh_.symm
          subst eh_
          refine lv_if_eq (tgt := 63) hx hb dX9_comesTo_56 (by decide) (fun c208 => ?_) (fun c208 => ?_)
          · have c208 := qq207.eq c208
            refine lv_iconst (v := 0) hx hb dX9_comesTo_63 (by decide) ?_
            refine lv_istore (lv' := [(8, .int 0), (7, .int (gk f)), (6, .int (ga f)), (0, .ref (g.2.2.1 r)), (1, .int p0), (2, .int p1), (3, .int p2), (4, .int p3), (5, .int p4)]) hx hb dX9_comesTo_64 hl (by decide) rfl (fun ls hl => ?_)
            exact ih66 0 h _ _ _ w (lv_sub hl [3, 4, 5, 6, 7, 8, 2, 1, 0] rfl) (by first | exact Bq.t (by omega) | exact Bq.f (by omega)) D rfl (by omega)
          · have c208 := qq207.ne c208
            refine lv_iconst (v := 1) hx hb dX9_comesTo_59 (by decide) ?_
            refine lv_goto (tgt := 64) hx hb dX9_comesTo_60 (by decide) ?_
            refine lv_istore (lv' := [(8, .int 1), (7, .int (gk f)), (6, .int (ga f)), (0, .ref (g.2.2.1 r)), (1, .int p0), (2, .int p1), (3, .int p2), (4, .int p3), (5, .int p4)]) hx hb dX9_comesTo_64 hl (by decide) rfl (fun ls hl => ?_)
            exact ih66 1 h _ _ _ w (lv_sub hl [3, 4, 5, 6, 7, 8, 2, 1, 0] rfl) (by first | exact Bq.t (by omega) | exact Bq.f (by omega)) D rfl (by omega)
  · have c193 : ¬ ((((pA M f) : Nat) : Int) ≤ (0 : Int)) := fun q => c193 ((i_le (S.2.1 f (by omega)) (rfl : (0 : Int32).toInt = 0)).mpr q)
    refine lv_iload_n hx hb dX9_comesTo_21 rfl (lv_at hl 3 rfl) ?_
    refine lv_iload_n hx hb dX9_comesTo_22 rfl (lv_at hl 5 rfl) ?_
    refine r_callI w (va_runS (As := [.int p0, .int p2]) (rest := []) ⟨hx, hb, hml, hown, hts⟩ (c_X9_isNever l hu p0 p2 hp0 hp2) (va_cwS 2 hts gX9_comesTo_X9_isNever rfl rfl rfl (by decide +kernel) ⟨Nat.le_of_ble_eq_true rfl, Nat.le_of_ble_eq_true rfl⟩) (r_preS w) rfl rfl hl.1 rfl (lv_room (Nat.le_of_ble_eq_true rfl)) dX9_comesTo_23 ⟨Nat.zero_le _, Nat.zero_le _⟩) (fun r210 h209 H locs hp w => ?_)
    obtain ⟨eh_, qq211⟩ := hp
    have eh_ := eh_.symm
    subst eh_
    refine lv_if_ne (tgt := 59) hx hb dX9_comesTo_26 (by decide) (fun c212 => ?_) (fun c212 => ?_)
    · have c212 := qq211.ne c212
      refine lv_iconst (v := 1) hx hb dX9_comesTo_59 (by decide) ?_
      refine lv_goto (tgt := 64) hx hb dX9_comesTo_60 (by decide) ?_
      refine lv_istore (lv' := [(8, .int 1), (7, .int (gk f)), (6, .int (ga f)), (0, .ref (g.2.2.1 r)), (1, .int p0), (2, .int p1), (3, .int p2), (4, .int p3), (5, .int p4)]) hx hb dX9_comesTo_64 hl (by decide) rfl (fun ls hl => ?_)
      exact ih66 1 h _ _ _ w (lv_sub hl [3, 4, 5, 6, 7, 8, 2, 1, 0] rfl) (by first | exact Bq.t (by omega) | exact Bq.f (by omega)) D rfl (by omega)
    · have c212 := qq211.eq c212
      refine lv_iload hx hb dX9_comesTo_29 (lv_at hl 1 rfl) ?_
      refine lv_iconst (v := 1) hx hb dX9_comesTo_31 (by decide) ?_
      refine lv_icmp_le (tgt := 44) hx hb dX9_comesTo_32 (by decide) (fun c213 => ?_) (fun c213 => ?_)
      · have c213 : (((pA M f) : Nat) : Int) ≤ ((1 : Nat) : Int) := (i_le (S.2.1 f (by omega)) (by decide : (1 : Int32).toInt = ((1 : Nat) : Int))).mp c213
        refine lv_iload hx hb dX9_comesTo_44 (lv_at hl 1 rfl) ?_
        refine lv_iconst (v := 2) hx hb dX9_comesTo_46 (by decide) ?_
        refine lv_icmp_le (tgt := 63) hx hb dX9_comesTo_47 (by decide) (fun c214 => ?_) (fun c214 => ?_)
        · have c214 : (((pA M f) : Nat) : Int) ≤ ((2 : Nat) : Int) := (i_le (S.2.1 f (by omega)) (by decide : (2 : Int32).toInt = ((2 : Nat) : Int))).mp c214
          refine lv_iconst (v := 0) hx hb dX9_comesTo_63 (by decide) ?_
          refine lv_istore (lv' := [(8, .int 0), (7, .int (gk f)), (6, .int (ga f)), (0, .ref (g.2.2.1 r)), (1, .int p0), (2, .int p1), (3, .int p2), (4, .int p3), (5, .int p4)]) hx hb dX9_comesTo_64 hl (by decide) rfl (fun ls hl => ?_)
          exact ih66 0 h _ _ _ w (lv_sub hl [3, 4, 5, 6, 7, 8, 2, 1, 0] rfl) (by first | exact Bq.t (by omega) | exact Bq.f (by omega)) D rfl (by omega)
        · have c214 : ¬ ((((pA M f) : Nat) : Int) ≤ ((2 : Nat) : Int)) := fun q => c214 ((i_le (S.2.1 f (by omega)) (by decide : (2 : Int32).toInt = ((2 : Nat) : Int))).mpr q)
          refine lv_iload_n hx hb dX9_comesTo_50 rfl (lv_at hl 3 rfl) ?_
          refine lv_iload hx hb dX9_comesTo_51 (lv_at hl 7 rfl) ?_
          refine r_callI w (va_runS (As := [.int p0, .int p4]) (rest := []) ⟨hx, hb, hml, hown, hts⟩ (c_X9_isNever l hu p0 p4 hp0 hp4) (va_cwS 2 hts gX9_comesTo_X9_isNever rfl rfl rfl (by decide +kernel) ⟨Nat.le_of_ble_eq_true rfl, Nat.le_of_ble_eq_true rfl⟩) (r_preS w) rfl rfl hl.1 rfl (lv_room (Nat.le_of_ble_eq_true rfl)) dX9_comesTo_53 ⟨Nat.zero_le _, Nat.zero_le _⟩) (fun r216 h215 H locs hp w => ?_)
          obtain ⟨eh_, qq217⟩ := hp
          have eh_ := eh_.symm
          subst eh_
          refine lv_if_eq (tgt := 63) hx hb dX9_comesTo_56 (by decide) (fun c218 => ?_) (fun c218 => ?_)
          · have c218 := qq217.eq c218
            refine lv_iconst (v := 0) hx hb dX9_comesTo_63 (by decide) ?_
            refine lv_istore (lv' := [(8, .int 0), (7, .int (gk f)), (6, .int (ga f)), (0, .ref (g.2.2.1 r)), (1, .int p0), (2, .int p1), (3, .int p2), (4, .int p3), (5, .int p4)]) hx hb dX9_comesTo_64 hl (by decide) rfl (fun ls hl => ?_)
            exact ih66 0 h _ _ _ w (lv_sub hl [3, 4, 5, 6, 7, 8, 2, 1, 0] rfl) (by first | exact Bq.t (by omega) | exact Bq.f (by omega)) D rfl (by omega)
          · have c218 := qq217.ne c218
            refine lv_iconst (v := 1) hx hb dX9_comesTo_59 (by decide) ?_
            refine lv_goto (tgt := 64) hx hb dX9_comesTo_60 (by decide) ?_
            refine lv_istore (lv' := [(8, .int 1), (7, .int (gk f)), (6, .int (ga f)), (0, .ref (g.2.2.1 r)), (1, .int p0), (2, .int p1), (3, .int p2), (4, .int p3), (5, .int p4)]) hx hb dX9_comesTo_64 hl (by decide) rfl (fun ls hl => ?_)
            exact ih66 1 h _ _ _ w (lv_sub hl [3, 4, 5, 6, 7, 8, 2, 1, 0] rfl) (by first | exact Bq.t (by omega) | exact Bq.f (by omega)) D rfl (by omega)
      · have c213 : ¬ ((((pA M f) : Nat) : Int) ≤ ((1 : Nat) : Int)) := fun q => c213 ((i_le (S.2.1 f (by omega)) (by decide : (1 : Int32).toInt = ((1 : Nat) : Int))).mpr q)
        refine lv_iload_n hx hb dX9_comesTo_35 rfl (lv_at hl 3 rfl) ?_
        refine lv_iload hx hb dX9_comesTo_36 (lv_at hl 6 rfl) ?_
        refine r_callI w (va_runS (As := [.int p0, .int p3]) (rest := []) ⟨hx, hb, hml, hown, hts⟩ (c_X9_isNever l hu p0 p3 hp0 hp3) (va_cwS 2 hts gX9_comesTo_X9_isNever rfl rfl rfl (by decide +kernel) ⟨Nat.le_of_ble_eq_true rfl, Nat.le_of_ble_eq_true rfl⟩) (r_preS w) rfl rfl hl.1 rfl (lv_room (Nat.le_of_ble_eq_true rfl)) dX9_comesTo_38 ⟨Nat.zero_le _, Nat.zero_le _⟩) (fun r220 h219 H locs hp w => ?_)
        obtain ⟨eh_, qq221⟩ := hp
        have eh_ := eh_.symm
        subst eh_
        refine lv_if_ne (tgt := 59) hx hb dX9_comesTo_41 (by decide) (fun c222 => ?_) (fun c222 => ?_)
        · have c222 := qq221.ne c222
          refine lv_iconst (v := 1) hx hb dX9_comesTo_59 (by decide) ?_
          refine lv_goto (tgt := 64) hx hb dX9_comesTo_60 (by decide) ?_
          refine lv_istore (lv' := [(8, .int 1), (7, .int (gk f)), (6, .int (ga f)), (0, .ref (g.2.2.1 r)), (1, .int p0), (2, .int p1), (3, .int p2), (4, .int p3), (5, .int p4)]) hx hb dX9_comesTo_64 hl (by decide) rfl (fun ls hl => ?_)
          exact ih66 1 h _ _ _ w (lv_sub hl [3, 4, 5, 6, 7, 8, 2, 1, 0] rfl) (by first | exact Bq.t (by omega) | exact Bq.f (by omega)) D rfl (by omega)
        · have c222 := qq221.eq c222
          refine lv_iload hx hb dX9_comesTo_44 (lv_at hl 1 rfl) ?_
          refine lv_iconst (v := 2) hx hb dX9_comesTo_46 (by decide) ?_
          refine lv_icmp_le (tgt := 63) hx hb dX9_comesTo_47 (by decide) (fun c223 => ?_) (fun c223 => ?_)
          · have c223 : (((pA M f) : Nat) : Int) ≤ ((2 : Nat) : Int) := (i_le (S.2.1 f (by omega)) (by decide : (2 : Int32).toInt = ((2 : Nat) : Int))).mp c223
            refine lv_iconst (v := 0) hx hb dX9_comesTo_63 (by decide) ?_
            refine lv_istore (lv' := [(8, .int 0), (7, .int (gk f)), (6, .int (ga f)), (0, .ref (g.2.2.1 r)), (1, .int p0), (2, .int p1), (3, .int p2), (4, .int p3), (5, .int p4)]) hx hb dX9_comesTo_64 hl (by decide) rfl (fun ls hl => ?_)
            exact ih66 0 h _ _ _ w (lv_sub hl [3, 4, 5, 6, 7, 8, 2, 1, 0] rfl) (by first | exact Bq.t (by omega) | exact Bq.f (by omega)) D rfl (by omega)
          · have c223 : ¬ ((((pA M f) : Nat) : Int) ≤ ((2 : Nat) : Int)) := fun q => c223 ((i_le (S.2.1 f (by omega)) (by decide : (2 : Int32).toInt = ((2 : Nat) : Int))).mpr q)
            refine lv_iload_n hx hb dX9_comesTo_50 rfl (lv_at hl 3 rfl) ?_
            refine lv_iload hx hb dX9_comesTo_51 (lv_at hl 7 rfl) ?_
            refine r_callI w (va_runS (As := [.int p0, .int p4]) (rest := []) ⟨hx, hb, hml, hown, hts⟩ (c_X9_isNever l hu p0 p4 hp0 hp4) (va_cwS 2 hts gX9_comesTo_X9_isNever rfl rfl rfl (by decide +kernel) ⟨Nat.le_of_ble_eq_true rfl, Nat.le_of_ble_eq_true rfl⟩) (r_preS w) rfl rfl hl.1 rfl (lv_room (Nat.le_of_ble_eq_true rfl)) dX9_comesTo_53 ⟨Nat.zero_le _, Nat.zero_le _⟩) (fun r225 h224 H locs hp w => ?_)
            obtain ⟨eh_, qq226⟩ := hp
            have eh_ := eh_.symm
            subst eh_
            refine lv_if_eq (tgt := 63) hx hb dX9_comesTo_56 (by decide) (fun c227 => ?_) (fun c227 => ?_)
            · have c227 := qq226.eq c227
              refine lv_iconst (v := 0) hx hb dX9_comesTo_63 (by decide) ?_
              refine lv_istore (lv' := [(8, .int 0), (7, .int (gk f)), (6, .int (ga f)), (0, .ref (g.2.2.1 r)), (1, .int p0), (2, .int p1), (3, .int p2), (4, .int p3), (5, .int p4)]) hx hb dX9_comesTo_64 hl (by decide) rfl (fun ls hl => ?_)
              exact ih66 0 h _ _ _ w (lv_sub hl [3, 4, 5, 6, 7, 8, 2, 1, 0] rfl) (by first | exact Bq.t (by omega) | exact Bq.f (by omega)) D rfl (by omega)
            · have c227 := qq226.ne c227
              refine lv_iconst (v := 1) hx hb dX9_comesTo_59 (by decide) ?_
              refine lv_goto (tgt := 64) hx hb dX9_comesTo_60 (by decide) ?_
              refine lv_istore (lv' := [(8, .int 1), (7, .int (gk f)), (6, .int (ga f)), (0, .ref (g.2.2.1 r)), (1, .int p0), (2, .int p1), (3, .int p2), (4, .int p3), (5, .int p4)]) hx hb dX9_comesTo_64 hl (by decide) rfl (fun ls hl => ?_)
              exact ih66 1 h _ _ _ w (lv_sub hl [3, 4, 5, 6, 7, 8, 2, 1, 0] rfl) (by first | exact Bq.t (by omega) | exact Bq.f (by omega)) D rfl (by omega)

theorem inX9_changes_X9 : ∀ w ∈ wsX90, w ∈ wsX9_changes := by decide +kernel
abbrev rm_X9_changes : Room := { frames := 4, cells := 0, slots := 0, locals := 108 }
set_option maxHeartbeats 4000000 in
set_option maxRecDepth 100000 in
theorem c_X9_changes (l : Launch) {g : GE} {h : Nat → va_E} {r : Nat} {nm kn um sv sz ra rm : Int32} {ga gk gl gB gt gn gr gp gh gv gs gx gf : Nat → Int32} (D : MdA g h r nm kn um sv sz ra rm ga gk gl gB gt gn gr gp gh gv gs gx gf) {M : PRG} (S : RS M nm ga gk gl gB) (hP : PV M) {u : Nat} (hu : u < 3) {k : Nat} (hT : RT u M gt (mTab u M k)) (p0 : Int32) (hp0 : p0.toInt = (u : Int)) : MI l yX9_changes wsX9_changes rm_X9_changes [.ref (g.2.2.1 r), .int p0] g h (fun r_ h2 => (∀ k, ¬ (r ≤ k ∧ k < r + 14) → h2 k = h k) ∧ Bq r_ (¬ Stable u M k) ∧ ∃ gt2 gn2 gp2 : Nat → Int32, MdA g h2 r nm kn um sv sz ra rm ga gk gl gB gt2 gn2 gr gp2 gh gv gs gx gf ∧ RT u M gt2 (mTab u M (k + 1)) ∧ ∀ q, ¬ (500 * u ≤ q ∧ q < 500 * u + 500) → gt2 q = gt q) := by
  refine Met.ofW (cc := cX9_changes) (maxL := 10) (ret := (some .boolean)) (by decide) rfl ?_
  intro p e s m args below meth c s₁ B hml hv
  obtain ⟨rfl, w0⟩ := hv
  have hx := B.exec
  have hb := B.bytes
  have hr := B.returns
  have hts := atoms_spec (ws := wsX9_changes) B.pre
  have hown : s.vm.findClass RX9 = some m.cls := findClass_of_methodNamed B.named
  have hlocks := B.notSynchronized
  have w := w0.start
  clear w0
  have hl := lv_entry ([.ref (g.2.2.1 r), .int p0]) (n := 10) (Nat.le_of_ble_eq_true rfl)
  rw [lg_entry_eq]
  generalize (lg_sl ([.ref (g.2.2.1 r), .int p0]) ++ List.replicate (10 - (lg_sl ([.ref (g.2.2.1 r), .int p0])).length) Slot.unset).toArray = ls at hl ⊢
  have hl : lv_has ls 10 [(0, .ref (g.2.2.1 r)), (1, .int p0)] := hl
  have hn4 := hP.2.1
  have hL := mTab_lt hu hP k
  have cuts : ∀ N : Nat, (∀ (f : Nat) (x3 : Int32) (x4 : Int32) (gn1 : Nat → Int32) (gp1 : Nat → Int32) (x2 : Int32) (hc : Nat → va_E) (H : Heap) (locs : List Loc) (ls : Array Slot), WD g (inW g) s hc H locs → lv_has ls 10 [(0, .ref (g.2.2.1 r)), (1, .int p0), (2, .int x2), (3, .int x3), (4, .int x4)] → (f ≤ pN M) → (x4.toInt = ((f : Nat) : Int)) → (∀ f_ row_, f_ < pN M → row_ < 125 → f_ < f → NV u M (mTab u M (k + 1)) f_ row_ (gn1 (125 * f_ + row_))) → (Bq x3 (∃ f_ row_, f_ < pN M ∧ row_ < 125 ∧ f_ < f ∧ Df u M k f_ row_)) → (x2.toInt = ((mB u : Nat) : Int)) → (MdA g hc r nm kn um sv sz ra rm ga gk gl gB gt gn1 gr gp1 gh gv gs gx gf) → (∀ k, ¬ (r ≤ k ∧ k < r + 14) → hc k = h k) → (pN M - f) * 1000 + 900 < N → W p l e (headSpec wsX9_changes rm_X9_changes).room s m ([.ref (g.2.2.1 r), .int p0] : List Value).toArray below meth c H locs 0 0 (MQ below (va_Qi (fun r_ h2 => (∀ k, ¬ (r ≤ k ∧ k < r + 14) → h2 k = h k) ∧ Bq r_ (¬ Stable u M k) ∧ ∃ gt2 gn2 gp2 : Nat → Int32, MdA g h2 r nm kn um sv sz ra rm ga gk gl gB gt2 gn2 gr gp2 gh gv gs gx gf ∧ RT u M gt2 (mTab u M (k + 1)) ∧ ∀ q, ¬ (500 * u ≤ q ∧ q < 500 * u + 500) → gt2 q = gt q) (Wd g) (inW g)) ([.ref (g.2.2.1 r), .int p0] : List Value).toArray s 0 0 (inW g)) (F0 m 10 ls [])) ∧ (∀ (f : Nat) (x3 : Int32) (x4 : Int32) (gn1 : Nat → Int32) (gp1 : Nat → Int32) (row : Nat) (x5 : Int32) (x2 : Int32) (hc : Nat → va_E) (H : Heap) (locs : List Loc) (ls : Array Slot), WD g (inW g) s hc H locs → lv_has ls 10 [(0, .ref (g.2.2.1 r)), (1, .int p0), (2, .int x2), (3, .int x3), (4, .int x4), (5, .int x5)] → (f < pN M) → (x4.toInt = ((f : Nat) : Int)) → (row ≤ 125) → (x5.toInt = ((row : Nat) : Int)) → (∀ f_ row_, f_ < pN M → row_ < 125 → (f_ < f ∨ (f_ = f ∧ row_ < row)) → NV u M (mTab u M (k + 1)) f_ row_ (gn1 (125 * f_ + row_))) → (Bq x3 (∃ f_ row_, f_ < pN M ∧ row_ < 125 ∧ (f_ < f ∨ (f_ = f ∧ row_ < row)) ∧ Df u M k f_ row_)) → (x2.toInt = ((mB u : Nat) : Int)) → (MdA g hc r nm kn um sv sz ra rm ga gk gl gB gt gn1 gr gp1 gh gv gs gx gf) → (∀ k, ¬ (r ≤ k ∧ k < r + 14) → hc k = h k) → (pN M - f) * 1000 + (125 - row) * 4 + 2 < N → W p l e (headSpec wsX9_changes rm_X9_changes).room s m ([.ref (g.2.2.1 r), .int p0] : List Value).toArray below meth c H locs 0 0 (MQ below (va_Qi (fun r_ h2 => (∀ k, ¬ (r ≤ k ∧ k < r + 14) → h2 k = h k) ∧ Bq r_ (¬ Stable u M k) ∧ ∃ gt2 gn2 gp2 : Nat → Int32, MdA g h2 r nm kn um sv sz ra rm ga gk gl gB gt2 gn2 gr gp2 gh gv gs gx gf ∧ RT u M gt2 (mTab u M (k + 1)) ∧ ∀ q, ¬ (500 * u ≤ q ∧ q < 500 * u + 500) → gt2 q = gt q) (Wd g) (inW g)) ([.ref (g.2.2.1 r), .int p0] : List Value).toArray s 0 0 (inW g)) (F0 m 22 ls [])) ∧ (∀ (f : Nat) (i : Nat) (x3 : Int32) (x4 : Int32) (gn1 : Nat → Int32) (gp1 : Nat → Int32) (gt1 : Nat → Int32) (hc : Nat → va_E) (H : Heap) (locs : List Loc) (ls : Array Slot), WD g (inW g) s hc H locs → lv_has ls 10 [(0, .ref (g.2.2.1 r)), (1, .int p0), (3, .int x3), (4, .int x4)] → (f = pN M) → (i ≤ 125 * pN M) → (x4.toInt = ((i : Nat) : Int)) → (∀ f_ row_, f_ < pN M → row_ < 125 → NV u M (mTab u M (k + 1)) f_ row_ (gn1 (125 * f_ + row_))) → (Bq x3 (∃ f_ row_, f_ < pN M ∧ row_ < 125 ∧ f_ < f ∧ Df u M k f_ row_)) → (∀ q, gt1 q = if 500 * u ≤ q ∧ q < 500 * u + i then gn1 (q - 500 * u) else gt q) → (MdA g hc r nm kn um sv sz ra rm ga gk gl gB gt1 gn1 gr gp1 gh gv gs gx gf) → (∀ k, ¬ (r ≤ k ∧ k < r + 14) → hc k = h k) → 600 - i < N → W p l e (headSpec wsX9_changes rm_X9_changes).room s m ([.ref (g.2.2.1 r), .int p0] : List Value).toArray below meth c H locs 0 0 (MQ below (va_Qi (fun r_ h2 => (∀ k, ¬ (r ≤ k ∧ k < r + 14) → h2 k = h k) ∧ Bq r_ (¬ Stable u M k) ∧ ∃ gt2 gn2 gp2 : Nat → Int32, MdA g h2 r nm kn um sv sz ra rm ga gk gl gB gt2 gn2 gr gp2 gh gv gs gx gf ∧ RT u M gt2 (mTab u M (k + 1)) ∧ ∀ q, ¬ (500 * u ≤ q ∧ q < 500 * u + 500) → gt2 q = gt q) (Wd g) (inW g)) ([.ref (g.2.2.1 r), .int p0] : List Value).toArray s 0 0 (inW g)) (F0 m 153 ls [])) := by
    intro N
    induction N with
    | zero => exact ⟨by intros; omega, by intros; omega, by intros; omega⟩
    | succ N ih =>
      obtain ⟨ih10, ih22, ih153⟩ := ih
      refine ⟨?_, ?_, ?_⟩
      · intro f x3 x4 gn1 gp1 x2 hc H locs ls w hl hf hx4 hgn hch hx2 D hfr hN_
        refine lv_iload hx hb dX9_changes_10 (lv_at hl 4 rfl) ?_
        refine lv_aload_n hx hb dX9_changes_12 rfl (lv_at hl 0 rfl) ?_
        refine r_get (C := RX9) (T := TX9) (N := 20) (ci := 7) hx hb hts inX9_changes_X9 hown w (by have := D.1; omega) D.c0 rfl 0 (by decide) (hts (Cond.fieldLink RX9 49 "EarlyValuesModel" "many" "I") (List.mem_of_getElem? (i := 1) (by decide +kernel))) rfl rfl dX9_changes_13 ?_
        refine lv_icmp_ge (tgt := 150) hx hb dX9_changes_16 (by decide) (fun c1 => ?_) (fun c1 => ?_)
        · have c1 : (((pN M) : Nat) : Int) ≤ ((f : Nat) : Int) := (i_le S.1 hx4).mp c1
          refine lv_iconst (v := 0) hx hb dX9_changes_150 (by decide) ?_
          refine lv_istore (lv' := [(4, .int 0), (0, .ref (g.2.2.1 r)), (1, .int p0), (2, .int x2), (3, .int x3)]) hx hb dX9_changes_151 hl (by decide) rfl (fun ls hl => ?_)
          exact ih153 f 0 x3 0 gn1 gp1 gt hc _ _ _ w (lv_sub hl [1, 2, 4, 0] rfl) (by omega) (Nat.zero_le _) ((by decide : (0 : Int32).toInt = ((0 : Nat) : Int))) (fun f_ row_ a_ b_ => hgn f_ row_ a_ b_ (by omega)) hch (fun q_ => by rw [if_neg (by omega)]) D hfr (by omega)
        · have c1 : ¬ ((((pN M) : Nat) : Int) ≤ ((f : Nat) : Int)) := fun q => c1 ((i_le S.1 hx4).mpr q)
          refine lv_iconst (v := 0) hx hb dX9_changes_19 (by decide) ?_
          refine lv_istore (lv' := [(5, .int 0), (0, .ref (g.2.2.1 r)), (1, .int p0), (2, .int x2), (3, .int x3), (4, .int x4)]) hx hb dX9_changes_20 hl (by decide) rfl (fun ls hl => ?_)
          exact ih22 f x3 x4 gn1 gp1 0 0 x2 hc _ _ _ w (lv_sub hl [1, 2, 3, 4, 5, 0] rfl) (by omega) hx4 (Nat.zero_le _) ((by decide : (0 : Int32).toInt = ((0 : Nat) : Int))) (fun f_ row_ a_ b_ q_ => hgn f_ row_ a_ b_ (by omega)) (hch.iff ⟨by rintro ⟨f_, row_, a_, b_, q_, d_⟩; exact ⟨f_, row_, a_, b_, by omega, d_⟩, by rintro ⟨f_, row_, a_, b_, q_, d_⟩; exact ⟨f_, row_, a_, b_, by omega, d_⟩⟩) hx2 D hfr (by omega)
      · intro f x3 x4 gn1 gp1 row x5 x2 hc H locs ls w hl hf hx4 hrow hx5 hgn hch hx2 D hfr hN_
        refine lv_iload hx hb dX9_changes_22 (lv_at hl 5 rfl) ?_
        refine lv_bipush (v := 125) hx hb dX9_changes_24 (by decide) ?_
        refine lv_icmp_ge (tgt := 144) hx hb dX9_changes_26 (by decide) (fun c2 => ?_) (fun c2 => ?_)
        · have c2 : ((125 : Nat) : Int) ≤ ((row : Nat) : Int) := (i_le (by decide : (125 : Int32).toInt = ((125 : Nat) : Int)) hx5).mp c2
          obtain ⟨y3, ey3⟩ : ∃ y : Int32, y = x4 + (1) := ⟨_, rfl⟩
          have ty3 : y3.toInt = (((f + 1) : Nat) : Int) := i_addN ey3 hx4 (by decide : (1 : Int32).toInt = ((1 : Nat) : Int)) (by omega)
          refine lv_iinc (v := y3) (lv' := [(4, .int y3), (0, .ref (g.2.2.1 r)), (1, .int p0), (2, .int x2), (3, .int x3), (5, .int x5)]) hx hb dX9_changes_144 hl (k := 4) rfl (by rw [ey3]; rfl) (by decide) rfl (fun ls hl => ?_)
          refine lv_goto (tgt := 10) hx hb dX9_changes_147 (by decide) ?_
          exact ih10 (f + 1) x3 y3 gn1 gp1 x2 hc _ _ _ w (lv_sub hl [1, 2, 3, 4, 0] rfl) (by omega) ty3 (fun f_ row_ a_ b_ q_ => hgn f_ row_ a_ b_ (by omega)) (hch.iff ⟨by rintro ⟨f_, row_, a_, b_, q_, d_⟩; exact ⟨f_, row_, a_, b_, by omega, d_⟩, by rintro ⟨f_, row_, a_, b_, q_, d_⟩; exact ⟨f_, row_, a_, b_, by omega, d_⟩⟩) hx2 D hfr (by omega)
        · have c2 : ¬ (((125 : Nat) : Int) ≤ ((row : Nat) : Int)) := fun q => c2 ((i_le (by decide : (125 : Int32).toInt = ((125 : Nat) : Int)) hx5).mpr q)
          refine lv_iload hx hb dX9_changes_29 (lv_at hl 5 rfl) ?_
          refine lv_bipush (v := 25) hx hb dX9_changes_31 (by decide) ?_
          refine lv_idiv hx hb dX9_changes_33 (fun q => absurd ((i_eq (by decide : (25 : Int32).toInt = ((25 : Nat) : Int)) (by decide : (0 : Int32).toInt = (0 : Int))).mp q) (by omega)) ?_
          refine lv_topi (fun y4 ey4 => ?_)
          have ty4 : y4.toInt = (((row / 25) : Nat) : Int) := i_divN ey4 hx5 (by decide : (25 : Int32).toInt = ((25 : Nat) : Int)) (by omega)
          refine lv_istore (lv' := [(6, .int y4), (0, .ref (g.2.2.1 r)), (1, .int p0), (2, .int x2), (3, .int x3), (4, .int x4), (5, .int x5)]) hx hb dX9_changes_34 hl (by decide) rfl (fun ls hl => ?_)
          refine lv_iload hx hb dX9_changes_36 (lv_at hl 6 rfl) ?_
          refine lv_iconst (v := 5) hx hb dX9_changes_38 (by decide) ?_
          refine lv_idiv hx hb dX9_changes_39 (fun q => absurd ((i_eq (by decide : (5 : Int32).toInt = ((5 : Nat) : Int)) (by decide : (0 : Int32).toInt = (0 : Int))).mp q) (by omega)) ?_
          refine lv_topi (fun y5 ey5 => ?_)
          have ty5 : y5.toInt = (((row / 5) : Nat) : Int) := i_divN ey5 hx5 (by decide : (5 : Int32).toInt = ((5 : Nat) : Int)) (by omega)
          refine lv_iconst (v := 5) hx hb dX9_changes_40 (by decide) ?_
          refine lv_irem hx hb dX9_changes_41 (fun q => absurd ((i_eq (by decide : (5 : Int32).toInt = ((5 : Nat) : Int)) (by decide : (0 : Int32).toInt = (0 : Int))).mp q) (by omega)) ?_
          refine lv_topi (fun y6 ey6 => ?_)
          have ty6 : y6.toInt = ((((row / 5) % 5) : Nat) : Int) := i_remN ey6 ty5 (by decide : (5 : Int32).toInt = ((5 : Nat) : Int)) (by omega)
          refine lv_istore (lv' := [(7, .int y6), (6, .int y4), (0, .ref (g.2.2.1 r)), (1, .int p0), (2, .int x2), (3, .int x3), (4, .int x4), (5, .int x5)]) hx hb dX9_changes_42 hl (by decide) rfl (fun ls hl => ?_)
          refine lv_iload hx hb dX9_changes_44 (lv_at hl 7 rfl) ?_
          refine lv_iconst (v := 5) hx hb dX9_changes_46 (by decide) ?_
          refine lv_irem hx hb dX9_changes_47 (fun q => absurd ((i_eq (by decide : (5 : Int32).toInt = ((5 : Nat) : Int)) (by decide : (0 : Int32).toInt = (0 : Int))).mp q) (by omega)) ?_
          refine lv_topi (fun y7 ey7 => ?_)
          have ty7 : y7.toInt = (((row % 5) : Nat) : Int) := i_remN ey7 hx5 (by decide : (5 : Int32).toInt = ((5 : Nat) : Int)) (by omega)
          refine lv_istore (lv' := [(8, .int y7), (7, .int y6), (6, .int y4), (0, .ref (g.2.2.1 r)), (1, .int p0), (2, .int x2), (3, .int x3), (4, .int x4), (5, .int x5)]) hx hb dX9_changes_48 hl (by decide) rfl (fun ls hl => ?_)
          refine lv_aload_n hx hb dX9_changes_50 rfl (lv_at hl 3 rfl) ?_
          refine lv_iload hx hb dX9_changes_51 (lv_at hl 7 rfl) ?_
          refine lv_iload hx hb dX9_changes_53 (lv_at hl 2 rfl) ?_
          refine lv_iload hx hb dX9_changes_55 (lv_at hl 1 rfl) ?_
          refine lv_iload hx hb dX9_changes_57 (lv_at hl 0 rfl) ?_
          refine lv_iload_n hx hb dX9_changes_59 rfl (lv_at hl 5 rfl) ?_
          refine r_callI w (va_runV (As := [.int x4, .int y4, .int y6, .int y7, .int x2]) (rest := []) ⟨hx, hb, hml, hown, hts⟩ (c_X9_isRow l D S hP hu x4 y4 y6 y7 x2 hx4 (by omega) hx2) (cwV 5 hts gX9_changes_X9_isRow rfl rfl rfl (by decide +kernel) ⟨Nat.le_of_ble_eq_true rfl, Nat.le_of_ble_eq_true rfl⟩) (r_preV w (by have := D.1; omega) D.c0 rfl) rfl rfl hl.1 rfl (lv_room (Nat.le_of_ble_eq_true rfl)) dX9_changes_60 ⟨Nat.zero_le _, Nat.zero_le _⟩) (fun r9 h8 H locs hp w => ?_)
          obtain ⟨eh_, qq10⟩ := hp
          have eh_ := eh_.symm
          subst eh_
          have b11 : Bq r9 (mIs u (pA M f) (row / 25) (row / 5 % 5) (row % 5)) := qq10.iff (by rw [(ty4 : (y4 : Int32).toInt = _), (ty6 : (y6 : Int32).toInt = _), (ty7 : (y7 : Int32).toInt = _)]; simp only [Int.toNat_natCast]; exact ⟨fun q_ => q_.2.2.2, fun q_ => ⟨by omega, by omega, by omega, q_⟩⟩)
          refine lv_istore (lv' := [(9, .int r9), (8, .int y7), (7, .int y6), (6, .int y4), (0, .ref (g.2.2.1 r)), (1, .int p0), (2, .int x2), (3, .int x3), (4, .int x4), (5, .int x5)]) hx hb dX9_changes_63 hl (by decide) rfl (fun ls hl => ?_)
          refine lv_aload_n hx hb dX9_changes_65 rfl (lv_at hl 4 rfl) ?_
          refine r_get (C := RX9) (T := TX9) (N := 20) (ci := 7) hx hb hts inX9_changes_X9 hown w (by have := D.1; omega) D.c0 rfl 6 (by decide) (hts (Cond.fieldLink RX9 25 "EarlyValuesModel" "then" "[I") (List.mem_of_getElem? (i := 2) (by decide +kernel))) rfl rfl dX9_changes_66 ?_
          refine lv_bipush (v := 125) hx hb dX9_changes_69 (by decide) ?_
          refine lv_iload hx hb dX9_changes_71 (lv_at hl 8 rfl) ?_
          refine lv_imul hx hb dX9_changes_73 ?_
          refine lv_topi (fun y12 ey12 => ?_)
          have ty12 : y12.toInt = (((125 * f) : Nat) : Int) := i_mulN ey12 (by decide : (125 : Int32).toInt = ((125 : Nat) : Int)) hx4 (by omega)
          refine lv_iload hx hb dX9_changes_74 (lv_at hl 9 rfl) ?_
          refine lv_iadd hx hb dX9_changes_76 ?_
          refine lv_topi (fun y13 ey13 => ?_)
          have ty13 : y13.toInt = ((((125 * f) + row) : Nat) : Int) := i_addN ey13 ty12 hx5 (by omega)
          refine lv_iload hx hb dX9_changes_77 (lv_at hl 0 rfl) ?_
          refine lv_if_eq (tgt := 98) hx hb dX9_changes_79 (by decide) (fun c14 => ?_) (fun c14 => ?_)
          · have c14 := b11.eq c14
            refine lv_iload_n hx hb dX9_changes_98 rfl (lv_at hl 5 rfl) ?_
            refine r_callI w (va_runS (As := [.int p0]) (rest := [.int y13, .ref (g.2.2.1 (r + 6))]) ⟨hx, hb, hml, hown, hts⟩ (c_X9_neverOf l hu p0 hp0) (va_cwS 1 hts gX9_changes_X9_neverOf rfl rfl rfl (by decide +kernel) ⟨Nat.le_of_ble_eq_true rfl, Nat.le_of_ble_eq_true rfl⟩) (r_preS w) rfl rfl hl.1 rfl (lv_room (Nat.le_of_ble_eq_true rfl)) dX9_changes_99 ⟨Nat.zero_le _, Nat.zero_le _⟩) (fun r16 h15 H locs hp w => ?_)
            obtain ⟨eh_, qq17⟩ := hp
            have eh_ := eh_.symm
            subst eh_
            refine r_iast (j := ((125 * f) + row)) hx hb w (by have := D.1; omega) D.c6 ty13 (by omega) dX9_changes_102 (fun h18 H locs eh18 w => ?_)
            have D := D.s6 eh18
            generalize egz19 : upd gn1 (((125 * f) + row)) r16 = gz19 at D
            have hfr : ∀ k_, ¬ (r ≤ k_ ∧ k_ < r + 14) → h18 k_ = h k_ := fun k_ hk_ => by rw [eh18, va_up_ne _ _ (by omega)]; exact hfr k_ hk_
            refine lv_iload_n hx hb dX9_changes_103 rfl (lv_at hl 7 rfl) ?_
            refine lv_if_ne (tgt := 132) hx hb dX9_changes_104 (by decide) (fun c20 => ?_) (fun c20 => ?_)
            · have c20 := hch.ne c20
              refine lv_iconst (v := 1) hx hb dX9_changes_132 (by decide) ?_
              refine lv_goto (tgt := 137) hx hb dX9_changes_133 (by decide) ?_
              refine lv_istore_n (lv' := [(3, .int 1), (9, .int r9), (8, .int y7), (7, .int y6), (6, .int y4), (0, .ref (g.2.2.1 r)), (1, .int p0), (2, .int x2), (4, .int x4), (5, .int x5)]) hx hb dX9_changes_137 rfl hl (by decide) rfl (fun ls hl => ?_)
              obtain ⟨y21, ey21⟩ : ∃ y : Int32, y = x5 + (1) := ⟨_, rfl⟩
              have ty21 : y21.toInt = (((row + 1) : Nat) : Int) := i_addN ey21 hx5 (by decide : (1 : Int32).toInt = ((1 : Nat) : Int)) (by omega)
              refine lv_iinc (v := y21) (lv' := [(5, .int y21), (3, .int 1), (9, .int r9), (8, .int y7), (7, .int y6), (6, .int y4), (0, .ref (g.2.2.1 r)), (1, .int p0), (2, .int x2), (4, .int x4)]) hx hb dX9_changes_138 hl (k := 9) rfl (by rw [ey21]; rfl) (by decide) rfl (fun ls hl => ?_)
              refine lv_goto (tgt := 22) hx hb dX9_changes_141 (by decide) ?_
              exact ih22 f 1 x4 gz19 gp1 (row + 1) y21 x2 h18 _ _ _ w (lv_sub hl [6, 7, 8, 1, 9, 0] rfl) hf hx4 (by omega) ty21 (by exact nv_up hgn (by omega) ⟨fun q_ => absurd q_ c14, fun _ => qq17⟩ egz19) (nv_ch1 c20) hx2 D hfr (by omega)
            · have c20 := hch.eq c20
              refine lv_aload_n hx hb dX9_changes_107 rfl (lv_at hl 4 rfl) ?_
              refine r_get (C := RX9) (T := TX9) (N := 20) (ci := 7) hx hb hts inX9_changes_X9 hown w (by have := D.1; omega) D.c0 rfl 6 (by decide) (hts (Cond.fieldLink RX9 25 "EarlyValuesModel" "then" "[I") (List.mem_of_getElem? (i := 2) (by decide +kernel))) rfl rfl dX9_changes_108 ?_
              refine lv_bipush (v := 125) hx hb dX9_changes_111 (by decide) ?_
              refine lv_iload hx hb dX9_changes_113 (lv_at hl 8 rfl) ?_
              refine lv_imul hx hb dX9_changes_115 ?_
              refine lv_topi (fun y22 ey22 => ?_)
              have ty22 : y22.toInt = (((125 * f) : Nat) : Int) := i_mulN ey22 (by decide : (125 : Int32).toInt = ((125 : Nat) : Int)) hx4 (by omega)
              refine lv_iload hx hb dX9_changes_116 (lv_at hl 9 rfl) ?_
              refine lv_iadd hx hb dX9_changes_118 ?_
              refine lv_topi (fun y23 ey23 => ?_)
              have ty23 : y23.toInt = ((((125 * f) + row) : Nat) : Int) := i_addN ey23 ty22 hx5 (by omega)
              refine r_iald (j := ((125 * f) + row)) hx hb w (by have := D.1; omega) D.c6 ty23 (by omega) dX9_changes_119 ?_
              refine lv_aload_n hx hb dX9_changes_120 rfl (lv_at hl 4 rfl) ?_
              refine lv_iload_n hx hb dX9_changes_121 rfl (lv_at hl 5 rfl) ?_
              refine lv_iload hx hb dX9_changes_122 (lv_at hl 8 rfl) ?_
              refine lv_iload hx hb dX9_changes_124 (lv_at hl 9 rfl) ?_
              refine r_callI w (va_runV (As := [.int p0, .int x4, .int x5]) (rest := [.int (gz19 (((125 * f) + row)))]) ⟨hx, hb, hml, hown, hts⟩ (c_X9_tableAt l D (u := u) (by omega) p0 x4 x5 hp0 hx4 hx5 (by omega) (by omega)) (cwV 3 hts gX9_changes_X9_tableAt rfl rfl rfl (by decide +kernel) ⟨Nat.le_of_ble_eq_true rfl, Nat.le_of_ble_eq_true rfl⟩) (r_preV w (by have := D.1; omega) D.c0 rfl) rfl rfl hl.1 rfl (lv_room (Nat.le_of_ble_eq_true rfl)) dX9_changes_126 ⟨Nat.zero_le _, Nat.zero_le _⟩) (fun r25 h24 H locs hp w => ?_)
              obtain ⟨eh_, qq26⟩ := hp
              have eh_ := eh_.symm
              subst eh_
              subst qq26
              refine lv_icmp_eq (tgt := 136) hx hb dX9_changes_129 (by decide) (fun c27 => ?_) (fun c27 => ?_)
              · have c27 : (((mN u) : Nat) : Int) = (((mN u) : Nat) : Int) := (i_eq (by rw [← egz19, pk_us]; exact qq17) ((hT f row hf (by omega)).2 c14)).mp c27
                refine lv_iconst (v := 0) hx hb dX9_changes_136 (by decide) ?_
                refine lv_istore_n (lv' := [(3, .int 0), (9, .int r9), (8, .int y7), (7, .int y6), (6, .int y4), (0, .ref (g.2.2.1 r)), (1, .int p0), (2, .int x2), (4, .int x4), (5, .int x5)]) hx hb dX9_changes_137 rfl hl (by decide) rfl (fun ls hl => ?_)
                obtain ⟨y28, ey28⟩ : ∃ y : Int32, y = x5 + (1) := ⟨_, rfl⟩
                have ty28 : y28.toInt = (((row + 1) : Nat) : Int) := i_addN ey28 hx5 (by decide : (1 : Int32).toInt = ((1 : Nat) : Int)) (by omega)
                refine lv_iinc (v := y28) (lv' := [(5, .int y28), (3, .int 0), (9, .int r9), (8, .int y7), (7, .int y6), (6, .int y4), (0, .ref (g.2.2.1 r)), (1, .int p0), (2, .int x2), (4, .int x4)]) hx hb dX9_changes_138 hl (k := 9) rfl (by rw [ey28]; rfl) (by decide) rfl (fun ls hl => ?_)
                refine lv_goto (tgt := 22) hx hb dX9_changes_141 (by decide) ?_
                exact ih22 f 0 x4 gz19 gp1 (row + 1) y28 x2 h18 _ _ _ w (lv_sub hl [6, 7, 8, 1, 9, 0] rfl) hf hx4 (by omega) ty28 (by exact nv_up hgn (by omega) ⟨fun q_ => absurd q_ c14, fun _ => qq17⟩ egz19) (nv_ch0 hf (by omega) c20 (by exact Bq.f (fun q_ => c14 q_.1))) hx2 D hfr (by omega)
              · have c27 : ¬ ((((mN u) : Nat) : Int) = (((mN u) : Nat) : Int)) := fun q => c27 ((i_eq (by rw [← egz19, pk_us]; exact qq17) ((hT f row hf (by omega)).2 c14)).mpr q)
                exfalso; omega
          · have c14 := b11.ne c14
            refine lv_aload_n hx hb dX9_changes_82 rfl (lv_at hl 4 rfl) ?_
            refine lv_iload_n hx hb dX9_changes_83 rfl (lv_at hl 5 rfl) ?_
            refine lv_iload hx hb dX9_changes_84 (lv_at hl 8 rfl) ?_
            refine lv_iload hx hb dX9_changes_86 (lv_at hl 3 rfl) ?_
            refine lv_iload hx hb dX9_changes_88 (lv_at hl 2 rfl) ?_
            refine lv_iload hx hb dX9_changes_90 (lv_at hl 1 rfl) ?_
            refine r_callI w (va_runV (As := [.int p0, .int x4, .int y4, .int y6, .int y7]) (rest := [.int y13, .ref (g.2.2.1 (r + 6))]) ⟨hx, hb, hml, hown, hts⟩ (c_X9_comesTo l D S hP hu hL hT p0 x4 y4 y6 y7 hp0 hx4 hf ty4 ty6 ty7 c14) (cwV 5 hts gX9_changes_X9_comesTo rfl rfl rfl (by decide +kernel) ⟨Nat.le_of_ble_eq_true rfl, Nat.le_of_ble_eq_true rfl⟩) (r_preV w (by have := D.1; omega) D.c0 rfl) rfl rfl hl.1 rfl (lv_room (Nat.le_of_ble_eq_true rfl)) dX9_changes_92 ⟨Nat.zero_le _, Nat.zero_le _⟩) (fun r30 h29 H locs hp w => ?_)
            obtain ⟨hfk31, hrk31, gpk31, D⟩ := hp
            have hfr : ∀ k_, ¬ (r ≤ k_ ∧ k_ < r + 14) → h29 k_ = h k_ := fun k_ hk_ => (hfk31 k_ (by omega)).trans (hfr k_ hk_)
            refine lv_goto (tgt := 102) hx hb dX9_changes_95 (by decide) ?_
            refine r_iast (j := ((125 * f) + row)) hx hb w (by have := D.1; omega) D.c6 ty13 (by omega) dX9_changes_102 (fun h32 H locs eh32 w => ?_)
            have D := D.s6 eh32
            generalize egz33 : upd gn1 (((125 * f) + row)) r30 = gz33 at D
            have hfr : ∀ k_, ¬ (r ≤ k_ ∧ k_ < r + 14) → h32 k_ = h k_ := fun k_ hk_ => by rw [eh32, va_up_ne _ _ (by omega)]; exact hfr k_ hk_
            refine lv_iload_n hx hb dX9_changes_103 rfl (lv_at hl 7 rfl) ?_
            refine lv_if_ne (tgt := 132) hx hb dX9_changes_104 (by decide) (fun c34 => ?_) (fun c34 => ?_)
            · have c34 := hch.ne c34
              refine lv_iconst (v := 1) hx hb dX9_changes_132 (by decide) ?_
              refine lv_goto (tgt := 137) hx hb dX9_changes_133 (by decide) ?_
              refine lv_istore_n (lv' := [(3, .int 1), (9, .int r9), (8, .int y7), (7, .int y6), (6, .int y4), (0, .ref (g.2.2.1 r)), (1, .int p0), (2, .int x2), (4, .int x4), (5, .int x5)]) hx hb dX9_changes_137 rfl hl (by decide) rfl (fun ls hl => ?_)
              obtain ⟨y35, ey35⟩ : ∃ y : Int32, y = x5 + (1) := ⟨_, rfl⟩
              have ty35 : y35.toInt = (((row + 1) : Nat) : Int) := i_addN ey35 hx5 (by decide : (1 : Int32).toInt = ((1 : Nat) : Int)) (by omega)
              refine lv_iinc (v := y35) (lv' := [(5, .int y35), (3, .int 1), (9, .int r9), (8, .int y7), (7, .int y6), (6, .int y4), (0, .ref (g.2.2.1 r)), (1, .int p0), (2, .int x2), (4, .int x4)]) hx hb dX9_changes_138 hl (k := 9) rfl (by rw [ey35]; rfl) (by decide) rfl (fun ls hl => ?_)
              refine lv_goto (tgt := 22) hx hb dX9_changes_141 (by decide) ?_
              exact ih22 f 1 x4 gz33 gpk31 (row + 1) y35 x2 h32 _ _ _ w (lv_sub hl [6, 7, 8, 1, 9, 0] rfl) hf hx4 (by omega) ty35 (by exact nv_up hgn (by omega) ⟨fun _ => hrk31, fun q_ => absurd c14 q_⟩ egz33) (nv_ch1 c34) hx2 D hfr (by omega)
            · have c34 := hch.eq c34
              refine lv_aload_n hx hb dX9_changes_107 rfl (lv_at hl 4 rfl) ?_
              refine r_get (C := RX9) (T := TX9) (N := 20) (ci := 7) hx hb hts inX9_changes_X9 hown w (by have := D.1; omega) D.c0 rfl 6 (by decide) (hts (Cond.fieldLink RX9 25 "EarlyValuesModel" "then" "[I") (List.mem_of_getElem? (i := 2) (by decide +kernel))) rfl rfl dX9_changes_108 ?_
              refine lv_bipush (v := 125) hx hb dX9_changes_111 (by decide) ?_
              refine lv_iload hx hb dX9_changes_113 (lv_at hl 8 rfl) ?_
              refine lv_imul hx hb dX9_changes_115 ?_
              refine lv_topi (fun y36 ey36 => ?_)
              have ty36 : y36.toInt = (((125 * f) : Nat) : Int) := i_mulN ey36 (by decide : (125 : Int32).toInt = ((125 : Nat) : Int)) hx4 (by omega)
              refine lv_iload hx hb dX9_changes_116 (lv_at hl 9 rfl) ?_
              refine lv_iadd hx hb dX9_changes_118 ?_
              refine lv_topi (fun y37 ey37 => ?_)
              have ty37 : y37.toInt = ((((125 * f) + row) : Nat) : Int) := i_addN ey37 ty36 hx5 (by omega)
              refine r_iald (j := ((125 * f) + row)) hx hb w (by have := D.1; omega) D.c6 ty37 (by omega) dX9_changes_119 ?_
              refine lv_aload_n hx hb dX9_changes_120 rfl (lv_at hl 4 rfl) ?_
              refine lv_iload_n hx hb dX9_changes_121 rfl (lv_at hl 5 rfl) ?_
              refine lv_iload hx hb dX9_changes_122 (lv_at hl 8 rfl) ?_
              refine lv_iload hx hb dX9_changes_124 (lv_at hl 9 rfl) ?_
              refine r_callI w (va_runV (As := [.int p0, .int x4, .int x5]) (rest := [.int (gz33 (((125 * f) + row)))]) ⟨hx, hb, hml, hown, hts⟩ (c_X9_tableAt l D (u := u) (by omega) p0 x4 x5 hp0 hx4 hx5 (by omega) (by omega)) (cwV 3 hts gX9_changes_X9_tableAt rfl rfl rfl (by decide +kernel) ⟨Nat.le_of_ble_eq_true rfl, Nat.le_of_ble_eq_true rfl⟩) (r_preV w (by have := D.1; omega) D.c0 rfl) rfl rfl hl.1 rfl (lv_room (Nat.le_of_ble_eq_true rfl)) dX9_changes_126 ⟨Nat.zero_le _, Nat.zero_le _⟩) (fun r39 h38 H locs hp w => ?_)
              obtain ⟨eh_, qq40⟩ := hp
              have eh_ := eh_.symm
              subst eh_
              subst qq40
              refine lv_icmp_eq (tgt := 136) hx hb dX9_changes_129 (by decide) (fun c41 => ?_) (fun c41 => ?_)
              · have c41 : (((mTab u M (k + 1) f (mIx u row)) : Nat) : Int) = (((mTab u M k f (mIx u row)) : Nat) : Int) := (i_eq (by rw [← egz33, pk_us]; exact hrk31) ((hT f row hf (by omega)).1 c14)).mp c41
                refine lv_iconst (v := 0) hx hb dX9_changes_136 (by decide) ?_
                refine lv_istore_n (lv' := [(3, .int 0), (9, .int r9), (8, .int y7), (7, .int y6), (6, .int y4), (0, .ref (g.2.2.1 r)), (1, .int p0), (2, .int x2), (4, .int x4), (5, .int x5)]) hx hb dX9_changes_137 rfl hl (by decide) rfl (fun ls hl => ?_)
                obtain ⟨y42, ey42⟩ : ∃ y : Int32, y = x5 + (1) := ⟨_, rfl⟩
                have ty42 : y42.toInt = (((row + 1) : Nat) : Int) := i_addN ey42 hx5 (by decide : (1 : Int32).toInt = ((1 : Nat) : Int)) (by omega)
                refine lv_iinc (v := y42) (lv' := [(5, .int y42), (3, .int 0), (9, .int r9), (8, .int y7), (7, .int y6), (6, .int y4), (0, .ref (g.2.2.1 r)), (1, .int p0), (2, .int x2), (4, .int x4)]) hx hb dX9_changes_138 hl (k := 9) rfl (by rw [ey42]; rfl) (by decide) rfl (fun ls hl => ?_)
                refine lv_goto (tgt := 22) hx hb dX9_changes_141 (by decide) ?_
                exact ih22 f 0 x4 gz33 gpk31 (row + 1) y42 x2 h32 _ _ _ w (lv_sub hl [6, 7, 8, 1, 9, 0] rfl) hf hx4 (by omega) ty42 (by exact nv_up hgn (by omega) ⟨fun _ => hrk31, fun q_ => absurd c14 q_⟩ egz33) (nv_ch0 hf (by omega) c34 (by first | exact Bq.t ⟨c14, by omega⟩ | exact Bq.f (fun q_ => q_.2 (by omega)))) hx2 D hfr (by omega)
              · have c41 : ¬ ((((mTab u M (k + 1) f (mIx u row)) : Nat) : Int) = (((mTab u M k f (mIx u row)) : Nat) : Int)) := fun q => c41 ((i_eq (by rw [← egz33, pk_us]; exact hrk31) ((hT f row hf (by omega)).1 c14)).mpr q)
                refine lv_iconst (v := 1) hx hb dX9_changes_132 (by decide) ?_
                refine lv_goto (tgt := 137) hx hb dX9_changes_133 (by decide) ?_
                refine lv_istore_n (lv' := [(3, .int 1), (9, .int r9), (8, .int y7), (7, .int y6), (6, .int y4), (0, .ref (g.2.2.1 r)), (1, .int p0), (2, .int x2), (4, .int x4), (5, .int x5)]) hx hb dX9_changes_137 rfl hl (by decide) rfl (fun ls hl => ?_)
                obtain ⟨y43, ey43⟩ : ∃ y : Int32, y = x5 + (1) := ⟨_, rfl⟩
                have ty43 : y43.toInt = (((row + 1) : Nat) : Int) := i_addN ey43 hx5 (by decide : (1 : Int32).toInt = ((1 : Nat) : Int)) (by omega)
                refine lv_iinc (v := y43) (lv' := [(5, .int y43), (3, .int 1), (9, .int r9), (8, .int y7), (7, .int y6), (6, .int y4), (0, .ref (g.2.2.1 r)), (1, .int p0), (2, .int x2), (4, .int x4)]) hx hb dX9_changes_138 hl (k := 9) rfl (by rw [ey43]; rfl) (by decide) rfl (fun ls hl => ?_)
                refine lv_goto (tgt := 22) hx hb dX9_changes_141 (by decide) ?_
                exact ih22 f 1 x4 gz33 gpk31 (row + 1) y43 x2 h32 _ _ _ w (lv_sub hl [6, 7, 8, 1, 9, 0] rfl) hf hx4 (by omega) ty43 (by exact nv_up hgn (by omega) ⟨fun _ => hrk31, fun q_ => absurd c14 q_⟩ egz33) (nv_ch0 hf (by omega) c34 (by first | exact Bq.t ⟨c14, by omega⟩ | exact Bq.f (fun q_ => q_.2 (by omega)))) hx2 D hfr (by omega)
      · intro f i x3 x4 gn1 gp1 gt1 hc H locs ls w hl hf hi hx4 hgn hch hcp D hfr hN_
        refine lv_iload hx hb dX9_changes_153 (lv_at hl 3 rfl) ?_
        refine lv_bipush (v := 125) hx hb dX9_changes_155 (by decide) ?_
        refine lv_aload_n hx hb dX9_changes_157 rfl (lv_at hl 0 rfl) ?_
        refine r_get (C := RX9) (T := TX9) (N := 20) (ci := 7) hx hb hts inX9_changes_X9 hown w (by have := D.1; omega) D.c0 rfl 0 (by decide) (hts (Cond.fieldLink RX9 49 "EarlyValuesModel" "many" "I") (List.mem_of_getElem? (i := 1) (by decide +kernel))) rfl rfl dX9_changes_158 ?_
        refine lv_imul hx hb dX9_changes_161 ?_
        refine lv_topi (fun y44 ey44 => ?_)
        have ty44 : y44.toInt = (((125 * (pN M)) : Nat) : Int) := i_mulN ey44 (by decide : (125 : Int32).toInt = ((125 : Nat) : Int)) S.1 (by omega)
        refine lv_icmp_ge (tgt := 191) hx hb dX9_changes_162 (by decide) (fun c45 => ?_) (fun c45 => ?_)
        · have c45 : (((125 * (pN M)) : Nat) : Int) ≤ ((i : Nat) : Int) := (i_le ty44 hx4).mp c45
          refine lv_iload_n hx hb dX9_changes_191 rfl (lv_at hl 2 rfl) ?_
          refine r_zret (v := x3) hx hb hr hch.nar hlocks w dX9_changes_192 ?_
          have hie_ : i = 125 * pN M := by omega
          subst hie_
          exact ⟨hfr, hch.iff (nv_fin hu hP (by omega)), _, _, _, D, cp_rt hcp hgn, cp_out hcp (by omega)⟩
        · have c45 : ¬ ((((125 * (pN M)) : Nat) : Int) ≤ ((i : Nat) : Int)) := fun q => c45 ((i_le ty44 hx4).mpr q)
          refine lv_aload_n hx hb dX9_changes_165 rfl (lv_at hl 0 rfl) ?_
          refine r_get (C := RX9) (T := TX9) (N := 20) (ci := 7) hx hb hts inX9_changes_X9 hown w (by have := D.1; omega) D.c0 rfl 5 (by decide) (hts (Cond.fieldLink RX9 22 "EarlyValuesModel" "table" "[I") (List.mem_of_getElem? (i := 3) (by decide +kernel))) rfl rfl dX9_changes_166 ?_
          refine lv_sipush (v := 500) hx hb dX9_changes_169 (by decide) ?_
          refine lv_iload_n hx hb dX9_changes_172 rfl (lv_at hl 1 rfl) ?_
          refine lv_imul hx hb dX9_changes_173 ?_
          refine lv_topi (fun y46 ey46 => ?_)
          have ty46 : y46.toInt = (((500 * u) : Nat) : Int) := i_mulN ey46 (by decide : (500 : Int32).toInt = ((500 : Nat) : Int)) hp0 (by omega)
          refine lv_iload hx hb dX9_changes_174 (lv_at hl 3 rfl) ?_
          refine lv_iadd hx hb dX9_changes_176 ?_
          refine lv_topi (fun y47 ey47 => ?_)
          have ty47 : y47.toInt = ((((500 * u) + i) : Nat) : Int) := i_addN ey47 ty46 hx4 (by omega)
          refine lv_aload_n hx hb dX9_changes_177 rfl (lv_at hl 0 rfl) ?_
          refine r_get (C := RX9) (T := TX9) (N := 20) (ci := 7) hx hb hts inX9_changes_X9 hown w (by have := D.1; omega) D.c0 rfl 6 (by decide) (hts (Cond.fieldLink RX9 25 "EarlyValuesModel" "then" "[I") (List.mem_of_getElem? (i := 2) (by decide +kernel))) rfl rfl dX9_changes_178 ?_
          refine lv_iload hx hb dX9_changes_181 (lv_at hl 3 rfl) ?_
          refine r_iald (j := i) hx hb w (by have := D.1; omega) D.c6 hx4 (by omega) dX9_changes_183 ?_
          refine r_iast (j := ((500 * u) + i)) hx hb w (by have := D.1; omega) D.c5 ty47 (by omega) dX9_changes_184 (fun h48 H locs eh48 w => ?_)
          have D := D.s5 eh48
          generalize egz49 : upd gt1 (((500 * u) + i)) (gn1 i) = gz49 at D
          have hfr : ∀ k_, ¬ (r ≤ k_ ∧ k_ < r + 14) → h48 k_ = h k_ := fun k_ hk_ => by rw [eh48, va_up_ne _ _ (by omega)]; exact hfr k_ hk_
          obtain ⟨y50, ey50⟩ : ∃ y : Int32, y = x4 + (1) := ⟨_, rfl⟩
          have ty50 : y50.toInt = (((i + 1) : Nat) : Int) := i_addN ey50 hx4 (by decide : (1 : Int32).toInt = ((1 : Nat) : Int)) (by omega)
          refine lv_iinc (v := y50) (lv' := [(4, .int y50), (0, .ref (g.2.2.1 r)), (1, .int p0), (3, .int x3)]) hx hb dX9_changes_185 hl (k := 3) rfl (by rw [ey50]; rfl) (by decide) rfl (fun ls hl => ?_)
          refine lv_goto (tgt := 153) hx hb dX9_changes_188 (by decide) ?_
          exact ih153 f (i + 1) x3 y50 gn1 gp1 gz49 h48 _ _ _ w (lv_sub hl [1, 2, 3, 0] rfl) hf (by omega) ty50 hgn hch (cp_up hcp egz49) D hfr (by omega)
  have cut0 := cuts (100000)
  obtain ⟨ih10, ih22, ih153⟩ := cut0
  refine lv_iload_n hx hb dX9_changes_0 rfl (lv_at hl 1 rfl) ?_
  refine r_callI w (va_runS (As := [.int p0]) (rest := []) ⟨hx, hb, hml, hown, hts⟩ (c_X9_sizeOf l hu p0 hp0) (va_cwS 1 hts gX9_changes_X9_sizeOf rfl rfl rfl (by decide +kernel) ⟨Nat.le_of_ble_eq_true rfl, Nat.le_of_ble_eq_true rfl⟩) (r_preS w) rfl rfl hl.1 rfl (lv_room (Nat.le_of_ble_eq_true rfl)) dX9_changes_1 ⟨Nat.zero_le _, Nat.zero_le _⟩) (fun r52 h51 H locs hp w => ?_)
  obtain ⟨eh_, qq53⟩ := hp
  have eh_ := eh_.symm
  subst eh_
  refine lv_istore_n (lv' := [(2, .int r52), (0, .ref (g.2.2.1 r)), (1, .int p0)]) hx hb dX9_changes_4 rfl hl (by decide) rfl (fun ls hl => ?_)
  refine lv_iconst (v := 0) hx hb dX9_changes_5 (by decide) ?_
  refine lv_istore_n (lv' := [(3, .int 0), (2, .int r52), (0, .ref (g.2.2.1 r)), (1, .int p0)]) hx hb dX9_changes_6 rfl hl (by decide) rfl (fun ls hl => ?_)
  refine lv_iconst (v := 0) hx hb dX9_changes_7 (by decide) ?_
  refine lv_istore (lv' := [(4, .int 0), (3, .int 0), (2, .int r52), (0, .ref (g.2.2.1 r)), (1, .int p0)]) hx hb dX9_changes_8 hl (by decide) rfl (fun ls hl => ?_)
  exact ih10 0 0 0 gn gp r52 h _ _ _ w (lv_sub hl [3, 4, 2, 1, 0] rfl) (Nat.zero_le _) ((by decide : (0 : Int32).toInt = ((0 : Nat) : Int))) (fun f_ row_ _ _ q_ => absurd q_ (Nat.not_lt_zero _)) (Bq.f (by rintro ⟨f_, row_, _, _, q_, _⟩; exact absurd q_ (Nat.not_lt_zero _))) qq53 D (fun k_ _ => rfl) (by omega)

