/-- a row by itself -/
def RaA (g : GE) (h : Nat → va_E) (k t n : Nat) (gz : Nat → Int32) : Prop := k < g.2.2.2 ∧ h k = .inl (g.2.1 t, n, .inl gz)
theorem RaA.s {g : GE} {h h' : Nat → va_E} {k t n : Nat} {gz gz' : Nat → Int32} (A : RaA g h k t n gz) (e : h' = va_up h k (.inl (g.2.1 t, n, .inl gz'))) : RaA g h' k t n gz' := by
  subst e; exact ⟨A.1, va_up_self _ _ _⟩
theorem fr_up {h h' : Nat → va_E} {k : Nat} {e : va_E} (hf : ∀ k_, k_ ≠ k → h' k_ = h k_) (he : h' k = e) : h' = va_up h k e := by
  funext i
  by_cases q : i = k
  · rw [q, he, va_up_self]
  · rw [hf i q, va_up_ne _ _ q]
theorem adv_up {u : Nat} {M : PRG} {k f row : Nat} {gc : Nat → Nat → Int32} {x : Int32} (h : ∀ f_ row_, f_ < pN M → row_ < mRw u M f_ → (f_ < f ∨ (f_ = f ∧ row_ < row)) → (gc f_ row_).toInt = ((mTab u M (k + 1) f_ row_ : Nat) : Int)) (hx : x.toInt = ((mTab u M (k + 1) f row : Nat) : Int)) (hs : mTab u M (k + 1) f row < 128) :
    ∀ f_ row_, f_ < pN M → row_ < mRw u M f_ → (f_ < f ∨ (f_ = f ∧ row_ < row + 1)) → (va_up gc f (upd (gc f) row (vp_nar .byte x)) f_ row_).toInt = ((mTab u M (k + 1) f_ row_ : Nat) : Int) := by
  intro f_ row_ a_ b_ q_
  by_cases e : f_ = f
  · subst e
    rw [va_up_self]
    by_cases e2 : row_ = row
    · subst e2; rw [pk_us, nar_b hx hs]; exact hx
    · rw [pk_un e2]; exact h f_ row_ a_ b_ (by omega)
  · rw [va_up_ne _ _ e]; exact h f_ row_ a_ b_ (by omega)
theorem adv_ch1 {u : Nat} {M : PRG} {k f row : Nat} (h : ∃ f_ row_, f_ < pN M ∧ row_ < mRw u M f_ ∧ (f_ < f ∨ (f_ = f ∧ row_ < row)) ∧ mTab u M k f_ row_ ≠ mTab u M (k + 1) f_ row_) : Bq 1 (∃ f_ row_, f_ < pN M ∧ row_ < mRw u M f_ ∧ (f_ < f ∨ (f_ = f ∧ row_ < row + 1)) ∧ mTab u M k f_ row_ ≠ mTab u M (k + 1) f_ row_) := by
  obtain ⟨f_, row_, a, b, c, d⟩ := h
  exact Bq.t ⟨f_, row_, a, b, by omega, d⟩
theorem adv_ch0 {u : Nat} {M : PRG} {k f row : Nat} {r : Int32} (hf : f < pN M) (hr : row < mRw u M f) (h : ¬ ∃ f_ row_, f_ < pN M ∧ row_ < mRw u M f_ ∧ (f_ < f ∨ (f_ = f ∧ row_ < row)) ∧ mTab u M k f_ row_ ≠ mTab u M (k + 1) f_ row_) (hb : Bq r (mTab u M k f row ≠ mTab u M (k + 1) f row)) : Bq r (∃ f_ row_, f_ < pN M ∧ row_ < mRw u M f_ ∧ (f_ < f ∨ (f_ = f ∧ row_ < row + 1)) ∧ mTab u M k f_ row_ ≠ mTab u M (k + 1) f_ row_) := by
  refine hb.iff ⟨fun q => ⟨f, row, hf, hr, Or.inr ⟨rfl, by omega⟩, q⟩, ?_⟩
  rintro ⟨f_, row_, a, b, c, d⟩
  by_cases e : f_ = f ∧ row_ = row
  · rw [← e.1, ← e.2]; exact d
  · exact absurd ⟨f_, row_, a, b, by omega, d⟩ h
theorem adv_fin {u : Nat} {M : PRG} {k f : Nat} (hf : f = pN M) : (∃ f_ row_, f_ < pN M ∧ row_ < mRw u M f_ ∧ f_ < f ∧ mTab u M k f_ row_ ≠ mTab u M (k + 1) f_ row_) ↔ ¬ Stable u M k := by
  constructor
  · rintro ⟨f_, row_, a, b, c, d⟩ h
    exact d (h f_ row_ a b)
  · intro h
    refine Classical.byContradiction fun q => h fun f_ row_ a b => Classical.byContradiction fun d => q ⟨f_, row_, a, b, by omega, d⟩
theorem mGrow_max {u p q : Nat} (hu : u < 3) (hp : p < mB u) (hq : q < mB u) (h : mLe u p q) (hg : ¬ mGrow u p) : q = p := by
  rcases (show u = 0 ∨ u = 1 ∨ u = 2 by omega) with rfl | rfl | rfl
  · simp only [mGrow, if_pos] at hg
    rcases h with h | h | ⟨h, -⟩
    · exact absurd h hg
    · exact h.symm
    · exact absurd rfl h
  · simp [mGrow, mB] at hg hp hq
    rcases h with h | h | ⟨-, h⟩
    · exact absurd h hg
    · exact h.symm
    · simp [mX] at h; omega
  · simp [mGrow, mB] at hg hp hq
    rcases h with h | h | ⟨-, h⟩
    · simp [mN] at h; omega
    · exact h.symm
    · simp [mX] at h; omega
theorem adv_same {u : Nat} {M : PRG} {k f row : Nat} {gt : Nat → Nat → Int32} (hu : u < 3) (hP : PV M) (hT : TbS u M gt (mTab u M k)) (hf : f < pN M) (hr : row < mRw u M f) (hg : ¬ mGrow u (mTab u M k f row)) : (gt f row).toInt = ((mTab u M (k + 1) f row : Nat) : Int) := by
  rw [hT f row hf hr, mGrow_max hu (mTab_lt hu hP k f row hf hr) (mTab_lt hu hP (k + 1) f row hf hr) ((mTab_mo hu hP k).2 f row hf hr) hg]
theorem adv_stop {u : Nat} {M : PRG} {k f row : Nat} {gt : Nat → Nat → Int32} (hu : u < 3) (hP : PV M) (hT : TbS u M gt (mTab u M k)) (hf : f < pN M) (hr : row < mRw u M f) (hs : mStop u M f row) : (gt f row).toInt = ((mTab u M (k + 1) f row : Nat) : Int) := by
  have e : mTab u M (k + 1) f row = mN u := by
    show mStep u M (mTab u M k) f row = mN u
    unfold mStep; rw [if_pos hs]
  have h := (mTab_mo hu hP k).2 f row hf hr
  rw [e] at h ⊢
  rw [hT f row hf hr, mLe_N hu h]
theorem adv_step {u : Nat} {M : PRG} {k f row : Nat} (hs : ¬ mStop u M f row) : mTab u M (k + 1) f row = mBody u M (mTab u M k) (mArg u M f row) f := by
  show mStep u M (mTab u M k) f row = _
  unfold mStep; rw [if_neg hs]
/-- bits by a property -/
noncomputable def mBits (S : Nat → Prop) : Nat → Nat
  | 0 => 0
  | c + 1 => mBits S c + @ite Nat (S c) (Classical.propDecidable _) (2 ^ c) 0
theorem mBits_t {S : Nat → Prop} {c : Nat} (h : S c) : mBits S (c + 1) = mBits S c + 2 ^ c := by
  show mBits S c + @ite Nat (S c) (Classical.propDecidable _) (2 ^ c) 0 = _
  rw [if_pos h]
theorem mBits_f {S : Nat → Prop} {c : Nat} (h : ¬ S c) : mBits S (c + 1) = mBits S c := by
  show mBits S c + @ite Nat (S c) (Classical.propDecidable _) (2 ^ c) 0 = _
  rw [if_neg h, Nat.add_zero]
theorem mBits_lt (S : Nat → Prop) : ∀ c, mBits S c < 2 ^ c
  | 0 => Nat.one_pos
  | c + 1 => by
    have := mBits_lt S c
    rw [Nat.pow_succ]
    by_cases h : S c
    · rw [mBits_t h]; omega
    · rw [mBits_f h]; omega
theorem or_all : ((List.range 3).all fun i => (List.range 4).all fun b => !decide (b < 2 ^ i) || ((nI b ||| ((1 : Int32) <<< (nI i &&& 31))) == nI (b + 2 ^ i))) = true := by decide +kernel
theorem or_bit {x j y : Int32} {b i : Nat} (hx : x.toInt = ((b : Nat) : Int)) (hb : b < 2 ^ i) (hi : i < 3) (hj : j.toInt = ((i : Nat) : Int)) (ey : y = x ||| ((1 : Int32) <<< (j &&& 31))) : y.toInt = ((b + 2 ^ i : Nat) : Int) := by
  have h4 : 2 ^ i ≤ 4 := by rcases (show i = 0 ∨ i = 1 ∨ i = 2 by omega) with rfl | rfl | rfl <;> decide
  have h := imp_b (all_range (all_range or_all hi) (show b < 4 by omega)) (decide_eq_true hb)
  rw [ey, i_ofN hx, i_ofN hj, eq_of_beq h, nI_toInt (by omega)]
/-- in truth strict, where all is known -/
def mStrictF (u : Nat) (M : PRG) (f a : Nat) : Prop := ∃ K, IsK u M K ∧ mStrict u M (mTab u M K) f a
theorem mStrictF.at {u : Nat} {M : PRG} {f a : Nat} (hu : u < 3) (hP : PV M) (hf : f < pN M) (h : mStrictF u M f a) (r : Nat) : mStrict u M (mTab u M r) f a := by
  obtain ⟨K, hK, hs⟩ := h
  refine mStrict.le hu hf (T' := mTab u M K) (fun f_ row_ a_ b_ => ?_) hs
  have h1 := mTab_le hu hP r K f_ row_ a_ b_
  rw [Nat.add_comm, hK.1.eq hu hP r f_ row_ a_ b_] at h1
  exact h1
theorem stb {u : Nat} {M : PRG} {r : Nat} {gt : Nat → Nat → Int32} (hT : TbS u M gt (mTab u M r)) (h1 : 1 ≤ r) (hK : IsK u M (r - 1)) : TbS u M gt (mTab u M (r - 1)) := by
  intro f row a b
  rw [hT f row a b, hK.1 f row a b, show r - 1 + 1 = r by omega]
theorem mStrict.cg {u : Nat} {M : PRG} {r f a : Nat} (h1 : 1 ≤ r) (hK : IsK u M (r - 1)) (hf : f < pN M) (h : mStrict u M (mTab u M r) f a) : mStrict u M (mTab u M (r - 1)) f a := by
  intro row hr hd
  rw [hK.1 f row hf hr, show r - 1 + 1 = r by omega]; exact h row hr hd
abbrev rm_J7_fill_031fb : Room := { frames := 0, cells := 0, slots := 0, locals := 0 }
set_option maxHeartbeats 4000000 in
set_option maxRecDepth 100000 in
theorem c_J7_fill_031fb (l : Launch) {g : GE} {h : Nat → va_E} {k n : Nat} {gz : Nat → Int32} (A : RaA g h k 2 n gz) (hn31 : n < 2 ^ 31) (p1 : Int32) : MV l yJ7_fill_031fb wsJ7_fill_031fb rm_J7_fill_031fb [.ref (g.2.2.1 k), .int p1] g h (fun h2 => (∀ k_, k_ ≠ k → h2 k_ = h k_) ∧ ∃ gz2 : Nat → Int32, RaA g h2 k 2 n gz2 ∧ ∀ j, j < n → gz2 j = vp_nar .byte p1) := by
  refine Met.ofW (cc := cJ7_fill_031fb) (maxL := 4) (ret := none) (by decide) rfl ?_
  intro p e s m args below meth c s₁ B hml hv
  obtain ⟨rfl, w0⟩ := hv
  have hx := B.exec
  have hb := B.bytes
  have hr := B.returns
  have hts := atoms_spec (ws := wsJ7_fill_031fb) B.pre
  have hown : s.vm.findClass RJ7 = some m.cls := findClass_of_methodNamed B.named
  have hlocks := B.notSynchronized
  have w := w0.start
  clear w0
  have hl := lv_entry ([.ref (g.2.2.1 k), .int p1]) (n := 4) (Nat.le_of_ble_eq_true rfl)
  rw [lg_entry_eq]
  generalize (lg_sl ([.ref (g.2.2.1 k), .int p1]) ++ List.replicate (4 - (lg_sl ([.ref (g.2.2.1 k), .int p1])).length) Slot.unset).toArray = ls at hl ⊢
  have hl : lv_has ls 4 [(0, .ref (g.2.2.1 k)), (1, .int p1)] := hl
  have cuts : ∀ N : Nat, (∀ (i : Nat) (x2 : Int32) (gz1 : Nat → Int32) (hc : Nat → va_E) (H : Heap) (locs : List Loc) (ls : Array Slot), WD g (inW g) s hc H locs → lv_has ls 4 [(0, .ref (g.2.2.1 k)), (1, .int p1), (2, .int x2), (3, .int (nI n))] → (i ≤ n) → (x2.toInt = ((i : Nat) : Int)) → (∀ j_, j_ < i → gz1 j_ = vp_nar .byte p1) → (RaA g hc k 2 n gz1) → (∀ k_, k_ ≠ k → hc k_ = h k_) → n - i < N → W p l e (headSpec wsJ7_fill_031fb rm_J7_fill_031fb).room s m ([.ref (g.2.2.1 k), .int p1] : List Value).toArray below meth c H locs 0 0 (MQ below (va_Qv (fun h2 => (∀ k_, k_ ≠ k → h2 k_ = h k_) ∧ ∃ gz2 : Nat → Int32, RaA g h2 k 2 n gz2 ∧ ∀ j, j < n → gz2 j = vp_nar .byte p1) (Wd g) (inW g)) ([.ref (g.2.2.1 k), .int p1] : List Value).toArray s 0 0 (inW g)) (F0 m 5 ls [])) := by
    intro N
    induction N with
    | zero => exact by intros; omega
    | succ N ih =>
      have ih5 := ih
      · intro i x2 gz1 hc H locs ls w hl hi hx2 hz A hfr hN_
        refine lv_iload_n hx hb dJ7_fill_031fb_5 rfl (lv_at hl 2 rfl) ?_
        refine lv_iload_n hx hb dJ7_fill_031fb_6 rfl (lv_at hl 3 rfl) ?_
        refine lv_icmp_ge (tgt := 20) hx hb dJ7_fill_031fb_7 (by decide) (fun c1 => ?_) (fun c1 => ?_)
        · have c1 : ((n : Nat) : Int) ≤ ((i : Nat) : Int) := (i_le (nI_toInt hn31) hx2).mp c1
          refine r_vret hx hb hr hlocks w dJ7_fill_031fb_20 ?_
          exact ⟨hfr, _, A, fun j_ hj_ => hz j_ (by omega)⟩
        · have c1 : ¬ (((n : Nat) : Int) ≤ ((i : Nat) : Int)) := fun q => c1 ((i_le (nI_toInt hn31) hx2).mpr q)
          refine lv_aload_n hx hb dJ7_fill_031fb_10 rfl (lv_at hl 0 rfl) ?_
          refine lv_iload_n hx hb dJ7_fill_031fb_11 rfl (lv_at hl 2 rfl) ?_
          refine lv_iload_n hx hb dJ7_fill_031fb_12 rfl (lv_at hl 1 rfl) ?_
          refine r_bast (j := i) hx hb w A.1 A.2 hx2 (by omega) dJ7_fill_031fb_13 (fun h2 H locs eh2 w => ?_)
          have A := A.s eh2
          generalize egz3 : upd gz1 i (vp_nar .byte p1) = gz3 at A
          obtain ⟨y4, ey4⟩ : ∃ y : Int32, y = x2 + (1) := ⟨_, rfl⟩
          have ty4 : y4.toInt = (((i + 1) : Nat) : Int) := i_addN ey4 hx2 (by decide : (1 : Int32).toInt = ((1 : Nat) : Int)) (by omega)
          refine lv_iinc (v := y4) (lv' := [(2, .int y4), (0, .ref (g.2.2.1 k)), (1, .int p1), (3, .int (nI n))]) hx hb dJ7_fill_031fb_14 hl (k := 2) rfl (by rw [ey4]; rfl) (by decide) rfl (fun ls hl => ?_)
          refine lv_goto (tgt := 5) hx hb dJ7_fill_031fb_17 (by decide) ?_
          exact ih5 (i + 1) y4 gz3 h2 _ _ _ w (lv_sub hl [1, 2, 0, 3] rfl) (by omega) ty4 (fun j_ hj_ => by rw [← egz3]; by_cases q_ : j_ = i; rw [q_, pk_us]; rw [pk_un q_]; exact hz j_ (by omega)) A (fun k_ hk_ => by rw [eh2, va_up_ne _ _ hk_]; exact hfr k_ hk_) (by omega)
  have ih5 := cuts (n + 1)
  refine lv_iconst (v := 0) hx hb dJ7_fill_031fb_0 (by decide) ?_
  refine lv_istore_n (lv' := [(2, .int 0), (0, .ref (g.2.2.1 k)), (1, .int p1)]) hx hb dJ7_fill_031fb_1 rfl hl (by decide) rfl (fun ls hl => ?_)
  refine lv_aload_n hx hb dJ7_fill_031fb_2 rfl (lv_at hl 1 rfl) ?_
  refine r_alen (t := 2) (v := nI n) hx hb w (by decide) A.1 A.2 rfl dJ7_fill_031fb_3 ?_
  refine lv_istore_n (lv' := [(3, .int (nI n)), (2, .int 0), (0, .ref (g.2.2.1 k)), (1, .int p1)]) hx hb dJ7_fill_031fb_4 rfl hl (by decide) rfl (fun ls hl => ?_)
  exact ih5 0 0 gz h _ _ _ w (lv_sub hl [2, 3, 1, 0] rfl) (Nat.zero_le _) ((by decide : (0 : Int32).toInt = ((0 : Nat) : Int))) (fun j_ hj_ => absurd hj_ (Nat.not_lt_zero _)) A (fun k_ _ => rfl) (by omega)

theorem inX7_begin_X0 : ∀ w ∈ wsX00, w ∈ wsX7_begin := by decide +kernel
theorem inX7_begin_X4 : ∀ w ∈ wsX40, w ∈ wsX7_begin := by decide +kernel
theorem inX7_begin_X6 : ∀ w ∈ wsX60, w ∈ wsX7_begin := by decide +kernel
abbrev rm_X7_begin : Room := { frames := 1, cells := 0, slots := 0, locals := 23 }
set_option maxHeartbeats 4000000 in
set_option maxRecDepth 100000 in
theorem c_X7_begin (l : Launch) {g : GE} {h : Nat → va_E} {v u kk kc : Nat} {tk fz dp : Int32} {gp gg gs : Nat → Int32} {gd gt gc : Nat → Nat → Int32} (V : VwA g h v u kk kc tk fz dp gp gg gs gd gt gc) : MV l yX7_begin wsX7_begin rm_X7_begin [.ref (g.2.2.1 v)] g h (fun h2 => (∀ k, ¬ (v ≤ k ∧ k < v + 18) → h2 k = h k) ∧ ∃ gt2 : Nat → Nat → Int32, VwA g h2 v u kk kc tk fz dp gp gg gs gd gt2 gc ∧ ∀ f row, f < 4 → row < mR u → (gt2 f row).toInt = ((mN u : Nat) : Int)) := by
  refine Met.ofW (cc := cX7_begin) (maxL := 2) (ret := none) (by decide) rfl ?_
  intro p e s m args below meth c s₁ B hml hv
  obtain ⟨rfl, w0⟩ := hv
  have hx := B.exec
  have hb := B.bytes
  have hr := B.returns
  have hts := atoms_spec (ws := wsX7_begin) B.pre
  have hown : s.vm.findClass RX7 = some m.cls := findClass_of_methodNamed B.named
  have hlocks := B.notSynchronized
  have w := w0.start
  clear w0
  have hl := lv_entry ([.ref (g.2.2.1 v)]) (n := 2) (Nat.le_of_ble_eq_true rfl)
  rw [lg_entry_eq]
  generalize (lg_sl ([.ref (g.2.2.1 v)]) ++ List.replicate (2 - (lg_sl ([.ref (g.2.2.1 v)])).length) Slot.unset).toArray = ls at hl ⊢
  have hl : lv_has ls 2 [(0, .ref (g.2.2.1 v))] := hl
  have hB5 := mB_le u
  have hNB := mN_lt u
  have hNv := V.hN
  have cuts : ∀ N : Nat, (∀ (i : Nat) (x1 : Int32) (gt1 : Nat → Nat → Int32) (hc : Nat → va_E) (H : Heap) (locs : List Loc) (ls : Array Slot), WD g (inW g) s hc H locs → lv_has ls 2 [(0, .ref (g.2.2.1 v)), (1, .int x1)] → (i ≤ 4) → (x1.toInt = ((i : Nat) : Int)) → (∀ f_ row_, f_ < i → row_ < mR u → (gt1 f_ row_).toInt = ((mN u : Nat) : Int)) → (VwA g hc v u kk kc tk fz dp gp gg gs gd gt1 gc) → (∀ k, ¬ (v ≤ k ∧ k < v + 18) → hc k = h k) → 4 - i < N → W p l e (headSpec wsX7_begin rm_X7_begin).room s m ([.ref (g.2.2.1 v)] : List Value).toArray below meth c H locs 0 0 (MQ below (va_Qv (fun h2 => (∀ k, ¬ (v ≤ k ∧ k < v + 18) → h2 k = h k) ∧ ∃ gt2 : Nat → Nat → Int32, VwA g h2 v u kk kc tk fz dp gp gg gs gd gt2 gc ∧ ∀ f row, f < 4 → row < mR u → (gt2 f row).toInt = ((mN u : Nat) : Int)) (Wd g) (inW g)) ([.ref (g.2.2.1 v)] : List Value).toArray s 0 0 (inW g)) (F0 m 2 ls [])) := by
    intro N
    induction N with
    | zero => exact by intros; omega
    | succ N ih =>
      have ih2 := ih
      · intro i x1 gt1 hc H locs ls w hl hi hx1 hz V hfr hN_
        refine lv_iload_n hx hb dX7_begin_2 rfl (lv_at hl 1 rfl) ?_
        refine lv_aload_n hx hb dX7_begin_3 rfl (lv_at hl 0 rfl) ?_
        refine r_getV hx hb hts ⟨inX7_begin_X0, inX7_begin_X4, inX7_begin_X6⟩ hown w V.hu (by have := V.hN; omega) V.c0 6 (by decide) (hts (Cond.fieldLink RX7 45 "EarlyValues$View" "known" "[[B") (List.mem_of_getElem? (i := 1) (by decide +kernel))) rfl rfl dX7_begin_4 ?_
        refine r_alen (t := 5) (v := 4) hx hb w (by decide) (by have := V.hN; omega) V.k0 rfl dX7_begin_7 ?_
        refine lv_icmp_ge (tgt := 31) hx hb dX7_begin_8 (by decide) (fun c1 => ?_) (fun c1 => ?_)
        · have c1 : ((4 : Nat) : Int) ≤ ((i : Nat) : Int) := (i_le (by decide : (4 : Int32).toInt = ((4 : Nat) : Int)) hx1).mp c1
          refine r_vret hx hb hr hlocks w dX7_begin_31 ?_
          exact ⟨hfr, _, V, fun f_ row_ hf_ hr_ => hz f_ row_ (by omega) hr_⟩
        · have c1 : ¬ (((4 : Nat) : Int) ≤ ((i : Nat) : Int)) := fun q => c1 ((i_le (by decide : (4 : Int32).toInt = ((4 : Nat) : Int)) hx1).mpr q)
          refine lv_aload_n hx hb dX7_begin_11 rfl (lv_at hl 0 rfl) ?_
          refine r_getV hx hb hts ⟨inX7_begin_X0, inX7_begin_X4, inX7_begin_X6⟩ hown w V.hu (by have := V.hN; omega) V.c0 6 (by decide) (hts (Cond.fieldLink RX7 45 "EarlyValues$View" "known" "[[B") (List.mem_of_getElem? (i := 1) (by decide +kernel))) rfl rfl dX7_begin_12 ?_
          refine lv_iload_n hx hb dX7_begin_15 rfl (lv_at hl 1 rfl) ?_
          refine r_aald (t := 5) (j := i) hx hb w (by decide) (by have := V.hN; omega) V.k0 hx1 (by omega) (rowsF_in (by omega)) dX7_begin_16 ?_
          refine lv_aload_n hx hb dX7_begin_17 rfl (lv_at hl 0 rfl) ?_
          refine r_getV hx hb hts ⟨inX7_begin_X0, inX7_begin_X4, inX7_begin_X6⟩ hown w V.hu (by have := V.hN; omega) V.c0 1 (by decide) (hts (Cond.fieldLink RX7 25 "EarlyValues$View" "never" "I") (List.mem_of_getElem? (i := 2) (by decide +kernel))) rfl rfl dX7_begin_18 ?_
          refine lv_i2b (v := nI (mN u)) hx hb dX7_begin_21 (i2b_id (mN_i u) (by omega)) ?_
          refine r_callV w (va_runS (As := [.ref (g.2.2.1 (kk + 1 + i)), .int (nI (mN u))]) (rest := []) ⟨hx, hb, hml, hown, hts⟩ (c_J7_fill_031fb l (k := (kk + 1 + i)) ⟨by have := V.hN; omega, V.k1 (i := i) (by omega)⟩ (mR_lt u) (nI (mN u))) (va_cwS 2 hts gX7_begin_J7_fill_031fb rfl rfl rfl (by decide +kernel) ⟨Nat.le_of_ble_eq_true rfl, Nat.le_of_ble_eq_true rfl⟩) (r_preS w) rfl rfl hl.1 rfl (lv_room (Nat.le_of_ble_eq_true rfl)) dX7_begin_22 ⟨Nat.zero_le _, Nat.zero_le _⟩) (fun h2 H locs hp w => ?_)
          obtain ⟨hfk3, gzk3, Ak3, hzk3⟩ := hp
          have V := V.sk (i := i) (by omega) (fr_up hfk3 Ak3.2)
          have hfr : ∀ k_, ¬ (v ≤ k_ ∧ k_ < v + 18) → h2 k_ = h k_ := fun k_ hk_ => (hfk3 k_ (by omega)).trans (hfr k_ hk_)
          obtain ⟨y4, ey4⟩ : ∃ y : Int32, y = x1 + (1) := ⟨_, rfl⟩
          have ty4 : y4.toInt = (((i + 1) : Nat) : Int) := i_addN ey4 hx1 (by decide : (1 : Int32).toInt = ((1 : Nat) : Int)) (by omega)
          refine lv_iinc (v := y4) (lv' := [(1, .int y4), (0, .ref (g.2.2.1 v))]) hx hb dX7_begin_25 hl (k := 1) rfl (by rw [ey4]; rfl) (by decide) rfl (fun ls hl => ?_)
          refine lv_goto (tgt := 2) hx hb dX7_begin_28 (by decide) ?_
          exact ih2 (i + 1) y4 ((va_up gt1 i gzk3)) h2 _ _ _ w (lv_sub hl [1, 0] rfl) (by omega) ty4 (fun f_ row_ hf_ hr_ => by by_cases q_ : f_ = i; rw [q_, va_up_self, hzk3 _ hr_, nar_b (mN_i u) (by have := mN_lt u; have := mB_le u; omega), mN_i]; rw [va_up_ne _ _ q_]; exact hz f_ row_ (by omega) hr_) V hfr (by omega)
  have ih2 := cuts (5)
  refine lv_iconst (v := 0) hx hb dX7_begin_0 (by decide) ?_
  refine lv_istore_n (lv' := [(1, .int 0), (0, .ref (g.2.2.1 v))]) hx hb dX7_begin_1 rfl hl (by decide) rfl (fun ls hl => ?_)
  exact ih2 0 0 gt h _ _ _ w (lv_sub hl [1, 0] rfl) (Nat.zero_le _) ((by decide : (0 : Int32).toInt = ((0 : Nat) : Int))) (fun _ _ hf_ => absurd hf_ (Nat.not_lt_zero _)) V (fun k_ _ => rfl) (by omega)

theorem inX7_advance_X0 : ∀ w ∈ wsX00, w ∈ wsX7_advance := by decide +kernel
theorem inX7_advance_X3 : ∀ w ∈ wsX30, w ∈ wsX7_advance := by decide +kernel
theorem inX7_advance_X4 : ∀ w ∈ wsX40, w ∈ wsX7_advance := by decide +kernel
theorem inX7_advance_X6 : ∀ w ∈ wsX60, w ∈ wsX7_advance := by decide +kernel
abbrev rm_X7_advance : Room := { frames := 4, cells := 0, slots := 0, locals := 87 }
set_option maxHeartbeats 4000000 in
set_option maxRecDepth 100000 in
theorem c_X7_advance (l : Launch) {g : GE} {h : Nat → va_E} {v u kk kc : Nat} {tk fz dp : Int32} {gp gg gs : Nat → Int32} {gd gt gc : Nat → Nat → Int32} (V : VwA g h v u kk kc tk fz dp gp gg gs gd gt gc) {o : Nat} {n : Int32} {ga gk gl : Nat → Int32} {gb : Nat → Nat → Int32} (P : PrA g h o n ga gk gl gb) {M : PRG} (S : PrS M n ga gk gl gb) (hP : PV M) {k : Nat} (hT : TbS u M gt (mTab u M k)) (hdis : o + 9 ≤ v ∨ v + 18 ≤ o) : MI l yX7_advance wsX7_advance rm_X7_advance [.ref (g.2.2.1 v), .ref (g.2.2.1 o)] g h (fun r h2 => (∀ k, ¬ (v ≤ k ∧ k < v + 18) → h2 k = h k) ∧ Bq r (¬ Stable u M k) ∧ ∃ (dp2 : Int32) (gg2 gs2 : Nat → Int32) (gc2 : Nat → Nat → Int32), VwA g h2 v u kc kk tk fz dp2 gp gg2 gs2 gd gc2 gt ∧ TbS u M gc2 (mTab u M (k + 1))) := by
  refine Met.ofW (cc := cX7_advance) (maxL := 7) (ret := (some .boolean)) (by decide) rfl ?_
  intro p e s m args below meth c s₁ B hml hv
  obtain ⟨rfl, w0⟩ := hv
  have hx := B.exec
  have hb := B.bytes
  have hr := B.returns
  have hts := atoms_spec (ws := wsX7_advance) B.pre
  have hown : s.vm.findClass RX7 = some m.cls := findClass_of_methodNamed B.named
  have hlocks := B.notSynchronized
  have w := w0.start
  clear w0
  have hl := lv_entry ([.ref (g.2.2.1 v), .ref (g.2.2.1 o)]) (n := 7) (Nat.le_of_ble_eq_true rfl)
  rw [lg_entry_eq]
  generalize (lg_sl ([.ref (g.2.2.1 v), .ref (g.2.2.1 o)]) ++ List.replicate (7 - (lg_sl ([.ref (g.2.2.1 v), .ref (g.2.2.1 o)])).length) Slot.unset).toArray = ls at hl ⊢
  have hl : lv_has ls 7 [(0, .ref (g.2.2.1 v)), (1, .ref (g.2.2.1 o))] := hl
  have hn4 := hP.2.1
  have hB5 := mB_le u
  have hNv := V.hN
  have cuts : ∀ N : Nat, (∀ (f : Nat) (x2 : Int32) (x3 : Int32) (dp1 : Int32) (gg1 : Nat → Int32) (gs1 : Nat → Int32) (gc1 : Nat → Nat → Int32) (hc : Nat → va_E) (H : Heap) (locs : List Loc) (ls : Array Slot), WD g (inW g) s hc H locs → lv_has ls 7 [(0, .ref (g.2.2.1 v)), (1, .ref (g.2.2.1 o)), (2, .int x2), (3, .int x3)] → (f ≤ pN M) → (x3.toInt = ((f : Nat) : Int)) → (∀ f_ row_, f_ < pN M → row_ < mRw u M f_ → f_ < f → (gc1 f_ row_).toInt = ((mTab u M (k + 1) f_ row_ : Nat) : Int)) → (Bq x2 (∃ f_ row_, f_ < pN M ∧ row_ < mRw u M f_ ∧ f_ < f ∧ mTab u M k f_ row_ ≠ mTab u M (k + 1) f_ row_)) → (VwA g hc v u kk kc tk fz dp1 gp gg1 gs1 gd gt gc1) → (PrA g hc o n ga gk gl gb) → (∀ k, ¬ (v ≤ k ∧ k < v + 18) → hc k = h k) → (pN M - f) * 1000 + 900 < N → W p l e (headSpec wsX7_advance rm_X7_advance).room s m ([.ref (g.2.2.1 v), .ref (g.2.2.1 o)] : List Value).toArray below meth c H locs 0 0 (MQ below (va_Qi (fun r h2 => (∀ k, ¬ (v ≤ k ∧ k < v + 18) → h2 k = h k) ∧ Bq r (¬ Stable u M k) ∧ ∃ (dp2 : Int32) (gg2 gs2 : Nat → Int32) (gc2 : Nat → Nat → Int32), VwA g h2 v u kc kk tk fz dp2 gp gg2 gs2 gd gc2 gt ∧ TbS u M gc2 (mTab u M (k + 1))) (Wd g) (inW g)) ([.ref (g.2.2.1 v), .ref (g.2.2.1 o)] : List Value).toArray s 0 0 (inW g)) (F0 m 4 ls [])) ∧ (∀ (f : Nat) (x2 : Int32) (x3 : Int32) (dp1 : Int32) (gg1 : Nat → Int32) (gs1 : Nat → Int32) (gc1 : Nat → Nat → Int32) (row : Nat) (x4 : Int32) (hc : Nat → va_E) (H : Heap) (locs : List Loc) (ls : Array Slot), WD g (inW g) s hc H locs → lv_has ls 7 [(0, .ref (g.2.2.1 v)), (1, .ref (g.2.2.1 o)), (2, .int x2), (3, .int x3), (4, .int x4)] → (f < pN M) → (x3.toInt = ((f : Nat) : Int)) → (row ≤ mRw u M f) → (x4.toInt = ((row : Nat) : Int)) → (∀ f_ row_, f_ < pN M → row_ < mRw u M f_ → (f_ < f ∨ (f_ = f ∧ row_ < row)) → (gc1 f_ row_).toInt = ((mTab u M (k + 1) f_ row_ : Nat) : Int)) → (Bq x2 (∃ f_ row_, f_ < pN M ∧ row_ < mRw u M f_ ∧ (f_ < f ∨ (f_ = f ∧ row_ < row)) ∧ mTab u M k f_ row_ ≠ mTab u M (k + 1) f_ row_)) → (VwA g hc v u kk kc tk fz dp1 gp gg1 gs1 gd gt gc1) → (PrA g hc o n ga gk gl gb) → (∀ k, ¬ (v ≤ k ∧ k < v + 18) → hc k = h k) → (pN M - f) * 1000 + (mRw u M f - row) * 4 + 2 < N → W p l e (headSpec wsX7_advance rm_X7_advance).room s m ([.ref (g.2.2.1 v), .ref (g.2.2.1 o)] : List Value).toArray below meth c H locs 0 0 (MQ below (va_Qi (fun r h2 => (∀ k, ¬ (v ≤ k ∧ k < v + 18) → h2 k = h k) ∧ Bq r (¬ Stable u M k) ∧ ∃ (dp2 : Int32) (gg2 gs2 : Nat → Int32) (gc2 : Nat → Nat → Int32), VwA g h2 v u kc kk tk fz dp2 gp gg2 gs2 gd gc2 gt ∧ TbS u M gc2 (mTab u M (k + 1))) (Wd g) (inW g)) ([.ref (g.2.2.1 v), .ref (g.2.2.1 o)] : List Value).toArray s 0 0 (inW g)) (F0 m 15 ls [])) ∧ (∀ (f : Nat) (x2 : Int32) (x3 : Int32) (dp1 : Int32) (gg1 : Nat → Int32) (gs1 : Nat → Int32) (gc1 : Nat → Nat → Int32) (row : Nat) (x4 : Int32) (x5 : Int32) (x6 : Int32) (hc : Nat → va_E) (H : Heap) (locs : List Loc) (ls : Array Slot), WD g (inW g) s hc H locs → lv_has ls 7 [(0, .ref (g.2.2.1 v)), (1, .ref (g.2.2.1 o)), (2, .int x2), (3, .int x3), (4, .int x4), (5, .int x5), (6, .int x6)] → (f < pN M) → (x3.toInt = ((f : Nat) : Int)) → (row < mRw u M f) → (x4.toInt = ((row : Nat) : Int)) → (x5.toInt = ((mTab u M k f row : Nat) : Int)) → (x6.toInt = ((mTab u M (k + 1) f row : Nat) : Int)) → (∀ f_ row_, f_ < pN M → row_ < mRw u M f_ → (f_ < f ∨ (f_ = f ∧ row_ < row)) → (gc1 f_ row_).toInt = ((mTab u M (k + 1) f_ row_ : Nat) : Int)) → (Bq x2 (∃ f_ row_, f_ < pN M ∧ row_ < mRw u M f_ ∧ (f_ < f ∨ (f_ = f ∧ row_ < row)) ∧ mTab u M k f_ row_ ≠ mTab u M (k + 1) f_ row_)) → (VwA g hc v u kk kc tk fz dp1 gp gg1 gs1 gd gt gc1) → (PrA g hc o n ga gk gl gb) → (∀ k, ¬ (v ≤ k ∧ k < v + 18) → hc k = h k) → (pN M - f) * 1000 + (mRw u M f - row) * 4 + 1 < N → W p l e (headSpec wsX7_advance rm_X7_advance).room s m ([.ref (g.2.2.1 v), .ref (g.2.2.1 o)] : List Value).toArray below meth c H locs 0 0 (MQ below (va_Qi (fun r h2 => (∀ k, ¬ (v ≤ k ∧ k < v + 18) → h2 k = h k) ∧ Bq r (¬ Stable u M k) ∧ ∃ (dp2 : Int32) (gg2 gs2 : Nat → Int32) (gc2 : Nat → Nat → Int32), VwA g h2 v u kc kk tk fz dp2 gp gg2 gs2 gd gc2 gt ∧ TbS u M gc2 (mTab u M (k + 1))) (Wd g) (inW g)) ([.ref (g.2.2.1 v), .ref (g.2.2.1 o)] : List Value).toArray s 0 0 (inW g)) (F0 m 67 ls [])) := by
    intro N
    induction N with
    | zero => exact ⟨by intros; omega, by intros; omega, by intros; omega⟩
    | succ N ih =>
      obtain ⟨ih4, ih15, ih67⟩ := ih
      refine ⟨?_, ?_, ?_⟩
      · intro f x2 x3 dp1 gg1 gs1 gc1 hc H locs ls w hl hf hx3 hgc hch V P hfr hN_
        refine lv_iload_n hx hb dX7_advance_4 rfl (lv_at hl 3 rfl) ?_
        refine lv_aload_n hx hb dX7_advance_5 rfl (lv_at hl 1 rfl) ?_
        refine r_get (C := RX3) (T := TX3) (N := 5) (ci := 2) hx hb hts inX7_advance_X3 hown w (by have := P.1; omega) P.c0 rfl 0 (by decide) (hts (Cond.fieldLink RX7 93 "EarlyValues$Program" "functions" "I") (List.mem_of_getElem? (i := 1) (by decide +kernel))) rfl rfl dX7_advance_6 ?_
        refine lv_icmp_ge (tgt := 108) hx hb dX7_advance_9 (by decide) (fun c1 => ?_) (fun c1 => ?_)
        · have c1 : (((pN M) : Nat) : Int) ≤ ((f : Nat) : Int) := (i_le S.1 hx3).mp c1
          refine lv_aload_n hx hb dX7_advance_108 rfl (lv_at hl 0 rfl) ?_
          refine r_getV hx hb hts ⟨inX7_advance_X0, inX7_advance_X4, inX7_advance_X6⟩ hown w V.hu (by have := V.hN; omega) V.c0 6 (by decide) (hts (Cond.fieldLink RX7 45 "EarlyValues$View" "known" "[[B") (List.mem_of_getElem? (i := 3) (by decide +kernel))) rfl rfl dX7_advance_109 ?_
          refine lv_astore_n (lv' := [(3, .ref (g.2.2.1 kk)), (0, .ref (g.2.2.1 v)), (1, .ref (g.2.2.1 o)), (2, .int x2)]) hx hb dX7_advance_112 rfl hl (by decide) rfl (fun ls hl => ?_)
          refine lv_aload_n hx hb dX7_advance_113 rfl (lv_at hl 1 rfl) ?_
          refine lv_aload_n hx hb dX7_advance_114 rfl (lv_at hl 1 rfl) ?_
          refine r_getV hx hb hts ⟨inX7_advance_X0, inX7_advance_X4, inX7_advance_X6⟩ hown w V.hu (by have := V.hN; omega) V.c0 7 (by decide) (hts (Cond.fieldLink RX7 48 "EarlyValues$View" "coming" "[[B") (List.mem_of_getElem? (i := 2) (by decide +kernel))) rfl rfl dX7_advance_115 ?_
          refine r_putV (ty := .array (.array .byte)) hx hb hts ⟨inX7_advance_X0, inX7_advance_X4, inX7_advance_X6⟩ hown w V.hu (by have := V.hN; omega) V.c0 6 (by decide) (hts (Cond.fieldLink RX7 45 "EarlyValues$View" "known" "[[B") (List.mem_of_getElem? (i := 3) (by decide +kernel))) rfl rfl (by decide +kernel) rfl rfl (Nat.le_of_ble_eq_true rfl) dX7_advance_118 (fun h2 H locs eh2 w => ?_)
          have hfr : ∀ k_, ¬ (v ≤ k_ ∧ k_ < v + 18) → h2 k_ = h k_ := fun k_ hk_ => by rw [eh2, va_up_ne _ _ (by omega)]; exact hfr k_ hk_
          have P := P.fr (h' := h2) (fun k_ h1_ h2_ => by rw [eh2, va_up_ne _ _ (by omega)])
          refine lv_aload_n hx hb dX7_advance_121 rfl (lv_at hl 1 rfl) ?_
          refine lv_aload_n hx hb dX7_advance_122 rfl (lv_at hl 0 rfl) ?_
          refine r_putV (ty := .array (.array .byte)) hx hb hts ⟨inX7_advance_X0, inX7_advance_X4, inX7_advance_X6⟩ hown w V.hu (by have := V.hN; omega) (by rw [eh2, va_up_self]; try rfl) 7 (by decide) (hts (Cond.fieldLink RX7 48 "EarlyValues$View" "coming" "[[B") (List.mem_of_getElem? (i := 2) (by decide +kernel))) rfl rfl (by decide +kernel) rfl rfl (Nat.le_of_ble_eq_true rfl) dX7_advance_123 (fun h3 H locs eh3 w => ?_)
          have hfr : ∀ k_, ¬ (v ≤ k_ ∧ k_ < v + 18) → h3 k_ = h k_ := fun k_ hk_ => by rw [eh3, va_up_ne _ _ (by omega)]; exact hfr k_ hk_
          have P := P.fr (h' := h3) (fun k_ h1_ h2_ => by rw [eh3, va_up_ne _ _ (by omega)])
          have V := V.swap eh2 eh3
          refine lv_iload_n hx hb dX7_advance_126 rfl (lv_at hl 3 rfl) ?_
          refine r_zret (v := x2) hx hb hr hch.nar hlocks w dX7_advance_127 ?_
          exact ⟨hfr, hch.iff (adv_fin (by omega)), _, _, _, _, V, fun f_ row_ a_ b_ => hgc f_ row_ a_ b_ (by omega)⟩
        · have c1 : ¬ ((((pN M) : Nat) : Int) ≤ ((f : Nat) : Int)) := fun q => c1 ((i_le S.1 hx3).mpr q)
          have hR := mRw_mR V.hu hP (show f < pN M by omega)
          have hR5 := mR_le u
          refine lv_iconst (v := 0) hx hb dX7_advance_12 (by decide) ?_
          refine lv_istore (lv' := [(4, .int 0), (0, .ref (g.2.2.1 v)), (1, .ref (g.2.2.1 o)), (2, .int x2), (3, .int x3)]) hx hb dX7_advance_13 hl (by decide) rfl (fun ls hl => ?_)
          exact ih15 f x2 x3 dp1 gg1 gs1 gc1 0 0 hc _ _ _ w (lv_sub hl [1, 2, 3, 4, 0] rfl) (by omega) hx3 (Nat.zero_le _) ((by decide : (0 : Int32).toInt = ((0 : Nat) : Int))) (fun f_ row_ a_ b_ q_ => hgc f_ row_ a_ b_ (by omega)) (hch.iff ⟨by rintro ⟨f_, row_, a_, b_, q_, d_⟩; exact ⟨f_, row_, a_, b_, Or.inl q_, d_⟩, by rintro ⟨f_, row_, a_, b_, q_, d_⟩; exact ⟨f_, row_, a_, b_, by omega, d_⟩⟩) V P hfr (by omega)
      · intro f x2 x3 dp1 gg1 gs1 gc1 row x4 hc H locs ls w hl hf hx3 hrow hx4 hgc hch V P hfr hN_
        have hR := mRw_mR V.hu hP hf
        have hR5 := mR_le u
        refine lv_iload hx hb dX7_advance_15 (lv_at hl 4 rfl) ?_
        refine lv_aload_n hx hb dX7_advance_17 rfl (lv_at hl 0 rfl) ?_
        refine lv_aload_n hx hb dX7_advance_18 rfl (lv_at hl 1 rfl) ?_
        refine lv_iload_n hx hb dX7_advance_19 rfl (lv_at hl 3 rfl) ?_
        refine r_callI w (va_3 V.hu (fun q_ => va_runU (As := [.ref (g.2.2.1 o), .int x3]) (rest := [.int x4]) ⟨hx, hb, hml, hown, hts⟩ (c_X7_rowsOf l V P S hP x3 hx3 (by omega)) (va_cwU 2 hts gX7_advance_X7_rowsOf_u61X6 rfl rfl rfl rfl (by decide +kernel) ⟨Nat.le_of_ble_eq_true rfl, Nat.le_of_ble_eq_true rfl⟩) (r_preV w (by have := V.hN; omega) (V.ob (by subst q_; rfl)) rfl) rfl rfl hl.1 rfl (lv_room (Nat.le_of_ble_eq_true rfl)) dX7_advance_20 ⟨Nat.zero_le _, Nat.zero_le _⟩) (fun q_ => va_runU (As := [.ref (g.2.2.1 o), .int x3]) (rest := [.int x4]) ⟨hx, hb, hml, hown, hts⟩ (c_X7_rowsOf l V P S hP x3 hx3 (by omega)) (va_cwU 2 hts gX7_advance_X7_rowsOf_u61X4 rfl rfl rfl rfl (by decide +kernel) ⟨Nat.le_of_ble_eq_true rfl, Nat.le_of_ble_eq_true rfl⟩) (r_preV w (by have := V.hN; omega) (V.ob (by subst q_; rfl)) rfl) rfl rfl hl.1 rfl (lv_room (Nat.le_of_ble_eq_true rfl)) dX7_advance_20 ⟨Nat.zero_le _, Nat.zero_le _⟩) (fun q_ => va_runU (As := [.ref (g.2.2.1 o), .int x3]) (rest := [.int x4]) ⟨hx, hb, hml, hown, hts⟩ (c_X7_rowsOf l V P S hP x3 hx3 (by omega)) (va_cwU 2 hts gX7_advance_X7_rowsOf_u61X0 rfl rfl rfl rfl (by decide +kernel) ⟨Nat.le_of_ble_eq_true rfl, Nat.le_of_ble_eq_true rfl⟩) (r_preV w (by have := V.hN; omega) (V.ob (by subst q_; rfl)) rfl) rfl rfl hl.1 rfl (lv_room (Nat.le_of_ble_eq_true rfl)) dX7_advance_20 ⟨Nat.zero_le _, Nat.zero_le _⟩)) (fun r5 h4 H locs hp w => ?_)
        obtain ⟨eh_, qq6⟩ := hp
        have eh_ := eh_.symm
        subst eh_
        refine lv_icmp_ge (tgt := 102) hx hb dX7_advance_23 (by decide) (fun c7 => ?_) (fun c7 => ?_)
        · have c7 : (((mRw u M f) : Nat) : Int) ≤ ((row : Nat) : Int) := (i_le qq6 hx4).mp c7
          obtain ⟨y8, ey8⟩ : ∃ y : Int32, y = x3 + (1) := ⟨_, rfl⟩
          have ty8 : y8.toInt = (((f + 1) : Nat) : Int) := i_addN ey8 hx3 (by decide : (1 : Int32).toInt = ((1 : Nat) : Int)) (by omega)
          refine lv_iinc (v := y8) (lv' := [(3, .int y8), (0, .ref (g.2.2.1 v)), (1, .ref (g.2.2.1 o)), (2, .int x2), (4, .int x4)]) hx hb dX7_advance_102 hl (k := 3) rfl (by rw [ey8]; rfl) (by decide) rfl (fun ls hl => ?_)
          refine lv_goto (tgt := 4) hx hb dX7_advance_105 (by decide) ?_
          exact ih4 (f + 1) x2 y8 dp1 gg1 gs1 gc1 hc _ _ _ w (lv_sub hl [1, 2, 3, 0] rfl) (by omega) ty8 (fun f_ row_ a_ b_ q_ => hgc f_ row_ a_ b_ (by rcases Nat.lt_succ_iff_lt_or_eq.mp q_ with z_ | z_; exact Or.inl z_; subst z_; exact Or.inr ⟨rfl, by omega⟩)) (hch.iff ⟨by rintro ⟨f_, row_, a_, b_, q_, d_⟩; exact ⟨f_, row_, a_, b_, by omega, d_⟩, by rintro ⟨f_, row_, a_, b_, q_, d_⟩; refine ⟨f_, row_, a_, b_, ?_, d_⟩; rcases Nat.lt_succ_iff_lt_or_eq.mp q_ with z_ | z_; exact Or.inl z_; subst z_; exact Or.inr ⟨rfl, by omega⟩⟩) V P hfr (by omega)
        · have c7 : ¬ ((((mRw u M f) : Nat) : Int) ≤ ((row : Nat) : Int)) := fun q => c7 ((i_le qq6 hx4).mpr q)
          have hrow : row < mRw u M f := by omega
          refine lv_aload_n hx hb dX7_advance_26 rfl (lv_at hl 0 rfl) ?_
          refine lv_iload_n hx hb dX7_advance_27 rfl (lv_at hl 3 rfl) ?_
          refine lv_iload hx hb dX7_advance_28 (lv_at hl 4 rfl) ?_
          refine r_callI w (va_3 V.hu (fun q_ => va_runU (As := [.int x3, .int x4]) (rest := []) ⟨hx, hb, hml, hown, hts⟩ (c_X7_at l V x3 x4 hx3 hx4 (by omega) (by omega)) (va_cwU 2 hts gX7_advance_X7_at_u83X6 rfl rfl rfl rfl (by decide +kernel) ⟨Nat.le_of_ble_eq_true rfl, Nat.le_of_ble_eq_true rfl⟩) (r_preV w (by have := V.hN; omega) (V.ob (by subst q_; rfl)) rfl) rfl rfl hl.1 rfl (lv_room (Nat.le_of_ble_eq_true rfl)) dX7_advance_30 ⟨Nat.zero_le _, Nat.zero_le _⟩) (fun q_ => va_runU (As := [.int x3, .int x4]) (rest := []) ⟨hx, hb, hml, hown, hts⟩ (c_X7_at l V x3 x4 hx3 hx4 (by omega) (by omega)) (va_cwU 2 hts gX7_advance_X7_at_u83X4 rfl rfl rfl rfl (by decide +kernel) ⟨Nat.le_of_ble_eq_true rfl, Nat.le_of_ble_eq_true rfl⟩) (r_preV w (by have := V.hN; omega) (V.ob (by subst q_; rfl)) rfl) rfl rfl hl.1 rfl (lv_room (Nat.le_of_ble_eq_true rfl)) dX7_advance_30 ⟨Nat.zero_le _, Nat.zero_le _⟩) (fun q_ => va_runU (As := [.int x3, .int x4]) (rest := []) ⟨hx, hb, hml, hown, hts⟩ (c_X7_at l V x3 x4 hx3 hx4 (by omega) (by omega)) (va_cwU 2 hts gX7_advance_X7_at_u83X0 rfl rfl rfl rfl (by decide +kernel) ⟨Nat.le_of_ble_eq_true rfl, Nat.le_of_ble_eq_true rfl⟩) (r_preV w (by have := V.hN; omega) (V.ob (by subst q_; rfl)) rfl) rfl rfl hl.1 rfl (lv_room (Nat.le_of_ble_eq_true rfl)) dX7_advance_30 ⟨Nat.zero_le _, Nat.zero_le _⟩)) (fun r10 h9 H locs hp w => ?_)
          obtain ⟨eh_, qq11⟩ := hp
          have eh_ := eh_.symm
          subst eh_
          subst qq11
          refine lv_istore (lv' := [(5, .int (gt f row)), (0, .ref (g.2.2.1 v)), (1, .ref (g.2.2.1 o)), (2, .int x2), (3, .int x3), (4, .int x4)]) hx hb dX7_advance_33 hl (by decide) rfl (fun ls hl => ?_)
          refine lv_iload hx hb dX7_advance_35 (lv_at hl 0 rfl) ?_
          refine lv_istore (lv' := [(6, .int (gt f row)), (5, .int (gt f row)), (0, .ref (g.2.2.1 v)), (1, .ref (g.2.2.1 o)), (2, .int x2), (3, .int x3), (4, .int x4)]) hx hb dX7_advance_37 hl (by decide) rfl (fun ls hl => ?_)
          have hkl := mTab_lt V.hu hP k f row hf hrow
          have hb4 := hT f row hf hrow
          refine lv_aload_n hx hb dX7_advance_39 rfl (lv_at hl 2 rfl) ?_
          refine lv_iload hx hb dX7_advance_40 (lv_at hl 1 rfl) ?_
          refine r_callI w (va_3 V.hu (fun q_ => va_runU (As := [.int (gt f row)]) (rest := []) ⟨hx, hb, hml, hown, hts⟩ ((show MI l yX6_mayGrow wsX6_mayGrow rm_X6_mayGrow [.ref (g.2.2.1 v), .int (gt f row)] g hc (fun r h2 => h2 = hc ∧ Bq r (mGrow u ((mTab u M k f row)))) from by subst q_; exact c_X6_mayGrow l (gt f row) (hT f row hf hrow) (by have := mB_0; have := mB_1; have := mB_2; omega))) (va_cwA 1 hts gX7_advance_X6_mayGrow_u96X6 rfl rfl rfl w.2.2.2.2.2.2.2.1 (by decide +kernel) ⟨Nat.le_of_ble_eq_true rfl, Nat.le_of_ble_eq_true rfl⟩) (r_preV w (by have := V.hN; omega) (V.ob (by subst q_; rfl)) rfl) rfl rfl hl.1 rfl (lv_room (Nat.le_of_ble_eq_true rfl)) dX7_advance_42 ⟨Nat.zero_le _, Nat.zero_le _⟩) (fun q_ => va_runU (As := [.int (gt f row)]) (rest := []) ⟨hx, hb, hml, hown, hts⟩ ((show MI l yX4_mayGrow wsX4_mayGrow rm_X4_mayGrow [.ref (g.2.2.1 v), .int (gt f row)] g hc (fun r h2 => h2 = hc ∧ Bq r (mGrow u ((mTab u M k f row)))) from by subst q_; exact c_X4_mayGrow l (gt f row) (hT f row hf hrow) (by have := mB_0; have := mB_1; have := mB_2; omega))) (va_cwA 1 hts gX7_advance_X4_mayGrow_u96X4 rfl rfl rfl w.2.2.2.2.2.2.2.1 (by decide +kernel) ⟨Nat.le_of_ble_eq_true rfl, Nat.le_of_ble_eq_true rfl⟩) (r_preV w (by have := V.hN; omega) (V.ob (by subst q_; rfl)) rfl) rfl rfl hl.1 rfl (lv_room (Nat.le_of_ble_eq_true rfl)) dX7_advance_42 ⟨Nat.zero_le _, Nat.zero_le _⟩) (fun q_ => va_runU (As := [.int (gt f row)]) (rest := []) ⟨hx, hb, hml, hown, hts⟩ ((show MI l yX0_mayGrow wsX0_mayGrow rm_X0_mayGrow [.ref (g.2.2.1 v), .int (gt f row)] g hc (fun r h2 => h2 = hc ∧ Bq r (mGrow u ((mTab u M k f row)))) from by subst q_; exact c_X0_mayGrow l (gt f row) (hT f row hf hrow) (by have := mB_0; have := mB_1; have := mB_2; omega))) (va_cwA 1 hts gX7_advance_X0_mayGrow_u96X0 rfl rfl rfl w.2.2.2.2.2.2.2.1 (by decide +kernel) ⟨Nat.le_of_ble_eq_true rfl, Nat.le_of_ble_eq_true rfl⟩) (r_preV w (by have := V.hN; omega) (V.ob (by subst q_; rfl)) rfl) rfl rfl hl.1 rfl (lv_room (Nat.le_of_ble_eq_true rfl)) dX7_advance_42 ⟨Nat.zero_le _, Nat.zero_le _⟩)) (fun r13 h12 H locs hp w => ?_)
          obtain ⟨eh_, qq14⟩ := hp
          have eh_ := eh_.symm
          subst eh_
          refine lv_if_eq (tgt := 67) hx hb dX7_advance_45 (by decide) (fun c15 => ?_) (fun c15 => ?_)
          · have c15 := qq14.eq c15
            exact ih67 f x2 x3 dp1 gg1 gs1 gc1 row x4 (gt f row) (gt f row) hc _ _ _ w (lv_sub hl [2, 3, 4, 5, 6, 1, 0] rfl) hf hx3 hrow hx4 ((hT f row hf hrow)) ((adv_same V.hu hP hT hf hrow c15)) hgc hch V P hfr (by omega)
          · have c15 := qq14.ne c15
            refine lv_aload_n hx hb dX7_advance_48 rfl (lv_at hl 2 rfl) ?_
            refine lv_aload_n hx hb dX7_advance_49 rfl (lv_at hl 3 rfl) ?_
            refine lv_iload_n hx hb dX7_advance_50 rfl (lv_at hl 5 rfl) ?_
            refine lv_iload hx hb dX7_advance_51 (lv_at hl 6 rfl) ?_
            refine r_callI w (va_3 V.hu (fun q_ => va_runU (As := [.ref (g.2.2.1 o), .int x3, .int x4]) (rest := []) ⟨hx, hb, hml, hown, hts⟩ (c_X7_handOver l V P S hP x3 x4 hx3 hx4 hf hrow hdis) (va_cwU 3 hts gX7_advance_X7_handOver_u99X6 rfl rfl rfl rfl (by decide +kernel) ⟨Nat.le_of_ble_eq_true rfl, Nat.le_of_ble_eq_true rfl⟩) (r_preV w (by have := V.hN; omega) (V.ob (by subst q_; rfl)) rfl) rfl rfl hl.1 rfl (lv_room (Nat.le_of_ble_eq_true rfl)) dX7_advance_53 ⟨Nat.zero_le _, Nat.zero_le _⟩) (fun q_ => va_runU (As := [.ref (g.2.2.1 o), .int x3, .int x4]) (rest := []) ⟨hx, hb, hml, hown, hts⟩ (c_X7_handOver l V P S hP x3 x4 hx3 hx4 hf hrow hdis) (va_cwU 3 hts gX7_advance_X7_handOver_u99X4 rfl rfl rfl rfl (by decide +kernel) ⟨Nat.le_of_ble_eq_true rfl, Nat.le_of_ble_eq_true rfl⟩) (r_preV w (by have := V.hN; omega) (V.ob (by subst q_; rfl)) rfl) rfl rfl hl.1 rfl (lv_room (Nat.le_of_ble_eq_true rfl)) dX7_advance_53 ⟨Nat.zero_le _, Nat.zero_le _⟩) (fun q_ => va_runU (As := [.ref (g.2.2.1 o), .int x3, .int x4]) (rest := []) ⟨hx, hb, hml, hown, hts⟩ (c_X7_handOver l V P S hP x3 x4 hx3 hx4 hf hrow hdis) (va_cwU 3 hts gX7_advance_X7_handOver_u99X0 rfl rfl rfl rfl (by decide +kernel) ⟨Nat.le_of_ble_eq_true rfl, Nat.le_of_ble_eq_true rfl⟩) (r_preV w (by have := V.hN; omega) (V.ob (by subst q_; rfl)) rfl) rfl rfl hl.1 rfl (lv_room (Nat.le_of_ble_eq_true rfl)) dX7_advance_53 ⟨Nat.zero_le _, Nat.zero_le _⟩)) (fun r17 h16 H locs hp w => ?_)
            obtain ⟨hfk18, hbk18, ggk18, V, hgk18⟩ := hp
            have P := P.fr (h' := h16) (fun k_ h1_ h2_ => hfk18 k_ (by omega))
            have hfr : ∀ k_, ¬ (v ≤ k_ ∧ k_ < v + 18) → h16 k_ = h k_ := fun k_ hk_ => (hfk18 k_ (by omega)).trans (hfr k_ hk_)
            refine lv_if_eq (tgt := 67) hx hb dX7_advance_56 (by decide) (fun c19 => ?_) (fun c19 => ?_)
            · have c19 := hbk18.eq c19
              exact ih67 f x2 x3 dp1 ggk18 gs1 gc1 row x4 (gt f row) (gt f row) h16 _ _ _ w (lv_sub hl [2, 3, 4, 5, 6, 1, 0] rfl) hf hx3 hrow hx4 ((hT f row hf hrow)) ((adv_stop V.hu hP hT hf hrow (Classical.not_not.mp c19))) hgc hch V P hfr (by omega)
            · have c19 := hbk18.ne c19
              refine lv_aload_n hx hb dX7_advance_59 rfl (lv_at hl 2 rfl) ?_
              refine lv_aload_n hx hb dX7_advance_60 rfl (lv_at hl 3 rfl) ?_
              refine lv_iload_n hx hb dX7_advance_61 rfl (lv_at hl 5 rfl) ?_
              refine r_callI w (va_3 V.hu (fun q_ => va_runU (As := [.ref (g.2.2.1 o), .int x3]) (rest := []) ⟨hx, hb, hml, hown, hts⟩ (c_X7_bodyComesTo l V P S hP x3 hx3 hf (mTab_lt V.hu hP k) hT (hgk18 (by rcases hbk18 with q_ | q_; exact q_.1; exact absurd q_.2 (fun z_ => z_ c19))) (mArg_lt u M f row) hdis) (va_cwU 2 hts gX7_advance_X7_bodyComesTo_u102X6 rfl rfl rfl rfl (by decide +kernel) ⟨Nat.le_of_ble_eq_true rfl, Nat.le_of_ble_eq_true rfl⟩) (r_preV w (by have := V.hN; omega) (V.ob (by subst q_; rfl)) rfl) rfl rfl hl.1 rfl (lv_room (Nat.le_of_ble_eq_true rfl)) dX7_advance_62 ⟨Nat.zero_le _, Nat.zero_le _⟩) (fun q_ => va_runU (As := [.ref (g.2.2.1 o), .int x3]) (rest := []) ⟨hx, hb, hml, hown, hts⟩ (c_X7_bodyComesTo l V P S hP x3 hx3 hf (mTab_lt V.hu hP k) hT (hgk18 (by rcases hbk18 with q_ | q_; exact q_.1; exact absurd q_.2 (fun z_ => z_ c19))) (mArg_lt u M f row) hdis) (va_cwU 2 hts gX7_advance_X7_bodyComesTo_u102X4 rfl rfl rfl rfl (by decide +kernel) ⟨Nat.le_of_ble_eq_true rfl, Nat.le_of_ble_eq_true rfl⟩) (r_preV w (by have := V.hN; omega) (V.ob (by subst q_; rfl)) rfl) rfl rfl hl.1 rfl (lv_room (Nat.le_of_ble_eq_true rfl)) dX7_advance_62 ⟨Nat.zero_le _, Nat.zero_le _⟩) (fun q_ => va_runU (As := [.ref (g.2.2.1 o), .int x3]) (rest := []) ⟨hx, hb, hml, hown, hts⟩ (c_X7_bodyComesTo l V P S hP x3 hx3 hf (mTab_lt V.hu hP k) hT (hgk18 (by rcases hbk18 with q_ | q_; exact q_.1; exact absurd q_.2 (fun z_ => z_ c19))) (mArg_lt u M f row) hdis) (va_cwU 2 hts gX7_advance_X7_bodyComesTo_u102X0 rfl rfl rfl rfl (by decide +kernel) ⟨Nat.le_of_ble_eq_true rfl, Nat.le_of_ble_eq_true rfl⟩) (r_preV w (by have := V.hN; omega) (V.ob (by subst q_; rfl)) rfl) rfl rfl hl.1 rfl (lv_room (Nat.le_of_ble_eq_true rfl)) dX7_advance_62 ⟨Nat.zero_le _, Nat.zero_le _⟩)) (fun r21 h20 H locs hp w => ?_)
              obtain ⟨hfk22, hrk22, dpk22, gsk22, V⟩ := hp
              have P := P.fr (h' := h20) (fun k_ h1_ h2_ => hfk22 k_ (by omega))
              have hfr : ∀ k_, ¬ (v ≤ k_ ∧ k_ < v + 18) → h20 k_ = h k_ := fun k_ hk_ => (hfk22 k_ (by omega)).trans (hfr k_ hk_)
              refine lv_istore (lv' := [(6, .int r21), (5, .int (gt f row)), (0, .ref (g.2.2.1 v)), (1, .ref (g.2.2.1 o)), (2, .int x2), (3, .int x3), (4, .int x4)]) hx hb dX7_advance_65 hl (by decide) rfl (fun ls hl => ?_)
              exact ih67 f x2 x3 dpk22 ggk18 gsk22 gc1 row x4 (gt f row) r21 h20 _ _ _ w (lv_sub hl [2, 3, 4, 5, 6, 1, 0] rfl) hf hx3 hrow hx4 ((hT f row hf hrow)) ((hrk22.trans (by rw [adv_step c19]))) hgc hch V P hfr (by omega)
      · intro f x2 x3 dp1 gg1 gs1 gc1 row x4 x5 x6 hc H locs ls w hl hf hx3 hrow hx4 hx5 hx6 hgc hch V P hfr hN_
        have hR := mRw_mR V.hu hP hf
        have hR5 := mR_le u
        have hl6 := mTab_lt V.hu hP (k + 1) f row hf hrow
        refine lv_aload_n hx hb dX7_advance_67 rfl (lv_at hl 0 rfl) ?_
        refine r_getV hx hb hts ⟨inX7_advance_X0, inX7_advance_X4, inX7_advance_X6⟩ hown w V.hu (by have := V.hN; omega) V.c0 7 (by decide) (hts (Cond.fieldLink RX7 48 "EarlyValues$View" "coming" "[[B") (List.mem_of_getElem? (i := 2) (by decide +kernel))) rfl rfl dX7_advance_68 ?_
        refine lv_iload_n hx hb dX7_advance_71 rfl (lv_at hl 3 rfl) ?_
        refine r_aald (t := 5) (j := f) hx hb w (by decide) (by have := V.hN; omega) V.m0 hx3 (by omega) (rowsF_in (by omega)) dX7_advance_72 ?_
        refine lv_iload hx hb dX7_advance_73 (lv_at hl 4 rfl) ?_
        refine lv_iload hx hb dX7_advance_75 (lv_at hl 6 rfl) ?_
        refine lv_i2b (v := x6) hx hb dX7_advance_77 (i2b_id hx6 (by omega)) ?_
        refine r_bast (j := row) hx hb w (by have := V.hN; omega) (V.m1 (i := f) (by omega)) hx4 (by omega) dX7_advance_78 (fun h23 H locs eh23 w => ?_)
        have V := V.sc (i := f) (by omega) eh23
        generalize egz24 : va_up gc1 f (upd (gc1 f) row (vp_nar .byte x6)) = gz24 at V
        have hfr : ∀ k_, ¬ (v ≤ k_ ∧ k_ < v + 18) → h23 k_ = h k_ := fun k_ hk_ => by rw [eh23, va_up_ne _ _ (by omega)]; exact hfr k_ hk_
        have P := P.fr (h' := h23) (fun k_ h1_ h2_ => by rw [eh23, va_up_ne _ _ (by omega)])
        refine lv_iload_n hx hb dX7_advance_79 rfl (lv_at hl 2 rfl) ?_
        refine lv_if_ne (tgt := 90) hx hb dX7_advance_80 (by decide) (fun c25 => ?_) (fun c25 => ?_)
        · have c25 := hch.ne c25
          refine lv_iconst (v := 1) hx hb dX7_advance_90 (by decide) ?_
          refine lv_goto (tgt := 95) hx hb dX7_advance_91 (by decide) ?_
          refine lv_istore_n (lv' := [(2, .int 1), (0, .ref (g.2.2.1 v)), (1, .ref (g.2.2.1 o)), (3, .int x3), (4, .int x4), (5, .int x5), (6, .int x6)]) hx hb dX7_advance_95 rfl hl (by decide) rfl (fun ls hl => ?_)
          obtain ⟨y26, ey26⟩ : ∃ y : Int32, y = x4 + (1) := ⟨_, rfl⟩
          have ty26 : y26.toInt = (((row + 1) : Nat) : Int) := i_addN ey26 hx4 (by decide : (1 : Int32).toInt = ((1 : Nat) : Int)) (by omega)
          refine lv_iinc (v := y26) (lv' := [(4, .int y26), (2, .int 1), (0, .ref (g.2.2.1 v)), (1, .ref (g.2.2.1 o)), (3, .int x3), (5, .int x5), (6, .int x6)]) hx hb dX7_advance_96 hl (k := 4) rfl (by rw [ey26]; rfl) (by decide) rfl (fun ls hl => ?_)
          refine lv_goto (tgt := 15) hx hb dX7_advance_99 (by decide) ?_
          exact ih15 f 1 x3 dp1 gg1 gs1 gz24 (row + 1) y26 h23 _ _ _ w (lv_sub hl [2, 3, 1, 4, 0] rfl) hf hx3 (by omega) ty26 (fun f_ row_ a_ b_ q_ => by rw [← egz24]; exact adv_up hgc hx6 (by have := mB_le u; omega) f_ row_ a_ b_ q_) (adv_ch1 c25) V P hfr (by omega)
        · have c25 := hch.eq c25
          refine lv_iload hx hb dX7_advance_83 (lv_at hl 6 rfl) ?_
          refine lv_iload hx hb dX7_advance_85 (lv_at hl 5 rfl) ?_
          refine lv_icmp_eq (tgt := 94) hx hb dX7_advance_87 (by decide) (fun c27 => ?_) (fun c27 => ?_)
          · have c27 : (((mTab u M (k + 1) f row) : Nat) : Int) = (((mTab u M k f row) : Nat) : Int) := (i_eq hx6 hx5).mp c27
            refine lv_iconst (v := 0) hx hb dX7_advance_94 (by decide) ?_
            refine lv_istore_n (lv' := [(2, .int 0), (0, .ref (g.2.2.1 v)), (1, .ref (g.2.2.1 o)), (3, .int x3), (4, .int x4), (5, .int x5), (6, .int x6)]) hx hb dX7_advance_95 rfl hl (by decide) rfl (fun ls hl => ?_)
            obtain ⟨y28, ey28⟩ : ∃ y : Int32, y = x4 + (1) := ⟨_, rfl⟩
            have ty28 : y28.toInt = (((row + 1) : Nat) : Int) := i_addN ey28 hx4 (by decide : (1 : Int32).toInt = ((1 : Nat) : Int)) (by omega)
            refine lv_iinc (v := y28) (lv' := [(4, .int y28), (2, .int 0), (0, .ref (g.2.2.1 v)), (1, .ref (g.2.2.1 o)), (3, .int x3), (5, .int x5), (6, .int x6)]) hx hb dX7_advance_96 hl (k := 4) rfl (by rw [ey28]; rfl) (by decide) rfl (fun ls hl => ?_)
            refine lv_goto (tgt := 15) hx hb dX7_advance_99 (by decide) ?_
            exact ih15 f 0 x3 dp1 gg1 gs1 gz24 (row + 1) y28 h23 _ _ _ w (lv_sub hl [2, 3, 1, 4, 0] rfl) hf hx3 (by omega) ty28 (fun f_ row_ a_ b_ q_ => by rw [← egz24]; exact adv_up hgc hx6 (by have := mB_le u; omega) f_ row_ a_ b_ q_) (adv_ch0 (f := f) (row := row) hf hrow c25 (by first | exact Bq.t (by omega) | exact Bq.f (by omega))) V P hfr (by omega)
          · have c27 : ¬ ((((mTab u M (k + 1) f row) : Nat) : Int) = (((mTab u M k f row) : Nat) : Int)) := fun q => c27 ((i_eq hx6 hx5).mpr q)
            refine lv_iconst (v := 1) hx hb dX7_advance_90 (by decide) ?_
            refine lv_goto (tgt := 95) hx hb dX7_advance_91 (by decide) ?_
            refine lv_istore_n (lv' := [(2, .int 1), (0, .ref (g.2.2.1 v)), (1, .ref (g.2.2.1 o)), (3, .int x3), (4, .int x4), (5, .int x5), (6, .int x6)]) hx hb dX7_advance_95 rfl hl (by decide) rfl (fun ls hl => ?_)
            obtain ⟨y29, ey29⟩ : ∃ y : Int32, y = x4 + (1) := ⟨_, rfl⟩
            have ty29 : y29.toInt = (((row + 1) : Nat) : Int) := i_addN ey29 hx4 (by decide : (1 : Int32).toInt = ((1 : Nat) : Int)) (by omega)
            refine lv_iinc (v := y29) (lv' := [(4, .int y29), (2, .int 1), (0, .ref (g.2.2.1 v)), (1, .ref (g.2.2.1 o)), (3, .int x3), (5, .int x5), (6, .int x6)]) hx hb dX7_advance_96 hl (k := 4) rfl (by rw [ey29]; rfl) (by decide) rfl (fun ls hl => ?_)
            refine lv_goto (tgt := 15) hx hb dX7_advance_99 (by decide) ?_
            exact ih15 f 1 x3 dp1 gg1 gs1 gz24 (row + 1) y29 h23 _ _ _ w (lv_sub hl [2, 3, 1, 4, 0] rfl) hf hx3 (by omega) ty29 (fun f_ row_ a_ b_ q_ => by rw [← egz24]; exact adv_up hgc hx6 (by have := mB_le u; omega) f_ row_ a_ b_ q_) (adv_ch0 (f := f) (row := row) hf hrow c25 (by first | exact Bq.t (by omega) | exact Bq.f (by omega))) V P hfr (by omega)
  have cut0 := cuts (5000)
  obtain ⟨ih4, ih15, ih67⟩ := cut0
  refine lv_iconst (v := 0) hx hb dX7_advance_0 (by decide) ?_
  refine lv_istore_n (lv' := [(2, .int 0), (0, .ref (g.2.2.1 v)), (1, .ref (g.2.2.1 o))]) hx hb dX7_advance_1 rfl hl (by decide) rfl (fun ls hl => ?_)
  refine lv_iconst (v := 0) hx hb dX7_advance_2 (by decide) ?_
  refine lv_istore_n (lv' := [(3, .int 0), (2, .int 0), (0, .ref (g.2.2.1 v)), (1, .ref (g.2.2.1 o))]) hx hb dX7_advance_3 rfl hl (by decide) rfl (fun ls hl => ?_)
  exact ih4 0 0 0 dp gg gs gc h _ _ _ w (lv_sub hl [2, 3, 1, 0] rfl) (Nat.zero_le _) ((by decide : (0 : Int32).toInt = ((0 : Nat) : Int))) (fun f_ row_ _ _ q_ => absurd q_ (Nat.not_lt_zero _)) (Bq.f (by rintro ⟨f_, row_, _, _, q_, _⟩; exact absurd q_ (Nat.not_lt_zero _))) V P (fun k_ _ => rfl) (by omega)

