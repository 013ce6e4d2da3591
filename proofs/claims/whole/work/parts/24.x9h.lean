theorem bit_all : (List.range 8).all (fun b => (nI b &&& 1) == nI (b % 2) && ((nI b >>> ((1 : Int32) &&& 31)) &&& 1) == nI (b / 2 % 2) && ((nI b >>> ((2 : Int32) &&& 31)) &&& 1) == nI (b / 4 % 2)) = true := by decide +kernel
theorem bit_0 {x z : Int32} {b : Nat} (hx : x.toInt = ((b : Nat) : Int)) (hb : b < 8) (e : z = x &&& 1) : z.toInt = ((b % 2 : Nat) : Int) := by
  have := all_range bit_all hb
  simp only [Bool.and_eq_true, beq_iff_eq] at this
  rw [e, i_ofN hx, this.1.1, nI_toInt (by omega)]
theorem bit_1 {x y z : Int32} {b : Nat} (hx : x.toInt = ((b : Nat) : Int)) (hb : b < 8) (e1 : y = x >>> ((1 : Int32) &&& 31)) (e : z = y &&& 1) : z.toInt = ((b / 2 % 2 : Nat) : Int) := by
  have := all_range bit_all hb
  simp only [Bool.and_eq_true, beq_iff_eq] at this
  rw [e, e1, i_ofN hx, this.1.2, nI_toInt (by omega)]
theorem bit_2 {x y z : Int32} {b : Nat} (hx : x.toInt = ((b : Nat) : Int)) (hb : b < 8) (e1 : y = x >>> ((2 : Int32) &&& 31)) (e : z = y &&& 1) : z.toInt = ((b / 4 % 2 : Nat) : Int) := by
  have := all_range bit_all hb
  simp only [Bool.and_eq_true, beq_iff_eq] at this
  rw [e, e1, i_ofN hx, this.2, nI_toInt (by omega)]
theorem shl_all : (List.range 4).all (fun c => ((1 : Int32) <<< (nI c &&& 31)) == nI (2 ^ c)) = true := by decide +kernel
theorem shl_1 {x y : Int32} {c : Nat} (hx : x.toInt = ((c : Nat) : Int)) (hc : c ≤ 3) (e : y = (1 : Int32) <<< (x &&& 31)) : y.toInt = ((mB 1 ^ c : Nat) : Int) := by
  have := all_range shl_all (show c < 4 by omega)
  simp only [beq_iff_eq] at this
  rw [mB_1]
  have h2 : 2 ^ c < 2 ^ 31 := Nat.pow_lt_pow_right (by decide) (by omega)
  rw [e, i_ofN hx, this, nI_toInt h2]
theorem pow2_c {c : Nat} (hc : c ≤ 3) : (c = 0 ∧ mB 1 ^ c = 1) ∨ (c = 1 ∧ mB 1 ^ c = 2) ∨ (c = 2 ∧ mB 1 ^ c = 4) ∨ (c = 3 ∧ mB 1 ^ c = 8) := by
  rcases (show c = 0 ∨ c = 1 ∨ c = 2 ∨ c = 3 by omega) with q | q | q | q <;> subst q <;> decide
theorem rough_is {c b : Nat} (hc : c ≤ 3) (h : b < mB 1 ^ c) : mIs 1 c (b % 2) (b / 2 % 2) (b / 4 % 2) := by
  have := pow2_c hc
  exact mIs_of (by rw [mB_1]; omega) (by rw [mB_1]; omega) (by rw [mB_1]; omega) (by omega) (by omega) (by omega)
theorem rough_at {M : PRG} {gt : Nat → Int32} {T : Nat → Nat → Nat} (hT : RT 1 M gt T) (hP : PV M) {f b : Nat} (hf : f < pN M) (hb : b < mRw 1 M f) : (gt (500 * 1 + 125 * f + (25 * (b % 2) + 5 * (b / 2 % 2) + b / 4 % 2))).toInt = ((T f b : Nat) : Int) := by
  have h3 := (hP.2.2 f hf).1
  have h8 := pow2_c h3
  have hb' : b < mB 1 ^ pA M f := hb
  rw [hT.at hf (rough_is h3 hb), mB_1, show b % 2 + 2 * (b / 2 % 2) + 2 * 2 * (b / 4 % 2) = b by omega]
def AnRough (s : ST) (p q : Int32) (r : Int32) : Prop :=
  (∃ f b, p.toInt = ((f : Nat) : Int) ∧ q.toInt = ((b : Nat) : Int) ∧ f < pN (sM s) ∧ b < mRw 1 (sM s) f ∧ ∃ K, IsK 1 (sM s) K ∧ r.toInt = ((mTab 1 (sM s) K f b : Nat) : Int)) ∨
  ((¬ ∃ f b, p.toInt = ((f : Nat) : Int) ∧ q.toInt = ((b : Nat) : Int) ∧ f < pN (sM s) ∧ b < mRw 1 (sM s) f) ∧ r.toInt = -1)
/-- in truth strict, by the table that is known -/
theorem mStrictF_iff {u : Nat} {M : PRG} {K f a : Nat} (hK : IsK u M K) : mStrictF u M f a ↔ mStrict u M (mTab u M K) f a := by
  constructor
  · rintro ⟨L, h1, h2⟩; rw [hK.inj h1]; exact h2
  · intro h; exact ⟨K, hK, h⟩
theorem mTab_TMo {u : Nat} {M : PRG} (hu : u < 3) (hP : PV M) (K : Nat) : TMo u M (mTab u M K) := (mTab_mo hu hP K).1
def tX (c a i : Nat) : Nat := if a = i ∨ c ≤ i then 0 else 3
theorem tX_le (c a i : Nat) : tX c a i ≤ 3 := by unfold tX; split <;> omega
theorem tX_is (c a : Nat) : mIs 2 c (tX c a 0) (tX c a 1) (tX c a 2) := by
  have h0 := tX_le c a 0
  have h1 := tX_le c a 1
  have h2 := tX_le c a 2
  refine mIs_of (by rw [mB_2]; omega) (by rw [mB_2]; omega) (by rw [mB_2]; omega) (fun q => if_pos (Or.inr q)) (fun q => if_pos (Or.inr q)) (fun q => if_pos (Or.inr q))
theorem fine_top {M : PRG} {K f a : Nat} (hP : PV M) (hK : IsK 2 M K) (hf : f < pN M) (ha : a < pA M f) : mStrictF 2 M f a ↔ mTab 2 M K f (tX (pA M f) a 0 + mB 2 * tX (pA M f) a 1 + mB 2 * mB 2 * tX (pA M f) a 2) = 0 :=
  (mStrictF_iff hK).trans (mStrict.top (by omega) (by omega) hP (mTab_TMo (by omega) hP K) hf ha)
theorem rough_top {M : PRG} {K f a : Nat} (hP : PV M) (hK : IsK 1 M K) (hf : f < pN M) (ha : a < pA M f) : mStrictF 1 M f a ↔ mTab 1 M K f (topRow 1 (pA M f) a) = 0 :=
  (mStrictF_iff hK).trans (mStrict.top (by omega) (by omega) hP (mTab_TMo (by omega) hP K) hf ha)
theorem rs_all : (List.range 4).all (fun c => (List.range c).all fun a => (nI (2 ^ c - 1) &&& (((1 : Int32) <<< (nI a &&& 31)) ^^^ (-1))) == nI (topRow 1 c a) && decide (topRow 1 c a < 2 ^ c)) = true := by decide +kernel
theorem rs_bits {x y v w z : Int32} {c a : Nat} (hc : c ≤ 3) (ha : a < c) (hx : x.toInt = ((mB 1 ^ c - 1 : Nat) : Int)) (hy : y.toInt = ((a : Nat) : Int)) (e1 : v = (1 : Int32) <<< (y &&& 31)) (e2 : w = v ^^^ (-1)) (e3 : z = x &&& w) : z.toInt = ((topRow 1 c a : Nat) : Int) := by
  have := all_range (all_range rs_all (show c < 4 by omega)) ha
  simp only [Bool.and_eq_true, beq_iff_eq, decide_eq_true_eq] at this
  rw [mB_1] at hx
  have h2 : 2 ^ c < 2 ^ 31 := Nat.pow_lt_pow_right (by decide) (by omega)
  rw [e3, e2, e1, i_ofN hx, i_ofN hy, this.1, nI_toInt (by omega)]
theorem top_lt {M : PRG} {f a : Nat} (hP : PV M) (hf : f < pN M) (ha : a < pA M f) : topRow 1 (pA M f) a < mRw 1 M f := by
  have := all_range (all_range rs_all (show pA M f < 4 by have := (hP.2.2 f hf).1; omega)) ha
  simp only [Bool.and_eq_true, beq_iff_eq, decide_eq_true_eq] at this
  have h2 := this.2
  show topRow 1 (pA M f) a < mB 1 ^ pA M f
  rw [mB_1]; exact h2
/-- an argument by a row of the reference -/
def dg9 (row a : Nat) : Nat := if a = 0 then row / 25 else if a = 1 then row / 5 % 5 else row % 5
theorem dg9_dig {u c row a : Nat} (h : mIs u c (row / 25) (row / 5 % 5) (row % 5)) (ha : a < 3) : mDig u (mIx u row) a = dg9 row a := by
  obtain ⟨h1, h2, h3, -⟩ := mIs_lt h
  obtain ⟨d0, d1, d2⟩ := dig3 h1 h2 h3
  rcases (show a = 0 ∨ a = 1 ∨ a = 2 by omega) with q | q | q <;> subst q
  · exact d0
  · exact d1
  · exact d2
theorem truly_fin {M : PRG} {K f a : Nat} (hP : PV M) (hK : IsK 0 M K) (hf : f < pN M) (ha : a < pA M f) : (∀ q, q < 125 → mIs 0 (pA M f) (q / 25) (q / 5 % 5) (q % 5) → dg9 q a = 4 → mTab 0 M K f (mIx 0 q) = 4) ↔ mStrictF 0 M f a := by
  have h3 := (hP.2.2 f hf).1
  rw [mStrictF_iff hK]
  constructor
  · intro h row hr hd
    obtain ⟨q, q1, q2, q3⟩ := mIx_ex (by omega) h3 hr
    have := h q q1 q2 (by rw [← dg9_dig q2 (by omega), q3]; exact hd)
    rw [q3] at this; exact this
  · intro h q q1 q2 q3
    exact h _ (mIx_in h3 q2) (by rw [dg9_dig q2 (by omega)]; exact q3)
theorem or_bq {x v w y j : Int32} {S : Nat → Prop} {i : Nat} (hx : x.toInt = ((mBits S i : Nat) : Int)) (hi : i < 3) (hj : j.toInt = ((i : Nat) : Int)) (hv : Bq v (S i)) (e1 : w = v <<< (j &&& 31)) (e2 : y = x ||| w) : y.toInt = ((mBits S (i + 1) : Nat) : Int) := by
  rcases hv with ⟨rfl, h⟩ | ⟨rfl, h⟩
  · rw [mBits_t h]; exact or_bit hx (mBits_lt S i) hi hj (by rw [e2, e1])
  · rw [mBits_f h]
    have e : w = 0 := by
      rw [e1, i_ofN hj]
      rcases (show i = 0 ∨ i = 1 ∨ i = 2 by omega) with q | q | q <;> subst q <;> decide
    rw [e2, e, Int32.or_zero]; exact hx
/-- how many bits -/
def pop (b : Nat) : Nat := b % 2 + b / 2 % 2 + b / 4 % 2
def wU (w : Nat) : Nat := if w = 0 then 1 else if w = 1 then 2 else 0
def AnStrict (s : ST) (p w : Int32) (r : Int32) : Prop :=
  (∃ f k, p.toInt = ((f : Nat) : Int) ∧ w.toInt = ((k : Nat) : Int) ∧ f < pN (sM s) ∧ k < 3 ∧ r.toInt = ((mBits (mStrictF (wU k) (sM s) f) (pA (sM s) f) : Nat) : Int)) ∨
  (¬ (0 ≤ p.toInt ∧ p.toInt < ((pN (sM s) : Nat) : Int) ∧ 0 ≤ w.toInt ∧ w.toInt ≤ 2) ∧ r.toInt = -1)
noncomputable def ePart (M : PRG) (w k : Nat) : Nat := if 10 ≤ k then (if w = 3 then pA M (k - 10) else pop (mBits (mStrictF (wU w) M (k - 10)) (pA M (k - 10)))) else 0
def AnEarly (s : ST) (p w : Int32) (r : Int32) : Prop :=
  (∃ f k, p.toInt = ((f : Nat) : Int) ∧ w.toInt = ((k : Nat) : Int) ∧ f < pN (sM s) ∧ k < 4 ∧ r.toInt = ((sm (fun j => ePart (sM s) k (pB (sM s) f j)) (pL (sM s) f) : Nat) : Int)) ∨
  (¬ (0 ≤ p.toInt ∧ p.toInt < ((pN (sM s) : Nat) : Int) ∧ 0 ≤ w.toInt ∧ w.toInt ≤ 3) ∧ r.toInt = -1)
theorem pop_le (b : Nat) : pop b ≤ 3 := by unfold pop; omega
theorem ePart_le {M : PRG} {w k : Nat} (hP : PV M) (hk : k - 10 < pN M) : ePart M w k ≤ 3 := by
  unfold ePart
  split
  · split
    · exact (hP.2.2 _ hk).1
    · exact pop_le _
  · omega
abbrev rm_X9_value : Room := { frames := 7, cells := 0, slots := 0, locals := 179 }
set_option maxHeartbeats 4000000 in
set_option maxRecDepth 100000 in
theorem c_X9_value (l : Launch) {g : GE} {h : Nat → va_E} {r : Nat} {st0 : ST} (R : RefA g h r st0) (p0 : Int32) (p1 : Int32) (p2 : Int32) (p3 : Int32) : MI l yX9_value wsX9_value rm_X9_value [.ref (g.2.2.1 r), .int p0, .int p1, .int p2, .int p3] g h (fun r_ h2 => (∀ k, ¬ (r ≤ k ∧ k < r + 14) → h2 k = h k) ∧ RefA g h2 r st0 ∧ AnTab 0 st0 p0 p1 p2 p3 r_) := by
  refine Met.ofW (cc := cX9_value) (maxL := 5) (ret := (some .int)) (by decide) rfl ?_
  intro p e s m args below meth c s₁ B hml hv
  obtain ⟨rfl, w0⟩ := hv
  have hx := B.exec
  have hb := B.bytes
  have hr := B.returns
  have hts := atoms_spec (ws := wsX9_value) B.pre
  have hown : s.vm.findClass RX9 = some m.cls := findClass_of_methodNamed B.named
  have hlocks := B.notSynchronized
  have w := w0.start
  clear w0
  have hl := lv_entry ([.ref (g.2.2.1 r), .int p0, .int p1, .int p2, .int p3]) (n := 5) (Nat.le_of_ble_eq_true rfl)
  rw [lg_entry_eq]
  generalize (lg_sl ([.ref (g.2.2.1 r), .int p0, .int p1, .int p2, .int p3]) ++ List.replicate (5 - (lg_sl ([.ref (g.2.2.1 r), .int p0, .int p1, .int p2, .int p3])).length) Slot.unset).toArray = ls at hl ⊢
  have hl : lv_has ls 5 [(0, .ref (g.2.2.1 r)), (1, .int p0), (2, .int p1), (3, .int p2), (4, .int p3)] := hl
  obtain ⟨nm, kn, um, sv, sz, ra, rm, ga, gk, gl, gB, gt, gn, gr, gp, gh, gv, gs, gx, gf, D, hRS⟩ := R
  obtain ⟨hSV, S, hkn, hum, hUs, hsv, hVs, hsz, hgx⟩ := hRS
  have hSV0 := hSV
  obtain ⟨hP, hu8, hUP, hv2, hVP, hl200, hlt⟩ := hSV
  have hn4 := hP.2.1
  have hfr : ∀ k_, ¬ (r ≤ k_ ∧ k_ < r + 14) → h k_ = h k_ := fun _ _ => rfl
  refine lv_aload_n hx hb dX9_value_0 rfl (lv_at hl 0 rfl) ?_
  refine lv_iload_n hx hb dX9_value_1 rfl (lv_at hl 1 rfl) ?_
  refine r_callI w (va_runV (As := [.int p0]) (rest := []) ⟨hx, hb, hml, hown, hts⟩ (c_X9_isFunction l D S.1 p0) (cwV 1 hts gX9_value_X9_isFunction rfl rfl rfl (by decide +kernel) ⟨Nat.le_of_ble_eq_true rfl, Nat.le_of_ble_eq_true rfl⟩) (r_preV w (by have := D.1; omega) D.c0 rfl) rfl rfl hl.1 rfl (lv_room (Nat.le_of_ble_eq_true rfl)) dX9_value_2 ⟨Nat.zero_le _, Nat.zero_le _⟩) (fun r2 h1 H locs hp w => ?_)
  obtain ⟨eh_, qq3⟩ := hp
  have eh_ := eh_.symm
  subst eh_
  have b4 : Bq r2 (0 ≤ p0.toInt ∧ p0.toInt < ((pN (sM st0)) : Int)) := qq3.iff (by rw [((rfl : p0.toInt = p0.toInt) : p0.toInt = _)])
  refine lv_if_eq (tgt := 21) hx hb dX9_value_5 (by decide) (fun c5 => ?_) (fun c5 => ?_)
  · have c5 := b4.eq c5
    refine lv_iconst (v := (-1)) hx hb dX9_value_21 (by decide) ?_
    refine r_iret (v := (-1)) hx hb hr hlocks w dX9_value_22 ?_
    exact ⟨hfr, ⟨_, _, _, _, _, _, _, _, _, _, _, _, _, _, _, _, _, _, _, _, D, hSV0, S, hkn, hum, hUs, hsv, hVs, hsz, hgx⟩, Or.inr ⟨by rintro ⟨f_, a_, b_, c_, e1_, e2_, e3_, e4_, e5_, e6_⟩; omega, rfl⟩⟩
  · have c5 := b4.ne c5
    obtain ⟨f, hf0⟩ : ∃ q_ : Nat, p0.toInt = (q_ : Int) := ⟨p0.toInt.toNat, by omega⟩
    have hf : f < pN (sM st0) := by omega
    obtain ⟨ha3, hk3, hl1, hl24, hpl, hd0⟩ := hP.2.2 f hf
    refine lv_aload_n hx hb dX9_value_8 rfl (lv_at hl 0 rfl) ?_
    refine lv_iload_n hx hb dX9_value_9 rfl (lv_at hl 1 rfl) ?_
    refine lv_iload_n hx hb dX9_value_10 rfl (lv_at hl 2 rfl) ?_
    refine lv_iload_n hx hb dX9_value_11 rfl (lv_at hl 3 rfl) ?_
    refine lv_iload hx hb dX9_value_12 (lv_at hl 4 rfl) ?_
    refine lv_iconst (v := 5) hx hb dX9_value_14 (by decide) ?_
    refine r_callI w (va_runV (As := [.int p0, .int p1, .int p2, .int p3, .int 5]) (rest := []) ⟨hx, hb, hml, hown, hts⟩ (c_X9_isRow l D S hP (u := 0) (by omega) p0 p1 p2 p3 5 hf0 (by omega) (by decide : (5 : Int32).toInt = ((5 : Nat) : Int))) (cwV 5 hts gX9_value_X9_isRow rfl rfl rfl (by decide +kernel) ⟨Nat.le_of_ble_eq_true rfl, Nat.le_of_ble_eq_true rfl⟩) (r_preV w (by have := D.1; omega) D.c0 rfl) rfl rfl hl.1 rfl (lv_room (Nat.le_of_ble_eq_true rfl)) dX9_value_15 ⟨Nat.zero_le _, Nat.zero_le _⟩) (fun r7 h6 H locs hp w => ?_)
    obtain ⟨eh_, qq8⟩ := hp
    have eh_ := eh_.symm
    subst eh_
    refine lv_if_ne (tgt := 23) hx hb dX9_value_18 (by decide) (fun c9 => ?_) (fun c9 => ?_)
    · have c9 := qq8.ne c9
      obtain ⟨a_, ha0⟩ : ∃ q_ : Nat, p1.toInt = (q_ : Int) := ⟨p1.toInt.toNat, by omega⟩
      obtain ⟨b_, hb0⟩ : ∃ q_ : Nat, p2.toInt = (q_ : Int) := ⟨p2.toInt.toNat, by omega⟩
      obtain ⟨c_, hc0⟩ : ∃ q_ : Nat, p3.toInt = (q_ : Int) := ⟨p3.toInt.toNat, by omega⟩
      have hI : mIs 0 (pA (sM st0) f) a_ b_ c_ := by
        have q_ := c9.2.2.2
        rw [show p1.toInt.toNat = a_ by omega, show p2.toInt.toNat = b_ by omega, show p3.toInt.toNat = c_ by omega] at q_
        exact q_
      obtain ⟨hi1_, hi2_, hi3_, -⟩ := mIs_lt hI
      have hB5_ := mB_le 0
      refine lv_aload_n hx hb dX9_value_23 rfl (lv_at hl 0 rfl) ?_
      refine r_callV w (va_runV (As := []) (rest := []) ⟨hx, hb, hml, hown, hts⟩ (c_X9_setAll l D S hP hkn) (cwV 0 hts gX9_value_X9_setAll rfl rfl rfl (by decide +kernel) ⟨Nat.le_of_ble_eq_true rfl, Nat.le_of_ble_eq_true rfl⟩) (r_preV w (by have := D.1; omega) D.c0 rfl) rfl rfl hl.1 rfl (lv_room (Nat.le_of_ble_eq_true rfl)) dX9_value_24 ⟨Nat.zero_le _, Nat.zero_le _⟩) (fun h10 H locs hp w => ?_)
      obtain ⟨hfk11, gtk11, gnk11, gpk11, grk11, D, hAll⟩ := hp
      have hfr : ∀ k_, ¬ (r ≤ k_ ∧ k_ < r + 14) → h10 k_ = h k_ := fun k_ hk_ => (hfk11 k_ (by omega))
      obtain ⟨K0, hK0, hT0, hg0⟩ := hAll 0 (by omega)
      obtain ⟨K1, hK1, hT1, hg1⟩ := hAll 1 (by omega)
      obtain ⟨K2, hK2, hT2, hg2⟩ := hAll 2 (by omega)
      refine lv_aload_n hx hb dX9_value_27 rfl (lv_at hl 0 rfl) ?_
      refine lv_iconst (v := 0) hx hb dX9_value_28 (by decide) ?_
      refine lv_iload_n hx hb dX9_value_29 rfl (lv_at hl 1 rfl) ?_
      refine lv_iload_n hx hb dX9_value_30 rfl (lv_at hl 2 rfl) ?_
      refine lv_iload_n hx hb dX9_value_31 rfl (lv_at hl 3 rfl) ?_
      refine lv_iload hx hb dX9_value_32 (lv_at hl 4 rfl) ?_
      refine r_callI w (va_runS (As := [.int p1, .int p2, .int p3]) (rest := [.int p0, .int 0, .ref (g.2.2.1 r)]) ⟨hx, hb, hml, hown, hts⟩ (c_X9_rowOf l p1 p2 p3 ha0 hb0 hc0 (by omega) (by omega) (by omega)) (va_cwS 3 hts gX9_value_X9_rowOf rfl rfl rfl (by decide +kernel) ⟨Nat.le_of_ble_eq_true rfl, Nat.le_of_ble_eq_true rfl⟩) (r_preS w) rfl rfl hl.1 rfl (lv_room (Nat.le_of_ble_eq_true rfl)) dX9_value_34 ⟨Nat.zero_le _, Nat.zero_le _⟩) (fun r13 h12 H locs hp w => ?_)
      obtain ⟨eh_, qq14⟩ := hp
      have eh_ := eh_.symm
      subst eh_
      refine r_callI w (va_runV (As := [.int 0, .int p0, .int r13]) (rest := []) ⟨hx, hb, hml, hown, hts⟩ (c_X9_tableAt l D (u := 0) (by omega) 0 p0 r13 (by decide : (0 : Int32).toInt = ((0 : Nat) : Int)) hf0 qq14 (by omega) (by omega)) (cwV 3 hts gX9_value_X9_tableAt rfl rfl rfl (by decide +kernel) ⟨Nat.le_of_ble_eq_true rfl, Nat.le_of_ble_eq_true rfl⟩) (r_preV w (by have := D.1; omega) D.c0 rfl) rfl rfl hl.1 rfl (lv_room (Nat.le_of_ble_eq_true rfl)) dX9_value_37 ⟨Nat.zero_le _, Nat.zero_le _⟩) (fun r16 h15 H locs hp w => ?_)
      obtain ⟨eh_, qq17⟩ := hp
      have eh_ := eh_.symm
      subst eh_
      subst qq17
      refine r_iret (v := gtk11 (500 * 0 + 125 * f + (25 * a_ + 5 * b_ + c_))) hx hb hr hlocks w dX9_value_40 ?_
      exact ⟨hfr, ⟨_, _, _, _, _, _, _, _, _, _, _, _, _, _, _, _, _, _, _, _, D, hSV0, S, (Or.inr ⟨rfl, hAll⟩), hum, hUs, hsv, hVs, hsz, hgx⟩, Or.inl ⟨f, a_, b_, c_, hf0, ha0, hb0, hc0, hf, hI, K0, hK0, (hT0.at hf hI)⟩⟩
    · have c9 := qq8.eq c9
      refine lv_iconst (v := (-1)) hx hb dX9_value_21 (by decide) ?_
      refine r_iret (v := (-1)) hx hb hr hlocks w dX9_value_22 ?_
      exact ⟨hfr, ⟨_, _, _, _, _, _, _, _, _, _, _, _, _, _, _, _, _, _, _, _, D, hSV0, S, hkn, hum, hUs, hsv, hVs, hsz, hgx⟩, Or.inr ⟨by rintro ⟨f_, a_, b_, c_, e1_, e2_, e3_, e4_, e5_, e6_⟩; first | omega | (obtain rfl : f_ = f := (by omega); exact c9 ⟨by omega, by omega, by omega, by rw [show p1.toInt.toNat = a_ by omega, show p2.toInt.toNat = b_ by omega, show p3.toInt.toNat = c_ by omega]; exact e6_⟩), rfl⟩⟩

abbrev rm_X9_fine : Room := { frames := 7, cells := 0, slots := 0, locals := 179 }
set_option maxHeartbeats 4000000 in
set_option maxRecDepth 100000 in
theorem c_X9_fine (l : Launch) {g : GE} {h : Nat → va_E} {r : Nat} {st0 : ST} (R : RefA g h r st0) (p0 : Int32) (p1 : Int32) (p2 : Int32) (p3 : Int32) : MI l yX9_fine wsX9_fine rm_X9_fine [.ref (g.2.2.1 r), .int p0, .int p1, .int p2, .int p3] g h (fun r_ h2 => (∀ k, ¬ (r ≤ k ∧ k < r + 14) → h2 k = h k) ∧ RefA g h2 r st0 ∧ AnTab 2 st0 p0 p1 p2 p3 r_) := by
  refine Met.ofW (cc := cX9_fine) (maxL := 5) (ret := (some .int)) (by decide) rfl ?_
  intro p e s m args below meth c s₁ B hml hv
  obtain ⟨rfl, w0⟩ := hv
  have hx := B.exec
  have hb := B.bytes
  have hr := B.returns
  have hts := atoms_spec (ws := wsX9_fine) B.pre
  have hown : s.vm.findClass RX9 = some m.cls := findClass_of_methodNamed B.named
  have hlocks := B.notSynchronized
  have w := w0.start
  clear w0
  have hl := lv_entry ([.ref (g.2.2.1 r), .int p0, .int p1, .int p2, .int p3]) (n := 5) (Nat.le_of_ble_eq_true rfl)
  rw [lg_entry_eq]
  generalize (lg_sl ([.ref (g.2.2.1 r), .int p0, .int p1, .int p2, .int p3]) ++ List.replicate (5 - (lg_sl ([.ref (g.2.2.1 r), .int p0, .int p1, .int p2, .int p3])).length) Slot.unset).toArray = ls at hl ⊢
  have hl : lv_has ls 5 [(0, .ref (g.2.2.1 r)), (1, .int p0), (2, .int p1), (3, .int p2), (4, .int p3)] := hl
  obtain ⟨nm, kn, um, sv, sz, ra, rm, ga, gk, gl, gB, gt, gn, gr, gp, gh, gv, gs, gx, gf, D, hRS⟩ := R
  obtain ⟨hSV, S, hkn, hum, hUs, hsv, hVs, hsz, hgx⟩ := hRS
  have hSV0 := hSV
  obtain ⟨hP, hu8, hUP, hv2, hVP, hl200, hlt⟩ := hSV
  have hn4 := hP.2.1
  have hfr : ∀ k_, ¬ (r ≤ k_ ∧ k_ < r + 14) → h k_ = h k_ := fun _ _ => rfl
  refine lv_aload_n hx hb dX9_fine_0 rfl (lv_at hl 0 rfl) ?_
  refine lv_iload_n hx hb dX9_fine_1 rfl (lv_at hl 1 rfl) ?_
  refine r_callI w (va_runV (As := [.int p0]) (rest := []) ⟨hx, hb, hml, hown, hts⟩ (c_X9_isFunction l D S.1 p0) (cwV 1 hts gX9_fine_X9_isFunction rfl rfl rfl (by decide +kernel) ⟨Nat.le_of_ble_eq_true rfl, Nat.le_of_ble_eq_true rfl⟩) (r_preV w (by have := D.1; omega) D.c0 rfl) rfl rfl hl.1 rfl (lv_room (Nat.le_of_ble_eq_true rfl)) dX9_fine_2 ⟨Nat.zero_le _, Nat.zero_le _⟩) (fun r2 h1 H locs hp w => ?_)
  obtain ⟨eh_, qq3⟩ := hp
  have eh_ := eh_.symm
  subst eh_
  have b4 : Bq r2 (0 ≤ p0.toInt ∧ p0.toInt < ((pN (sM st0)) : Int)) := qq3.iff (by rw [((rfl : p0.toInt = p0.toInt) : p0.toInt = _)])
  refine lv_if_eq (tgt := 21) hx hb dX9_fine_5 (by decide) (fun c5 => ?_) (fun c5 => ?_)
  · have c5 := b4.eq c5
    refine lv_iconst (v := (-1)) hx hb dX9_fine_21 (by decide) ?_
    refine r_iret (v := (-1)) hx hb hr hlocks w dX9_fine_22 ?_
    exact ⟨hfr, ⟨_, _, _, _, _, _, _, _, _, _, _, _, _, _, _, _, _, _, _, _, D, hSV0, S, hkn, hum, hUs, hsv, hVs, hsz, hgx⟩, Or.inr ⟨by rintro ⟨f_, a_, b_, c_, e1_, e2_, e3_, e4_, e5_, e6_⟩; omega, rfl⟩⟩
  · have c5 := b4.ne c5
    obtain ⟨f, hf0⟩ : ∃ q_ : Nat, p0.toInt = (q_ : Int) := ⟨p0.toInt.toNat, by omega⟩
    have hf : f < pN (sM st0) := by omega
    obtain ⟨ha3, hk3, hl1, hl24, hpl, hd0⟩ := hP.2.2 f hf
    refine lv_aload_n hx hb dX9_fine_8 rfl (lv_at hl 0 rfl) ?_
    refine lv_iload_n hx hb dX9_fine_9 rfl (lv_at hl 1 rfl) ?_
    refine lv_iload_n hx hb dX9_fine_10 rfl (lv_at hl 2 rfl) ?_
    refine lv_iload_n hx hb dX9_fine_11 rfl (lv_at hl 3 rfl) ?_
    refine lv_iload hx hb dX9_fine_12 (lv_at hl 4 rfl) ?_
    refine lv_iconst (v := 4) hx hb dX9_fine_14 (by decide) ?_
    refine r_callI w (va_runV (As := [.int p0, .int p1, .int p2, .int p3, .int 4]) (rest := []) ⟨hx, hb, hml, hown, hts⟩ (c_X9_isRow l D S hP (u := 2) (by omega) p0 p1 p2 p3 4 hf0 (by omega) (by decide : (4 : Int32).toInt = ((4 : Nat) : Int))) (cwV 5 hts gX9_fine_X9_isRow rfl rfl rfl (by decide +kernel) ⟨Nat.le_of_ble_eq_true rfl, Nat.le_of_ble_eq_true rfl⟩) (r_preV w (by have := D.1; omega) D.c0 rfl) rfl rfl hl.1 rfl (lv_room (Nat.le_of_ble_eq_true rfl)) dX9_fine_15 ⟨Nat.zero_le _, Nat.zero_le _⟩) (fun r7 h6 H locs hp w => ?_)
    obtain ⟨eh_, qq8⟩ := hp
    have eh_ := eh_.symm
    subst eh_
    refine lv_if_ne (tgt := 23) hx hb dX9_fine_18 (by decide) (fun c9 => ?_) (fun c9 => ?_)
    · have c9 := qq8.ne c9
      obtain ⟨a_, ha0⟩ : ∃ q_ : Nat, p1.toInt = (q_ : Int) := ⟨p1.toInt.toNat, by omega⟩
      obtain ⟨b_, hb0⟩ : ∃ q_ : Nat, p2.toInt = (q_ : Int) := ⟨p2.toInt.toNat, by omega⟩
      obtain ⟨c_, hc0⟩ : ∃ q_ : Nat, p3.toInt = (q_ : Int) := ⟨p3.toInt.toNat, by omega⟩
      have hI : mIs 2 (pA (sM st0) f) a_ b_ c_ := by
        have q_ := c9.2.2.2
        rw [show p1.toInt.toNat = a_ by omega, show p2.toInt.toNat = b_ by omega, show p3.toInt.toNat = c_ by omega] at q_
        exact q_
      obtain ⟨hi1_, hi2_, hi3_, -⟩ := mIs_lt hI
      have hB5_ := mB_le 2
      refine lv_aload_n hx hb dX9_fine_23 rfl (lv_at hl 0 rfl) ?_
      refine r_callV w (va_runV (As := []) (rest := []) ⟨hx, hb, hml, hown, hts⟩ (c_X9_setAll l D S hP hkn) (cwV 0 hts gX9_fine_X9_setAll rfl rfl rfl (by decide +kernel) ⟨Nat.le_of_ble_eq_true rfl, Nat.le_of_ble_eq_true rfl⟩) (r_preV w (by have := D.1; omega) D.c0 rfl) rfl rfl hl.1 rfl (lv_room (Nat.le_of_ble_eq_true rfl)) dX9_fine_24 ⟨Nat.zero_le _, Nat.zero_le _⟩) (fun h10 H locs hp w => ?_)
      obtain ⟨hfk11, gtk11, gnk11, gpk11, grk11, D, hAll⟩ := hp
      have hfr : ∀ k_, ¬ (r ≤ k_ ∧ k_ < r + 14) → h10 k_ = h k_ := fun k_ hk_ => (hfk11 k_ (by omega))
      obtain ⟨K0, hK0, hT0, hg0⟩ := hAll 0 (by omega)
      obtain ⟨K1, hK1, hT1, hg1⟩ := hAll 1 (by omega)
      obtain ⟨K2, hK2, hT2, hg2⟩ := hAll 2 (by omega)
      refine lv_aload_n hx hb dX9_fine_27 rfl (lv_at hl 0 rfl) ?_
      refine lv_iconst (v := 2) hx hb dX9_fine_28 (by decide) ?_
      refine lv_iload_n hx hb dX9_fine_29 rfl (lv_at hl 1 rfl) ?_
      refine lv_iload_n hx hb dX9_fine_30 rfl (lv_at hl 2 rfl) ?_
      refine lv_iload_n hx hb dX9_fine_31 rfl (lv_at hl 3 rfl) ?_
      refine lv_iload hx hb dX9_fine_32 (lv_at hl 4 rfl) ?_
      refine r_callI w (va_runS (As := [.int p1, .int p2, .int p3]) (rest := [.int p0, .int 2, .ref (g.2.2.1 r)]) ⟨hx, hb, hml, hown, hts⟩ (c_X9_rowOf l p1 p2 p3 ha0 hb0 hc0 (by omega) (by omega) (by omega)) (va_cwS 3 hts gX9_fine_X9_rowOf rfl rfl rfl (by decide +kernel) ⟨Nat.le_of_ble_eq_true rfl, Nat.le_of_ble_eq_true rfl⟩) (r_preS w) rfl rfl hl.1 rfl (lv_room (Nat.le_of_ble_eq_true rfl)) dX9_fine_34 ⟨Nat.zero_le _, Nat.zero_le _⟩) (fun r13 h12 H locs hp w => ?_)
      obtain ⟨eh_, qq14⟩ := hp
      have eh_ := eh_.symm
      subst eh_
      refine r_callI w (va_runV (As := [.int 2, .int p0, .int r13]) (rest := []) ⟨hx, hb, hml, hown, hts⟩ (c_X9_tableAt l D (u := 2) (by omega) 2 p0 r13 (by decide : (2 : Int32).toInt = ((2 : Nat) : Int)) hf0 qq14 (by omega) (by omega)) (cwV 3 hts gX9_fine_X9_tableAt rfl rfl rfl (by decide +kernel) ⟨Nat.le_of_ble_eq_true rfl, Nat.le_of_ble_eq_true rfl⟩) (r_preV w (by have := D.1; omega) D.c0 rfl) rfl rfl hl.1 rfl (lv_room (Nat.le_of_ble_eq_true rfl)) dX9_fine_37 ⟨Nat.zero_le _, Nat.zero_le _⟩) (fun r16 h15 H locs hp w => ?_)
      obtain ⟨eh_, qq17⟩ := hp
      have eh_ := eh_.symm
      subst eh_
      subst qq17
      refine r_iret (v := gtk11 (500 * 2 + 125 * f + (25 * a_ + 5 * b_ + c_))) hx hb hr hlocks w dX9_fine_40 ?_
      exact ⟨hfr, ⟨_, _, _, _, _, _, _, _, _, _, _, _, _, _, _, _, _, _, _, _, D, hSV0, S, (Or.inr ⟨rfl, hAll⟩), hum, hUs, hsv, hVs, hsz, hgx⟩, Or.inl ⟨f, a_, b_, c_, hf0, ha0, hb0, hc0, hf, hI, K2, hK2, (hT2.at hf hI)⟩⟩
    · have c9 := qq8.eq c9
      refine lv_iconst (v := (-1)) hx hb dX9_fine_21 (by decide) ?_
      refine r_iret (v := (-1)) hx hb hr hlocks w dX9_fine_22 ?_
      exact ⟨hfr, ⟨_, _, _, _, _, _, _, _, _, _, _, _, _, _, _, _, _, _, _, _, D, hSV0, S, hkn, hum, hUs, hsv, hVs, hsz, hgx⟩, Or.inr ⟨by rintro ⟨f_, a_, b_, c_, e1_, e2_, e3_, e4_, e5_, e6_⟩; first | omega | (obtain rfl : f_ = f := (by omega); exact c9 ⟨by omega, by omega, by omega, by rw [show p1.toInt.toNat = a_ by omega, show p2.toInt.toNat = b_ by omega, show p3.toInt.toNat = c_ by omega]; exact e6_⟩), rfl⟩⟩

abbrev rm_X9_roughAt : Room := { frames := 1, cells := 0, slots := 0, locals := 23 }
set_option maxHeartbeats 4000000 in
set_option maxRecDepth 100000 in
theorem c_X9_roughAt (l : Launch) {g : GE} {h : Nat → va_E} {r : Nat} {nm kn um sv sz ra rm : Int32} {ga gk gl gB gt gn gr gp gh gv gs gx gf : Nat → Int32} (D : MdA g h r nm kn um sv sz ra rm ga gk gl gB gt gn gr gp gh gv gs gx gf) {M : PRG} (hP : PV M) {T : Nat → Nat → Nat} (hT : RT 1 M gt T) {f b : Nat} (p0 p1 : Int32) (hp0 : p0.toInt = (f : Int)) (hp1 : p1.toInt = (b : Int)) (hf : f < pN M) (hb8 : b < mRw 1 M f) : MI l yX9_roughAt wsX9_roughAt rm_X9_roughAt [.ref (g.2.2.1 r), .int p0, .int p1] g h (fun r_ h2 => h2 = h ∧ r_.toInt = ((T f b : Nat) : Int)) := by
  refine Met.ofW (cc := cX9_roughAt) (maxL := 3) (ret := (some .int)) (by decide) rfl ?_
  intro p e s m args below meth c s₁ B hml hv
  obtain ⟨rfl, w0⟩ := hv
  have hx := B.exec
  have hb := B.bytes
  have hr := B.returns
  have hts := atoms_spec (ws := wsX9_roughAt) B.pre
  have hown : s.vm.findClass RX9 = some m.cls := findClass_of_methodNamed B.named
  have hlocks := B.notSynchronized
  have w := w0.start
  clear w0
  have hl := lv_entry ([.ref (g.2.2.1 r), .int p0, .int p1]) (n := 3) (Nat.le_of_ble_eq_true rfl)
  rw [lg_entry_eq]
  generalize (lg_sl ([.ref (g.2.2.1 r), .int p0, .int p1]) ++ List.replicate (3 - (lg_sl ([.ref (g.2.2.1 r), .int p0, .int p1])).length) Slot.unset).toArray = ls at hl ⊢
  have hl : lv_has ls 3 [(0, .ref (g.2.2.1 r)), (1, .int p0), (2, .int p1)] := hl
  have hn4 := hP.2.1
  have h3_ := (hP.2.2 f hf).1
  have h2c_ := pow2_c h3_
  have hbb_ : b < mB 1 ^ pA M f := hb8
  have h8_ : b < 8 := by omega
  refine lv_aload_n hx hb dX9_roughAt_0 rfl (lv_at hl 0 rfl) ?_
  refine lv_iconst (v := 1) hx hb dX9_roughAt_1 (by decide) ?_
  refine lv_iload_n hx hb dX9_roughAt_2 rfl (lv_at hl 1 rfl) ?_
  refine lv_iload_n hx hb dX9_roughAt_3 rfl (lv_at hl 2 rfl) ?_
  refine lv_iconst (v := 1) hx hb dX9_roughAt_4 (by decide) ?_
  refine lv_iand hx hb dX9_roughAt_5 ?_
  refine lv_topi (fun y1 ey1 => ?_)
  have ty1 : y1.toInt = ((b % 2 : Nat) : Int) := bit_0 hp1 h8_ ey1
  refine lv_iload_n hx hb dX9_roughAt_6 rfl (lv_at hl 2 rfl) ?_
  refine lv_iconst (v := 1) hx hb dX9_roughAt_7 (by decide) ?_
  refine lv_ishr hx hb dX9_roughAt_8 ?_
  refine lv_topi (fun y2 ey2 => ?_)
  refine lv_iconst (v := 1) hx hb dX9_roughAt_9 (by decide) ?_
  refine lv_iand hx hb dX9_roughAt_10 ?_
  refine lv_topi (fun y3 ey3 => ?_)
  have ty3 : y3.toInt = ((b / 2 % 2 : Nat) : Int) := bit_1 hp1 h8_ ey2 ey3
  refine lv_iload_n hx hb dX9_roughAt_11 rfl (lv_at hl 2 rfl) ?_
  refine lv_iconst (v := 2) hx hb dX9_roughAt_12 (by decide) ?_
  refine lv_ishr hx hb dX9_roughAt_13 ?_
  refine lv_topi (fun y4 ey4 => ?_)
  refine lv_iconst (v := 1) hx hb dX9_roughAt_14 (by decide) ?_
  refine lv_iand hx hb dX9_roughAt_15 ?_
  refine lv_topi (fun y5 ey5 => ?_)
  have ty5 : y5.toInt = ((b / 4 % 2 : Nat) : Int) := bit_2 hp1 h8_ ey4 ey5
  refine r_callI w (va_runS (As := [.int y1, .int y3, .int y5]) (rest := [.int p0, .int 1, .ref (g.2.2.1 r)]) ⟨hx, hb, hml, hown, hts⟩ (c_X9_rowOf l y1 y3 y5 ty1 ty3 ty5 (by omega) (by omega) (by omega)) (va_cwS 3 hts gX9_roughAt_X9_rowOf rfl rfl rfl (by decide +kernel) ⟨Nat.le_of_ble_eq_true rfl, Nat.le_of_ble_eq_true rfl⟩) (r_preS w) rfl rfl hl.1 rfl (lv_room (Nat.le_of_ble_eq_true rfl)) dX9_roughAt_16 ⟨Nat.zero_le _, Nat.zero_le _⟩) (fun r7 h6 H locs hp w => ?_)
  obtain ⟨eh_, qq8⟩ := hp
  have eh_ := eh_.symm
  subst eh_
  refine r_callI w (va_runV (As := [.int 1, .int p0, .int r7]) (rest := []) ⟨hx, hb, hml, hown, hts⟩ (c_X9_tableAt l D (u := 1) (by omega) 1 p0 r7 (by decide : (1 : Int32).toInt = ((1 : Nat) : Int)) hp0 qq8 (by omega) (by omega)) (cwV 3 hts gX9_roughAt_X9_tableAt rfl rfl rfl (by decide +kernel) ⟨Nat.le_of_ble_eq_true rfl, Nat.le_of_ble_eq_true rfl⟩) (r_preV w (by have := D.1; omega) D.c0 rfl) rfl rfl hl.1 rfl (lv_room (Nat.le_of_ble_eq_true rfl)) dX9_roughAt_19 ⟨Nat.zero_le _, Nat.zero_le _⟩) (fun r10 h9 H locs hp w => ?_)
  obtain ⟨eh_, qq11⟩ := hp
  have eh_ := eh_.symm
  subst eh_
  subst qq11
  refine r_iret (v := gt (500 * 1 + 125 * f + (25 * (b % 2) + 5 * (b / 2 % 2) + (b / 4 % 2)))) hx hb hr hlocks w dX9_roughAt_22 ?_
  exact ⟨rfl, (rough_at hT hP hf hb8)⟩

theorem inX9_rowsOf_X9 : ∀ w ∈ wsX90, w ∈ wsX9_rowsOf := by decide +kernel
abbrev rm_X9_rowsOf : Room := { frames := 0, cells := 0, slots := 0, locals := 0 }
set_option maxHeartbeats 4000000 in
set_option maxRecDepth 100000 in
theorem c_X9_rowsOf (l : Launch) {g : GE} {h : Nat → va_E} {r : Nat} {nm kn um sv sz ra rm : Int32} {ga gk gl gB gt gn gr gp gh gv gs gx gf : Nat → Int32} (D : MdA g h r nm kn um sv sz ra rm ga gk gl gB gt gn gr gp gh gv gs gx gf) {M : PRG} (S : RS M nm ga gk gl gB) (hP : PV M) {f : Nat} (p0 : Int32) (hp0 : p0.toInt = (f : Int)) (hf : f < pN M) : MI l yX9_rowsOf wsX9_rowsOf rm_X9_rowsOf [.ref (g.2.2.1 r), .int p0] g h (fun r_ h2 => h2 = h ∧ r_.toInt = ((mRw 1 M f : Nat) : Int)) := by
  refine Met.ofW (cc := cX9_rowsOf) (maxL := 2) (ret := (some .int)) (by decide) rfl ?_
  intro p e s m args below meth c s₁ B hml hv
  obtain ⟨rfl, w0⟩ := hv
  have hx := B.exec
  have hb := B.bytes
  have hr := B.returns
  have hts := atoms_spec (ws := wsX9_rowsOf) B.pre
  have hown : s.vm.findClass RX9 = some m.cls := findClass_of_methodNamed B.named
  have hlocks := B.notSynchronized
  have w := w0.start
  clear w0
  have hl := lv_entry ([.ref (g.2.2.1 r), .int p0]) (n := 2) (Nat.le_of_ble_eq_true rfl)
  rw [lg_entry_eq]
  generalize (lg_sl ([.ref (g.2.2.1 r), .int p0]) ++ List.replicate (2 - (lg_sl ([.ref (g.2.2.1 r), .int p0])).length) Slot.unset).toArray = ls at hl ⊢
  have hl : lv_has ls 2 [(0, .ref (g.2.2.1 r)), (1, .int p0)] := hl
  have hn4 := hP.2.1
  have h3_ := (hP.2.2 f hf).1
  refine lv_iconst (v := 1) hx hb dX9_rowsOf_0 (by decide) ?_
  refine lv_aload_n hx hb dX9_rowsOf_1 rfl (lv_at hl 0 rfl) ?_
  refine r_get (C := RX9) (T := TX9) (N := 20) (ci := 7) hx hb hts inX9_rowsOf_X9 hown w (by have := D.1; omega) D.c0 rfl 1 (by decide) (hts (Cond.fieldLink RX9 7 "EarlyValuesModel" "argsOf" "[I") (List.mem_of_getElem? (i := 1) (by decide +kernel))) rfl rfl dX9_rowsOf_2 ?_
  refine lv_iload_n hx hb dX9_rowsOf_5 rfl (lv_at hl 1 rfl) ?_
  refine r_iald (j := f) hx hb w (by have := D.1; omega) D.c1 hp0 (by omega) dX9_rowsOf_6 ?_
  refine lv_ishl hx hb dX9_rowsOf_7 ?_
  refine lv_topi (fun y1 ey1 => ?_)
  have ty1 : y1.toInt = ((mB 1 ^ pA M f : Nat) : Int) := shl_1 (S.2.1 f (by omega)) h3_ ey1
  refine r_iret (v := y1) hx hb hr hlocks w dX9_rowsOf_8 ?_
  exact ⟨rfl, ty1⟩

abbrev rm_X9_rough : Room := { frames := 7, cells := 0, slots := 0, locals := 179 }
set_option maxHeartbeats 4000000 in
set_option maxRecDepth 100000 in
theorem c_X9_rough (l : Launch) {g : GE} {h : Nat → va_E} {r : Nat} {st0 : ST} (R : RefA g h r st0) (p0 : Int32) (p1 : Int32) : MI l yX9_rough wsX9_rough rm_X9_rough [.ref (g.2.2.1 r), .int p0, .int p1] g h (fun r_ h2 => (∀ k, ¬ (r ≤ k ∧ k < r + 14) → h2 k = h k) ∧ RefA g h2 r st0 ∧ AnRough st0 p0 p1 r_) := by
  refine Met.ofW (cc := cX9_rough) (maxL := 3) (ret := (some .int)) (by decide) rfl ?_
  intro p e s m args below meth c s₁ B hml hv
  obtain ⟨rfl, w0⟩ := hv
  have hx := B.exec
  have hb := B.bytes
  have hr := B.returns
  have hts := atoms_spec (ws := wsX9_rough) B.pre
  have hown : s.vm.findClass RX9 = some m.cls := findClass_of_methodNamed B.named
  have hlocks := B.notSynchronized
  have w := w0.start
  clear w0
  have hl := lv_entry ([.ref (g.2.2.1 r), .int p0, .int p1]) (n := 3) (Nat.le_of_ble_eq_true rfl)
  rw [lg_entry_eq]
  generalize (lg_sl ([.ref (g.2.2.1 r), .int p0, .int p1]) ++ List.replicate (3 - (lg_sl ([.ref (g.2.2.1 r), .int p0, .int p1])).length) Slot.unset).toArray = ls at hl ⊢
  have hl : lv_has ls 3 [(0, .ref (g.2.2.1 r)), (1, .int p0), (2, .int p1)] := hl
  obtain ⟨nm, kn, um, sv, sz, ra, rm, ga, gk, gl, gB, gt, gn, gr, gp, gh, gv, gs, gx, gf, D, hRS⟩ := R
  obtain ⟨hSV, S, hkn, hum, hUs, hsv, hVs, hsz, hgx⟩ := hRS
  have hSV0 := hSV
  obtain ⟨hP, hu8, hUP, hv2, hVP, hl200, hlt⟩ := hSV
  have hn4 := hP.2.1
  have hfr : ∀ k_, ¬ (r ≤ k_ ∧ k_ < r + 14) → h k_ = h k_ := fun _ _ => rfl
  refine lv_aload_n hx hb dX9_rough_0 rfl (lv_at hl 0 rfl) ?_
  refine lv_iload_n hx hb dX9_rough_1 rfl (lv_at hl 1 rfl) ?_
  refine r_callI w (va_runV (As := [.int p0]) (rest := []) ⟨hx, hb, hml, hown, hts⟩ (c_X9_isFunction l D S.1 p0) (cwV 1 hts gX9_rough_X9_isFunction rfl rfl rfl (by decide +kernel) ⟨Nat.le_of_ble_eq_true rfl, Nat.le_of_ble_eq_true rfl⟩) (r_preV w (by have := D.1; omega) D.c0 rfl) rfl rfl hl.1 rfl (lv_room (Nat.le_of_ble_eq_true rfl)) dX9_rough_2 ⟨Nat.zero_le _, Nat.zero_le _⟩) (fun r2 h1 H locs hp w => ?_)
  obtain ⟨eh_, qq3⟩ := hp
  have eh_ := eh_.symm
  subst eh_
  have b4 : Bq r2 (0 ≤ p0.toInt ∧ p0.toInt < ((pN (sM st0)) : Int)) := qq3.iff (by rw [((rfl : p0.toInt = p0.toInt) : p0.toInt = _)])
  refine lv_if_eq (tgt := 23) hx hb dX9_rough_5 (by decide) (fun c5 => ?_) (fun c5 => ?_)
  · have c5 := b4.eq c5
    refine lv_iconst (v := (-1)) hx hb dX9_rough_23 (by decide) ?_
    refine r_iret (v := (-1)) hx hb hr hlocks w dX9_rough_24 ?_
    exact ⟨hfr, ⟨_, _, _, _, _, _, _, _, _, _, _, _, _, _, _, _, _, _, _, _, D, hSV0, S, hkn, hum, hUs, hsv, hVs, hsz, hgx⟩, Or.inr ⟨by rintro ⟨f_, b_, e1_, e2_, e3_, e4_⟩; first | omega | (obtain rfl : f_ = f := (by omega); omega), rfl⟩⟩
  · have c5 := b4.ne c5
    obtain ⟨f, hf0⟩ : ∃ q_ : Nat, p0.toInt = (q_ : Int) := ⟨p0.toInt.toNat, by omega⟩
    have hf : f < pN (sM st0) := by omega
    obtain ⟨ha3, hk3, hl1, hl24, hpl, hd0⟩ := hP.2.2 f hf
    have h2c_ := pow2_c ha3
    have hrw_ : mRw 1 (sM st0) f = mB 1 ^ pA (sM st0) f := rfl
    refine lv_iload_n hx hb dX9_rough_8 rfl (lv_at hl 2 rfl) ?_
    refine lv_iconst (v := 0) hx hb dX9_rough_9 (by decide) ?_
    refine lv_aload_n hx hb dX9_rough_10 rfl (lv_at hl 0 rfl) ?_
    refine lv_iload_n hx hb dX9_rough_11 rfl (lv_at hl 1 rfl) ?_
    refine r_callI w (va_runV (As := [.int p0]) (rest := [.int 0, .int p1]) ⟨hx, hb, hml, hown, hts⟩ (c_X9_rowsOf l D S hP p0 hf0 (by omega)) (cwV 1 hts gX9_rough_X9_rowsOf rfl rfl rfl (by decide +kernel) ⟨Nat.le_of_ble_eq_true rfl, Nat.le_of_ble_eq_true rfl⟩) (r_preV w (by have := D.1; omega) D.c0 rfl) rfl rfl hl.1 rfl (lv_room (Nat.le_of_ble_eq_true rfl)) dX9_rough_12 ⟨Nat.zero_le _, Nat.zero_le _⟩) (fun r7 h6 H locs hp w => ?_)
    obtain ⟨eh_, qq8⟩ := hp
    have eh_ := eh_.symm
    subst eh_
    refine lv_iconst (v := 1) hx hb dX9_rough_15 (by decide) ?_
    refine lv_isub hx hb dX9_rough_16 ?_
    refine lv_topi (fun y9 ey9 => ?_)
    have ty9 : y9.toInt = (((mRw 1 (sM st0) f) : Nat) : Int) - ((1 : Nat) : Int) := i_sub ey9 qq8 (by decide : (1 : Int32).toInt = ((1 : Nat) : Int)) (by omega)
    refine r_callI w (va_runS (As := [.int p1, .int 0, .int y9]) (rest := []) ⟨hx, hb, hml, hown, hts⟩ (c_X9_in l p1 0 y9) (va_cwS 3 hts gX9_rough_X9_in rfl rfl rfl (by decide +kernel) ⟨Nat.le_of_ble_eq_true rfl, Nat.le_of_ble_eq_true rfl⟩) (r_preS w) rfl rfl hl.1 rfl (lv_room (Nat.le_of_ble_eq_true rfl)) dX9_rough_17 ⟨Nat.zero_le _, Nat.zero_le _⟩) (fun r11 h10 H locs hp w => ?_)
    obtain ⟨eh_, qq12⟩ := hp
    have eh_ := eh_.symm
    subst eh_
    have b13 : Bq r11 (((0 : Nat) : Int) ≤ p1.toInt ∧ p1.toInt ≤ ((((mRw 1 (sM st0) f) : Nat) : Int) - ((1 : Nat) : Int))) := qq12.iff (by rw [((rfl : p1.toInt = p1.toInt) : (p1 : Int32).toInt = _), ((by decide : (0 : Int32).toInt = ((0 : Nat) : Int)) : (0 : Int32).toInt = _), (ty9 : (y9 : Int32).toInt = _)])
    refine lv_if_ne (tgt := 25) hx hb dX9_rough_20 (by decide) (fun c14 => ?_) (fun c14 => ?_)
    · have c14 := b13.ne c14
      obtain ⟨b, hb0⟩ : ∃ q_ : Nat, p1.toInt = (q_ : Int) := ⟨p1.toInt.toNat, by omega⟩
      refine lv_aload_n hx hb dX9_rough_25 rfl (lv_at hl 0 rfl) ?_
      refine r_callV w (va_runV (As := []) (rest := []) ⟨hx, hb, hml, hown, hts⟩ (c_X9_setAll l D S hP hkn) (cwV 0 hts gX9_rough_X9_setAll rfl rfl rfl (by decide +kernel) ⟨Nat.le_of_ble_eq_true rfl, Nat.le_of_ble_eq_true rfl⟩) (r_preV w (by have := D.1; omega) D.c0 rfl) rfl rfl hl.1 rfl (lv_room (Nat.le_of_ble_eq_true rfl)) dX9_rough_26 ⟨Nat.zero_le _, Nat.zero_le _⟩) (fun h15 H locs hp w => ?_)
      obtain ⟨hfk16, gtk16, gnk16, gpk16, grk16, D, hAll⟩ := hp
      have hfr : ∀ k_, ¬ (r ≤ k_ ∧ k_ < r + 14) → h15 k_ = h k_ := fun k_ hk_ => (hfk16 k_ (by omega))
      obtain ⟨K0, hK0, hT0, hg0⟩ := hAll 0 (by omega)
      obtain ⟨K1, hK1, hT1, hg1⟩ := hAll 1 (by omega)
      obtain ⟨K2, hK2, hT2, hg2⟩ := hAll 2 (by omega)
      refine lv_aload_n hx hb dX9_rough_29 rfl (lv_at hl 0 rfl) ?_
      refine lv_iload_n hx hb dX9_rough_30 rfl (lv_at hl 1 rfl) ?_
      refine lv_iload_n hx hb dX9_rough_31 rfl (lv_at hl 2 rfl) ?_
      refine r_callI w (va_runV (As := [.int p0, .int p1]) (rest := []) ⟨hx, hb, hml, hown, hts⟩ (c_X9_roughAt l D hP hT1 p0 p1 hf0 hb0 (by omega) (by omega)) (cwV 2 hts gX9_rough_X9_roughAt rfl rfl rfl (by decide +kernel) ⟨Nat.le_of_ble_eq_true rfl, Nat.le_of_ble_eq_true rfl⟩) (r_preV w (by have := D.1; omega) D.c0 rfl) rfl rfl hl.1 rfl (lv_room (Nat.le_of_ble_eq_true rfl)) dX9_rough_32 ⟨Nat.zero_le _, Nat.zero_le _⟩) (fun r18 h17 H locs hp w => ?_)
      obtain ⟨eh_, qq19⟩ := hp
      have eh_ := eh_.symm
      subst eh_
      refine r_iret (v := r18) hx hb hr hlocks w dX9_rough_35 ?_
      exact ⟨hfr, ⟨_, _, _, _, _, _, _, _, _, _, _, _, _, _, _, _, _, _, _, _, D, hSV0, S, (Or.inr ⟨rfl, hAll⟩), hum, hUs, hsv, hVs, hsz, hgx⟩, Or.inl ⟨f, b, hf0, hb0, hf, by omega, K1, hK1, qq19⟩⟩
    · have c14 := b13.eq c14
      refine lv_iconst (v := (-1)) hx hb dX9_rough_23 (by decide) ?_
      refine r_iret (v := (-1)) hx hb hr hlocks w dX9_rough_24 ?_
      exact ⟨hfr, ⟨_, _, _, _, _, _, _, _, _, _, _, _, _, _, _, _, _, _, _, _, D, hSV0, S, hkn, hum, hUs, hsv, hVs, hsz, hgx⟩, Or.inr ⟨by rintro ⟨f_, b_, e1_, e2_, e3_, e4_⟩; first | omega | (obtain rfl : f_ = f := (by omega); omega), rfl⟩⟩

theorem inX9_rounds_X9 : ∀ w ∈ wsX90, w ∈ wsX9_rounds := by decide +kernel
abbrev rm_X9_rounds : Room := { frames := 7, cells := 0, slots := 0, locals := 179 }
set_option maxHeartbeats 4000000 in
set_option maxRecDepth 100000 in
theorem c_X9_rounds (l : Launch) {g : GE} {h : Nat → va_E} {r : Nat} {st0 : ST} (R : RefA g h r st0) (p0 : Int32) : MI l yX9_rounds wsX9_rounds rm_X9_rounds [.ref (g.2.2.1 r), .int p0] g h (fun r_ h2 => (∀ k, ¬ (r ≤ k ∧ k < r + 14) → h2 k = h k) ∧ RefA g h2 r st0 ∧ AnRounds st0 p0 r_) := by
  refine Met.ofW (cc := cX9_rounds) (maxL := 2) (ret := (some .int)) (by decide) rfl ?_
  intro p e s m args below meth c s₁ B hml hv
  obtain ⟨rfl, w0⟩ := hv
  have hx := B.exec
  have hb := B.bytes
  have hr := B.returns
  have hts := atoms_spec (ws := wsX9_rounds) B.pre
  have hown : s.vm.findClass RX9 = some m.cls := findClass_of_methodNamed B.named
  have hlocks := B.notSynchronized
  have w := w0.start
  clear w0
  have hl := lv_entry ([.ref (g.2.2.1 r), .int p0]) (n := 2) (Nat.le_of_ble_eq_true rfl)
  rw [lg_entry_eq]
  generalize (lg_sl ([.ref (g.2.2.1 r), .int p0]) ++ List.replicate (2 - (lg_sl ([.ref (g.2.2.1 r), .int p0])).length) Slot.unset).toArray = ls at hl ⊢
  have hl : lv_has ls 2 [(0, .ref (g.2.2.1 r)), (1, .int p0)] := hl
  obtain ⟨nm, kn, um, sv, sz, ra, rm, ga, gk, gl, gB, gt, gn, gr, gp, gh, gv, gs, gx, gf, D, hRS⟩ := R
  obtain ⟨hSV, S, hkn, hum, hUs, hsv, hVs, hsz, hgx⟩ := hRS
  have hSV0 := hSV
  obtain ⟨hP, hu8, hUP, hv2, hVP, hl200, hlt⟩ := hSV
  have hn4 := hP.2.1
  have hfr : ∀ k_, ¬ (r ≤ k_ ∧ k_ < r + 14) → h k_ = h k_ := fun _ _ => rfl
  refine lv_iload_n hx hb dX9_rounds_0 rfl (lv_at hl 1 rfl) ?_
  refine lv_iconst (v := 0) hx hb dX9_rounds_1 (by decide) ?_
  refine lv_iconst (v := 2) hx hb dX9_rounds_2 (by decide) ?_
  refine r_callI w (va_runS (As := [.int p0, .int 0, .int 2]) (rest := []) ⟨hx, hb, hml, hown, hts⟩ (c_X9_in l p0 0 2) (va_cwS 3 hts gX9_rounds_X9_in rfl rfl rfl (by decide +kernel) ⟨Nat.le_of_ble_eq_true rfl, Nat.le_of_ble_eq_true rfl⟩) (r_preS w) rfl rfl hl.1 rfl (lv_room (Nat.le_of_ble_eq_true rfl)) dX9_rounds_3 ⟨Nat.zero_le _, Nat.zero_le _⟩) (fun r2 h1 H locs hp w => ?_)
  obtain ⟨eh_, qq3⟩ := hp
  have eh_ := eh_.symm
  subst eh_
  have b4 : Bq r2 (((0 : Nat) : Int) ≤ p0.toInt ∧ p0.toInt ≤ ((2 : Nat) : Int)) := qq3.iff (by rw [((rfl : p0.toInt = p0.toInt) : (p0 : Int32).toInt = _), ((by decide : (0 : Int32).toInt = ((0 : Nat) : Int)) : (0 : Int32).toInt = _), ((by decide : (2 : Int32).toInt = ((2 : Nat) : Int)) : (2 : Int32).toInt = _)])
  refine lv_if_ne (tgt := 11) hx hb dX9_rounds_6 (by decide) (fun c5 => ?_) (fun c5 => ?_)
  · have c5 := b4.ne c5
    obtain ⟨u_, hu0⟩ : ∃ q_ : Nat, p0.toInt = (q_ : Int) := ⟨p0.toInt.toNat, by omega⟩
    refine lv_aload_n hx hb dX9_rounds_11 rfl (lv_at hl 0 rfl) ?_
    refine r_callV w (va_runV (As := []) (rest := []) ⟨hx, hb, hml, hown, hts⟩ (c_X9_setAll l D S hP hkn) (cwV 0 hts gX9_rounds_X9_setAll rfl rfl rfl (by decide +kernel) ⟨Nat.le_of_ble_eq_true rfl, Nat.le_of_ble_eq_true rfl⟩) (r_preV w (by have := D.1; omega) D.c0 rfl) rfl rfl hl.1 rfl (lv_room (Nat.le_of_ble_eq_true rfl)) dX9_rounds_12 ⟨Nat.zero_le _, Nat.zero_le _⟩) (fun h6 H locs hp w => ?_)
    obtain ⟨hfk7, gtk7, gnk7, gpk7, grk7, D, hAll⟩ := hp
    have hfr : ∀ k_, ¬ (r ≤ k_ ∧ k_ < r + 14) → h6 k_ = h k_ := fun k_ hk_ => (hfk7 k_ (by omega))
    obtain ⟨K0, hK0, hT0, hg0⟩ := hAll 0 (by omega)
    obtain ⟨K1, hK1, hT1, hg1⟩ := hAll 1 (by omega)
    obtain ⟨K2, hK2, hT2, hg2⟩ := hAll 2 (by omega)
    refine lv_aload_n hx hb dX9_rounds_15 rfl (lv_at hl 0 rfl) ?_
    refine r_get (C := RX9) (T := TX9) (N := 20) (ci := 7) hx hb hts inX9_rounds_X9 hown w (by have := D.1; omega) D.c0 rfl 7 (by decide) (hts (Cond.fieldLink RX9 28 "EarlyValuesModel" "roundsOf" "[I") (List.mem_of_getElem? (i := 1) (by decide +kernel))) rfl rfl dX9_rounds_16 ?_
    refine lv_iload_n hx hb dX9_rounds_19 rfl (lv_at hl 1 rfl) ?_
    refine r_iald (j := u_) hx hb w (by have := D.1; omega) D.c7 hu0 (by omega) dX9_rounds_20 ?_
    refine r_iret (v := grk7 u_) hx hb hr hlocks w dX9_rounds_21 ?_
    obtain ⟨K_, hK_, -, hg_⟩ := hAll u_ (by omega)
    exact ⟨hfr, ⟨_, _, _, _, _, _, _, _, _, _, _, _, _, _, _, _, _, _, _, _, D, hSV0, S, (Or.inr ⟨rfl, hAll⟩), hum, hUs, hsv, hVs, hsz, hgx⟩, Or.inl ⟨u_, K_, hu0, by omega, hK_, hg_⟩⟩
  · have c5 := b4.eq c5
    refine lv_iconst (v := (-1)) hx hb dX9_rounds_9 (by decide) ?_
    refine r_iret (v := (-1)) hx hb hr hlocks w dX9_rounds_10 ?_
    exact ⟨hfr, ⟨_, _, _, _, _, _, _, _, _, _, _, _, _, _, _, _, _, _, _, _, D, hSV0, S, hkn, hum, hUs, hsv, hVs, hsz, hgx⟩, Or.inr ⟨by omega, rfl⟩⟩

theorem inX9_fineStrict_X9 : ∀ w ∈ wsX90, w ∈ wsX9_fineStrict := by decide +kernel
abbrev rm_X9_fineStrict : Room := { frames := 1, cells := 0, slots := 0, locals := 23 }
set_option maxHeartbeats 4000000 in
set_option maxRecDepth 100000 in
theorem c_X9_fineStrict (l : Launch) {g : GE} {h : Nat → va_E} {r : Nat} {nm kn um sv sz ra rm : Int32} {ga gk gl gB gt gn gr gp gh gv gs gx gf : Nat → Int32} (D : MdA g h r nm kn um sv sz ra rm ga gk gl gB gt gn gr gp gh gv gs gx gf) {M : PRG} (S : RS M nm ga gk gl gB) (hP : PV M) {K : Nat} (hK : IsK 2 M K) (hT : RT 2 M gt (mTab 2 M K)) {f a : Nat} (p0 p1 : Int32) (hp0 : p0.toInt = (f : Int)) (hp1 : p1.toInt = (a : Int)) (hf : f < pN M) (ha : a < pA M f) : MI l yX9_fineStrict wsX9_fineStrict rm_X9_fineStrict [.ref (g.2.2.1 r), .int p0, .int p1] g h (fun r_ h2 => h2 = h ∧ Bq r_ (mStrictF 2 M f a)) := by
  refine Met.ofW (cc := cX9_fineStrict) (maxL := 6) (ret := (some .int)) (by decide) rfl ?_
  intro p e s m args below meth c s₁ B hml hv
  obtain ⟨rfl, w0⟩ := hv
  have hx := B.exec
  have hb := B.bytes
  have hr := B.returns
  have hts := atoms_spec (ws := wsX9_fineStrict) B.pre
  have hown : s.vm.findClass RX9 = some m.cls := findClass_of_methodNamed B.named
  have hlocks := B.notSynchronized
  have w := w0.start
  clear w0
  have hl := lv_entry ([.ref (g.2.2.1 r), .int p0, .int p1]) (n := 6) (Nat.le_of_ble_eq_true rfl)
  rw [lg_entry_eq]
  generalize (lg_sl ([.ref (g.2.2.1 r), .int p0, .int p1]) ++ List.replicate (6 - (lg_sl ([.ref (g.2.2.1 r), .int p0, .int p1])).length) Slot.unset).toArray = ls at hl ⊢
  have hl : lv_has ls 6 [(0, .ref (g.2.2.1 r)), (1, .int p0), (2, .int p1)] := hl
  have hn4 := hP.2.1
  have h3_ := (hP.2.2 f hf).1
  have q0_ := tX_le (pA M f) a 0
  have q1_ := tX_le (pA M f) a 1
  have q2_ := tX_le (pA M f) a 2
  have hft_ := fine_top hP hK hf ha
  have cuts : ∀ N : Nat, (∀ (x3 : Int32) (hc : Nat → va_E) (H : Heap) (locs : List Loc) (ls : Array Slot), WD g (inW g) s hc H locs → lv_has ls 6 [(0, .ref (g.2.2.1 r)), (1, .int p0), (2, .int p1), (3, .int x3)] → (x3.toInt = ((tX (pA M f) a 0 : Nat) : Int)) → (MdA g hc r nm kn um sv sz ra rm ga gk gl gB gt gn gr gp gh gv gs gx gf) → (hc = h) → 3 < N → W p l e (headSpec wsX9_fineStrict rm_X9_fineStrict).room s m ([.ref (g.2.2.1 r), .int p0, .int p1] : List Value).toArray below meth c H locs 0 0 (MQ below (va_Qi (fun r_ h2 => h2 = h ∧ Bq r_ (mStrictF 2 M f a)) (Wd g) (inW g)) ([.ref (g.2.2.1 r), .int p0, .int p1] : List Value).toArray s 0 0 (inW g)) (F0 m 20 ls [])) ∧ (∀ (x3 : Int32) (x4 : Int32) (hc : Nat → va_E) (H : Heap) (locs : List Loc) (ls : Array Slot), WD g (inW g) s hc H locs → lv_has ls 6 [(0, .ref (g.2.2.1 r)), (1, .int p0), (2, .int p1), (3, .int x3), (4, .int x4)] → (x3.toInt = ((tX (pA M f) a 0 : Nat) : Int)) → (x4.toInt = ((tX (pA M f) a 1 : Nat) : Int)) → (MdA g hc r nm kn um sv sz ra rm ga gk gl gB gt gn gr gp gh gv gs gx gf) → (hc = h) → 2 < N → W p l e (headSpec wsX9_fineStrict rm_X9_fineStrict).room s m ([.ref (g.2.2.1 r), .int p0, .int p1] : List Value).toArray below meth c H locs 0 0 (MQ below (va_Qi (fun r_ h2 => h2 = h ∧ Bq r_ (mStrictF 2 M f a)) (Wd g) (inW g)) ([.ref (g.2.2.1 r), .int p0, .int p1] : List Value).toArray s 0 0 (inW g)) (F0 m 42 ls [])) ∧ (∀ (x3 : Int32) (x4 : Int32) (x5 : Int32) (hc : Nat → va_E) (H : Heap) (locs : List Loc) (ls : Array Slot), WD g (inW g) s hc H locs → lv_has ls 6 [(0, .ref (g.2.2.1 r)), (1, .int p0), (2, .int p1), (3, .int x3), (4, .int x4), (5, .int x5)] → (x3.toInt = ((tX (pA M f) a 0 : Nat) : Int)) → (x4.toInt = ((tX (pA M f) a 1 : Nat) : Int)) → (x5.toInt = ((tX (pA M f) a 2 : Nat) : Int)) → (MdA g hc r nm kn um sv sz ra rm ga gk gl gB gt gn gr gp gh gv gs gx gf) → (hc = h) → 1 < N → W p l e (headSpec wsX9_fineStrict rm_X9_fineStrict).room s m ([.ref (g.2.2.1 r), .int p0, .int p1] : List Value).toArray below meth c H locs 0 0 (MQ below (va_Qi (fun r_ h2 => h2 = h ∧ Bq r_ (mStrictF 2 M f a)) (Wd g) (inW g)) ([.ref (g.2.2.1 r), .int p0, .int p1] : List Value).toArray s 0 0 (inW g)) (F0 m 64 ls [])) := by
    intro N
    induction N with
    | zero => exact ⟨by intros; omega, by intros; omega, by intros; omega⟩
    | succ N ih =>
      obtain ⟨ih20, ih42, ih64⟩ := ih
      refine ⟨?_, ?_, ?_⟩
      · intro x3 hc H locs ls w hl hx3 D hh hN_
        refine lv_iload_n hx hb dX9_fineStrict_20 rfl (lv_at hl 2 rfl) ?_
        refine lv_iconst (v := 1) hx hb dX9_fineStrict_21 (by decide) ?_
        refine lv_icmp_eq (tgt := 35) hx hb dX9_fineStrict_22 (by decide) (fun c1 => ?_) (fun c1 => ?_)
        · have c1 : ((a : Nat) : Int) = ((1 : Nat) : Int) := (i_eq hp1 (by decide : (1 : Int32).toInt = ((1 : Nat) : Int))).mp c1
          refine lv_iconst (v := 0) hx hb dX9_fineStrict_35 (by decide) ?_
          refine lv_goto (tgt := 40) hx hb dX9_fineStrict_36 (by decide) ?_
          refine lv_istore (lv' := [(4, .int 0), (0, .ref (g.2.2.1 r)), (1, .int p0), (2, .int p1), (3, .int x3)]) hx hb dX9_fineStrict_40 hl (by decide) rfl (fun ls hl => ?_)
          exact ih42 x3 0 hc _ _ _ w (lv_sub hl [1, 2, 3, 4, 0] rfl) hx3 (by first | (unfold tX; rw [if_pos (by omega)]; rfl) | (unfold tX; rw [if_neg (by omega)]; rfl)) D hh (by omega)
        · have c1 : ¬ (((a : Nat) : Int) = ((1 : Nat) : Int)) := fun q => c1 ((i_eq hp1 (by decide : (1 : Int32).toInt = ((1 : Nat) : Int))).mpr q)
          refine lv_aload_n hx hb dX9_fineStrict_25 rfl (lv_at hl 0 rfl) ?_
          refine r_get (C := RX9) (T := TX9) (N := 20) (ci := 7) hx hb hts inX9_fineStrict_X9 hown w (by have := D.1; omega) D.c0 rfl 1 (by decide) (hts (Cond.fieldLink RX9 7 "EarlyValuesModel" "argsOf" "[I") (List.mem_of_getElem? (i := 1) (by decide +kernel))) rfl rfl dX9_fineStrict_26 ?_
          refine lv_iload_n hx hb dX9_fineStrict_29 rfl (lv_at hl 1 rfl) ?_
          refine r_iald (j := f) hx hb w (by have := D.1; omega) D.c1 hp0 (by omega) dX9_fineStrict_30 ?_
          refine lv_iconst (v := 2) hx hb dX9_fineStrict_31 (by decide) ?_
          refine lv_icmp_ge (tgt := 39) hx hb dX9_fineStrict_32 (by decide) (fun c2 => ?_) (fun c2 => ?_)
          · have c2 : ((2 : Nat) : Int) ≤ (((pA M f) : Nat) : Int) := (i_le (by decide : (2 : Int32).toInt = ((2 : Nat) : Int)) (S.2.1 f (by omega))).mp c2
            refine lv_iconst (v := 3) hx hb dX9_fineStrict_39 (by decide) ?_
            refine lv_istore (lv' := [(4, .int 3), (0, .ref (g.2.2.1 r)), (1, .int p0), (2, .int p1), (3, .int x3)]) hx hb dX9_fineStrict_40 hl (by decide) rfl (fun ls hl => ?_)
            exact ih42 x3 3 hc _ _ _ w (lv_sub hl [1, 2, 3, 4, 0] rfl) hx3 (by first | (unfold tX; rw [if_pos (by omega)]; rfl) | (unfold tX; rw [if_neg (by omega)]; rfl)) D hh (by omega)
          · have c2 : ¬ (((2 : Nat) : Int) ≤ (((pA M f) : Nat) : Int)) := fun q => c2 ((i_le (by decide : (2 : Int32).toInt = ((2 : Nat) : Int)) (S.2.1 f (by omega))).mpr q)
            refine lv_iconst (v := 0) hx hb dX9_fineStrict_35 (by decide) ?_
            refine lv_goto (tgt := 40) hx hb dX9_fineStrict_36 (by decide) ?_
            refine lv_istore (lv' := [(4, .int 0), (0, .ref (g.2.2.1 r)), (1, .int p0), (2, .int p1), (3, .int x3)]) hx hb dX9_fineStrict_40 hl (by decide) rfl (fun ls hl => ?_)
            exact ih42 x3 0 hc _ _ _ w (lv_sub hl [1, 2, 3, 4, 0] rfl) hx3 (by first | (unfold tX; rw [if_pos (by omega)]; rfl) | (unfold tX; rw [if_neg (by omega)]; rfl)) D hh (by omega)
      · intro x3 x4 hc H locs ls w hl hx3 hx4 D hh hN_
        refine lv_iload_n hx hb dX9_fineStrict_42 rfl (lv_at hl 2 rfl) ?_
        refine lv_iconst (v := 2) hx hb dX9_fineStrict_43 (by decide) ?_
        refine lv_icmp_eq (tgt := 57) hx hb dX9_fineStrict_44 (by decide) (fun c3 => ?_) (fun c3 => ?_)
        · have c3 : ((a : Nat) : Int) = ((2 : Nat) : Int) := (i_eq hp1 (by decide : (2 : Int32).toInt = ((2 : Nat) : Int))).mp c3
          refine lv_iconst (v := 0) hx hb dX9_fineStrict_57 (by decide) ?_
          refine lv_goto (tgt := 62) hx hb dX9_fineStrict_58 (by decide) ?_
          refine lv_istore (lv' := [(5, .int 0), (0, .ref (g.2.2.1 r)), (1, .int p0), (2, .int p1), (3, .int x3), (4, .int x4)]) hx hb dX9_fineStrict_62 hl (by decide) rfl (fun ls hl => ?_)
          exact ih64 x3 x4 0 hc _ _ _ w (lv_sub hl [1, 2, 3, 4, 5, 0] rfl) hx3 hx4 (by first | (unfold tX; rw [if_pos (by omega)]; rfl) | (unfold tX; rw [if_neg (by omega)]; rfl)) D hh (by omega)
        · have c3 : ¬ (((a : Nat) : Int) = ((2 : Nat) : Int)) := fun q => c3 ((i_eq hp1 (by decide : (2 : Int32).toInt = ((2 : Nat) : Int))).mpr q)
          refine lv_aload_n hx hb dX9_fineStrict_47 rfl (lv_at hl 0 rfl) ?_
          refine r_get (C := RX9) (T := TX9) (N := 20) (ci := 7) hx hb hts inX9_fineStrict_X9 hown w (by have := D.1; omega) D.c0 rfl 1 (by decide) (hts (Cond.fieldLink RX9 7 "EarlyValuesModel" "argsOf" "[I") (List.mem_of_getElem? (i := 1) (by decide +kernel))) rfl rfl dX9_fineStrict_48 ?_
          refine lv_iload_n hx hb dX9_fineStrict_51 rfl (lv_at hl 1 rfl) ?_
          refine r_iald (j := f) hx hb w (by have := D.1; omega) D.c1 hp0 (by omega) dX9_fineStrict_52 ?_
          refine lv_iconst (v := 3) hx hb dX9_fineStrict_53 (by decide) ?_
          refine lv_icmp_ge (tgt := 61) hx hb dX9_fineStrict_54 (by decide) (fun c4 => ?_) (fun c4 => ?_)
          · have c4 : ((3 : Nat) : Int) ≤ (((pA M f) : Nat) : Int) := (i_le (by decide : (3 : Int32).toInt = ((3 : Nat) : Int)) (S.2.1 f (by omega))).mp c4
            refine lv_iconst (v := 3) hx hb dX9_fineStrict_61 (by decide) ?_
            refine lv_istore (lv' := [(5, .int 3), (0, .ref (g.2.2.1 r)), (1, .int p0), (2, .int p1), (3, .int x3), (4, .int x4)]) hx hb dX9_fineStrict_62 hl (by decide) rfl (fun ls hl => ?_)
            exact ih64 x3 x4 3 hc _ _ _ w (lv_sub hl [1, 2, 3, 4, 5, 0] rfl) hx3 hx4 (by first | (unfold tX; rw [if_pos (by omega)]; rfl) | (unfold tX; rw [if_neg (by omega)]; rfl)) D hh (by omega)
          · have c4 : ¬ (((3 : Nat) : Int) ≤ (((pA M f) : Nat) : Int)) := fun q => c4 ((i_le (by decide : (3 : Int32).toInt = ((3 : Nat) : Int)) (S.2.1 f (by omega))).mpr q)
            refine lv_iconst (v := 0) hx hb dX9_fineStrict_57 (by decide) ?_
            refine lv_goto (tgt := 62) hx hb dX9_fineStrict_58 (by decide) ?_
            refine lv_istore (lv' := [(5, .int 0), (0, .ref (g.2.2.1 r)), (1, .int p0), (2, .int p1), (3, .int x3), (4, .int x4)]) hx hb dX9_fineStrict_62 hl (by decide) rfl (fun ls hl => ?_)
            exact ih64 x3 x4 0 hc _ _ _ w (lv_sub hl [1, 2, 3, 4, 5, 0] rfl) hx3 hx4 (by first | (unfold tX; rw [if_pos (by omega)]; rfl) | (unfold tX; rw [if_neg (by omega)]; rfl)) D hh (by omega)
      · intro x3 x4 x5 hc H locs ls w hl hx3 hx4 hx5 D hh hN_
        refine lv_aload_n hx hb dX9_fineStrict_64 rfl (lv_at hl 0 rfl) ?_
        refine lv_iconst (v := 2) hx hb dX9_fineStrict_65 (by decide) ?_
        refine lv_iload_n hx hb dX9_fineStrict_66 rfl (lv_at hl 1 rfl) ?_
        refine lv_iload_n hx hb dX9_fineStrict_67 rfl (lv_at hl 3 rfl) ?_
        refine lv_iload hx hb dX9_fineStrict_68 (lv_at hl 4 rfl) ?_
        refine lv_iload hx hb dX9_fineStrict_70 (lv_at hl 5 rfl) ?_
        refine r_callI w (va_runS (As := [.int x3, .int x4, .int x5]) (rest := [.int p0, .int 2, .ref (g.2.2.1 r)]) ⟨hx, hb, hml, hown, hts⟩ (c_X9_rowOf l x3 x4 x5 hx3 hx4 hx5 (by omega) (by omega) (by omega)) (va_cwS 3 hts gX9_fineStrict_X9_rowOf rfl rfl rfl (by decide +kernel) ⟨Nat.le_of_ble_eq_true rfl, Nat.le_of_ble_eq_true rfl⟩) (r_preS w) rfl rfl hl.1 rfl (lv_room (Nat.le_of_ble_eq_true rfl)) dX9_fineStrict_72 ⟨Nat.zero_le _, Nat.zero_le _⟩) (fun r6 h5 H locs hp w => ?_)
        obtain ⟨eh_, qq7⟩ := hp
        have eh_ := eh_.symm
        subst eh_
        refine r_callI w (va_runV (As := [.int 2, .int p0, .int r6]) (rest := []) ⟨hx, hb, hml, hown, hts⟩ (c_X9_tableAt l D (u := 2) (by omega) 2 p0 r6 (by decide : (2 : Int32).toInt = ((2 : Nat) : Int)) hp0 qq7 (by omega) (by omega)) (cwV 3 hts gX9_fineStrict_X9_tableAt rfl rfl rfl (by decide +kernel) ⟨Nat.le_of_ble_eq_true rfl, Nat.le_of_ble_eq_true rfl⟩) (r_preV w (by have := D.1; omega) D.c0 rfl) rfl rfl hl.1 rfl (lv_room (Nat.le_of_ble_eq_true rfl)) dX9_fineStrict_75 ⟨Nat.zero_le _, Nat.zero_le _⟩) (fun r9 h8 H locs hp w => ?_)
        obtain ⟨eh_, qq10⟩ := hp
        have eh_ := eh_.symm
        subst eh_
        subst qq10
        refine lv_if_ne (tgt := 85) hx hb dX9_fineStrict_78 (by decide) (fun c11 => ?_) (fun c11 => ?_)
        · have c11 : ¬ ((((mTab 2 M K f (tX (pA M f) a 0 + mB 2 * tX (pA M f) a 1 + mB 2 * mB 2 * tX (pA M f) a 2)) : Nat) : Int) = (0 : Int)) := fun q => c11 ((i_eq (hT.at hf (tX_is (pA M f) a)) (rfl : (0 : Int32).toInt = 0)).mpr q)
          refine lv_iconst (v := 0) hx hb dX9_fineStrict_85 (by decide) ?_
          refine r_iret (v := 0) hx hb hr hlocks w dX9_fineStrict_86 ?_
          rw [hft_]
          exact ⟨hh, by first | exact Bq.t (by omega) | exact Bq.f (by omega)⟩
        · have c11 : (((mTab 2 M K f (tX (pA M f) a 0 + mB 2 * tX (pA M f) a 1 + mB 2 * mB 2 * tX (pA M f) a 2)) : Nat) : Int) = (0 : Int) := (i_eq (hT.at hf (tX_is (pA M f) a)) (rfl : (0 : Int32).toInt = 0)).mp c11
          refine lv_iconst (v := 1) hx hb dX9_fineStrict_81 (by decide) ?_
          refine lv_goto (tgt := 86) hx hb dX9_fineStrict_82 (by decide) ?_
          refine r_iret (v := 1) hx hb hr hlocks w dX9_fineStrict_86 ?_
          rw [hft_]
          exact ⟨hh, by first | exact Bq.t (by omega) | exact Bq.f (by omega)⟩
  have cut0 := cuts (5)
  obtain ⟨ih20, ih42, ih64⟩ := cut0
  refine lv_iload_n hx hb dX9_fineStrict_0 rfl (lv_at hl 2 rfl) ?_
  refine lv_if_eq (tgt := 14) hx hb dX9_fineStrict_1 (by decide) (fun c12 => ?_) (fun c12 => ?_)
  · have c12 : ((a : Nat) : Int) = (0 : Int) := (i_eq hp1 (rfl : (0 : Int32).toInt = 0)).mp c12
    refine lv_iconst (v := 0) hx hb dX9_fineStrict_14 (by decide) ?_
    refine lv_goto (tgt := 19) hx hb dX9_fineStrict_15 (by decide) ?_
    refine lv_istore_n (lv' := [(3, .int 0), (0, .ref (g.2.2.1 r)), (1, .int p0), (2, .int p1)]) hx hb dX9_fineStrict_19 rfl hl (by decide) rfl (fun ls hl => ?_)
    exact ih20 0 h _ _ _ w (lv_sub hl [1, 2, 3, 0] rfl) (by first | (unfold tX; rw [if_pos (by omega)]; rfl) | (unfold tX; rw [if_neg (by omega)]; rfl)) D rfl (by omega)
  · have c12 : ¬ (((a : Nat) : Int) = (0 : Int)) := fun q => c12 ((i_eq hp1 (rfl : (0 : Int32).toInt = 0)).mpr q)
    refine lv_aload_n hx hb dX9_fineStrict_4 rfl (lv_at hl 0 rfl) ?_
    refine r_get (C := RX9) (T := TX9) (N := 20) (ci := 7) hx hb hts inX9_fineStrict_X9 hown w (by have := D.1; omega) D.c0 rfl 1 (by decide) (hts (Cond.fieldLink RX9 7 "EarlyValuesModel" "argsOf" "[I") (List.mem_of_getElem? (i := 1) (by decide +kernel))) rfl rfl dX9_fineStrict_5 ?_
    refine lv_iload_n hx hb dX9_fineStrict_8 rfl (lv_at hl 1 rfl) ?_
    refine r_iald (j := f) hx hb w (by have := D.1; omega) D.c1 hp0 (by omega) dX9_fineStrict_9 ?_
    refine lv_iconst (v := 1) hx hb dX9_fineStrict_10 (by decide) ?_
    refine lv_icmp_ge (tgt := 18) hx hb dX9_fineStrict_11 (by decide) (fun c13 => ?_) (fun c13 => ?_)
    · have c13 : ((1 : Nat) : Int) ≤ (((pA M f) : Nat) : Int) := (i_le (by decide : (1 : Int32).toInt = ((1 : Nat) : Int)) (S.2.1 f (by omega))).mp c13
      refine lv_iconst (v := 3) hx hb dX9_fineStrict_18 (by decide) ?_
      refine lv_istore_n (lv' := [(3, .int 3), (0, .ref (g.2.2.1 r)), (1, .int p0), (2, .int p1)]) hx hb dX9_fineStrict_19 rfl hl (by decide) rfl (fun ls hl => ?_)
      exact ih20 3 h _ _ _ w (lv_sub hl [1, 2, 3, 0] rfl) (by first | (unfold tX; rw [if_pos (by omega)]; rfl) | (unfold tX; rw [if_neg (by omega)]; rfl)) D rfl (by omega)
    · have c13 : ¬ (((1 : Nat) : Int) ≤ (((pA M f) : Nat) : Int)) := fun q => c13 ((i_le (by decide : (1 : Int32).toInt = ((1 : Nat) : Int)) (S.2.1 f (by omega))).mpr q)
      refine lv_iconst (v := 0) hx hb dX9_fineStrict_14 (by decide) ?_
      refine lv_goto (tgt := 19) hx hb dX9_fineStrict_15 (by decide) ?_
      refine lv_istore_n (lv' := [(3, .int 0), (0, .ref (g.2.2.1 r)), (1, .int p0), (2, .int p1)]) hx hb dX9_fineStrict_19 rfl hl (by decide) rfl (fun ls hl => ?_)
      exact ih20 0 h _ _ _ w (lv_sub hl [1, 2, 3, 0] rfl) (by first | (unfold tX; rw [if_pos (by omega)]; rfl) | (unfold tX; rw [if_neg (by omega)]; rfl)) D rfl (by omega)

abbrev rm_X9_roughStrict : Room := { frames := 2, cells := 0, slots := 0, locals := 45 }
set_option maxHeartbeats 4000000 in
set_option maxRecDepth 100000 in
theorem c_X9_roughStrict (l : Launch) {g : GE} {h : Nat → va_E} {r : Nat} {nm kn um sv sz ra rm : Int32} {ga gk gl gB gt gn gr gp gh gv gs gx gf : Nat → Int32} (D : MdA g h r nm kn um sv sz ra rm ga gk gl gB gt gn gr gp gh gv gs gx gf) {M : PRG} (S : RS M nm ga gk gl gB) (hP : PV M) {K : Nat} (hK : IsK 1 M K) (hT : RT 1 M gt (mTab 1 M K)) {f a : Nat} (p0 p1 : Int32) (hp0 : p0.toInt = (f : Int)) (hp1 : p1.toInt = (a : Int)) (hf : f < pN M) (ha : a < pA M f) : MI l yX9_roughStrict wsX9_roughStrict rm_X9_roughStrict [.ref (g.2.2.1 r), .int p0, .int p1] g h (fun r_ h2 => h2 = h ∧ Bq r_ (mStrictF 1 M f a)) := by
  refine Met.ofW (cc := cX9_roughStrict) (maxL := 3) (ret := (some .int)) (by decide) rfl ?_
  intro p e s m args below meth c s₁ B hml hv
  obtain ⟨rfl, w0⟩ := hv
  have hx := B.exec
  have hb := B.bytes
  have hr := B.returns
  have hts := atoms_spec (ws := wsX9_roughStrict) B.pre
  have hown : s.vm.findClass RX9 = some m.cls := findClass_of_methodNamed B.named
  have hlocks := B.notSynchronized
  have w := w0.start
  clear w0
  have hl := lv_entry ([.ref (g.2.2.1 r), .int p0, .int p1]) (n := 3) (Nat.le_of_ble_eq_true rfl)
  rw [lg_entry_eq]
  generalize (lg_sl ([.ref (g.2.2.1 r), .int p0, .int p1]) ++ List.replicate (3 - (lg_sl ([.ref (g.2.2.1 r), .int p0, .int p1])).length) Slot.unset).toArray = ls at hl ⊢
  have hl : lv_has ls 3 [(0, .ref (g.2.2.1 r)), (1, .int p0), (2, .int p1)] := hl
  have hn4 := hP.2.1
  have h3_ := (hP.2.2 f hf).1
  have hpc_ := pow2_c h3_
  have hrw_ : mRw 1 M f = mB 1 ^ pA M f := rfl
  have hft_ := rough_top hP hK hf ha
  have htl_ := top_lt hP hf ha
  refine lv_aload_n hx hb dX9_roughStrict_0 rfl (lv_at hl 0 rfl) ?_
  refine lv_iload_n hx hb dX9_roughStrict_1 rfl (lv_at hl 1 rfl) ?_
  refine lv_aload_n hx hb dX9_roughStrict_2 rfl (lv_at hl 0 rfl) ?_
  refine lv_iload_n hx hb dX9_roughStrict_3 rfl (lv_at hl 1 rfl) ?_
  refine r_callI w (va_runV (As := [.int p0]) (rest := [.int p0, .ref (g.2.2.1 r)]) ⟨hx, hb, hml, hown, hts⟩ (c_X9_rowsOf l D S hP p0 hp0 (by omega)) (cwV 1 hts gX9_roughStrict_X9_rowsOf rfl rfl rfl (by decide +kernel) ⟨Nat.le_of_ble_eq_true rfl, Nat.le_of_ble_eq_true rfl⟩) (r_preV w (by have := D.1; omega) D.c0 rfl) rfl rfl hl.1 rfl (lv_room (Nat.le_of_ble_eq_true rfl)) dX9_roughStrict_4 ⟨Nat.zero_le _, Nat.zero_le _⟩) (fun r2 h1 H locs hp w => ?_)
  obtain ⟨eh_, qq3⟩ := hp
  have eh_ := eh_.symm
  subst eh_
  refine lv_iconst (v := 1) hx hb dX9_roughStrict_7 (by decide) ?_
  refine lv_isub hx hb dX9_roughStrict_8 ?_
  refine lv_topi (fun y4 ey4 => ?_)
  have ty4 : y4.toInt = (((mRw 1 M f) : Nat) : Int) - ((1 : Nat) : Int) := i_sub ey4 qq3 (by decide : (1 : Int32).toInt = ((1 : Nat) : Int)) (by omega)
  refine lv_iconst (v := 1) hx hb dX9_roughStrict_9 (by decide) ?_
  refine lv_iload_n hx hb dX9_roughStrict_10 rfl (lv_at hl 2 rfl) ?_
  refine lv_ishl hx hb dX9_roughStrict_11 ?_
  refine lv_topi (fun y5 ey5 => ?_)
  refine lv_iconst (v := (-1)) hx hb dX9_roughStrict_12 (by decide) ?_
  refine lv_ixor hx hb dX9_roughStrict_13 ?_
  refine lv_topi (fun y6 ey6 => ?_)
  refine lv_iand hx hb dX9_roughStrict_14 ?_
  refine lv_topi (fun y7 ey7 => ?_)
  have ty7 : y7.toInt = ((topRow 1 (pA M f) a : Nat) : Int) := rs_bits h3_ ha (ty4.trans (by have hrw_ : mRw 1 M f = mB 1 ^ pA M f := rfl; omega)) hp1 ey5 ey6 ey7
  refine r_callI w (va_runV (As := [.int p0, .int y7]) (rest := []) ⟨hx, hb, hml, hown, hts⟩ (c_X9_roughAt l D hP hT p0 y7 hp0 ty7 (by omega) (by omega)) (cwV 2 hts gX9_roughStrict_X9_roughAt rfl rfl rfl (by decide +kernel) ⟨Nat.le_of_ble_eq_true rfl, Nat.le_of_ble_eq_true rfl⟩) (r_preV w (by have := D.1; omega) D.c0 rfl) rfl rfl hl.1 rfl (lv_room (Nat.le_of_ble_eq_true rfl)) dX9_roughStrict_15 ⟨Nat.zero_le _, Nat.zero_le _⟩) (fun r9 h8 H locs hp w => ?_)
  obtain ⟨eh_, qq10⟩ := hp
  have eh_ := eh_.symm
  subst eh_
  refine lv_if_ne (tgt := 25) hx hb dX9_roughStrict_18 (by decide) (fun c11 => ?_) (fun c11 => ?_)
  · have c11 : ¬ ((((mTab 1 M K f ((topRow 1 (pA M f) a))) : Nat) : Int) = (0 : Int)) := fun q => c11 ((i_eq qq10 (rfl : (0 : Int32).toInt = 0)).mpr q)
    refine lv_iconst (v := 0) hx hb dX9_roughStrict_25 (by decide) ?_
    refine r_iret (v := 0) hx hb hr hlocks w dX9_roughStrict_26 ?_
    rw [hft_]
    exact ⟨rfl, by first | exact Bq.t (by omega) | exact Bq.f (by omega)⟩
  · have c11 : (((mTab 1 M K f ((topRow 1 (pA M f) a))) : Nat) : Int) = (0 : Int) := (i_eq qq10 (rfl : (0 : Int32).toInt = 0)).mp c11
    refine lv_iconst (v := 1) hx hb dX9_roughStrict_21 (by decide) ?_
    refine lv_goto (tgt := 26) hx hb dX9_roughStrict_22 (by decide) ?_
    refine r_iret (v := 1) hx hb hr hlocks w dX9_roughStrict_26 ?_
    rw [hft_]
    exact ⟨rfl, by first | exact Bq.t (by omega) | exact Bq.f (by omega)⟩

abbrev rm_X9_argument : Room := { frames := 0, cells := 0, slots := 0, locals := 0 }
set_option maxHeartbeats 4000000 in
set_option maxRecDepth 100000 in
theorem c_X9_argument (l : Launch) {g : GE} {h : Nat → va_E} {row a : Nat} (p0 p1 : Int32) (hp0 : p0.toInt = (row : Int)) (hp1 : p1.toInt = (a : Int)) (ha : a < 3) : MI l yX9_argument wsX9_argument rm_X9_argument [.int p0, .int p1] g h (fun r_ h2 => h2 = h ∧ r_.toInt = ((dg9 row a : Nat) : Int)) := by
  refine Met.ofW (cc := cX9_argument) (maxL := 2) (ret := (some .int)) (by decide) rfl ?_
  intro p e s m args below meth c s₁ B hml hv
  obtain ⟨rfl, w0⟩ := hv
  have hx := B.exec
  have hb := B.bytes
  have hr := B.returns
  have hts := atoms_spec (ws := wsX9_argument) B.pre
  have hown : s.vm.findClass RX9 = some m.cls := findClass_of_methodNamed B.named
  have hlocks := B.notSynchronized
  have w := w0.start
  clear w0
  have hl := lv_entry ([.int p0, .int p1]) (n := 2) (Nat.le_of_ble_eq_true rfl)
  rw [lg_entry_eq]
  generalize (lg_sl ([.int p0, .int p1]) ++ List.replicate (2 - (lg_sl ([.int p0, .int p1])).length) Slot.unset).toArray = ls at hl ⊢
  have hl : lv_has ls 2 [(0, .int p0), (1, .int p1)] := hl
  refine lv_iload_n hx hb dX9_argument_0 rfl (lv_at hl 1 rfl) ?_
  refine lv_if_ne (tgt := 11) hx hb dX9_argument_1 (by decide) (fun c1 => ?_) (fun c1 => ?_)
  · have c1 : ¬ (((a : Nat) : Int) = (0 : Int)) := fun q => c1 ((i_eq hp1 (rfl : (0 : Int32).toInt = 0)).mpr q)
    refine lv_iload_n hx hb dX9_argument_11 rfl (lv_at hl 1 rfl) ?_
    refine lv_iconst (v := 1) hx hb dX9_argument_12 (by decide) ?_
    refine lv_icmp_ne (tgt := 24) hx hb dX9_argument_13 (by decide) (fun c2 => ?_) (fun c2 => ?_)
    · have c2 : ¬ (((a : Nat) : Int) = ((1 : Nat) : Int)) := fun q => c2 ((i_eq hp1 (by decide : (1 : Int32).toInt = ((1 : Nat) : Int))).mpr q)
      refine lv_iload_n hx hb dX9_argument_24 rfl (lv_at hl 0 rfl) ?_
      refine lv_iconst (v := 5) hx hb dX9_argument_25 (by decide) ?_
      refine lv_irem hx hb dX9_argument_26 (fun q => absurd ((i_eq (by decide : (5 : Int32).toInt = ((5 : Nat) : Int)) (by decide : (0 : Int32).toInt = (0 : Int))).mp q) (by omega)) ?_
      refine lv_topi (fun y3 ey3 => ?_)
      have ty3 : y3.toInt = (((row % 5) : Nat) : Int) := i_remN ey3 hp0 (by decide : (5 : Int32).toInt = ((5 : Nat) : Int)) (by omega)
      refine r_iret (v := y3) hx hb hr hlocks w dX9_argument_27 ?_
      refine ⟨rfl, ty3.trans ?_⟩
      congr 1
      unfold dg9
      repeat first | rfl | rw [if_pos (by omega)] | rw [if_neg (by omega)]
    · have c2 : ((a : Nat) : Int) = ((1 : Nat) : Int) := (i_eq hp1 (by decide : (1 : Int32).toInt = ((1 : Nat) : Int))).mp c2
      refine lv_iload_n hx hb dX9_argument_16 rfl (lv_at hl 0 rfl) ?_
      refine lv_iconst (v := 5) hx hb dX9_argument_17 (by decide) ?_
      refine lv_idiv hx hb dX9_argument_18 (fun q => absurd ((i_eq (by decide : (5 : Int32).toInt = ((5 : Nat) : Int)) (by decide : (0 : Int32).toInt = (0 : Int))).mp q) (by omega)) ?_
      refine lv_topi (fun y4 ey4 => ?_)
      have ty4 : y4.toInt = (((row / 5) : Nat) : Int) := i_divN ey4 hp0 (by decide : (5 : Int32).toInt = ((5 : Nat) : Int)) (by omega)
      refine lv_iconst (v := 5) hx hb dX9_argument_19 (by decide) ?_
      refine lv_irem hx hb dX9_argument_20 (fun q => absurd ((i_eq (by decide : (5 : Int32).toInt = ((5 : Nat) : Int)) (by decide : (0 : Int32).toInt = (0 : Int))).mp q) (by omega)) ?_
      refine lv_topi (fun y5 ey5 => ?_)
      have ty5 : y5.toInt = ((((row / 5) % 5) : Nat) : Int) := i_remN ey5 ty4 (by decide : (5 : Int32).toInt = ((5 : Nat) : Int)) (by omega)
      refine lv_goto (tgt := 27) hx hb dX9_argument_21 (by decide) ?_
      refine r_iret (v := y5) hx hb hr hlocks w dX9_argument_27 ?_
      refine ⟨rfl, ty5.trans ?_⟩
      congr 1
      unfold dg9
      repeat first | rfl | rw [if_pos (by omega)] | rw [if_neg (by omega)]
  · have c1 : ((a : Nat) : Int) = (0 : Int) := (i_eq hp1 (rfl : (0 : Int32).toInt = 0)).mp c1
    refine lv_iload_n hx hb dX9_argument_4 rfl (lv_at hl 0 rfl) ?_
    refine lv_bipush (v := 25) hx hb dX9_argument_5 (by decide) ?_
    refine lv_idiv hx hb dX9_argument_7 (fun q => absurd ((i_eq (by decide : (25 : Int32).toInt = ((25 : Nat) : Int)) (by decide : (0 : Int32).toInt = (0 : Int))).mp q) (by omega)) ?_
    refine lv_topi (fun y6 ey6 => ?_)
    have ty6 : y6.toInt = (((row / 25) : Nat) : Int) := i_divN ey6 hp0 (by decide : (25 : Int32).toInt = ((25 : Nat) : Int)) (by omega)
    refine lv_goto (tgt := 27) hx hb dX9_argument_8 (by decide) ?_
    refine r_iret (v := y6) hx hb hr hlocks w dX9_argument_27 ?_
    refine ⟨rfl, ty6.trans ?_⟩
    congr 1
    unfold dg9
    repeat first | rfl | rw [if_pos (by omega)] | rw [if_neg (by omega)]

abbrev rm_X9_trulyStrict : Room := { frames := 2, cells := 0, slots := 0, locals := 48 }
set_option maxHeartbeats 4000000 in
set_option maxRecDepth 100000 in
theorem c_X9_trulyStrict (l : Launch) {g : GE} {h : Nat → va_E} {r : Nat} {nm kn um sv sz ra rm : Int32} {ga gk gl gB gt gn gr gp gh gv gs gx gf : Nat → Int32} (D : MdA g h r nm kn um sv sz ra rm ga gk gl gB gt gn gr gp gh gv gs gx gf) {M : PRG} (S : RS M nm ga gk gl gB) (hP : PV M) {K : Nat} (hK : IsK 0 M K) (hT : RT 0 M gt (mTab 0 M K)) {f a : Nat} (p0 p1 : Int32) (hp0 : p0.toInt = (f : Int)) (hp1 : p1.toInt = (a : Int)) (hf : f < pN M) (ha : a < pA M f) : MI l yX9_trulyStrict wsX9_trulyStrict rm_X9_trulyStrict [.ref (g.2.2.1 r), .int p0, .int p1] g h (fun r_ h2 => h2 = h ∧ Bq r_ (mStrictF 0 M f a)) := by
  refine Met.ofW (cc := cX9_trulyStrict) (maxL := 6) (ret := (some .int)) (by decide) rfl ?_
  intro p e s m args below meth c s₁ B hml hv
  obtain ⟨rfl, w0⟩ := hv
  have hx := B.exec
  have hb := B.bytes
  have hr := B.returns
  have hts := atoms_spec (ws := wsX9_trulyStrict) B.pre
  have hown : s.vm.findClass RX9 = some m.cls := findClass_of_methodNamed B.named
  have hlocks := B.notSynchronized
  have w := w0.start
  clear w0
  have hl := lv_entry ([.ref (g.2.2.1 r), .int p0, .int p1]) (n := 6) (Nat.le_of_ble_eq_true rfl)
  rw [lg_entry_eq]
  generalize (lg_sl ([.ref (g.2.2.1 r), .int p0, .int p1]) ++ List.replicate (6 - (lg_sl ([.ref (g.2.2.1 r), .int p0, .int p1])).length) Slot.unset).toArray = ls at hl ⊢
  have hl : lv_has ls 6 [(0, .ref (g.2.2.1 r)), (1, .int p0), (2, .int p1)] := hl
  have hn4 := hP.2.1
  have h3_ := (hP.2.2 f hf).1
  have hft_ := truly_fin hP hK hf ha
  have cuts : ∀ N : Nat, (∀ (i : Nat) (x3 : Int32) (x4 : Int32) (hc : Nat → va_E) (H : Heap) (locs : List Loc) (ls : Array Slot), WD g (inW g) s hc H locs → lv_has ls 6 [(0, .ref (g.2.2.1 r)), (1, .int p0), (2, .int p1), (3, .int x3), (4, .int x4)] → (i ≤ 125) → (Bq x3 (∀ q, q < i → mIs 0 (pA M f) (q / 25) (q / 5 % 5) (q % 5) → dg9 q a = 4 → mTab 0 M K f (mIx 0 q) = 4)) → (x4.toInt = ((i : Nat) : Int)) → (MdA g hc r nm kn um sv sz ra rm ga gk gl gB gt gn gr gp gh gv gs gx gf) → (hc = h) → (126 - i) * 2 + 1 < N → W p l e (headSpec wsX9_trulyStrict rm_X9_trulyStrict).room s m ([.ref (g.2.2.1 r), .int p0, .int p1] : List Value).toArray below meth c H locs 0 0 (MQ below (va_Qi (fun r_ h2 => h2 = h ∧ Bq r_ (mStrictF 0 M f a)) (Wd g) (inW g)) ([.ref (g.2.2.1 r), .int p0, .int p1] : List Value).toArray s 0 0 (inW g)) (F0 m 5 ls [])) ∧ (∀ (i : Nat) (x3 : Int32) (x4 : Int32) (x5 : Int32) (hc : Nat → va_E) (H : Heap) (locs : List Loc) (ls : Array Slot), WD g (inW g) s hc H locs → lv_has ls 6 [(0, .ref (g.2.2.1 r)), (1, .int p0), (2, .int p1), (3, .int x3), (4, .int x4), (5, .int x5)] → (i < 125) → (Bq x3 (∀ q, q < i → mIs 0 (pA M f) (q / 25) (q / 5 % 5) (q % 5) → dg9 q a = 4 → mTab 0 M K f (mIx 0 q) = 4)) → (x4.toInt = ((i : Nat) : Int)) → (Bq x5 (mIs 0 (pA M f) (i / 25) (i / 5 % 5) (i % 5) ∧ dg9 i a = 4)) → (MdA g hc r nm kn um sv sz ra rm ga gk gl gB gt gn gr gp gh gv gs gx gf) → (hc = h) → (126 - i) * 2 < N → W p l e (headSpec wsX9_trulyStrict rm_X9_trulyStrict).room s m ([.ref (g.2.2.1 r), .int p0, .int p1] : List Value).toArray below meth c H locs 0 0 (MQ below (va_Qi (fun r_ h2 => h2 = h ∧ Bq r_ (mStrictF 0 M f a)) (Wd g) (inW g)) ([.ref (g.2.2.1 r), .int p0, .int p1] : List Value).toArray s 0 0 (inW g)) (F0 m 53 ls [])) := by
    intro N
    induction N with
    | zero => exact ⟨by intros; omega, by intros; omega⟩
    | succ N ih =>
      obtain ⟨ih5, ih53⟩ := ih
      refine ⟨?_, ?_⟩
      · intro i x3 x4 hc H locs ls w hl hi hx3 hx4 D hh hN_
        refine lv_iload hx hb dX9_trulyStrict_5 (lv_at hl 4 rfl) ?_
        refine lv_bipush (v := 125) hx hb dX9_trulyStrict_7 (by decide) ?_
        refine lv_icmp_ge (tgt := 86) hx hb dX9_trulyStrict_9 (by decide) (fun c1 => ?_) (fun c1 => ?_)
        · have c1 : ((125 : Nat) : Int) ≤ ((i : Nat) : Int) := (i_le (by decide : (125 : Int32).toInt = ((125 : Nat) : Int)) hx4).mp c1
          refine lv_iload_n hx hb dX9_trulyStrict_86 rfl (lv_at hl 3 rfl) ?_
          refine lv_if_eq (tgt := 94) hx hb dX9_trulyStrict_87 (by decide) (fun c2 => ?_) (fun c2 => ?_)
          · have c2 := hx3.eq c2
            refine lv_iconst (v := 0) hx hb dX9_trulyStrict_94 (by decide) ?_
            refine r_iret (v := 0) hx hb hr hlocks w dX9_trulyStrict_95 ?_
            have hi_ : i = 125 := by omega
            subst hi_
            rw [hft_] at c2
            exact ⟨hh, by first | exact Bq.t c2 | exact Bq.f c2⟩
          · have c2 := hx3.ne c2
            refine lv_iconst (v := 1) hx hb dX9_trulyStrict_90 (by decide) ?_
            refine lv_goto (tgt := 95) hx hb dX9_trulyStrict_91 (by decide) ?_
            refine r_iret (v := 1) hx hb hr hlocks w dX9_trulyStrict_95 ?_
            have hi_ : i = 125 := by omega
            subst hi_
            rw [hft_] at c2
            exact ⟨hh, by first | exact Bq.t c2 | exact Bq.f c2⟩
        · have c1 : ¬ (((125 : Nat) : Int) ≤ ((i : Nat) : Int)) := fun q => c1 ((i_le (by decide : (125 : Int32).toInt = ((125 : Nat) : Int)) hx4).mpr q)
          refine lv_aload_n hx hb dX9_trulyStrict_12 rfl (lv_at hl 0 rfl) ?_
          refine lv_iload_n hx hb dX9_trulyStrict_13 rfl (lv_at hl 1 rfl) ?_
          refine lv_iload hx hb dX9_trulyStrict_14 (lv_at hl 4 rfl) ?_
          refine lv_bipush (v := 25) hx hb dX9_trulyStrict_16 (by decide) ?_
          refine lv_idiv hx hb dX9_trulyStrict_18 (fun q => absurd ((i_eq (by decide : (25 : Int32).toInt = ((25 : Nat) : Int)) (by decide : (0 : Int32).toInt = (0 : Int))).mp q) (by omega)) ?_
          refine lv_topi (fun y3 ey3 => ?_)
          have ty3 : y3.toInt = (((i / 25) : Nat) : Int) := i_divN ey3 hx4 (by decide : (25 : Int32).toInt = ((25 : Nat) : Int)) (by omega)
          refine lv_iload hx hb dX9_trulyStrict_19 (lv_at hl 4 rfl) ?_
          refine lv_iconst (v := 5) hx hb dX9_trulyStrict_21 (by decide) ?_
          refine lv_idiv hx hb dX9_trulyStrict_22 (fun q => absurd ((i_eq (by decide : (5 : Int32).toInt = ((5 : Nat) : Int)) (by decide : (0 : Int32).toInt = (0 : Int))).mp q) (by omega)) ?_
          refine lv_topi (fun y4 ey4 => ?_)
          have ty4 : y4.toInt = (((i / 5) : Nat) : Int) := i_divN ey4 hx4 (by decide : (5 : Int32).toInt = ((5 : Nat) : Int)) (by omega)
          refine lv_iconst (v := 5) hx hb dX9_trulyStrict_23 (by decide) ?_
          refine lv_irem hx hb dX9_trulyStrict_24 (fun q => absurd ((i_eq (by decide : (5 : Int32).toInt = ((5 : Nat) : Int)) (by decide : (0 : Int32).toInt = (0 : Int))).mp q) (by omega)) ?_
          refine lv_topi (fun y5 ey5 => ?_)
          have ty5 : y5.toInt = ((((i / 5) % 5) : Nat) : Int) := i_remN ey5 ty4 (by decide : (5 : Int32).toInt = ((5 : Nat) : Int)) (by omega)
          refine lv_iload hx hb dX9_trulyStrict_25 (lv_at hl 4 rfl) ?_
          refine lv_iconst (v := 5) hx hb dX9_trulyStrict_27 (by decide) ?_
          refine lv_irem hx hb dX9_trulyStrict_28 (fun q => absurd ((i_eq (by decide : (5 : Int32).toInt = ((5 : Nat) : Int)) (by decide : (0 : Int32).toInt = (0 : Int))).mp q) (by omega)) ?_
          refine lv_topi (fun y6 ey6 => ?_)
          have ty6 : y6.toInt = (((i % 5) : Nat) : Int) := i_remN ey6 hx4 (by decide : (5 : Int32).toInt = ((5 : Nat) : Int)) (by omega)
          refine lv_iconst (v := 5) hx hb dX9_trulyStrict_29 (by decide) ?_
          refine r_callI w (va_runV (As := [.int p0, .int y3, .int y5, .int y6, .int 5]) (rest := []) ⟨hx, hb, hml, hown, hts⟩ (c_X9_isRow l D S hP (u := 0) (by omega) p0 y3 y5 y6 5 hp0 (by omega) (by decide : (5 : Int32).toInt = ((5 : Nat) : Int))) (cwV 5 hts gX9_trulyStrict_X9_isRow rfl rfl rfl (by decide +kernel) ⟨Nat.le_of_ble_eq_true rfl, Nat.le_of_ble_eq_true rfl⟩) (r_preV w (by have := D.1; omega) D.c0 rfl) rfl rfl hl.1 rfl (lv_room (Nat.le_of_ble_eq_true rfl)) dX9_trulyStrict_30 ⟨Nat.zero_le _, Nat.zero_le _⟩) (fun r8 h7 H locs hp w => ?_)
          obtain ⟨eh_, qq9⟩ := hp
          have eh_ := eh_.symm
          subst eh_
          have b10 : Bq r8 (mIs 0 (pA M f) (i / 25) (i / 5 % 5) (i % 5)) := qq9.iff (by rw [(ty3 : (y3 : Int32).toInt = _), (ty5 : (y5 : Int32).toInt = _), (ty6 : (y6 : Int32).toInt = _)]; simp only [Int.toNat_natCast]; exact ⟨fun q_ => q_.2.2.2, fun q_ => ⟨by omega, by omega, by omega, q_⟩⟩)
          refine lv_if_eq (tgt := 50) hx hb dX9_trulyStrict_33 (by decide) (fun c11 => ?_) (fun c11 => ?_)
          · have c11 := b10.eq c11
            refine lv_iconst (v := 0) hx hb dX9_trulyStrict_50 (by decide) ?_
            refine lv_istore (lv' := [(5, .int 0), (0, .ref (g.2.2.1 r)), (1, .int p0), (2, .int p1), (3, .int x3), (4, .int x4)]) hx hb dX9_trulyStrict_51 hl (by decide) rfl (fun ls hl => ?_)
            exact ih53 i x3 x4 0 hc _ _ _ w (lv_sub hl [1, 2, 3, 4, 5, 0] rfl) (by omega) hx3 hx4 (Bq.f (fun q_ => c11 q_.1)) D hh (by omega)
          · have c11 := b10.ne c11
            refine lv_iload hx hb dX9_trulyStrict_36 (lv_at hl 4 rfl) ?_
            refine lv_iload_n hx hb dX9_trulyStrict_38 rfl (lv_at hl 2 rfl) ?_
            refine r_callI w (va_runS (As := [.int x4, .int p1]) (rest := []) ⟨hx, hb, hml, hown, hts⟩ (c_X9_argument l x4 p1 hx4 hp1 (by omega)) (va_cwS 2 hts gX9_trulyStrict_X9_argument rfl rfl rfl (by decide +kernel) ⟨Nat.le_of_ble_eq_true rfl, Nat.le_of_ble_eq_true rfl⟩) (r_preS w) rfl rfl hl.1 rfl (lv_room (Nat.le_of_ble_eq_true rfl)) dX9_trulyStrict_39 ⟨Nat.zero_le _, Nat.zero_le _⟩) (fun r13 h12 H locs hp w => ?_)
            obtain ⟨eh_, qq14⟩ := hp
            have eh_ := eh_.symm
            subst eh_
            refine lv_iconst (v := 4) hx hb dX9_trulyStrict_42 (by decide) ?_
            refine lv_icmp_ne (tgt := 50) hx hb dX9_trulyStrict_43 (by decide) (fun c15 => ?_) (fun c15 => ?_)
            · have c15 : ¬ ((((dg9 i a) : Nat) : Int) = ((4 : Nat) : Int)) := fun q => c15 ((i_eq qq14 (by decide : (4 : Int32).toInt = ((4 : Nat) : Int))).mpr q)
              refine lv_iconst (v := 0) hx hb dX9_trulyStrict_50 (by decide) ?_
              refine lv_istore (lv' := [(5, .int 0), (0, .ref (g.2.2.1 r)), (1, .int p0), (2, .int p1), (3, .int x3), (4, .int x4)]) hx hb dX9_trulyStrict_51 hl (by decide) rfl (fun ls hl => ?_)
              exact ih53 i x3 x4 0 hc _ _ _ w (lv_sub hl [1, 2, 3, 4, 5, 0] rfl) (by omega) hx3 hx4 (by first | exact Bq.t ⟨c11, by omega⟩ | exact Bq.f (fun q_ => by have := q_.2; omega)) D hh (by omega)
            · have c15 : (((dg9 i a) : Nat) : Int) = ((4 : Nat) : Int) := (i_eq qq14 (by decide : (4 : Int32).toInt = ((4 : Nat) : Int))).mp c15
              refine lv_iconst (v := 1) hx hb dX9_trulyStrict_46 (by decide) ?_
              refine lv_goto (tgt := 51) hx hb dX9_trulyStrict_47 (by decide) ?_
              refine lv_istore (lv' := [(5, .int 1), (0, .ref (g.2.2.1 r)), (1, .int p0), (2, .int p1), (3, .int x3), (4, .int x4)]) hx hb dX9_trulyStrict_51 hl (by decide) rfl (fun ls hl => ?_)
              exact ih53 i x3 x4 1 hc _ _ _ w (lv_sub hl [1, 2, 3, 4, 5, 0] rfl) (by omega) hx3 hx4 (by first | exact Bq.t ⟨c11, by omega⟩ | exact Bq.f (fun q_ => by have := q_.2; omega)) D hh (by omega)
      · intro i x3 x4 x5 hc H locs ls w hl hi hx3 hx4 hx5 D hh hN_
        refine lv_iload_n hx hb dX9_trulyStrict_53 rfl (lv_at hl 3 rfl) ?_
        refine lv_if_eq (tgt := 78) hx hb dX9_trulyStrict_54 (by decide) (fun c16 => ?_) (fun c16 => ?_)
        · have c16 := hx3.eq c16
          refine lv_iconst (v := 0) hx hb dX9_trulyStrict_78 (by decide) ?_
          refine lv_istore_n (lv' := [(3, .int 0), (0, .ref (g.2.2.1 r)), (1, .int p0), (2, .int p1), (4, .int x4), (5, .int x5)]) hx hb dX9_trulyStrict_79 rfl hl (by decide) rfl (fun ls hl => ?_)
          obtain ⟨y17, ey17⟩ : ∃ y : Int32, y = x4 + (1) := ⟨_, rfl⟩
          have ty17 : y17.toInt = (((i + 1) : Nat) : Int) := i_addN ey17 hx4 (by decide : (1 : Int32).toInt = ((1 : Nat) : Int)) (by omega)
          refine lv_iinc (v := y17) (lv' := [(4, .int y17), (3, .int 0), (0, .ref (g.2.2.1 r)), (1, .int p0), (2, .int p1), (5, .int x5)]) hx hb dX9_trulyStrict_80 hl (k := 4) rfl (by rw [ey17]; rfl) (by decide) rfl (fun ls hl => ?_)
          refine lv_goto (tgt := 5) hx hb dX9_trulyStrict_83 (by decide) ?_
          exact ih5 (i + 1) 0 y17 hc _ _ _ w (lv_sub hl [2, 3, 4, 1, 0] rfl) (by omega) (Bq.f (fun q_ => c16 (fun j_ hj_ => q_ j_ (by omega)))) ty17 D hh (by omega)
        · have c16 := hx3.ne c16
          refine lv_iload hx hb dX9_trulyStrict_57 (lv_at hl 5 rfl) ?_
          refine lv_if_eq (tgt := 74) hx hb dX9_trulyStrict_59 (by decide) (fun c18 => ?_) (fun c18 => ?_)
          · have c18 := hx5.eq c18
            refine lv_iconst (v := 1) hx hb dX9_trulyStrict_74 (by decide) ?_
            refine lv_goto (tgt := 79) hx hb dX9_trulyStrict_75 (by decide) ?_
            refine lv_istore_n (lv' := [(3, .int 1), (0, .ref (g.2.2.1 r)), (1, .int p0), (2, .int p1), (4, .int x4), (5, .int x5)]) hx hb dX9_trulyStrict_79 rfl hl (by decide) rfl (fun ls hl => ?_)
            obtain ⟨y19, ey19⟩ : ∃ y : Int32, y = x4 + (1) := ⟨_, rfl⟩
            have ty19 : y19.toInt = (((i + 1) : Nat) : Int) := i_addN ey19 hx4 (by decide : (1 : Int32).toInt = ((1 : Nat) : Int)) (by omega)
            refine lv_iinc (v := y19) (lv' := [(4, .int y19), (3, .int 1), (0, .ref (g.2.2.1 r)), (1, .int p0), (2, .int p1), (5, .int x5)]) hx hb dX9_trulyStrict_80 hl (k := 4) rfl (by rw [ey19]; rfl) (by decide) rfl (fun ls hl => ?_)
            refine lv_goto (tgt := 5) hx hb dX9_trulyStrict_83 (by decide) ?_
            exact ih5 (i + 1) 1 y19 hc _ _ _ w (lv_sub hl [2, 3, 4, 1, 0] rfl) (by omega) (Bq.t (fun j_ hj_ h1_ h2_ => by rcases Nat.lt_succ_iff_lt_or_eq.mp hj_ with z_ | z_; exact c16 j_ z_ h1_ h2_; rw [z_] at h1_ h2_; exact absurd ⟨h1_, h2_⟩ c18)) ty19 D hh (by omega)
          · have c18 := hx5.ne c18
            refine lv_aload_n hx hb dX9_trulyStrict_62 rfl (lv_at hl 0 rfl) ?_
            refine lv_iconst (v := 0) hx hb dX9_trulyStrict_63 (by decide) ?_
            refine lv_iload_n hx hb dX9_trulyStrict_64 rfl (lv_at hl 1 rfl) ?_
            refine lv_iload hx hb dX9_trulyStrict_65 (lv_at hl 4 rfl) ?_
            refine r_callI w (va_runV (As := [.int 0, .int p0, .int x4]) (rest := []) ⟨hx, hb, hml, hown, hts⟩ (c_X9_tableAt l D (u := 0) (by omega) 0 p0 x4 (by decide : (0 : Int32).toInt = ((0 : Nat) : Int)) hp0 hx4 (by omega) (by omega)) (cwV 3 hts gX9_trulyStrict_X9_tableAt rfl rfl rfl (by decide +kernel) ⟨Nat.le_of_ble_eq_true rfl, Nat.le_of_ble_eq_true rfl⟩) (r_preV w (by have := D.1; omega) D.c0 rfl) rfl rfl hl.1 rfl (lv_room (Nat.le_of_ble_eq_true rfl)) dX9_trulyStrict_67 ⟨Nat.zero_le _, Nat.zero_le _⟩) (fun r21 h20 H locs hp w => ?_)
            obtain ⟨eh_, qq22⟩ := hp
            have eh_ := eh_.symm
            subst eh_
            subst qq22
            refine lv_iconst (v := 4) hx hb dX9_trulyStrict_70 (by decide) ?_
            refine lv_icmp_ne (tgt := 78) hx hb dX9_trulyStrict_71 (by decide) (fun c23 => ?_) (fun c23 => ?_)
            · have c23 : ¬ ((((mTab 0 M K f (mIx 0 i)) : Nat) : Int) = ((4 : Nat) : Int)) := fun q => c23 ((i_eq ((hT f i hf (by omega)).1 c18.1) (by decide : (4 : Int32).toInt = ((4 : Nat) : Int))).mpr q)
              refine lv_iconst (v := 0) hx hb dX9_trulyStrict_78 (by decide) ?_
              refine lv_istore_n (lv' := [(3, .int 0), (0, .ref (g.2.2.1 r)), (1, .int p0), (2, .int p1), (4, .int x4), (5, .int x5)]) hx hb dX9_trulyStrict_79 rfl hl (by decide) rfl (fun ls hl => ?_)
              obtain ⟨y24, ey24⟩ : ∃ y : Int32, y = x4 + (1) := ⟨_, rfl⟩
              have ty24 : y24.toInt = (((i + 1) : Nat) : Int) := i_addN ey24 hx4 (by decide : (1 : Int32).toInt = ((1 : Nat) : Int)) (by omega)
              refine lv_iinc (v := y24) (lv' := [(4, .int y24), (3, .int 0), (0, .ref (g.2.2.1 r)), (1, .int p0), (2, .int p1), (5, .int x5)]) hx hb dX9_trulyStrict_80 hl (k := 4) rfl (by rw [ey24]; rfl) (by decide) rfl (fun ls hl => ?_)
              refine lv_goto (tgt := 5) hx hb dX9_trulyStrict_83 (by decide) ?_
              exact ih5 (i + 1) 0 y24 hc _ _ _ w (lv_sub hl [2, 3, 4, 1, 0] rfl) (by omega) (Bq.f (fun q_ => by have := q_ i (by omega) c18.1 c18.2; omega)) ty24 D hh (by omega)
            · have c23 : (((mTab 0 M K f (mIx 0 i)) : Nat) : Int) = ((4 : Nat) : Int) := (i_eq ((hT f i hf (by omega)).1 c18.1) (by decide : (4 : Int32).toInt = ((4 : Nat) : Int))).mp c23
              refine lv_iconst (v := 1) hx hb dX9_trulyStrict_74 (by decide) ?_
              refine lv_goto (tgt := 79) hx hb dX9_trulyStrict_75 (by decide) ?_
              refine lv_istore_n (lv' := [(3, .int 1), (0, .ref (g.2.2.1 r)), (1, .int p0), (2, .int p1), (4, .int x4), (5, .int x5)]) hx hb dX9_trulyStrict_79 rfl hl (by decide) rfl (fun ls hl => ?_)
              obtain ⟨y25, ey25⟩ : ∃ y : Int32, y = x4 + (1) := ⟨_, rfl⟩
              have ty25 : y25.toInt = (((i + 1) : Nat) : Int) := i_addN ey25 hx4 (by decide : (1 : Int32).toInt = ((1 : Nat) : Int)) (by omega)
              refine lv_iinc (v := y25) (lv' := [(4, .int y25), (3, .int 1), (0, .ref (g.2.2.1 r)), (1, .int p0), (2, .int p1), (5, .int x5)]) hx hb dX9_trulyStrict_80 hl (k := 4) rfl (by rw [ey25]; rfl) (by decide) rfl (fun ls hl => ?_)
              refine lv_goto (tgt := 5) hx hb dX9_trulyStrict_83 (by decide) ?_
              exact ih5 (i + 1) 1 y25 hc _ _ _ w (lv_sub hl [2, 3, 4, 1, 0] rfl) (by omega) (Bq.t (fun j_ hj_ h1_ h2_ => by rcases Nat.lt_succ_iff_lt_or_eq.mp hj_ with z_ | z_; exact c16 j_ z_ h1_ h2_; rw [z_]; omega)) ty25 D hh (by omega)
  have cut0 := cuts (1000)
  obtain ⟨ih5, ih53⟩ := cut0
  refine lv_iconst (v := 1) hx hb dX9_trulyStrict_0 (by decide) ?_
  refine lv_istore_n (lv' := [(3, .int 1), (0, .ref (g.2.2.1 r)), (1, .int p0), (2, .int p1)]) hx hb dX9_trulyStrict_1 rfl hl (by decide) rfl (fun ls hl => ?_)
  refine lv_iconst (v := 0) hx hb dX9_trulyStrict_2 (by decide) ?_
  refine lv_istore (lv' := [(4, .int 0), (3, .int 1), (0, .ref (g.2.2.1 r)), (1, .int p0), (2, .int p1)]) hx hb dX9_trulyStrict_3 hl (by decide) rfl (fun ls hl => ?_)
  exact ih5 0 1 0 h _ _ _ w (lv_sub hl [2, 3, 4, 1, 0] rfl) (Nat.zero_le _) (Bq.t (fun q_ h_ => absurd h_ (Nat.not_lt_zero _))) ((by decide : (0 : Int32).toInt = ((0 : Nat) : Int))) D rfl (by omega)

