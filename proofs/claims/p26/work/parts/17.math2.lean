/-- the sign of letter k, in their order -/
def mCode (k : Nat) : Nat := [111, 105, 119, 97, 98, 99, 109, 43, 38, 63, 48, 49, 50, 51].getD k 0
theorem mCode_c {k : Nat} (hk : k < 14) : (k = 0 ∧ mCode k = 111) ∨ (k = 1 ∧ mCode k = 105) ∨ (k = 2 ∧ mCode k = 119) ∨ (3 ≤ k ∧ k < 6 ∧ mCode k = 94 + k) ∨ (k = 6 ∧ mCode k = 109) ∨ (k = 7 ∧ mCode k = 43) ∨ (k = 8 ∧ mCode k = 38) ∨ (k = 9 ∧ mCode k = 63) ∨ (10 ≤ k ∧ mCode k = 38 + k) := by
  rcases (show k = 0 ∨ k = 1 ∨ k = 2 ∨ k = 3 ∨ k = 4 ∨ k = 5 ∨ k = 6 ∨ k = 7 ∨ k = 8 ∨ k = 9 ∨ k = 10 ∨ k = 11 ∨ k = 12 ∨ k = 13 by omega) with e | e | e | e | e | e | e | e | e | e | e | e | e | e <;> subst e <;> decide
theorem mCode_inj {a b : Nat} (ha : a < 14) (hb : b < 14) (h : mCode a = mCode b) : a = b := by
  have h1 := mCode_c ha
  have h2 := mCode_c hb
  omega
/-- the letter of a sign, 14 for none -/
def mNum (c : Int) : Nat := if c = 111 then 0 else if c = 105 then 1 else if c = 119 then 2 else if 97 ≤ c ∧ c ≤ 99 then (c - 94).toNat else if c = 109 then 6 else if c = 43 then 7 else if c = 38 then 8 else if c = 63 then 9 else if 48 ≤ c ∧ c ≤ 51 then (c - 38).toNat else 14
theorem mNum_c (c : Int) : (mNum c = 0 ∧ c = 111) ∨ (mNum c = 1 ∧ c = 105) ∨ (mNum c = 2 ∧ c = 119) ∨ (3 ≤ mNum c ∧ mNum c < 6 ∧ c = 94 + mNum c) ∨ (mNum c = 6 ∧ c = 109) ∨ (mNum c = 7 ∧ c = 43) ∨ (mNum c = 8 ∧ c = 38) ∨ (mNum c = 9 ∧ c = 63) ∨ (10 ≤ mNum c ∧ mNum c < 14 ∧ c = 38 + mNum c) ∨ (mNum c = 14 ∧ c ≠ 111 ∧ c ≠ 105 ∧ c ≠ 119 ∧ c ≠ 109 ∧ c ≠ 43 ∧ c ≠ 38 ∧ c ≠ 63 ∧ ¬ (97 ≤ c ∧ c ≤ 99) ∧ ¬ (48 ≤ c ∧ c ≤ 51)) := by
  unfold mNum
  split
  · omega
  split
  · omega
  split
  · omega
  split
  · omega
  split
  · omega
  split
  · omega
  split
  · omega
  split
  · omega
  split <;> omega
theorem mNum_code {k : Nat} (hk : k < 14) : mNum ((mCode k : Nat) : Int) = k := by
  have h1 := mCode_c hk
  have h2 := mNum_c ((mCode k : Nat) : Int)
  omega
theorem mCode_num {c : Int} (h : mNum c < 14) : ((mCode (mNum c) : Nat) : Int) = c := by
  have h1 := mCode_c h
  have h2 := mNum_c c
  omega
theorem lt2 {p : Nat} (h : p < 2) : p = 0 ∨ p = 1 := by omega
theorem mB_c {u : Nat} (hu : u < 3) : (u = 0 ∧ mB u = 5) ∨ (u = 1 ∧ mB u = 2) ∨ (u = 2 ∧ mB u = 4) := by
  rcases (show u = 0 ∨ u = 1 ∨ u = 2 by omega) with e | e | e <;> subst e <;> decide
theorem mN_c (u : Nat) : (u = 0 ∧ mN u = 4) ∨ (1 ≤ u ∧ mN u = 0) := by
  unfold mN; split <;> omega
theorem mZ_c (u : Nat) : (u = 0 ∧ mZ u = 0) ∨ (1 ≤ u ∧ mZ u = 1) := by
  unfold mZ; split <;> omega
theorem mO_c (u : Nat) : (u = 2 ∧ mO u = 2) ∨ (u ≠ 2 ∧ mO u = 1) := by
  unfold mO; split <;> omega
/-- the functions as the reference holds them -/
def RS (M : PRG) (nm : Int32) (ga gk gl gB : Nat → Int32) : Prop :=
  nm.toInt = ((pN M : Nat) : Int) ∧ (∀ i, i < pN M → (ga i).toInt = ((pA M i : Nat) : Int)) ∧ (∀ i, i < pN M → (gk i).toInt = ((pK M i : Nat) : Int)) ∧ (∀ i, i < pN M → (gl i).toInt = ((pL M i : Nat) : Int)) ∧ ∀ i, i < pN M → ∀ j, j < pL M i → (gB (24 * i + j)).toInt = ((mCode (pB M i j) : Nat) : Int)
theorem RS.ha {M : PRG} {nm : Int32} {ga gk gl gB : Nat → Int32} (S : RS M nm ga gk gl gB) (hP : PV M) : ∀ i, i < pN M → (ga i).toInt = (pA M i : Int) ∧ pA M i ≤ 3 := fun i hi => ⟨S.2.1 i hi, (hP.2.2 i hi).1⟩
/-- a row of arguments of a function with c of them -/
def mIs (u c x y z : Nat) : Prop := x < (if 0 < c then mB u else 1) ∧ y < (if 1 < c then mB u else 1) ∧ z < (if 2 < c then mB u else 1)
def mIx (u row : Nat) : Nat := row / 25 + mB u * (row / 5 % 5) + mB u * mB u * (row % 5)
/-- the reference's table of one kind -/
def RT (u : Nat) (M : PRG) (gt : Nat → Int32) (T : Nat → Nat → Nat) : Prop := ∀ f row, f < pN M → row < 125 → (mIs u (pA M f) (row / 25) (row / 5 % 5) (row % 5) → (gt (500 * u + 125 * f + row)).toInt = ((T f (mIx u row) : Nat) : Int)) ∧ (¬ mIs u (pA M f) (row / 25) (row / 5 % 5) (row % 5) → (gt (500 * u + 125 * f + row)).toInt = ((mN u : Nat) : Int))
theorem mIs_lt {u c x y z : Nat} (h : mIs u c x y z) : x < mB u ∧ y < mB u ∧ z < mB u ∧ (c ≤ 0 → x = 0) ∧ (c ≤ 1 → y = 0) ∧ (c ≤ 2 → z = 0) := by
  have hb := mB_pos u
  obtain ⟨h1, h2, h3⟩ := h
  refine ⟨?_, ?_, ?_, fun q => ?_, fun q => ?_, fun q => ?_⟩
  · split at h1 <;> omega
  · split at h2 <;> omega
  · split at h3 <;> omega
  · rw [if_neg (by omega)] at h1; omega
  · rw [if_neg (by omega)] at h2; omega
  · rw [if_neg (by omega)] at h3; omega
theorem mIs_of {u c x y z : Nat} (h1 : x < mB u) (h2 : y < mB u) (h3 : z < mB u) (z0 : c ≤ 0 → x = 0) (z1 : c ≤ 1 → y = 0) (z2 : c ≤ 2 → z = 0) : mIs u c x y z := by
  refine ⟨?_, ?_, ?_⟩ <;> split <;> omega
theorem RT.at {u : Nat} {M : PRG} {gt : Nat → Int32} {T : Nat → Nat → Nat} (h : RT u M gt T) {f x y z : Nat} (hf : f < pN M) (hI : mIs u (pA M f) x y z) : (gt (500 * u + 125 * f + (25 * x + 5 * y + z))).toInt = ((T f (x + mB u * y + mB u * mB u * z) : Nat) : Int) := by
  have hl := mIs_lt hI
  have hb := mB_le u
  have e1 : (25 * x + 5 * y + z) / 25 = x := by omega
  have e2 : (25 * x + 5 * y + z) / 5 % 5 = y := by omega
  have e3 : (25 * x + 5 * y + z) % 5 = z := by omega
  have := (h f (25 * x + 5 * y + z) hf (by omega)).1 (by rw [e1, e2, e3]; exact hI)
  rw [this]
  unfold mIx
  rw [e1, e2, e3]
theorem mIx_lt {u c x y z : Nat} (hc : c ≤ 3) (h : mIs u c x y z) : x + mB u * y + mB u * mB u * z < mB u ^ c := by
  obtain ⟨a1, a2, a3, a4, a5, a6⟩ := mIs_lt h
  exact mIdx_lt (mB_pos u) hc a1 a2 a3 a4 a5 a6

theorem mLet_arg {u k q0 q1 q2 : Nat} {T : Nat → Nat → Nat} {xs : Nat → Nat} (h1 : 3 ≤ k) (h2 : k < 6) : mLet u T xs k q0 q1 q2 = xs (k - 3) := by
  unfold mLet
  rw [if_neg (by omega), if_neg (by omega), if_neg (by omega), if_pos h2]
theorem mLet_call {u k q0 q1 q2 : Nat} {T : Nat → Nat → Nat} {xs : Nat → Nat} (h1 : 10 ≤ k) : mLet u T xs k q0 q1 q2 = T (k - 10) (q0 + mB u * q1 + mB u * mB u * q2) := by
  unfold mLet
  repeat rw [if_neg (by omega)]

theorem mIs_iff {u c x y z : Nat} : mIs u c x y z ↔ (x < mB u ∧ y < mB u ∧ z < mB u ∧ (c ≤ 0 → x = 0) ∧ (c ≤ 1 → y = 0) ∧ (c ≤ 2 → z = 0)) := ⟨mIs_lt, fun h => mIs_of h.1 h.2.1 h.2.2.1 h.2.2.2.1 h.2.2.2.2.1 h.2.2.2.2.2⟩
theorem mStep_t {u : Nat} {P : PRG} {T : Nat → Nat → Nat} {f row : Nat} (h : mStop u P f row) : mStep u P T f row = mN u := by unfold mStep; exact if_pos h
theorem mStep_f {u : Nat} {P : PRG} {T : Nat → Nat → Nat} {f row : Nat} (h : ¬ mStop u P f row) : mStep u P T f row = mBody u P T (mArg u P f row) f := by unfold mStep; exact if_neg h
theorem mArg_eq {u : Nat} {P : PRG} {f row i j v : Nat} (hi : i < pA P f) (hj : (if pK P f = 3 then pA P f - 1 - i else i) = j) (hv : mDig u row j = v) : mArg u P f row i = v := by
  unfold mArg
  rw [if_pos hi, hj, hv]
theorem dig3 {u x y z : Nat} (hx : x < mB u) (hy : y < mB u) (hz : z < mB u) : mDig u (x + mB u * y + mB u * mB u * z) 0 = x ∧ mDig u (x + mB u * y + mB u * mB u * z) 1 = y ∧ mDig u (x + mB u * y + mB u * mB u * z) 2 = z := by
  refine ⟨?_, ?_, ?_⟩ <;> rw [dig_i (by omega) hx hy hz] <;> rfl
theorem mStop_iff {u : Nat} {P : PRG} {f R x y z : Nat} (h3 : pA P f ≤ 3) (d0 : mDig u R 0 = x) (d1 : mDig u R 1 = y) (d2 : mDig u R 2 = z) : mStop u P f R ↔ ((pK P f = 1 ∨ pK P f = 3) ∧ ((0 < pA P f ∧ x = mN u) ∨ (1 < pA P f ∧ y = mN u) ∨ (2 < pA P f ∧ z = mN u))) ∨ (pK P f = 2 ∧ 0 < pA P f ∧ x = mN u) := by
  unfold mStop
  constructor
  · rintro (⟨a, i, b, c⟩ | ⟨a, b, c⟩)
    · refine Or.inl ⟨a, ?_⟩
      rcases (show i = 0 ∨ i = 1 ∨ i = 2 by omega) with e | e | e <;> subst e
      · exact Or.inl ⟨b, d0.symm.trans c⟩
      · exact Or.inr (Or.inl ⟨b, d1.symm.trans c⟩)
      · exact Or.inr (Or.inr ⟨b, d2.symm.trans c⟩)
    · exact Or.inr ⟨a, b, d0.symm.trans c⟩
  · rintro (⟨a, ⟨b, c⟩ | ⟨b, c⟩ | ⟨b, c⟩⟩ | ⟨a, b, c⟩)
    · exact Or.inl ⟨a, 0, b, d0.trans c⟩
    · exact Or.inl ⟨a, 1, b, d1.trans c⟩
    · exact Or.inl ⟨a, 2, b, d2.trans c⟩
    · exact Or.inr ⟨a, b, d0.trans c⟩
theorem mIx_ex {u c row : Nat} (hu : u < 3) (hc : c ≤ 3) (h : row < mB u ^ c) : ∃ q, q < 125 ∧ mIs u c (q / 25) (q / 5 % 5) (q % 5) ∧ mIx u q = row := by
  have key : ∀ b : Nat, (b = 5 ∨ b = 2 ∨ b = 4) → mB u = b → row < b ^ c → ∃ q, q < 125 ∧ mIs u c (q / 25) (q / 5 % 5) (q % 5) ∧ mIx u q = row := by
    intro b hb e hr
    have ex : ∃ x y z : Nat, x < b ∧ y < b ∧ z < b ∧ x + b * y + b * b * z = row ∧ (c ≤ 0 → x = 0) ∧ (c ≤ 1 → y = 0) ∧ (c ≤ 2 → z = 0) := by
      rcases (show c = 0 ∨ c = 1 ∨ c = 2 ∨ c = 3 by omega) with q | q | q | q <;> subst q <;> rcases hb with q | q | q <;> subst q <;>
        (first | (refine ⟨0, 0, 0, by omega, by omega, by omega, ?_, ?_, ?_, ?_⟩ <;> omega) | (refine ⟨row, 0, 0, by omega, by omega, by omega, ?_, ?_, ?_, ?_⟩ <;> omega) | (refine ⟨row % 5, row / 5, 0, by omega, by omega, by omega, ?_, ?_, ?_, ?_⟩ <;> omega) | (refine ⟨row % 2, row / 2, 0, by omega, by omega, by omega, ?_, ?_, ?_, ?_⟩ <;> omega) | (refine ⟨row % 4, row / 4, 0, by omega, by omega, by omega, ?_, ?_, ?_, ?_⟩ <;> omega) | (refine ⟨row % 5, row / 5 % 5, row / 25, by omega, by omega, by omega, ?_, ?_, ?_, ?_⟩ <;> omega) | (refine ⟨row % 2, row / 2 % 2, row / 4, by omega, by omega, by omega, ?_, ?_, ?_, ?_⟩ <;> omega) | (refine ⟨row % 4, row / 4 % 4, row / 16, by omega, by omega, by omega, ?_, ?_, ?_, ?_⟩ <;> omega))
    obtain ⟨x, y, z, a1, a2, a3, a4, a5, a6, a7⟩ := ex
    have hb5 : b ≤ 5 := by omega
    have e1 : (25 * x + 5 * y + z) / 25 = x := by omega
    have e2 : (25 * x + 5 * y + z) / 5 % 5 = y := by omega
    have e3 : (25 * x + 5 * y + z) % 5 = z := by omega
    refine ⟨25 * x + 5 * y + z, by omega, ?_, ?_⟩
    · rw [e1, e2, e3]; exact mIs_of (by omega) (by omega) (by omega) a5 a6 a7
    · unfold mIx; rw [e1, e2, e3, e]; exact a4
  rcases mB_c hu with ⟨_, e⟩ | ⟨_, e⟩ | ⟨_, e⟩ <;> exact key _ (by omega) e (by rw [e] at h; exact h)
theorem mIx_in {u c row : Nat} (hc : c ≤ 3) (h : mIs u c (row / 25) (row / 5 % 5) (row % 5)) : mIx u row < mB u ^ c := mIx_lt hc h
/-- a round's value at a place of the reference's table -/
def NV (u : Nat) (M : PRG) (T : Nat → Nat → Nat) (f row : Nat) (v : Int32) : Prop := (mIs u (pA M f) (row / 25) (row / 5 % 5) (row % 5) → v.toInt = ((T f (mIx u row) : Nat) : Int)) ∧ (¬ mIs u (pA M f) (row / 25) (row / 5 % 5) (row % 5) → v.toInt = ((mN u : Nat) : Int))
def Df (u : Nat) (M : PRG) (k f row : Nat) : Prop := mIs u (pA M f) (row / 25) (row / 5 % 5) (row % 5) ∧ mTab u M k f (mIx u row) ≠ mTab u M (k + 1) f (mIx u row)
theorem nv_up {u : Nat} {M : PRG} {T : Nat → Nat → Nat} {f row : Nat} {gn gz : Nat → Int32} {x : Int32} (h : ∀ f_ row_, f_ < pN M → row_ < 125 → (f_ < f ∨ (f_ = f ∧ row_ < row)) → NV u M T f_ row_ (gn (125 * f_ + row_))) (hr : row < 125) (hx : NV u M T f row x) (e : upd gn (125 * f + row) x = gz) :
    ∀ f_ row_, f_ < pN M → row_ < 125 → (f_ < f ∨ (f_ = f ∧ row_ < row + 1)) → NV u M T f_ row_ (gz (125 * f_ + row_)) := by
  subst e
  intro f_ row_ a b c
  by_cases q : f_ = f ∧ row_ = row
  · rw [q.1, q.2, pk_us]; exact hx
  · rw [pk_un (by omega)]; exact h f_ row_ a b (by omega)
theorem nv_ch1 {u : Nat} {M : PRG} {k f row : Nat} (h : ∃ f_ row_, f_ < pN M ∧ row_ < 125 ∧ (f_ < f ∨ (f_ = f ∧ row_ < row)) ∧ Df u M k f_ row_) : Bq 1 (∃ f_ row_, f_ < pN M ∧ row_ < 125 ∧ (f_ < f ∨ (f_ = f ∧ row_ < row + 1)) ∧ Df u M k f_ row_) := by
  obtain ⟨a, b, c, d, e, q⟩ := h
  exact Bq.t ⟨a, b, c, d, by omega, q⟩
theorem nv_ch0 {u : Nat} {M : PRG} {k f row : Nat} {r : Int32} (hf : f < pN M) (hr : row < 125) (h : ¬ ∃ f_ row_, f_ < pN M ∧ row_ < 125 ∧ (f_ < f ∨ (f_ = f ∧ row_ < row)) ∧ Df u M k f_ row_) (hb : Bq r (Df u M k f row)) : Bq r (∃ f_ row_, f_ < pN M ∧ row_ < 125 ∧ (f_ < f ∨ (f_ = f ∧ row_ < row + 1)) ∧ Df u M k f_ row_) := by
  refine hb.iff ⟨fun q => ⟨f, row, hf, hr, Or.inr ⟨rfl, by omega⟩, q⟩, ?_⟩
  rintro ⟨a, b, c, d, e, q⟩
  by_cases z : a = f ∧ b = row
  · rw [z.1, z.2] at q; exact q
  · exact absurd ⟨a, b, c, d, by omega, q⟩ h
theorem nv_fin {u : Nat} {M : PRG} {k f : Nat} (hu : u < 3) (hP : PV M) (hf : f = pN M) : (∃ f_ row_, f_ < pN M ∧ row_ < 125 ∧ f_ < f ∧ Df u M k f_ row_) ↔ ¬ Stable u M k := by
  constructor
  · rintro ⟨a, b, c, d, _, i, q⟩ S
    exact q (S a (mIx u b) c (mIx_in (hP.2.2 a c).1 i))
  · intro S
    refine Classical.byContradiction fun q => S fun a b c d => Classical.byContradiction fun z => ?_
    obtain ⟨w, w1, w2, w3⟩ := mIx_ex hu (hP.2.2 a c).1 d
    exact q ⟨a, w, c, w1, by omega, w2, by rw [w3]; exact z⟩
theorem cp_up {u i : Nat} {gt gt1 gn gz : Nat → Int32} (h : ∀ q, gt1 q = if 500 * u ≤ q ∧ q < 500 * u + i then gn (q - 500 * u) else gt q) (e : upd gt1 (500 * u + i) (gn i) = gz) : ∀ q, gz q = if 500 * u ≤ q ∧ q < 500 * u + (i + 1) then gn (q - 500 * u) else gt q := by
  subst e
  intro q
  by_cases z : q = 500 * u + i
  · rw [z, pk_us, if_pos (by omega)]; congr 1; omega
  · rw [pk_un z, h q]
    by_cases y : 500 * u ≤ q ∧ q < 500 * u + i
    · rw [if_pos y, if_pos (by omega)]
    · rw [if_neg y, if_neg (by omega)]
theorem cp_rt {u : Nat} {M : PRG} {T : Nat → Nat → Nat} {gt gt1 gn : Nat → Int32} (h : ∀ q, gt1 q = if 500 * u ≤ q ∧ q < 500 * u + 125 * pN M then gn (q - 500 * u) else gt q) (hn : ∀ f_ row_, f_ < pN M → row_ < 125 → NV u M T f_ row_ (gn (125 * f_ + row_))) : RT u M gt1 T := by
  intro f row hf hr
  have := hn f row hf hr
  have e : gt1 (500 * u + 125 * f + row) = gn (125 * f + row) := by
    rw [h, if_pos (by omega)]; congr 1; omega
  rw [e]; exact this
theorem cp_out {u i : Nat} {gt gt1 gn : Nat → Int32} (h : ∀ q, gt1 q = if 500 * u ≤ q ∧ q < 500 * u + i then gn (q - 500 * u) else gt q) (hi : i ≤ 500) : ∀ q, ¬ (500 * u ≤ q ∧ q < 500 * u + 500) → gt1 q = gt q := fun q hq => by rw [h, if_neg (by omega)]

/-- a snapshot of the functions at a -/
def SnapE (gz : Nat → Int32) (a : Nat) (nm : Int32) (ga gk gl gB : Nat → Int32) : Prop := gz a = nm ∧ (∀ j, j < 4 → gz (a + 1 + j) = ga j ∧ gz (a + 5 + j) = gk j ∧ gz (a + 9 + j) = gl j) ∧ ∀ k, k < 96 → gz (a + 13 + k) = gB k
theorem SnapE.rs {gz : Nat → Int32} {a : Nat} {nm nm' : Int32} {ga gk gl gB ga' gk' gl' gB' : Nat → Int32} {M : PRG} (h : SnapE gz a nm ga gk gl gB) (h' : SnapE gz a nm' ga' gk' gl' gB') (hP : PV M) (S : RS M nm ga gk gl gB) : RS M nm' ga' gk' gl' gB' := by
  have h4 := hP.2.1
  refine ⟨by rw [← h'.1, h.1]; exact S.1, fun i hi => ?_, fun i hi => ?_, fun i hi => ?_, fun i hi j hj => ?_⟩
  · rw [← (h'.2.1 i (by omega)).1, (h.2.1 i (by omega)).1]; exact S.2.1 i hi
  · rw [← (h'.2.1 i (by omega)).2.1, (h.2.1 i (by omega)).2.1]; exact S.2.2.1 i hi
  · rw [← (h'.2.1 i (by omega)).2.2, (h.2.1 i (by omega)).2.2]; exact S.2.2.2.1 i hi
  · have := (hP.2.2 i hi).2.2.2.1
    rw [← h'.2.2 _ (by omega), h.2.2 _ (by omega)]; exact S.2.2.2.2 i hi j hj
theorem SnapE.fr {gz gz' : Nat → Int32} {a : Nat} {nm : Int32} {ga gk gl gB : Nat → Int32} (h : SnapE gz a nm ga gk gl gB) (e : ∀ q, a ≤ q → q < a + 109 → gz' q = gz q) : SnapE gz' a nm ga gk gl gB :=
  ⟨by rw [e _ (by omega) (by omega)]; exact h.1, fun j hj => by rw [e _ (by omega) (by omega), e _ (by omega) (by omega), e _ (by omega) (by omega)]; exact h.2.1 j hj, fun k hk => by rw [e _ (by omega) (by omega)]; exact h.2.2 k hk⟩
def LyA (a i : Nat) (gz : Nat → Int32) (nm : Int32) (ga gk gl old : Nat → Int32) : Prop := gz a = nm ∧ (∀ j, j < i → gz (a + 1 + j) = ga j ∧ gz (a + 5 + j) = gk j ∧ gz (a + 9 + j) = gl j) ∧ ∀ q, (q < a ∨ a + 13 ≤ q) → gz q = old q
def LyB (a i : Nat) (gz : Nat → Int32) (nm : Int32) (ga gk gl gB old : Nat → Int32) : Prop := gz a = nm ∧ (∀ j, j < 4 → gz (a + 1 + j) = ga j ∧ gz (a + 5 + j) = gk j ∧ gz (a + 9 + j) = gl j) ∧ (∀ k, k < i → gz (a + 13 + k) = gB k) ∧ ∀ q, (q < a ∨ a + 109 ≤ q) → gz q = old q
theorem LyA.z {a : Nat} {gz old : Nat → Int32} {nm : Int32} {ga gk gl : Nat → Int32} (e : upd old a nm = gz) : LyA a 0 gz nm ga gk gl old := by
  subst e
  exact ⟨pk_us, fun j hj => absurd hj (Nat.not_lt_zero _), fun q hq => pk_un (by omega)⟩
theorem LyA.up {a i : Nat} {gz g1 g2 g3 old : Nat → Int32} {nm : Int32} {ga gk gl : Nat → Int32} (h : LyA a i gz nm ga gk gl old) (hi : i < 4) (e1 : upd gz (a + 1 + i) (ga i) = g1) (e2 : upd g1 (a + 5 + i) (gk i) = g2) (e3 : upd g2 (a + 9 + i) (gl i) = g3) : LyA a (i + 1) g3 nm ga gk gl old := by
  subst e1 e2 e3
  obtain ⟨h1, h2, h3⟩ := h
  refine ⟨by rw [pk_un (by omega), pk_un (by omega), pk_un (by omega)]; exact h1, fun j hj => ?_, fun q hq => by rw [pk_un (by omega), pk_un (by omega), pk_un (by omega)]; exact h3 q hq⟩
  by_cases e : j = i
  · subst e
    exact ⟨by rw [pk_un (by omega), pk_un (by omega), pk_us], by rw [pk_un (by omega), pk_us], pk_us⟩
  · obtain ⟨b1, b2, b3⟩ := h2 j (by omega)
    exact ⟨by rw [pk_un (by omega), pk_un (by omega), pk_un (by omega)]; exact b1, by rw [pk_un (by omega), pk_un (by omega), pk_un (by omega)]; exact b2, by rw [pk_un (by omega), pk_un (by omega), pk_un (by omega)]; exact b3⟩
theorem LyA.b {a : Nat} {gz old : Nat → Int32} {nm : Int32} {ga gk gl gB : Nat → Int32} (h : LyA a 4 gz nm ga gk gl old) : LyB a 0 gz nm ga gk gl gB old :=
  ⟨h.1, h.2.1, fun k hk => absurd hk (Nat.not_lt_zero _), fun q hq => h.2.2 q (by omega)⟩
theorem LyB.up {a i : Nat} {gz g1 old : Nat → Int32} {nm : Int32} {ga gk gl gB : Nat → Int32} (h : LyB a i gz nm ga gk gl gB old) (hi : i < 96) (e1 : upd gz (a + 13 + i) (gB i) = g1) : LyB a (i + 1) g1 nm ga gk gl gB old := by
  subst e1
  obtain ⟨h1, h2, h3, h4⟩ := h
  refine ⟨by rw [pk_un (by omega)]; exact h1, fun j hj => ?_, fun k hk => ?_, fun q hq => by rw [pk_un (by omega)]; exact h4 q hq⟩
  · obtain ⟨b1, b2, b3⟩ := h2 j hj
    exact ⟨by rw [pk_un (by omega)]; exact b1, by rw [pk_un (by omega)]; exact b2, by rw [pk_un (by omega)]; exact b3⟩
  · by_cases e : k = i
    · subst e; exact pk_us
    · rw [pk_un (by omega)]; exact h3 k (by omega)
/-- functions on their way back -/
def TkA (G : Nat → Int32) (a i : Nat) (ga gk gl : Nat → Int32) : Prop := ∀ j, j < i → G (a + 1 + j) = ga j ∧ G (a + 5 + j) = gk j ∧ G (a + 9 + j) = gl j
theorem TkA.up {G : Nat → Int32} {a i : Nat} {ga gk gl g1 g2 g3 : Nat → Int32} (h : TkA G a i ga gk gl) (e1 : upd ga i (G (a + 1 + i)) = g1) (e2 : upd gk i (G (a + 5 + i)) = g2) (e3 : upd gl i (G (a + 9 + i)) = g3) : TkA G a (i + 1) g1 g2 g3 := by
  subst e1 e2 e3
  intro j hj
  by_cases e : j = i
  · subst e; exact ⟨pk_us.symm, pk_us.symm, pk_us.symm⟩
  · obtain ⟨b1, b2, b3⟩ := h j (by omega)
    exact ⟨by rw [pk_un e]; exact b1, by rw [pk_un e]; exact b2, by rw [pk_un e]; exact b3⟩
theorem tkb_up {G gB g1 : Nat → Int32} {a i : Nat} (h : ∀ k, k < i → G (a + 13 + k) = gB k) (e : upd gB i (G (a + 13 + i)) = g1) : ∀ k, k < i + 1 → G (a + 13 + k) = g1 k := by
  subst e
  intro k hk
  by_cases z : k = i
  · subst z; exact pk_us.symm
  · rw [pk_un z]; exact h k (by omega)
/-- all three tables are known -/
def RAll (M : PRG) (gt gr : Nat → Int32) : Prop := ∀ u, u < 3 → ∃ K, IsK u M K ∧ RT u M gt (mTab u M K) ∧ (gr u).toInt = ((K : Nat) : Int)
theorem RT.fr {u : Nat} {M : PRG} {gt gt' : Nat → Int32} {T : Nat → Nat → Nat} (hP : PV M) (h : RT u M gt T) (e : ∀ q, 500 * u ≤ q → q < 500 * u + 500 → gt' q = gt q) : RT u M gt' T := by
  intro f row hf hr
  have h4 := hP.2.1
  rw [e _ (by omega) (by omega)]
  exact h f row hf hr
theorem fl_up {u i : Nat} {gt gt1 gz : Nat → Int32} {x : Int32} (h : ∀ q, (500 * u ≤ q ∧ q < 500 * u + i → (gt1 q).toInt = ((mN u : Nat) : Int)) ∧ (¬ (500 * u ≤ q ∧ q < 500 * u + i) → gt1 q = gt q)) (hx : x.toInt = ((mN u : Nat) : Int)) (e : upd gt1 (500 * u + i) x = gz) : ∀ q, (500 * u ≤ q ∧ q < 500 * u + (i + 1) → (gz q).toInt = ((mN u : Nat) : Int)) ∧ (¬ (500 * u ≤ q ∧ q < 500 * u + (i + 1)) → gz q = gt q) := by
  subst e
  intro q
  by_cases z : q = 500 * u + i
  · rw [z, pk_us]; exact ⟨fun _ => hx, fun y => absurd ⟨by omega, by omega⟩ y⟩
  · rw [pk_un z]; exact ⟨fun y => (h q).1 (by omega), fun y => (h q).2 (by omega)⟩
theorem fl_rt {u : Nat} {M : PRG} {gt gt1 : Nat → Int32} (hP : PV M) (h : ∀ q, (500 * u ≤ q ∧ q < 500 * u + 500 → (gt1 q).toInt = ((mN u : Nat) : Int)) ∧ (¬ (500 * u ≤ q ∧ q < 500 * u + 500) → gt1 q = gt q)) : RT u M gt1 (mTab u M 0) := by
  intro f row hf hr
  have h4 := hP.2.1
  have := (h (500 * u + 125 * f + row)).1 ⟨by omega, by omega⟩
  exact ⟨fun _ => this, fun _ => this⟩
theorem rall_3 {M : PRG} {gt1 gt2 gt3 gr1 gr2 gr3 : Nat → Int32} {K0 K1 K2 : Nat} (hP : PV M) (k0 : IsK 0 M K0) (k1 : IsK 1 M K1) (k2 : IsK 2 M K2) (r0 : RT 0 M gt1 (mTab 0 M K0)) (r1 : RT 1 M gt2 (mTab 1 M K1)) (r2 : RT 2 M gt3 (mTab 2 M K2)) (g0 : (gr1 0).toInt = ((K0 : Nat) : Int)) (g1 : (gr2 1).toInt = ((K1 : Nat) : Int)) (g2 : (gr3 2).toInt = ((K2 : Nat) : Int))
    (o1 : ∀ q, ¬ (500 * 1 ≤ q ∧ q < 500 * 1 + 500) → gt2 q = gt1 q) (o2 : ∀ q, ¬ (500 * 2 ≤ q ∧ q < 500 * 2 + 500) → gt3 q = gt2 q) (e1 : ∀ q, q ≠ 1 → gr2 q = gr1 q) (e2 : ∀ q, q ≠ 2 → gr3 q = gr2 q) : RAll M gt3 gr3 := by
  intro u hu
  rcases (show u = 0 ∨ u = 1 ∨ u = 2 by omega) with e | e | e <;> subst e
  · exact ⟨K0, k0, r0.fr hP (fun q a b => by rw [o2 q (by omega), o1 q (by omega)]), by rw [e2 0 (by omega), e1 0 (by omega)]; exact g0⟩
  · exact ⟨K1, k1, r1.fr hP (fun q a b => by rw [o2 q (by omega)]), by rw [e2 1 (by omega)]; exact g1⟩
  · exact ⟨K2, k2, r2, g2⟩
