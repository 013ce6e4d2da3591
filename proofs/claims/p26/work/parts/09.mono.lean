-- ===== MORE KNOWN GIVES MORE =====
def bLe (u p q : Nat) : Bool := p == mN u || (p == q || (u != 0 && q == mX u))
theorem mLe_iff {u p q : Nat} : mLe u p q ↔ bLe u p q = true := by
  simp [mLe, bLe]
theorem all_range {n : Nat} {f : Nat → Bool} (h : (List.range n).all f = true) {i : Nat} (hi : i < n) : f i = true := List.all_eq_true.mp h i (List.mem_range.mpr hi)
theorem imp_b {a b : Bool} (h : (!a || b) = true) (ha : a = true) : b = true := by
  rw [ha] at h; simpa using h
def lessF (u p : Nat) : Nat := if p = mN u then mN u else mLess u p
def sumF (u p q : Nat) : Nat := if p = mN u ∨ q = mN u then mN u else mSum u p q
def behF (u p q : Nat) : Nat := if p = mN u then mN u else q
def chF (u p q r : Nat) : Nat := if p = mN u then mN u else mCh u p q r
theorem less_all : ((List.range 3).all fun u => (List.range (mB u)).all fun p => (List.range (mB u)).all fun p' => !bLe u p p' || bLe u (lessF u p) (lessF u p')) = true := by decide +kernel
theorem sum_all : ((List.range 3).all fun u => (List.range (mB u)).all fun p => (List.range (mB u)).all fun p' => !bLe u p p' || ((List.range (mB u)).all fun q => (List.range (mB u)).all fun q' => !bLe u q q' || bLe u (sumF u p q) (sumF u p' q'))) = true := by decide +kernel
theorem beh_all : ((List.range 3).all fun u => (List.range (mB u)).all fun p => (List.range (mB u)).all fun p' => !bLe u p p' || ((List.range (mB u)).all fun q => (List.range (mB u)).all fun q' => !bLe u q q' || bLe u (behF u p q) (behF u p' q'))) = true := by decide +kernel
theorem ch_all : ((List.range 3).all fun u => (List.range (mB u)).all fun p => (List.range (mB u)).all fun p' => !bLe u p p' || ((List.range (mB u)).all fun q => (List.range (mB u)).all fun q' => !bLe u q q' || ((List.range (mB u)).all fun r => (List.range (mB u)).all fun r' => !bLe u r r' || bLe u (chF u p q r) (chF u p' q' r')))) = true := by decide +kernel
theorem mLe_N {u p : Nat} (hu : u < 3) (h : mLe u p (mN u)) : p = mN u := by
  rcases h with h | h | ⟨h, h2⟩
  · exact h
  · exact h
  · rcases (show u = 1 ∨ u = 2 by omega) with rfl | rfl <;> exact absurd h2 (by decide)
theorem mLe.tr {u p q r : Nat} (hu : u < 3) (h1 : mLe u p q) (h2 : mLe u q r) : mLe u p r := by
  rcases h2 with h2 | h2 | h2
  · rw [h2] at h1; exact Or.inl (mLe_N hu h1)
  · rw [← h2]; exact h1
  · exact Or.inr (Or.inr h2)
theorem mLe.anti {u p q : Nat} (hu : u < 3) (h1 : mLe u p q) (h2 : mLe u q p) : p = q := by
  rcases h1 with h1 | h1 | ⟨h0, h1⟩
  · rw [h1] at h2 ⊢; exact (mLe_N hu h2).symm
  · exact h1
  · rcases h2 with h2 | h2 | ⟨-, h2⟩
    · rw [h1] at h2
      rcases (show u = 1 ∨ u = 2 by omega) with rfl | rfl <;> exact absurd h2 (by decide)
    · exact h2.symm
    · rw [h1, h2]
def TLe (u : Nat) (P : PRG) (T T' : Nat → Nat → Nat) : Prop := ∀ f row, f < pN P → row < mRw u P f → mLe u (T f row) (T' f row)
def TMo (u : Nat) (P : PRG) (T : Nat → Nat → Nat) : Prop := ∀ f row row', f < pN P → row < mRw u P f → row' < mRw u P f → (∀ i, i < pA P f → mLe u (mDig u row i) (mDig u row' i)) → mLe u (T f row) (T f row')
-- the digits of a row
theorem dig_0 {b p q r : Nat} (hp : p < b) : (p + b * q + b * b * r) / b ^ 0 % b = p := by
  rw [Nat.pow_zero, Nat.div_one, show p + b * q + b * b * r = p + b * (q + b * r) by rw [Nat.mul_add, ← Nat.mul_assoc]; omega, Nat.add_mul_mod_self_left, Nat.mod_eq_of_lt hp]
theorem dig_1 {b p q r : Nat} (hp : p < b) (hq : q < b) : (p + b * q + b * b * r) / b ^ 1 % b = q := by
  rw [Nat.pow_one, show p + b * q + b * b * r = p + b * (q + b * r) by rw [Nat.mul_add, ← Nat.mul_assoc]; omega, Nat.add_mul_div_left _ _ (by omega), Nat.div_eq_of_lt hp, Nat.zero_add, Nat.add_mul_mod_self_left, Nat.mod_eq_of_lt hq]
theorem dig_2 {b p q r : Nat} (hp : p < b) (hq : q < b) (hr : r < b) : (p + b * q + b * b * r) / b ^ 2 % b = r := by
  have e : b ^ 2 = b * b := by rw [Nat.pow_succ, Nat.pow_one]
  have h1 : p + b * q < b * b := by
    have : b * q + b ≤ b * b := by rw [← Nat.mul_succ]; exact Nat.mul_le_mul_left b hq
    omega
  rw [e, Nat.add_mul_div_left _ _ (Nat.mul_pos (by omega) (by omega)), Nat.div_eq_of_lt h1, Nat.zero_add, Nat.mod_eq_of_lt hr]
theorem dig_i {u p q r i : Nat} (hi : i < 3) (hp : p < mB u) (hq : q < mB u) (hr : r < mB u) : mDig u (p + mB u * q + mB u * mB u * r) i = if i = 0 then p else if i = 1 then q else r := by
  rcases (show i = 0 ∨ i = 1 ∨ i = 2 by omega) with rfl | rfl | rfl
  · exact dig_0 hp
  · exact dig_1 hp hq
  · exact dig_2 hp hq hr
theorem mLet_mo {u : Nat} {P : PRG} {T T' : Nat → Nat → Nat} {xs xs' : Nat → Nat} {f k p q r p' q' r' : Nat} (hu : u < 3) (hP : PV P) (hm : mMay (pN P) (pA P) f k) (hT : TLe u P T T') (hM : TMo u P T') (hxs : ∀ i, mLe u (xs i) (xs' i))
    (hp : mLe u p p') (hq : mLe u q q') (hr : mLe u r r') (a1 : p < mB u) (a2 : q < mB u) (a3 : r < mB u) (b1 : p' < mB u) (b2 : q' < mB u) (b3 : r' < mB u)
    (z0 : mParts (pN P) (pA P) k ≤ 0 → p = 0 ∧ p' = 0) (z1 : mParts (pN P) (pA P) k ≤ 1 → q = 0 ∧ q' = 0) (z2 : mParts (pN P) (pA P) k ≤ 2 → r = 0 ∧ r' = 0) : mLe u (mLet u T xs k p q r) (mLet u T' xs' k p' q' r') := by
  unfold mLet
  by_cases k0 : k = 0
  · rw [if_pos k0, if_pos k0]; exact mLe.rf
  rw [if_neg k0, if_neg k0]
  by_cases k1 : k = 1
  · rw [if_pos k1, if_pos k1]; exact mLe.rf
  rw [if_neg k1, if_neg k1]
  by_cases k2 : k = 2
  · rw [if_pos k2, if_pos k2]; exact mLe.rf
  rw [if_neg k2, if_neg k2]
  by_cases k3 : k < 6
  · rw [if_pos k3, if_pos k3]; exact hxs _
  rw [if_neg k3, if_neg k3]
  rw [mLe_iff] at hp hq hr
  by_cases k6 : k = 6
  · rw [if_pos k6, if_pos k6]
    exact mLe_iff.mpr (imp_b (all_range (all_range (all_range less_all hu) a1) b1) hp)
  rw [if_neg k6, if_neg k6]
  by_cases k7 : k = 7
  · rw [if_pos k7, if_pos k7]
    exact mLe_iff.mpr (imp_b (all_range (all_range (imp_b (all_range (all_range (all_range sum_all hu) a1) b1) hp) a2) b2) hq)
  rw [if_neg k7, if_neg k7]
  by_cases k8 : k = 8
  · rw [if_pos k8, if_pos k8]
    exact mLe_iff.mpr (imp_b (all_range (all_range (imp_b (all_range (all_range (all_range beh_all hu) a1) b1) hp) a2) b2) hq)
  rw [if_neg k8, if_neg k8]
  by_cases k9 : k = 9
  · rw [if_pos k9, if_pos k9]
    exact mLe_iff.mpr (imp_b (all_range (all_range (imp_b (all_range (all_range (imp_b (all_range (all_range (all_range ch_all hu) a1) b1) hp) a2) b2) hq) a3) b3) hr)
  rw [if_neg k9, if_neg k9]
  rw [← mLe_iff] at hp hq hr
  have hk : 10 ≤ k := by omega
  have hc := hm.call hk
  have ha := (hP.2.2 _ hc).1
  rw [mParts_call hk hc] at z0 z1 z2
  have i1 : p + mB u * q + mB u * mB u * r < mRw u P (k - 10) := mIdx_lt (mB_pos u) ha a1 a2 a3 (fun h => (z0 h).1) (fun h => (z1 h).1) (fun h => (z2 h).1)
  have i2 : p' + mB u * q' + mB u * mB u * r' < mRw u P (k - 10) := mIdx_lt (mB_pos u) ha b1 b2 b3 (fun h => (z0 h).2) (fun h => (z1 h).2) (fun h => (z2 h).2)
  refine (hT _ _ hc i1).tr hu (hM _ _ _ hc i1 i2 fun i hi => ?_)
  rw [dig_i (by omega) a1 a2 a3, dig_i (by omega) b1 b2 b3]
  split
  · exact hp
  · split
    · exact hq
    · exact hr
def SLe (u : Nat) (a b : List Nat) : Prop := a.length = b.length ∧ ∀ i, mLe u (a.getD i 0) (b.getD i 0)
theorem SLe.pt {u c i : Nat} {a b : List Nat} (h : SLe u a b) : mLe u (mPt c i a) (mPt c i b) := by
  unfold mPt
  split
  · exact h.2 i
  · exact mLe.rf
theorem mStk_mo {u : Nat} {P : PRG} {T T' : Nat → Nat → Nat} {xs xs' : Nat → Nat} {f : Nat} (hu : u < 3) (hP : PV P) (hf : f < pN P) (hL : TLt u P T) (hL' : TLt u P T') (hT : TLe u P T T') (hM : TMo u P T') (hxs : ∀ i, mLe u (xs i) (xs' i)) (l1 : ∀ i, xs i < mB u) (l2 : ∀ i, xs' i < mB u) :
    ∀ j, j ≤ pL P f → SLe u (mStk u P T xs f j) (mStk u P T' xs' f j) := by
  intro j
  induction j with
  | zero => intro _; exact ⟨rfl, fun _ => mLe.rf⟩
  | succ j ih =>
    intro hj
    have h := ih (by omega)
    have s1 := mStk_lt hu hP hf hL l1 j (by omega)
    have s2 := mStk_lt hu hP hf hL' l2 j (by omega)
    have hm := ((hP.2.2 f hf).2.2.2.2.1 (pL P f - 1 - j) (by omega)).2.1
    refine ⟨?_, fun i => ?_⟩
    · show ((mStk u P T xs f j).drop _).length + 1 = ((mStk u P T' xs' f j).drop _).length + 1
      rw [List.length_drop, List.length_drop, h.1]
    · cases i with
      | zero =>
        exact mLet_mo hu hP hm hT hM hxs h.pt h.pt h.pt (mPt_lt (mB_pos u) s1) (mPt_lt (mB_pos u) s1) (mPt_lt (mB_pos u) s1) (mPt_lt (mB_pos u) s2) (mPt_lt (mB_pos u) s2) (mPt_lt (mB_pos u) s2) (fun h => ⟨mPt_0 h, mPt_0 h⟩) (fun h => ⟨mPt_0 h, mPt_0 h⟩) (fun h => ⟨mPt_0 h, mPt_0 h⟩)
      | succ i =>
        show mLe u (((mStk u P T xs f j).drop _).getD i 0) (((mStk u P T' xs' f j).drop _).getD i 0)
        rw [List.getD_eq_getElem?_getD, List.getD_eq_getElem?_getD, List.getElem?_drop, List.getElem?_drop, ← List.getD_eq_getElem?_getD, ← List.getD_eq_getElem?_getD]
        exact h.2 _
theorem mArg_mo {u : Nat} {P : PRG} {f row row' : Nat} (hd : ∀ i, i < pA P f → mLe u (mDig u row i) (mDig u row' i)) (i : Nat) : mLe u (mArg u P f row i) (mArg u P f row' i) := by
  unfold mArg
  split
  · exact hd _ (by split <;> omega)
  · exact mLe.rf
theorem mStop_mo {u : Nat} {P : PRG} {f row row' : Nat} (hu : u < 3) (hd : ∀ i, i < pA P f → mLe u (mDig u row i) (mDig u row' i)) (h : mStop u P f row') : mStop u P f row := by
  rcases h with ⟨hk, i, hi, h⟩ | ⟨hk, hi, h⟩
  · exact Or.inl ⟨hk, i, hi, mLe_N hu (by rw [← h]; exact hd i hi)⟩
  · exact Or.inr ⟨hk, hi, mLe_N hu (by rw [← h]; exact hd 0 hi)⟩
theorem mStep_mo {u : Nat} {P : PRG} {T T' : Nat → Nat → Nat} (hu : u < 3) (hP : PV P) (hL : TLt u P T) (hL' : TLt u P T') (hT : TLe u P T T') (hM : TMo u P T') {f row row' : Nat} (hf : f < pN P) (hd : ∀ i, i < pA P f → mLe u (mDig u row i) (mDig u row' i)) : mLe u (mStep u P T f row) (mStep u P T' f row') := by
  unfold mStep
  by_cases h : mStop u P f row
  · rw [if_pos h]; exact Or.inl rfl
  · rw [if_neg h, if_neg (fun q => h (mStop_mo hu hd q))]
    exact (mStk_mo hu hP hf hL hL' hT hM (mArg_mo hd) (mArg_lt u P f row) (mArg_lt u P f row') (pL P f) (Nat.le_refl _)).2 0
theorem TLe.rf {u : Nat} {P : PRG} {T : Nat → Nat → Nat} : TLe u P T T := fun _ _ _ _ => mLe.rf
theorem mTab_mo {u : Nat} {P : PRG} (hu : u < 3) (hP : PV P) : ∀ k, TMo u P (mTab u P k) ∧ TLe u P (mTab u P k) (mTab u P (k + 1)) := by
  intro k
  induction k with
  | zero => exact ⟨fun _ _ _ _ _ _ _ => mLe.rf, fun _ _ _ _ => Or.inl rfl⟩
  | succ k ih =>
    have m1 : TMo u P (mTab u P (k + 1)) := fun f row row' hf _ _ hd => mStep_mo hu hP (mTab_lt hu hP k) (mTab_lt hu hP k) TLe.rf ih.1 hf hd
    exact ⟨m1, fun f row hf _ => mStep_mo hu hP (mTab_lt hu hP k) (mTab_lt hu hP (k + 1)) ih.2 m1 hf (fun _ _ => mLe.rf)⟩
