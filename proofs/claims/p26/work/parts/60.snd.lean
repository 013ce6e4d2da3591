-- ===== ROUGHLY AND FINELY TELL THE TRUTH: what stands for a value (u = 1 roughly, u = 2 finely) =====
def aR (u v w : Nat) : Prop := v = 4 ∨ (if u = 1 then w = 1 else if v = 0 then w % 2 = 1 else w / 2 % 2 = 1)
def aRb (u v w : Nat) : Bool := v == 4 || (if u = 1 then w == 1 else if v = 0 then w % 2 == 1 else w / 2 % 2 == 1)
theorem aR_iff {u v w : Nat} : aR u v w ↔ aRb u v w = true := by
  unfold aR aRb
  by_cases h1 : v = 4
  · simp [h1]
  · by_cases h2 : u = 1
    · simp [h1, h2]
    · by_cases h3 : v = 0
      · simp [h2, h3]
      · simp [h1, h2, h3]
theorem u12 {u : Nat} (hu : u < 3) (h0 : u ≠ 0) : u - 1 < 2 ∧ u - 1 + 1 = u := by omega
theorem a_const : ((List.range 2).all fun u => aRb (u + 1) (mZ 0) (mZ (u + 1)) && aRb (u + 1) (mO 0) (mO (u + 1)) && aRb (u + 1) (mN 0) (mN (u + 1))) = true := by decide +kernel
theorem a_less : ((List.range 2).all fun u => (List.range 5).all fun p => (List.range (mB (u + 1))).all fun p' => !aRb (u + 1) p p' || aRb (u + 1) (lessF 0 p) (lessF (u + 1) p')) = true := by decide +kernel
theorem a_sum : ((List.range 2).all fun u => (List.range 5).all fun p => (List.range (mB (u + 1))).all fun p' => !aRb (u + 1) p p' || ((List.range 5).all fun q => (List.range (mB (u + 1))).all fun q' => !aRb (u + 1) q q' || aRb (u + 1) (sumF 0 p q) (sumF (u + 1) p' q'))) = true := by decide +kernel
theorem a_beh : ((List.range 2).all fun u => (List.range 5).all fun p => (List.range (mB (u + 1))).all fun p' => !aRb (u + 1) p p' || ((List.range 5).all fun q => (List.range (mB (u + 1))).all fun q' => !aRb (u + 1) q q' || aRb (u + 1) (behF 0 p q) (behF (u + 1) p' q'))) = true := by decide +kernel
theorem a_ch : ((List.range 2).all fun u => (List.range 5).all fun p => (List.range (mB (u + 1))).all fun p' => !aRb (u + 1) p p' || ((List.range 5).all fun q => (List.range (mB (u + 1))).all fun q' => !aRb (u + 1) q q' || ((List.range 5).all fun r => (List.range (mB (u + 1))).all fun r' => !aRb (u + 1) r r' || aRb (u + 1) (chF 0 p q r) (chF (u + 1) p' q' r')))) = true := by decide +kernel
/-- tables: what stands for arguments gives what stands for the outcome -/
def TR (u : Nat) (P : PRG) (T T' : Nat → Nat → Nat) : Prop := ∀ f row row', f < pN P → row < mRw 0 P f → row' < mRw u P f → (∀ i, i < pA P f → aR u (mDig 0 row i) (mDig u row' i)) → aR u (T f row) (T' f row')
theorem mParts_in {n : Nat} {a : Nat → Nat} {k : Nat} (h : k < 10) : (k = 6 → mParts n a k = 1) ∧ (k = 7 → mParts n a k = 2) ∧ (k = 8 → mParts n a k = 2) ∧ (k = 9 → mParts n a k = 3) := by
  unfold mParts
  rw [if_neg (by omega)]
  refine ⟨fun e => ?_, fun e => ?_, fun e => ?_, fun e => ?_⟩ <;> subst e <;> rfl
theorem mLet_a {u : Nat} {P : PRG} {T T' : Nat → Nat → Nat} {xs xs' : Nat → Nat} {f k p q r p' q' r' : Nat} (hu : u < 3) (h0 : u ≠ 0) (hP : PV P) (hm : mMay (pN P) (pA P) f k) (hT : TR u P T T') (hxs : ∀ i, i < pA P f → aR u (xs i) (xs' i))
    (hp : 0 < mParts (pN P) (pA P) k → aR u p p') (hq : 1 < mParts (pN P) (pA P) k → aR u q q') (hr : 2 < mParts (pN P) (pA P) k → aR u r r') (a1 : p < 5) (a2 : q < 5) (a3 : r < 5) (b1 : p' < mB u) (b2 : q' < mB u) (b3 : r' < mB u)
    (z0 : mParts (pN P) (pA P) k ≤ 0 → p = 0 ∧ p' = 0) (z1 : mParts (pN P) (pA P) k ≤ 1 → q = 0 ∧ q' = 0) (z2 : mParts (pN P) (pA P) k ≤ 2 → r = 0 ∧ r' = 0) : aR u (mLet 0 T xs k p q r) (mLet u T' xs' k p' q' r') := by
  obtain ⟨w, rfl⟩ : ∃ w, u = w + 1 := ⟨u - 1, by omega⟩
  have hw : w < 2 := by omega
  have hc := all_range a_const hw
  simp only [Bool.and_eq_true] at hc
  unfold mLet
  by_cases k0 : k = 0
  · rw [if_pos k0, if_pos k0]; exact aR_iff.mpr hc.1.1
  rw [if_neg k0, if_neg k0]
  by_cases k1 : k = 1
  · rw [if_pos k1, if_pos k1]; exact aR_iff.mpr hc.1.2
  rw [if_neg k1, if_neg k1]
  by_cases k2 : k = 2
  · rw [if_pos k2, if_pos k2]; exact aR_iff.mpr hc.2
  rw [if_neg k2, if_neg k2]
  by_cases k3 : k < 6
  · rw [if_pos k3, if_pos k3]; exact hxs _ (hm.arg (by omega) k3)
  rw [if_neg k3, if_neg k3]
  by_cases k6 : k = 6
  · rw [if_pos k6, if_pos k6]
    have e := (mParts_in (n := pN P) (a := pA P) (show k < 10 by omega)).1 k6
    exact aR_iff.mpr (imp_b (all_range (all_range (all_range a_less hw) a1) b1) (aR_iff.mp (hp (by omega))))
  rw [if_neg k6, if_neg k6]
  by_cases k7 : k = 7
  · rw [if_pos k7, if_pos k7]
    have e := (mParts_in (n := pN P) (a := pA P) (show k < 10 by omega)).2.1 k7
    exact aR_iff.mpr (imp_b (all_range (all_range (imp_b (all_range (all_range (all_range a_sum hw) a1) b1) (aR_iff.mp (hp (by omega)))) a2) b2) (aR_iff.mp (hq (by omega))))
  rw [if_neg k7, if_neg k7]
  by_cases k8 : k = 8
  · rw [if_pos k8, if_pos k8]
    have e := (mParts_in (n := pN P) (a := pA P) (show k < 10 by omega)).2.2.1 k8
    exact aR_iff.mpr (imp_b (all_range (all_range (imp_b (all_range (all_range (all_range a_beh hw) a1) b1) (aR_iff.mp (hp (by omega)))) a2) b2) (aR_iff.mp (hq (by omega))))
  rw [if_neg k8, if_neg k8]
  by_cases k9 : k = 9
  · rw [if_pos k9, if_pos k9]
    have e := (mParts_in (n := pN P) (a := pA P) (show k < 10 by omega)).2.2.2 k9
    exact aR_iff.mpr (imp_b (all_range (all_range (imp_b (all_range (all_range (imp_b (all_range (all_range (all_range a_ch hw) a1) b1) (aR_iff.mp (hp (by omega)))) a2) b2) (aR_iff.mp (hq (by omega)))) a3) b3) (aR_iff.mp (hr (by omega))))
  rw [if_neg k9, if_neg k9]
  have hk : 10 ≤ k := by omega
  have hc2 := hm.call hk
  have ha := (hP.2.2 _ hc2).1
  rw [mParts_call hk hc2] at z0 z1 z2 hp hq hr
  have i1 : p + mB 0 * q + mB 0 * mB 0 * r < mRw 0 P (k - 10) := mIdx_lt (mB_pos 0) ha a1 a2 a3 (fun h => (z0 h).1) (fun h => (z1 h).1) (fun h => (z2 h).1)
  have i2 : p' + mB (w + 1) * q' + mB (w + 1) * mB (w + 1) * r' < mRw (w + 1) P (k - 10) := mIdx_lt (mB_pos (w + 1)) ha b1 b2 b3 (fun h => (z0 h).2) (fun h => (z1 h).2) (fun h => (z2 h).2)
  refine hT _ _ _ hc2 i1 i2 fun i hi => ?_
  rw [dig_i (u := 0) (by omega) a1 a2 a3, dig_i (by omega) b1 b2 b3]
  by_cases e0 : i = 0
  · rw [if_pos e0, if_pos e0]; exact hp (by omega)
  · rw [if_neg e0, if_neg e0]
    by_cases e1 : i = 1
    · rw [if_pos e1, if_pos e1]; exact hq (by omega)
    · rw [if_neg e1, if_neg e1]; exact hr (by omega)
theorem mStk_a {u : Nat} {P : PRG} {T T' : Nat → Nat → Nat} {xs xs' : Nat → Nat} {f : Nat} (hu : u < 3) (h0 : u ≠ 0) (hP : PV P) (hf : f < pN P) (hL : TLt 0 P T) (hL' : TLt u P T') (hT : TR u P T T') (hxs : ∀ i, i < pA P f → aR u (xs i) (xs' i)) (l1 : ∀ i, xs i < mB 0) (l2 : ∀ i, xs' i < mB u) :
    ∀ j, j ≤ pL P f → ∀ i, i < (mStk 0 P T xs f j).length → aR u ((mStk 0 P T xs f j).getD i 0) ((mStk u P T' xs' f j).getD i 0) := by
  intro j
  induction j with
  | zero => intro _ i hi; exact absurd hi (Nat.not_lt_zero _)
  | succ j ih =>
    intro hj i hi
    have h := ih (by omega)
    have s1 := mStk_lt (u := 0) (by omega) hP hf hL l1 j (by omega)
    have s2 := mStk_lt hu hP hf hL' l2 j (by omega)
    have hm := ((hP.2.2 f hf).2.2.2.2.1 (pL P f - 1 - j) (by omega)).2.1
    have hen := mStk_enough (u := 0) (T := T) (xs := xs) hP hf (show j < pL P f by omega)
    have pt : ∀ q, q < mParts (pN P) (pA P) (pB P f (pL P f - 1 - j)) → aR u (mPt (mParts (pN P) (pA P) (pB P f (pL P f - 1 - j))) q (mStk 0 P T xs f j)) (mPt (mParts (pN P) (pA P) (pB P f (pL P f - 1 - j))) q (mStk u P T' xs' f j)) := by
      intro q hq
      unfold mPt
      rw [if_pos hq, if_pos hq]
      exact h q (by omega)
    cases i with
    | zero =>
      exact mLet_a hu h0 hP hm hT hxs (pt 0) (pt 1) (pt 2) (mPt_lt (mB_pos 0) s1) (mPt_lt (mB_pos 0) s1) (mPt_lt (mB_pos 0) s1) (mPt_lt (mB_pos u) s2) (mPt_lt (mB_pos u) s2) (mPt_lt (mB_pos u) s2) (fun h => ⟨mPt_0 h, mPt_0 h⟩) (fun h => ⟨mPt_0 h, mPt_0 h⟩) (fun h => ⟨mPt_0 h, mPt_0 h⟩)
    | succ i =>
      have hi2 : i + 1 < ((mStk 0 P T xs f j).drop (mParts (pN P) (pA P) (pB P f (pL P f - 1 - j)))).length + 1 := hi
      rw [List.length_drop] at hi2
      show aR u (((mStk 0 P T xs f j).drop _).getD i 0) (((mStk u P T' xs' f j).drop _).getD i 0)
      rw [List.getD_eq_getElem?_getD, List.getD_eq_getElem?_getD, List.getElem?_drop, List.getElem?_drop, ← List.getD_eq_getElem?_getD, ← List.getD_eq_getElem?_getD]
      exact h _ (by omega)
theorem aR_N {u v : Nat} (hu : u < 3) (h0 : u ≠ 0) (h : aR u v (mN u)) : v = 4 := by
  rcases (show u = 1 ∨ u = 2 by omega) with rfl | rfl
  · rcases h with h | h
    · exact h
    · rw [if_pos rfl] at h; exact absurd h (by decide)
  · rcases h with h | h
    · exact h
    · rw [if_neg (by decide)] at h
      split at h
      · exact absurd h (by decide)
      · exact absurd h (by decide)
theorem mStep_a {u : Nat} {P : PRG} {T T' : Nat → Nat → Nat} (hu : u < 3) (h0 : u ≠ 0) (hP : PV P) (hL : TLt 0 P T) (hL' : TLt u P T') (hT : TR u P T T') : TR u P (mStep 0 P T) (mStep u P T') := by
  intro f row row' hf hr hr' hd
  unfold mStep
  by_cases h : mStop 0 P f row
  · rw [if_pos h]; exact Or.inl rfl
  · have h' : ¬ mStop u P f row' := by
      rintro (⟨hk, i, hi, e⟩ | ⟨hk, hi, e⟩)
      · exact h (Or.inl ⟨hk, i, hi, aR_N hu h0 (by rw [← e]; exact hd i hi)⟩)
      · exact h (Or.inr ⟨hk, hi, aR_N hu h0 (by rw [← e]; exact hd 0 hi)⟩)
    rw [if_neg h, if_neg h']
    have hx : ∀ i, i < pA P f → aR u (mArg 0 P f row i) (mArg u P f row' i) := by
      intro i hi
      unfold mArg
      rw [if_pos hi, if_pos hi]
      exact hd _ (by split <;> omega)
    have hl := mStk_len (u := 0) (T := T) (xs := mArg 0 P f row) hP hf (pL P f) (Nat.le_refl _)
    rw [Nat.sub_self] at hl
    exact mStk_a hu h0 hP hf hL hL' hT hx (mArg_lt 0 P f row) (mArg_lt u P f row') (pL P f) (Nat.le_refl _) 0 (by rw [hl]; exact Nat.one_pos)
theorem mTab_a {u : Nat} {P : PRG} (hu : u < 3) (h0 : u ≠ 0) (hP : PV P) : ∀ k, TR u P (mTab 0 P k) (mTab u P k)
  | 0 => fun _ _ _ _ _ _ _ => Or.inl rfl
  | k + 1 => mStep_a hu h0 hP (mTab_lt (by omega) hP k) (mTab_lt hu hP k) (mTab_a hu h0 hP k)
-- ===== THE TABLE IN THE END =====
noncomputable def fT (u : Nat) (M : PRG) : Nat → Nat → Nat := mTab u M 512
theorem isK_512 {u : Nat} {M : PRG} {K : Nat} (hu : u < 3) (hP : PV M) (hK : IsK u M K) : K ≤ 512 := noStable_512 hu hP hK.2
theorem fT_K {u : Nat} {M : PRG} {K f row : Nat} (hu : u < 3) (hP : PV M) (hK : IsK u M K) (hf : f < pN M) (hr : row < mRw u M f) : mTab u M K f row = fT u M f row := by
  have h := hK.1.eq hu hP (512 - K) f row hf hr
  rw [show K + (512 - K) = 512 by have := isK_512 hu hP hK; omega] at h
  exact h.symm
theorem fT_lt {u : Nat} {M : PRG} (hu : u < 3) (hP : PV M) : TLt u M (fT u M) := mTab_lt hu hP 512
theorem fT_mo {u : Nat} {M : PRG} (hu : u < 3) (hP : PV M) : TMo u M (fT u M) := (mTab_mo hu hP 512).1
theorem fT_stop {u : Nat} {M : PRG} {f row : Nat} (h : mStop u M f row) : fT u M f row = mN u := mStep_t (T := mTab u M 511) h
theorem fT_a {u : Nat} {M : PRG} (hu : u < 3) (h0 : u ≠ 0) (hP : PV M) : TR u M (fT 0 M) (fT u M) := mTab_a hu h0 hP 512
theorem fT_strict {u : Nat} {M : PRG} {f a : Nat} (hu : u < 3) (hP : PV M) (hf : f < pN M) : mStrictF u M f a ↔ mStrict u M (fT u M) f a := by
  constructor
  · rintro ⟨K, hK, h⟩ row hr hd
    rw [← fT_K hu hP hK hf hr]; exact h row hr hd
  · intro h
    obtain ⟨K, hK⟩ := isK_ex hu hP
    exact ⟨K, hK, fun row hr hd => by rw [fT_K hu hP hK hf hr]; exact h row hr hd⟩
theorem top_dig {u c a i : Nat} (hu : u < 3) (h0 : u ≠ 0) (hi : i < 3) : mDig u (topRow u c a) i = if a = i ∨ c ≤ i then 0 else mX u := by
  have hx : mX u < mB u := by rcases (show u = 1 ∨ u = 2 by omega) with rfl | rfl <;> decide
  have hz := mB_pos u
  unfold topRow
  rw [dig_i hi (by split <;> assumption) (by split <;> assumption) (by split <;> assumption)]
  rcases (show i = 0 ∨ i = 1 ∨ i = 2 by omega) with rfl | rfl | rfl <;> simp
/-- strict roughly, finely: strict in truth -/
theorem strict_truly {u : Nat} {M : PRG} {f a : Nat} (hu : u < 3) (h0 : u ≠ 0) (hP : PV M) (hf : f < pN M) (ha : a < pA M f) (h : mStrictF u M f a) : mStrictF 0 M f a := by
  rw [fT_strict hu hP hf] at h
  rw [fT_strict (by omega) hP hf]
  have hc := (hP.2.2 f hf).1
  intro row hr hd
  have hx : mX u < mB u := by rcases (show u = 1 ∨ u = 2 by omega) with rfl | rfl <;> decide
  have hz := mB_pos u
  have ht : topRow u (pA M f) a < mRw u M f := by
    unfold topRow mRw
    refine mIdx_lt hz hc (by split <;> assumption) (by split <;> assumption) (by split <;> assumption) (fun q => if_pos (Or.inr q)) (fun q => if_pos (Or.inr q)) (fun q => if_pos (Or.inr q))
  have hN : mN u = 0 := by unfold mN; rw [if_neg h0]
  have e := h _ ht (by rw [top_dig hu h0 (by omega), if_pos (Or.inl rfl), hN])
  have hA := fT_a hu h0 hP f row _ hf hr ht (fun i hi => by
    rw [top_dig hu h0 (by omega)]
    by_cases q : a = i
    · rw [if_pos (Or.inl q), ← q]; exact Or.inl hd
    · rw [if_neg (by omega)]
      have hv : mDig 0 row i < 5 := mDig_lt 0 row i
      rcases (show u = 1 ∨ u = 2 by omega) with rfl | rfl
      · exact Or.inr rfl
      · refine Or.inr ?_
        rw [if_neg (by decide)]
        split <;> decide)
  rw [e] at hA
  exact aR_N hu h0 hA
