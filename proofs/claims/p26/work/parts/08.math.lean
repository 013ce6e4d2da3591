-- ===== WHAT FUNCTIONS COME TO: u = 0 values, 1 roughly, 2 finely; letters by their number; rows by the first argument least =====
def mB (u : Nat) : Nat := if u = 0 then 5 else if u = 1 then 2 else 4
def mN (u : Nat) : Nat := if u = 0 then 4 else 0
def mZ (u : Nat) : Nat := if u = 0 then 0 else 1
def mO (u : Nat) : Nat := if u = 2 then 2 else 1
def mX (u : Nat) : Nat := if u = 1 then 1 else 3
def mLess (u p : Nat) : Nat := if u = 0 then p - 1 else if u = 1 then p else if p / 2 % 2 = 1 then 3 else p
def mSum (u p q : Nat) : Nat := if u = 0 then (p + q) % 4 else if u = 1 then 1 else if p / 2 % 2 = 1 ∧ q / 2 % 2 = 1 then 3 else (p &&& q &&& 1) ||| ((p ||| q) &&& 2)
def mCh (u p q r : Nat) : Nat := if u = 0 then (if p = 0 then r else q) else if u = 1 then q ||| r else (if p % 2 = 1 then r else 0) ||| (if p / 2 % 2 = 1 then q else 0)
abbrev PRG : Type := Nat × (Nat → Nat) × (Nat → Nat) × (Nat → Nat) × (Nat → Nat → Nat)
abbrev pN (P : PRG) : Nat := P.1
abbrev pA (P : PRG) : Nat → Nat := P.2.1
abbrev pK (P : PRG) : Nat → Nat := P.2.2.1
abbrev pL (P : PRG) : Nat → Nat := P.2.2.2.1
abbrev pB (P : PRG) : Nat → Nat → Nat := P.2.2.2.2
/-- what a letter makes of its parts -/
def mLet (u : Nat) (T : Nat → Nat → Nat) (xs : Nat → Nat) (k p q r : Nat) : Nat :=
  if k = 0 then mZ u else if k = 1 then mO u else if k = 2 then mN u else if k < 6 then xs (k - 3)
  else if k = 6 then (if p = mN u then mN u else mLess u p)
  else if k = 7 then (if p = mN u ∨ q = mN u then mN u else mSum u p q)
  else if k = 8 then (if p = mN u then mN u else q)
  else if k = 9 then (if p = mN u then mN u else mCh u p q r)
  else T (k - 10) (p + mB u * q + mB u * mB u * r)
def mPt (c i : Nat) (st : List Nat) : Nat := if i < c then st.getD i 0 else 0
/-- the stack behind the last j letters of f -/
def mStk (u : Nat) (P : PRG) (T : Nat → Nat → Nat) (xs : Nat → Nat) (f : Nat) : Nat → List Nat
  | 0 => []
  | j + 1 => mLet u T xs (pB P f (pL P f - 1 - j)) (mPt (mParts (pN P) (pA P) (pB P f (pL P f - 1 - j))) 0 (mStk u P T xs f j)) (mPt (mParts (pN P) (pA P) (pB P f (pL P f - 1 - j))) 1 (mStk u P T xs f j)) (mPt (mParts (pN P) (pA P) (pB P f (pL P f - 1 - j))) 2 (mStk u P T xs f j)) :: (mStk u P T xs f j).drop (mParts (pN P) (pA P) (pB P f (pL P f - 1 - j)))
def mBody (u : Nat) (P : PRG) (T : Nat → Nat → Nat) (xs : Nat → Nat) (f : Nat) : Nat := (mStk u P T xs f (pL P f)).getD 0 0
def mDig (u row i : Nat) : Nat := row / mB u ^ i % mB u
/-- whether f comes to NEVER by its kind -/
def mStop (u : Nat) (P : PRG) (f row : Nat) : Prop := ((pK P f = 1 ∨ pK P f = 3) ∧ ∃ i, i < pA P f ∧ mDig u row i = mN u) ∨ (pK P f = 2 ∧ 0 < pA P f ∧ mDig u row 0 = mN u)
def mArg (u : Nat) (P : PRG) (f row i : Nat) : Nat := if i < pA P f then mDig u row (if pK P f = 3 then pA P f - 1 - i else i) else 0
noncomputable def mStep (u : Nat) (P : PRG) (T : Nat → Nat → Nat) (f row : Nat) : Nat := by
  classical exact if mStop u P f row then mN u else mBody u P T (mArg u P f row) f
noncomputable def mTab (u : Nat) (P : PRG) : Nat → Nat → Nat → Nat
  | 0 => fun _ _ => mN u
  | k + 1 => mStep u P (mTab u P k)
/-- the rows of f -/
def mRw (u : Nat) (P : PRG) (f : Nat) : Nat := mB u ^ pA P f
/-- how many parts are missing ahead of place p -/
def mDep (P : PRG) (f : Nat) : Nat → Nat
  | 0 => 1
  | p + 1 => mDep P f p + mParts (pN P) (pA P) (pB P f p) - 1
/-- functions as they may be laid -/
def PV (P : PRG) : Prop := 1 ≤ pN P ∧ pN P ≤ 4 ∧ ∀ f, f < pN P → pA P f ≤ 3 ∧ pK P f ≤ 3 ∧ 1 ≤ pL P f ∧ pL P f ≤ 24 ∧ (∀ p, p < pL P f → pB P f p < 14 ∧ mMay (pN P) (pA P) f (pB P f p) ∧ 1 ≤ mDep P f p) ∧ mDep P f (pL P f) = 0
/-- less or as much is known -/
def mLe (u p q : Nat) : Prop := p = mN u ∨ p = q ∨ (u ≠ 0 ∧ q = mX u)
theorem mLe.rf {u p : Nat} : mLe u p p := Or.inr (Or.inl rfl)
theorem mB_pos (u : Nat) : 0 < mB u := by unfold mB; split <;> (try split) <;> omega
theorem mN_lt (u : Nat) : mN u < mB u := by unfold mN mB; split <;> (try split) <;> omega
theorem mB_le (u : Nat) : mB u ≤ 5 := by unfold mB; split <;> (try split) <;> omega
theorem mParts_le {n : Nat} {a : Nat → Nat} {k : Nat} (h : ∀ i, i < n → a i ≤ 3) : mParts n a k ≤ 3 := by
  unfold mParts
  split
  · exact h _ (by omega)
  · split <;> (try split) <;> (try split) <;> omega
-- lengths of the stack
theorem mStk_len {u : Nat} {P : PRG} {T : Nat → Nat → Nat} {xs : Nat → Nat} {f : Nat} (hP : PV P) (hf : f < pN P) : ∀ j, j ≤ pL P f → (mStk u P T xs f j).length = mDep P f (pL P f - j) := by
  obtain ⟨-, -, h⟩ := hP
  obtain ⟨h1, h2, h3, h4, h5, h6⟩ := h f hf
  intro j
  induction j with
  | zero => intro _; rw [Nat.sub_zero, h6]; rfl
  | succ j ih =>
    intro hj
    have e := ih (by omega)
    have hp := (h5 (pL P f - 1 - j) (by omega)).2.2
    have e2 : mDep P f (pL P f - j) = mDep P f (pL P f - 1 - j) + mParts (pN P) (pA P) (pB P f (pL P f - 1 - j)) - 1 := by
      rw [show pL P f - j = (pL P f - 1 - j) + 1 by omega]; rfl
    rw [show pL P f - (j + 1) = pL P f - 1 - j by omega]
    show ((mStk u P T xs f j).drop _).length + 1 = _
    rw [List.length_drop, e, e2]
    omega
theorem mStk_enough {u : Nat} {P : PRG} {T : Nat → Nat → Nat} {xs : Nat → Nat} {f : Nat} (hP : PV P) (hf : f < pN P) {j : Nat} (hj : j < pL P f) : mParts (pN P) (pA P) (pB P f (pL P f - 1 - j)) ≤ (mStk u P T xs f j).length := by
  have e := mStk_len (u := u) (T := T) (xs := xs) hP hf j (by omega)
  have hp := ((hP.2.2 f hf).2.2.2.2.1 (pL P f - 1 - j) (by omega)).2.2
  have e2 : mDep P f (pL P f - j) = mDep P f (pL P f - 1 - j) + mParts (pN P) (pA P) (pB P f (pL P f - 1 - j)) - 1 := by
    rw [show pL P f - j = (pL P f - 1 - j) + 1 by omega]; rfl
  rw [e, e2]; omega
-- what is small stays small
def TLt (u : Nat) (P : PRG) (T : Nat → Nat → Nat) : Prop := ∀ f row, f < pN P → row < mRw u P f → T f row < mB u
theorem mLess_lt {u p : Nat} (hu : u < 3) (h : p < mB u) : mLess u p < mB u := by
  rcases (show u = 0 ∨ u = 1 ∨ u = 2 by omega) with rfl | rfl | rfl <;> simp [mB, mLess] at * <;> first | omega | (split <;> omega)
theorem lt4 {p : Nat} (h : p < 4) : p = 0 ∨ p = 1 ∨ p = 2 ∨ p = 3 := by omega
theorem mSum_lt {u p q : Nat} (hu : u < 3) (h : p < mB u) (h2 : q < mB u) : mSum u p q < mB u := by
  rcases (show u = 0 ∨ u = 1 ∨ u = 2 by omega) with rfl | rfl | rfl
  · simp [mB, mSum] at *; omega
  · simp [mB, mSum] at *
  · simp only [mB] at h h2
    rcases lt4 (show p < 4 from h) with rfl | rfl | rfl | rfl <;> rcases lt4 (show q < 4 from h2) with rfl | rfl | rfl | rfl <;> decide
theorem mCh_lt {u p q r : Nat} (hu : u < 3) (h : p < mB u) (h2 : q < mB u) (h3 : r < mB u) : mCh u p q r < mB u := by
  rcases (show u = 0 ∨ u = 1 ∨ u = 2 by omega) with rfl | rfl | rfl
  · simp only [mCh, if_pos]; split <;> assumption
  · simp only [mB] at h h2 h3
    rcases (show q = 0 ∨ q = 1 by simp at h2; omega) with rfl | rfl <;> rcases (show r = 0 ∨ r = 1 by simp at h3; omega) with rfl | rfl <;> simp [mCh, mB]
  · simp only [mB] at h h2 h3
    rcases lt4 (show p < 4 from h) with rfl | rfl | rfl | rfl <;> rcases lt4 (show q < 4 from h2) with rfl | rfl | rfl | rfl <;> rcases lt4 (show r < 4 from h3) with rfl | rfl | rfl | rfl <;> decide
/-- a row of a function that has c arguments -/
theorem mIdx_lt {b c p q r : Nat} (hb : 0 < b) (hc : c ≤ 3) (hp : p < b) (hq : q < b) (hr : r < b) (h0 : c ≤ 0 → p = 0) (h1 : c ≤ 1 → q = 0) (h2 : c ≤ 2 → r = 0) : p + b * q + b * b * r < b ^ c := by
  rcases (show c = 0 ∨ c = 1 ∨ c = 2 ∨ c = 3 by omega) with rfl | rfl | rfl | rfl
  · rw [h0 (by omega), h1 (by omega), h2 (by omega)]; simp
  · rw [h1 (by omega), h2 (by omega)]; simpa using hp
  · rw [h2 (by omega)]
    have : b * q + b ≤ b * b := by rw [← Nat.mul_succ]; exact Nat.mul_le_mul_left b hq
    have e : b ^ 2 = b * b := by rw [Nat.pow_succ, Nat.pow_one]
    rw [e]; omega
  · have a1 : b * q + b ≤ b * b := by rw [← Nat.mul_succ]; exact Nat.mul_le_mul_left b hq
    have a2 : b * b * r + b * b ≤ b * b * b := by rw [← Nat.mul_succ]; exact Nat.mul_le_mul_left (b * b) hr
    have e : b ^ 3 = b * b * b := by rw [Nat.pow_succ, Nat.pow_succ, Nat.pow_one]
    rw [e]; omega
theorem mPt_lt {b c i : Nat} {st : List Nat} (hb : 0 < b) (h : ∀ x ∈ st, x < b) : mPt c i st < b := by
  unfold mPt
  split
  · by_cases hi : i < st.length
    · rw [List.getD_eq_getElem?_getD, List.getElem?_eq_getElem hi]
      exact h _ (List.getElem_mem hi)
    · rw [List.getD_eq_getElem?_getD, List.getElem?_eq_none (by omega)]
      exact hb
  · exact hb
theorem mPt_0 {c i : Nat} {st : List Nat} (h : c ≤ i) : mPt c i st = 0 := if_neg (by omega)
/-- the part of mMay that a call asks -/
theorem mMay.call {n : Nat} {a : Nat → Nat} {f k : Nat} (h : mMay n a f k) (hk : 10 ≤ k) : k - 10 < n := by have := h.1 hk; omega
theorem mMay.arg {n : Nat} {a : Nat → Nat} {f k : Nat} (h : mMay n a f k) (h1 : 3 ≤ k) (h2 : k < 6) : k - 3 < a f := by
  rcases h.2 (by omega) with h | h | h <;> omega
theorem mParts_call {n : Nat} {a : Nat → Nat} {k : Nat} (hk : 10 ≤ k) (h : k - 10 < n) : mParts n a k = a (k - 10) := if_pos ⟨hk, by omega⟩
theorem mLet_lt {u : Nat} {P : PRG} {T : Nat → Nat → Nat} {xs : Nat → Nat} {f k : Nat} {st : List Nat} (hu : u < 3) (hP : PV P) (hm : mMay (pN P) (pA P) f k) (hT : TLt u P T) (hxs : ∀ i, xs i < mB u) (hst : ∀ x ∈ st, x < mB u) :
    mLet u T xs k (mPt (mParts (pN P) (pA P) k) 0 st) (mPt (mParts (pN P) (pA P) k) 1 st) (mPt (mParts (pN P) (pA P) k) 2 st) < mB u := by
  have p0 := mPt_lt (c := mParts (pN P) (pA P) k) (i := 0) (mB_pos u) hst
  have p1 := mPt_lt (c := mParts (pN P) (pA P) k) (i := 1) (mB_pos u) hst
  have p2 := mPt_lt (c := mParts (pN P) (pA P) k) (i := 2) (mB_pos u) hst
  have n0 := mN_lt u
  unfold mLet
  split
  · rcases (show u = 0 ∨ u = 1 ∨ u = 2 by omega) with rfl | rfl | rfl <;> decide
  split
  · rcases (show u = 0 ∨ u = 1 ∨ u = 2 by omega) with rfl | rfl | rfl <;> decide
  split
  · exact n0
  split
  · exact hxs _
  split
  · split
    · exact n0
    · exact mLess_lt hu p0
  split
  · split
    · exact n0
    · exact mSum_lt hu p0 p1
  split
  · split
    · exact n0
    · exact p1
  split
  · split
    · exact n0
    · exact mCh_lt hu p0 p1 p2
  · have hk : 10 ≤ k := by omega
    have hc := hm.call hk
    have ha := (hP.2.2 _ hc).1
    refine hT _ _ hc ?_
    unfold mRw
    rw [mParts_call hk hc] at p0 p1 p2 ⊢
    exact mIdx_lt (mB_pos u) ha p0 p1 p2 (fun h => mPt_0 h) (fun h => mPt_0 h) (fun h => mPt_0 h)
theorem mStk_lt {u : Nat} {P : PRG} {T : Nat → Nat → Nat} {xs : Nat → Nat} {f : Nat} (hu : u < 3) (hP : PV P) (hf : f < pN P) (hT : TLt u P T) (hxs : ∀ i, xs i < mB u) : ∀ j, j ≤ pL P f → ∀ x ∈ mStk u P T xs f j, x < mB u := by
  intro j
  induction j with
  | zero => intro _ x hx; exact absurd hx List.not_mem_nil
  | succ j ih =>
    intro hj x hx
    have hm := ((hP.2.2 f hf).2.2.2.2.1 (pL P f - 1 - j) (by omega)).2.1
    rcases List.mem_cons.mp hx with rfl | hx
    · exact mLet_lt hu hP hm hT hxs (ih (by omega))
    · exact ih (by omega) x (List.mem_of_mem_drop hx)
theorem mBody_lt {u : Nat} {P : PRG} {T : Nat → Nat → Nat} {xs : Nat → Nat} {f : Nat} (hu : u < 3) (hP : PV P) (hf : f < pN P) (hT : TLt u P T) (hxs : ∀ i, xs i < mB u) : mBody u P T xs f < mB u := by
  have h := mPt_lt (c := 1) (i := 0) (mB_pos u) (mStk_lt hu hP hf hT hxs (pL P f) (Nat.le_refl _))
  unfold mPt at h
  rw [if_pos (by omega)] at h
  exact h
theorem mDig_lt (u row i : Nat) : mDig u row i < mB u := Nat.mod_lt _ (mB_pos u)
theorem mArg_lt (u : Nat) (P : PRG) (f row i : Nat) : mArg u P f row i < mB u := by
  unfold mArg
  split
  · exact mDig_lt _ _ _
  · exact mB_pos u
theorem mStep_lt {u : Nat} {P : PRG} {T : Nat → Nat → Nat} (hu : u < 3) (hP : PV P) (hT : TLt u P T) : TLt u P (mStep u P T) := by
  intro f row hf _
  unfold mStep
  split
  · exact mN_lt u
  · exact mBody_lt hu hP hf hT (mArg_lt u P f row)
theorem mTab_lt {u : Nat} {P : PRG} (hu : u < 3) (hP : PV P) : ∀ k, TLt u P (mTab u P k)
  | 0 => fun _ _ _ _ => mN_lt u
  | k + 1 => mStep_lt hu hP (mTab_lt hu hP k)
