-- ===== ROUNDS END =====
def Stable (u : Nat) (P : PRG) (k : Nat) : Prop := ∀ f row, f < pN P → row < mRw u P f → mTab u P k f row = mTab u P (k + 1) f row
/-- K rounds, the next one changes nothing -/
def IsK (u : Nat) (P : PRG) (K : Nat) : Prop := Stable u P K ∧ ∀ j, j < K → ¬ Stable u P j
theorem IsK.inj {u : Nat} {P : PRG} {K L : Nat} (h : IsK u P K) (h2 : IsK u P L) : K = L := by
  rcases Nat.lt_trichotomy K L with q | q | q
  · exact absurd h.1 (h2.2 K q)
  · exact q
  · exact absurd h2.1 (h.2 L q)
theorem Stable.succ {u : Nat} {P : PRG} (hu : u < 3) (hP : PV P) {k : Nat} (h : Stable u P k) : Stable u P (k + 1) := by
  intro f row hf hr
  have m1 := mTab_mo hu hP k
  have m2 := mTab_mo hu hP (k + 1)
  have le1 : TLe u P (mTab u P (k + 1)) (mTab u P k) := fun f row hf hr => by rw [h f row hf hr]; exact mLe.rf
  exact (mStep_mo hu hP (mTab_lt hu hP k) (mTab_lt hu hP (k + 1)) m1.2 m2.1 hf (fun _ _ => mLe.rf)).anti hu (mStep_mo hu hP (mTab_lt hu hP (k + 1)) (mTab_lt hu hP k) le1 m1.1 hf (fun _ _ => mLe.rf))
theorem Stable.le {u : Nat} {P : PRG} (hu : u < 3) (hP : PV P) {k : Nat} (h : Stable u P k) : ∀ j, Stable u P (k + j)
  | 0 => h
  | j + 1 => (Stable.le hu hP h j).succ hu hP
theorem Stable.eq {u : Nat} {P : PRG} (hu : u < 3) (hP : PV P) {k : Nat} (h : Stable u P k) : ∀ j f row, f < pN P → row < mRw u P f → mTab u P (k + j) f row = mTab u P k f row := by
  intro j
  induction j with
  | zero => intro f row _ _; rfl
  | succ j ih => intro f row hf hr; exact ((h.le hu hP j) f row hf hr).symm.trans (ih f row hf hr)
theorem TLe.tr {u : Nat} {P : PRG} {T T' T'' : Nat → Nat → Nat} (hu : u < 3) (h : TLe u P T T') (h2 : TLe u P T' T'') : TLe u P T T'' := fun f row hf hr => (h f row hf hr).tr hu (h2 f row hf hr)
theorem mTab_le {u : Nat} {P : PRG} (hu : u < 3) (hP : PV P) (k : Nat) : ∀ j, TLe u P (mTab u P k) (mTab u P (k + j))
  | 0 => TLe.rf
  | j + 1 => (mTab_le hu hP k j).tr hu (mTab_mo hu hP (k + j)).2
def sm (f : Nat → Nat) : Nat → Nat
  | 0 => 0
  | n + 1 => sm f n + f n
theorem sm_le {f g : Nat → Nat} : ∀ n, (∀ i, i < n → f i ≤ g i) → sm f n ≤ sm g n
  | 0, _ => Nat.le_refl _
  | n + 1, h => Nat.add_le_add (sm_le n (fun i hi => h i (by omega))) (h n (by omega))
theorem sm_lt {f g : Nat → Nat} : ∀ n, (∀ i, i < n → f i ≤ g i) → (∃ i, i < n ∧ f i < g i) → sm f n < sm g n
  | 0, _, ⟨i, hi, _⟩ => absurd hi (by omega)
  | n + 1, h, ⟨i, hi, hlt⟩ => by
    by_cases e : i = n
    · subst e
      exact Nat.add_lt_add_of_le_of_lt (sm_le _ (fun j hj => h j (by omega))) hlt
    · exact Nat.add_lt_add_of_lt_of_le (sm_lt n (fun j hj => h j (by omega)) ⟨i, by omega, hlt⟩) (h n (by omega))
theorem sm_ub {f : Nat → Nat} {c : Nat} : ∀ n, (∀ i, i < n → f i ≤ c) → sm f n ≤ n * c
  | 0, _ => by simp [sm]
  | n + 1, h => by
    have h1 := sm_ub (f := f) (c := c) n (fun i hi => h i (by omega))
    have h2 := h n (by omega)
    show sm f n + f n ≤ (n + 1) * c
    rw [Nat.add_mul, Nat.one_mul]; omega
def wt (u v : Nat) : Nat := if u = 2 then v % 2 + v / 2 % 2 else if v = mN u then 0 else 1
theorem wt_all : ((List.range 3).all fun u => (List.range (mB u)).all fun p => (List.range (mB u)).all fun q => !bLe u p q || (decide (wt u p ≤ wt u q) && (p == q || decide (wt u p < wt u q)))) = true := by decide +kernel
theorem wt_le {u p q : Nat} (hu : u < 3) (hp : p < mB u) (hq : q < mB u) (h : mLe u p q) : wt u p ≤ wt u q ∧ (p ≠ q → wt u p < wt u q) := by
  have h1 := imp_b (all_range (all_range (all_range wt_all hu) hp) hq) (mLe_iff.mp h)
  simp only [Bool.and_eq_true, Bool.or_eq_true, decide_eq_true_eq, beq_iff_eq] at h1
  exact ⟨h1.1, fun hn => by rcases h1.2 with h2 | h2; exact absurd h2 hn; exact h2⟩
theorem wt_ub (u v : Nat) : wt u v ≤ (if u = 2 then 2 else 1) := by
  unfold wt; split <;> (try split) <;> omega
theorem mRw_le {u : Nat} {P : PRG} (hu : u < 3) (hP : PV P) {f : Nat} (hf : f < pN P) : mRw u P f ≤ mB u ^ 3 := Nat.pow_le_pow_right (mB_pos u) (hP.2.2 f hf).1
def TW (u : Nat) (P : PRG) (T : Nat → Nat → Nat) : Nat := sm (fun f => sm (fun row => wt u (T f row)) (mRw u P f)) (pN P)
theorem TW_ub {u : Nat} {P : PRG} (hu : u < 3) (hP : PV P) (T : Nat → Nat → Nat) : TW u P T ≤ 512 := by
  have h1 : TW u P T ≤ pN P * (mB u ^ 3 * (if u = 2 then 2 else 1)) := sm_ub _ fun f hf => Nat.le_trans (sm_ub _ fun row _ => wt_ub u _) (Nat.mul_le_mul_right _ (mRw_le hu hP hf))
  have h2 : mB u ^ 3 * (if u = 2 then 2 else 1) ≤ 128 := by
    rcases (show u = 0 ∨ u = 1 ∨ u = 2 by omega) with rfl | rfl | rfl <;> decide
  have h3 := Nat.mul_le_mul hP.2.1 h2
  omega
theorem TW_lt {u : Nat} {P : PRG} (hu : u < 3) (hP : PV P) {k : Nat} (h : ¬ Stable u P k) : TW u P (mTab u P k) < TW u P (mTab u P (k + 1)) := by
  have m := (mTab_mo hu hP k).2
  have w := fun f row hf hr => wt_le hu (mTab_lt hu hP k f row hf hr) (mTab_lt hu hP (k + 1) f row hf hr) (m f row hf hr)
  have hex : ∃ f row, f < pN P ∧ row < mRw u P f ∧ mTab u P k f row ≠ mTab u P (k + 1) f row := by
    refine Classical.byContradiction fun q => h fun f row hf hr => Classical.byContradiction fun z => q ⟨f, row, hf, hr, z⟩
  obtain ⟨f, row, hf, hr, hne⟩ := hex
  exact sm_lt _ (fun i hi => sm_le _ fun j hj => (w i j hi hj).1) ⟨f, hf, sm_lt _ (fun j hj => (w f j hf hj).1) ⟨row, hr, (w f row hf hr).2 hne⟩⟩
theorem noStable_le {u : Nat} {P : PRG} (hu : u < 3) (hP : PV P) : ∀ k, (∀ j, j < k → ¬ Stable u P j) → k ≤ TW u P (mTab u P k)
  | 0, _ => Nat.zero_le _
  | k + 1, h => by
    have h1 := noStable_le hu hP k (fun j hj => h j (by omega))
    have h2 := TW_lt hu hP (h k (by omega))
    omega
theorem noStable_512 {u : Nat} {P : PRG} (hu : u < 3) (hP : PV P) {k : Nat} (h : ∀ j, j < k → ¬ Stable u P j) : k ≤ 512 := Nat.le_trans (noStable_le hu hP k h) (TW_ub hu hP _)
/-- a table is what functions come to in the end -/
def FixT (u : Nat) (P : PRG) (T : Nat → Nat → Nat) : Prop := ∃ K, IsK u P K ∧ ∀ f row, f < pN P → row < mRw u P f → T f row = mTab u P K f row
theorem FixT.eq {u : Nat} {P : PRG} {T T' : Nat → Nat → Nat} (h : FixT u P T) (h2 : FixT u P T') {f row : Nat} (hf : f < pN P) (hr : row < mRw u P f) : T f row = T' f row := by
  obtain ⟨K, k1, k2⟩ := h
  obtain ⟨L, l1, l2⟩ := h2
  cases k1.inj l1
  rw [k2 f row hf hr, l2 f row hf hr]
theorem FixT.lt {u : Nat} {P : PRG} {T : Nat → Nat → Nat} (hu : u < 3) (hP : PV P) (h : FixT u P T) : TLt u P T := by
  obtain ⟨K, -, k2⟩ := h
  intro f row hf hr
  rw [k2 f row hf hr]; exact mTab_lt hu hP K f row hf hr
theorem FixT.mo {u : Nat} {P : PRG} {T : Nat → Nat → Nat} (hu : u < 3) (hP : PV P) (h : FixT u P T) : TMo u P T := by
  obtain ⟨K, -, k2⟩ := h
  intro f row row' hf hr hr' hd
  rw [k2 f row hf hr, k2 f row' hf hr']; exact (mTab_mo hu hP K).1 f row row' hf hr hr' hd
-- ===== STRICT =====
def mStrict (u : Nat) (P : PRG) (T : Nat → Nat → Nat) (f a : Nat) : Prop := ∀ row, row < mRw u P f → mDig u row a = mN u → T f row = mN u
theorem mStrict.le {u : Nat} {P : PRG} {T T' : Nat → Nat → Nat} {f a : Nat} (hu : u < 3) (hf : f < pN P) (h : TLe u P T T') (h2 : mStrict u P T' f a) : mStrict u P T f a := by
  intro row hr hd
  have h3 := h f row hf hr
  rw [h2 row hr hd] at h3
  exact mLe_N hu h3
/-- the row with a NEVER and the most in all others -/
def topRow (u c a : Nat) : Nat := (if a = 0 ∨ c ≤ 0 then 0 else mX u) + mB u * (if a = 1 ∨ c ≤ 1 then 0 else mX u) + mB u * mB u * (if a = 2 ∨ c ≤ 2 then 0 else mX u)
theorem mStrict.top {u : Nat} {P : PRG} {T : Nat → Nat → Nat} {f a : Nat} (hu : u < 3) (hu0 : u ≠ 0) (hP : PV P) (hM : TMo u P T) (hf : f < pN P) (ha : a < pA P f) : mStrict u P T f a ↔ T f (topRow u (pA P f) a) = mN u := by
  have h3 := (hP.2.2 f hf).1
  have hX : mX u < mB u := by rcases (show u = 1 ∨ u = 2 by omega) with rfl | rfl <;> decide
  have hN : mN u = 0 := by rcases (show u = 1 ∨ u = 2 by omega) with rfl | rfl <;> rfl
  have y0 : (if a = 0 ∨ pA P f ≤ 0 then 0 else mX u) < mB u := by split; exact mB_pos u; exact hX
  have y1 : (if a = 1 ∨ pA P f ≤ 1 then 0 else mX u) < mB u := by split; exact mB_pos u; exact hX
  have y2 : (if a = 2 ∨ pA P f ≤ 2 then 0 else mX u) < mB u := by split; exact mB_pos u; exact hX
  have hr : topRow u (pA P f) a < mRw u P f := mIdx_lt (mB_pos u) h3 y0 y1 y2 (fun h => if_pos (Or.inr h)) (fun h => if_pos (Or.inr h)) (fun h => if_pos (Or.inr h))
  have hdg : ∀ i, i < pA P f → mDig u (topRow u (pA P f) a) i = if i = a then 0 else mX u := by
    intro i hi
    unfold topRow
    rw [dig_i (by omega) y0 y1 y2]
    rcases (show i = 0 ∨ i = 1 ∨ i = 2 by omega) with rfl | rfl | rfl
    · rw [if_pos rfl]
      by_cases e : a = 0
      · rw [if_pos (Or.inl e), if_pos e.symm]
      · rw [if_neg (by omega), if_neg (fun q => e q.symm)]
    · rw [if_neg (by omega), if_pos rfl]
      by_cases e : a = 1
      · rw [if_pos (Or.inl e), if_pos e.symm]
      · rw [if_neg (by omega), if_neg (fun q => e q.symm)]
    · rw [if_neg (by omega), if_neg (by omega)]
      by_cases e : a = 2
      · rw [if_pos (Or.inl e), if_pos e.symm]
      · rw [if_neg (by omega), if_neg (fun q => e q.symm)]
  refine ⟨fun h => h _ hr (by rw [hdg a ha, if_pos rfl, hN]), fun h row hrow hd => ?_⟩
  have h1 := hM f row _ hf hrow hr (fun i hi => by
    rw [hdg i hi]
    by_cases e : i = a
    · rw [if_pos e, e, hd]; exact Or.inl rfl
    · rw [if_neg e]; exact Or.inr (Or.inr ⟨hu0, rfl⟩))
  rw [h] at h1
  exact mLe_N hu h1
