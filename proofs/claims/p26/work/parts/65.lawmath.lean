-- ===== WHAT THE LAW SAYS OF ANSWERS: values =====
noncomputable abbrev vK (M : PRG) (f q : Nat) : Nat := fT 0 M f (mIx 0 q)
/-- a row of the law's three VALUES -/
abbrev isQ (M : PRG) (f q : Nat) : Prop := mIs 0 (pA M f) (q / 25) (q / 5 % 5) (q % 5)
section LM
variable {M : PRG} {s : ST} {f : Nat} {p x y z r : Int32}
theorem tab_at {a b c : Nat} (A : AnTab 0 s p x y z r) (hP : PV (sM s)) (hf : f < pN (sM s)) (hp : p.toInt = ((f : Nat) : Int)) (hx : x.toInt = ((a : Nat) : Int)) (hy : y.toInt = ((b : Nat) : Int)) (hz : z.toInt = ((c : Nat) : Int)) :
    (mIs 0 (pA (sM s) f) a b c → r.toInt = ((fT 0 (sM s) f (a + mB 0 * b + mB 0 * mB 0 * c) : Nat) : Int)) ∧ (¬ mIs 0 (pA (sM s) f) a b c → r.toInt = -1) := by
  rcases A with ⟨f', a', b', c', e1, e2, e3, e4, h1, h2, K, hK, h3⟩ | ⟨h1, h2⟩
  · obtain rfl : f' = f := by omega
    obtain rfl : a' = a := by omega
    obtain rfl : b' = b := by omega
    obtain rfl : c' = c := by omega
    refine ⟨fun _ => ?_, fun q => absurd h2 q⟩
    rw [h3, fT_K (by omega) hP hK hf (mIx_lt (hP.2.2 f' hf).1 h2)]
  · exact ⟨fun q => absurd ⟨f, a, b, c, hp, hx, hy, hz, hf, q⟩ h1, fun _ => h2⟩
theorem mIs_0 {c a b d : Nat} (ha : a < 5) (hb : b < 5) (hd : d < 5) : mIs 0 c a b d ↔ ((0 < c ∨ a = 0) ∧ (1 < c ∨ b = 0) ∧ (2 < c ∨ d = 0)) := by
  rw [mIs_iff]
  have e : mB 0 = 5 := rfl
  rw [e]
  omega
theorem fT_lt0 (hP : PV M) (hf : f < pN M) {a b c : Nat} (h : mIs 0 (pA M f) a b c) : fT 0 M f (a + mB 0 * b + mB 0 * mB 0 * c) < 5 := fT_lt (u := 0) (by omega) hP f _ hf (mIx_lt (hP.2.2 f hf).1 h)
theorem fT_odd (hP : PV M) (hf : f < pN M) {a b c : Nat} (h : mIs 0 (pA M f) a b c) (hk : pK M f % 2 = 1) (ha : (0 < pA M f ∧ a = 4) ∨ (1 < pA M f ∧ b = 4) ∨ (2 < pA M f ∧ c = 4)) : fT 0 M f (a + mB 0 * b + mB 0 * mB 0 * c) = 4 := by
  obtain ⟨d0, d1, d2⟩ := dig3 (mIs_lt h).1 (mIs_lt h).2.1 (mIs_lt h).2.2.1
  have h3 := (hP.2.2 f hf).2.1
  refine fT_stop (u := 0) (Or.inl ⟨by omega, ?_⟩)
  rcases ha with ⟨q1, q2⟩ | ⟨q1, q2⟩ | ⟨q1, q2⟩
  · exact ⟨0, q1, by rw [d0, q2]; rfl⟩
  · exact ⟨1, q1, by rw [d1, q2]; rfl⟩
  · exact ⟨2, q1, by rw [d2, q2]; rfl⟩
theorem fT_half {a b c : Nat} (h : mIs 0 (pA M f) a b c) (hk : pK M f = 2) (h0 : 0 < pA M f) (ha : a = 4) : fT 0 M f (a + mB 0 * b + mB 0 * mB 0 * c) = 4 := by
  obtain ⟨d0, d1, d2⟩ := dig3 (mIs_lt h).1 (mIs_lt h).2.1 (mIs_lt h).2.2.1
  exact fT_stop (u := 0) (Or.inr ⟨hk, h0, by rw [d0, ha]; rfl⟩)
theorem mLe_4 {u v w : Nat} (hu : u = 0) (h : mLe u v w) (hv : v ≠ 4) : w = v := by
  subst hu
  rcases h with h | h | ⟨h, -⟩
  · exact absurd h hv
  · exact h.symm
  · exact absurd rfl h
/-- more is known of arguments: a VALUE stays -/
theorem fT_more (hP : PV M) (hf : f < pN M) {a b c a' b' c' : Nat} (h : mIs 0 (pA M f) a b c) (h' : mIs 0 (pA M f) a' b' c') (ha : a = 4 ∨ a' = a) (hb : b = 4 ∨ b' = b) (hc : c = 4 ∨ c' = c) (hv : fT 0 M f (a + mB 0 * b + mB 0 * mB 0 * c) ≠ 4) : fT 0 M f (a' + mB 0 * b' + mB 0 * mB 0 * c') = fT 0 M f (a + mB 0 * b + mB 0 * mB 0 * c) := by
  obtain ⟨d0, d1, d2⟩ := dig3 (mIs_lt h).1 (mIs_lt h).2.1 (mIs_lt h).2.2.1
  obtain ⟨e0, e1, e2⟩ := dig3 (mIs_lt h').1 (mIs_lt h').2.1 (mIs_lt h').2.2.1
  have h3 := (hP.2.2 f hf).1
  refine mLe_4 rfl (fT_mo (u := 0) (by omega) hP f _ _ hf (mIx_lt h3 h) (mIx_lt h3 h') fun i hi => ?_) hv
  rcases (show i = 0 ∨ i = 1 ∨ i = 2 by omega) with rfl | rfl | rfl
  · rw [d0, e0]; exact ha.elim (fun q => Or.inl q) (fun q => Or.inr (Or.inl q.symm))
  · rw [d1, e1]; exact hb.elim (fun q => Or.inl q) (fun q => Or.inr (Or.inl q.symm))
  · rw [d2, e2]; exact hc.elim (fun q => Or.inl q) (fun q => Or.inr (Or.inl q.symm))
/-- NEVER for all rows so far -/
def AllN (M : PRG) (f k : Nat) : Prop := ∀ q, q < k → isQ M f q → vK M f q = 4
theorem AllN.z0 : AllN M f 0 := fun q hq => absurd hq (Nat.not_lt_zero _)
theorem AllN.no {k : Nat} (h : ¬ AllN M f k) : ¬ AllN M f (k + 1) := fun q => h fun j hj => q j (by omega)
theorem AllN.up {k : Nat} (h : AllN M f k) : AllN M f (k + 1) ↔ (isQ M f k → vK M f k = 4) := by
  constructor
  · intro q; exact q k (by omega)
  · intro q j hj
    rcases Nat.lt_succ_iff_lt_or_eq.mp hj with z | z
    · exact h j z
    · rw [z]; exact q
noncomputable def neF (M : PRG) (f : Nat) : Nat := @ite Nat (AllN M f 125) (Classical.propDecidable _) 1 0
theorem neF_1 (h : AllN M f 125) : neF M f = 1 := by unfold neF; rw [if_pos h]
theorem neF_0 (h : ¬ AllN M f 125) : neF M f = 0 := by unfold neF; rw [if_neg h]
theorem neF_le : neF M f ≤ 1 := by unfold neF; split <;> omega
theorem sm_full {g : Nat → Nat} : ∀ {n : Nat}, (∀ i, i < n → g i ≤ 1) → (sm g n = n ↔ ∀ i, i < n → g i = 1)
  | 0, _ => ⟨fun _ i hi => absurd hi (Nat.not_lt_zero _), fun _ => rfl⟩
  | n + 1, h => by
    have ih := sm_full (g := g) (n := n) (fun i hi => h i (by omega))
    have ub := sm_ub (f := g) (c := 1) n (fun i hi => h i (by omega))
    have hn := h n (by omega)
    rw [sm_succ]
    constructor
    · intro e i hi
      rcases Nat.lt_succ_iff_lt_or_eq.mp hi with z | z
      · exact ih.mp (by omega) i z
      · rw [z]; omega
    · intro e
      have := ih.mpr (fun i hi => e i (by omega))
      have := e n (by omega)
      omega
/-- nothing is known just if there are no ROUNDS -/
theorem rounds_0 (A : AnRounds s p r) (h0 : p.toInt = 0) (hP : PV (sM s)) : r.toInt = 0 ↔ sm (neF (sM s)) (pN (sM s)) = pN (sM s) := by
  rcases A with ⟨u, K, e1, hu, hK, e2⟩ | ⟨e1, -⟩
  · obtain rfl : u = 0 := by omega
    rw [sm_full (fun i _ => neF_le)]
    have hv : ∀ f q, f < pN (sM s) → isQ (sM s) f q → mTab 0 (sM s) K f (mIx 0 q) = vK (sM s) f q := fun f q hf hq => fT_K (by omega) hP hK hf (mIx_lt (hP.2.2 f hf).1 hq)
    constructor
    · intro hr i hi
      have hK0 : K = 0 := by omega
      subst hK0
      refine neF_1 fun q _ hq => ?_
      rw [← hv i q hi hq]; rfl
    · intro h
      have hs : Stable 0 (sM s) 0 := by
        intro f row hf hr
        obtain ⟨q, q1, q2, q3⟩ := mIx_ex (u := 0) (by omega) (hP.2.2 f hf).1 hr
        have hA : AllN (sM s) f 125 := by
          refine Classical.byContradiction fun z => ?_
          have := h f hf
          rw [neF_0 z] at this
          exact absurd this (by decide)
        have h4 := hA q q1 q2
        rw [← hv f q hf q2, q3] at h4
        have hl := mTab_le (u := 0) (by omega) hP 1 K f row hf hr
        have hl2 := mTab_le (u := 0) (by omega) hP K 1 f row hf hr
        have e4 : mTab 0 (sM s) (1 + K) f row = 4 := by
          rw [Nat.add_comm, hK.1.eq (by omega) hP 1 f row hf hr]; exact h4
        rw [e4] at hl
        show 4 = mTab 0 (sM s) 1 f row
        exact (mLe_N (u := 0) (by omega) hl).symm
      have : K = 0 := by
        refine Classical.byContradiction fun z => hK.2 0 (by omega) hs
      omega
  · omega
-- ===== frontier =====
noncomputable abbrev frF (M : PRG) (f : Nat) : Nat → Nat := fF (fT 1 M) f
theorem fF_cg {T T' : Nat → Nat → Nat} {b : Nat} (h : ∀ x, x ≤ b → T f x = T' f x) : fF T f b = fF T' f b := by
  have e : FrQ T f b b ↔ FrQ T' f b b := by
    unfold FrQ
    rw [h b (Nat.le_refl _)]
    constructor
    · rintro ⟨a, q⟩; exact ⟨a, fun x hx hb => by rw [← h x (by omega)]; exact q x hx hb⟩
    · rintro ⟨a, q⟩; exact ⟨a, fun x hx hb => by rw [h x (by omega)]; exact q x hx hb⟩
  by_cases q : FrQ T f b b
  · rw [fF_1 q, fF_1 (e.mp q)]
  · rw [fF_0 q, fF_0 (fun z => q (e.mpr z))]
theorem sm_cg1 {g g' : Nat → Nat} : ∀ {n : Nat}, (∀ i, i < n → g i = g' i) → sm g n = sm g' n
  | 0, _ => rfl
  | n + 1, h => by rw [sm_succ, sm_succ, sm_cg1 (n := n) (fun i hi => h i (by omega)), h n (by omega)]
theorem fr_all (A : AnFrontier s p x r) (hP : PV (sM s)) (hf : f < pN (sM s)) (hp : p.toInt = ((f : Nat) : Int)) :
    (x.toInt = -1 → r.toInt = ((sm (frF (sM s) f) (mRw 1 (sM s) f) : Nat) : Int)) ∧ ∀ k : Nat, x.toInt = ((k : Nat) : Int) → (∃ b, b < mRw 1 (sM s) f ∧ frF (sM s) f b = 1 ∧ sm (frF (sM s) f) b = k ∧ r.toInt = ((b : Nat) : Int)) ∨ ((∀ b, b < mRw 1 (sM s) f → frF (sM s) f b = 1 → sm (frF (sM s) f) b ≠ k) ∧ r.toInt = -4) := by
  rcases A with ⟨f', K, e1, h1, hK, h2⟩ | ⟨h1, h2⟩
  · obtain rfl : f' = f := by omega
    have hv : ∀ b, b < mRw 1 (sM s) f' → fF (mTab 1 (sM s) K) f' b = frF (sM s) f' b := fun b hb => fF_cg fun y hy => fT_K (by omega) hP hK hf (by omega)
    have hs : ∀ b, b ≤ mRw 1 (sM s) f' → sm (fF (mTab 1 (sM s) K) f') b = sm (frF (sM s) f') b := fun b hb => sm_cg1 fun i hi => hv i (by omega)
    rcases h2 with ⟨a, b⟩ | ⟨a, b⟩
    · exact ⟨fun _ => by rw [b, hs _ (Nat.le_refl _)], fun k hk => by omega⟩
    · refine ⟨fun q => by omega, fun k hk => ?_⟩
      rcases b with ⟨b, b1, b2, b3, b4⟩ | ⟨b1, b2⟩
      · exact Or.inl ⟨b, b1, by rw [← hv b b1]; exact b2, by rw [← hs b (by omega)]; omega, b4⟩
      · exact Or.inr ⟨fun b hb hq e => b1 b hb (by rw [hv b hb]; exact hq) (by rw [hs b (by omega), e]; exact hk.symm), b2⟩
  · exact ⟨fun q => absurd (by omega) h1, fun k hk => absurd (by omega) h1⟩
theorem sm_mono {g : Nat → Nat} {a b : Nat} (h : a ≤ b) : sm g a ≤ sm g b := by
  obtain ⟨d, rfl⟩ : ∃ d, b = a + d := ⟨b - a, by omega⟩
  induction d with
  | zero => exact Nat.le_refl _
  | succ d ih => rw [← Nat.add_assoc, sm_succ]; have := ih (by omega); omega
theorem sm_hit {g : Nat → Nat} : ∀ {n k : Nat}, (∀ i, i < n → g i ≤ 1) → k < sm g n → ∃ b, b < n ∧ g b = 1 ∧ sm g b = k
  | 0, k, _, h => absurd h (Nat.not_lt_zero _)
  | n + 1, k, hg, h => by
    have hn := hg n (by omega)
    rw [sm_succ] at h
    by_cases q : k < sm g n
    · obtain ⟨b, b1, b2, b3⟩ := sm_hit (g := g) (n := n) (fun i hi => hg i (by omega)) q
      exact ⟨b, by omega, b2, b3⟩
    · exact ⟨n, by omega, by omega, by omega⟩
/-- the k-th of the frontier -/
theorem fr_hit (A : AnFrontier s p x r) (hP : PV (sM s)) (hf : f < pN (sM s)) (hp : p.toInt = ((f : Nat) : Int)) {k : Nat} (hx : x.toInt = ((k : Nat) : Int)) (hk : k < sm (frF (sM s) f) (mRw 1 (sM s) f)) : ∃ b, b < mRw 1 (sM s) f ∧ frF (sM s) f b = 1 ∧ sm (frF (sM s) f) b = k ∧ r.toInt = ((b : Nat) : Int) := by
  rcases (fr_all A hP hf hp).2 k hx with h | ⟨h, -⟩
  · exact h
  · obtain ⟨b, b1, b2, b3⟩ := sm_hit (fun i _ => fF_le) hk
    exact absurd b3 (h b b1 b2)
theorem fr_end (A : AnFrontier s p x r) (hP : PV (sM s)) (hf : f < pN (sM s)) (hp : p.toInt = ((f : Nat) : Int)) (hx : x.toInt = ((sm (frF (sM s) f) (mRw 1 (sM s) f) : Nat) : Int)) : r.toInt = -4 := by
  rcases (fr_all A hP hf hp).2 _ hx with ⟨b, b1, b2, b3, -⟩ | ⟨-, h⟩
  · have h1 := sm_mono (g := frF (sM s) f) (show b + 1 ≤ mRw 1 (sM s) f by omega)
    rw [sm_succ, b2] at h1
    omega
  · exact h
theorem fr_FrQ {b : Nat} (h : frF M f b = 1) : FrQ (fT 1 M) f b b := by
  refine Classical.byContradiction fun q => ?_
  have h2 : fF (fT 1 M) f b = 1 := h
  rw [fF_0 (T := fT 1 M) q] at h2
  exact absurd h2 (by decide)
/-- rows of the frontier: none within another one -/
theorem fr_apart {a b : Nat} (ha : frF M f a = 1) (hb : frF M f b = 1) (h : sm (frF M f) a < sm (frF M f) b) : a < b ∧ ¬ (a &&& b = a) := by
  have hl : a < b := by
    refine Nat.lt_of_not_le fun q => ?_
    have := sm_mono (g := frF M f) q
    omega
  refine ⟨hl, fun q => ?_⟩
  have h1 := (fr_FrQ hb).2 a hl q
  have h2 := (fr_FrQ ha).1
  omega
theorem rough_1 (A : AnRough s p x r) (hP : PV (sM s)) (hf : f < pN (sM s)) (hp : p.toInt = ((f : Nat) : Int)) {b : Nat} (hx : x.toInt = ((b : Nat) : Int)) (hb : b < mRw 1 (sM s) f) : r.toInt = ((fT 1 (sM s) f b : Nat) : Int) := by
  rcases A with ⟨f', b', e1, e2, h1, h2, K, hK, h3⟩ | ⟨h1, -⟩
  · obtain rfl : f' = f := by omega
    obtain rfl : b' = b := by omega
    rw [h3, fT_K (by omega) hP hK hf hb]
  · exact absurd ⟨f, b, hp, hx, hf, hb⟩ h1
theorem sub_dig : (List.range 8).all (fun a => (List.range 8).all fun b => !(a &&& b == a) || ((List.range 3).all fun i => mDig 1 a i == 0 || mDig 1 b i == 1)) = true := by decide +kernel
/-- all that is 1 has a row of the frontier in it, and no other has -/
theorem fr_within (hP : PV M) (hf : f < pN M) {row : Nat} (hr : row < mRw 1 M f) : (∃ b, b < mRw 1 M f ∧ frF M f b = 1 ∧ b &&& row = b) ↔ fT 1 M f row = 1 := by
  have h8 := rows_1 hP hf
  have h3 := (hP.2.2 f hf).1
  constructor
  · rintro ⟨b, b1, b2, b3⟩
    have hm := fT_mo (u := 1) (by omega) hP f b row hf b1 hr (fun i hi => by
      have q := all_range (all_range sub_dig (show b < 8 by omega)) (show row < 8 by omega)
      have q2 := all_range (imp_b q (by rw [b3]; exact beq_self_eq_true b)) (show i < 3 by omega)
      simp only [Bool.or_eq_true, beq_iff_eq] at q2
      rcases q2 with q2 | q2
      · exact Or.inl q2
      · exact Or.inr (Or.inr ⟨by decide, q2⟩))
    rw [(fr_FrQ b2).1] at hm
    rcases hm with z | z | ⟨-, z⟩
    · exact absurd z (by decide)
    · exact z.symm
    · exact z
  · intro h
    have key : ∀ n row, row ≤ n → row < mRw 1 M f → fT 1 M f row = 1 → ∃ b, b < mRw 1 M f ∧ frF M f b = 1 ∧ b &&& row = b := by
      intro n
      induction n with
      | zero =>
        intro row hn hr h
        refine ⟨row, hr, fF_1 ⟨h, fun x hx => by omega⟩, Nat.and_self _⟩
      | succ n ih =>
        intro row hn hr h
        by_cases q : FrQ (fT 1 M) f row row
        · exact ⟨row, hr, fF_1 q, Nat.and_self _⟩
        · have : ∃ x, x < row ∧ x &&& row = x ∧ fT 1 M f x ≠ 0 := by
            refine Classical.byContradiction fun z => q ⟨h, fun x hx hb => ?_⟩
            exact Classical.byContradiction fun z2 => z ⟨x, hx, hb, z2⟩
          obtain ⟨x, x1, x2, x3⟩ := this
          have hl := fT_lt (u := 1) (by omega) hP f x hf (by omega)
          have hl2 : fT 1 M f x < 2 := hl
          obtain ⟨b, b1, b2, b3⟩ := ih x (by omega) (by omega) (by omega)
          refine ⟨b, b1, b2, ?_⟩
          rw [← b3, Nat.and_assoc, x2]
    exact key row row (Nat.le_refl _) hr h
-- ===== strict, early =====
theorem strict_at {w : Nat} (A : AnStrict s p x r) (hf : f < pN (sM s)) (hp : p.toInt = ((f : Nat) : Int)) (hx : x.toInt = ((w : Nat) : Int)) (hw : w < 3) : r.toInt = ((mBits (mStrictF (wU w) (sM s) f) (pA (sM s) f) : Nat) : Int) := by
  rcases A with ⟨f', k, e1, e2, h1, h2, h3⟩ | ⟨h1, -⟩
  · obtain rfl : f' = f := by omega
    obtain rfl : k = w := by omega
    exact h3
  · exact absurd (by omega) h1
theorem mBits_0 {S : Nat → Prop} : mBits S 0 = 0 := rfl
theorem bits_sub {S S' : Nat → Prop} : ∀ {c : Nat}, c ≤ 3 → (∀ a, a < c → S a → S' a) → mBits S c &&& mBits S' c = mBits S c
  | 0, _, _ => by rw [mBits_0, mBits_0]; rfl
  | 1, _, h => by
    by_cases a : S 0
    · rw [mBits_t a, mBits_t (h 0 (by omega) a), mBits_0, mBits_0]; decide
    · rw [mBits_f a]; exact Nat.zero_and _
  | 2, _, h => by
    by_cases a : S 0 <;> by_cases b : S 1 <;> by_cases a' : S' 0 <;> by_cases b' : S' 1 <;>
      first
      | exact absurd (h 0 (by omega) a) a'
      | exact absurd (h 1 (by omega) b) b'
      | (simp only [mBits_t, mBits_f, mBits_0, a, b, a', b', not_false_eq_true]; decide)
  | 3, _, h => by
    by_cases a : S 0 <;> by_cases b : S 1 <;> by_cases c : S 2 <;> by_cases a' : S' 0 <;> by_cases b' : S' 1 <;> by_cases c' : S' 2 <;>
      first
      | exact absurd (h 0 (by omega) a) a'
      | exact absurd (h 1 (by omega) b) b'
      | exact absurd (h 2 (by omega) c) c'
      | (simp only [mBits_t, mBits_f, mBits_0, a, b, c, a', b', c', not_false_eq_true]; decide)
  | c + 4, h, _ => absurd h (by omega)
theorem pop_bits {S : Nat → Prop} : ∀ {c : Nat}, c ≤ 3 → pop (mBits S c) ≤ c
  | 0, _ => by rw [mBits_0]; decide
  | 1, _ => by by_cases a : S 0 <;> simp only [mBits_t, mBits_f, mBits_0, a, not_false_eq_true] <;> decide
  | 2, _ => by by_cases a : S 0 <;> by_cases b : S 1 <;> simp only [mBits_t, mBits_f, mBits_0, a, b, not_false_eq_true] <;> decide
  | 3, _ => pop_le _
  | c + 4, h => absurd h (by omega)
theorem early_at {w : Nat} (A : AnEarly s p x r) (hf : f < pN (sM s)) (hp : p.toInt = ((f : Nat) : Int)) (hx : x.toInt = ((w : Nat) : Int)) (hw : w < 4) : r.toInt = ((sm (fun j => ePart (sM s) w (pB (sM s) f j)) (pL (sM s) f) : Nat) : Int) := by
  rcases A with ⟨f', k, e1, e2, h1, h2, h3⟩ | ⟨h1, -⟩
  · obtain rfl : f' = f := by omega
    obtain rfl : k = w := by omega
    exact h3
  · exact absurd (by omega) h1
theorem early_le (hP : PV M) (hf : f < pN M) : sm (fun j => ePart M 2 (pB M f j)) (pL M f) ≤ sm (fun j => ePart M 3 (pB M f j)) (pL M f) := by
  refine sm_le _ fun j hj => ?_
  obtain ⟨b1, b2, -⟩ := (hP.2.2 f hf).2.2.2.2.1 j hj
  by_cases h : 10 ≤ pB M f j
  · rw [ePart_3 h, ePart_w h (by omega)]
    exact pop_bits (hP.2.2 _ (b2.call h)).1
  · rw [ePart_no (by omega), ePart_no (by omega)]; exact Nat.le_refl _
-- ===== same, first =====
def SaT (M : PRG) (f g : Nat) : Prop := pA M f = pA M g ∧ ∀ row, row < mRw 0 M f → fT 0 M f row = fT 0 M g row
theorem mRw_eq {u g : Nat} (h : pA M f = pA M g) : mRw u M f = mRw u M g := by unfold mRw; rw [h]
theorem same_at {g : Nat} (A : AnSame s p x r) (hP : PV (sM s)) (hf : f < pN (sM s)) (hg : g < pN (sM s)) (hp : p.toInt = ((f : Nat) : Int)) (hx : x.toInt = ((g : Nat) : Int)) : Bq r (SaT (sM s) f g) := by
  rcases A with ⟨f', g', K, e1, e2, h1, h2, hK, h3⟩ | ⟨h1, -⟩
  · obtain rfl : f' = f := by omega
    obtain rfl : g' = g := by omega
    refine h3.iff ⟨?_, ?_⟩
    · rintro ⟨a, b⟩
      exact ⟨a, fun row hr => by rw [← fT_K (by omega) hP hK h1 hr, ← fT_K (by omega) hP hK h2 (by rw [← mRw_eq a]; exact hr)]; exact b row hr⟩
    · rintro ⟨a, b⟩
      exact ⟨a, fun row hr => by rw [fT_K (by omega) hP hK h1 hr, fT_K (by omega) hP hK h2 (by rw [← mRw_eq a]; exact hr)]; exact b row hr⟩
  · exact absurd (by omega) h1
theorem SaT.rf : SaT M f f := ⟨rfl, fun _ _ => rfl⟩
theorem SaT.sy {g : Nat} (h : SaT M f g) : SaT M g f := ⟨h.1.symm, fun row hr => (h.2 row (by rw [mRw_eq h.1]; exact hr)).symm⟩
/-- a row that comes to v -/
def HiT (M : PRG) (f v q : Nat) : Prop := isQ M f q ∧ vK M f q = v
def FiQ (M : PRG) (f v : Nat) (r : Int) : Prop := (∃ q, q < 125 ∧ HiT M f v q ∧ (∀ j, j < q → ¬ HiT M f v j) ∧ r = ((100 * (q / 25) + 10 * (q / 5 % 5) + q % 5 : Nat) : Int)) ∨ ((∀ q, q < 125 → ¬ HiT M f v q) ∧ r = -4)
theorem FiQ.inj {v : Nat} {r r' : Int} (h : FiQ M f v r) (h' : FiQ M f v r') : r = r' := by
  rcases h with ⟨q, a, b, c, d⟩ | ⟨a, b⟩ <;> rcases h' with ⟨q', a', b', c', d'⟩ | ⟨a', b'⟩
  · rcases Nat.lt_trichotomy q q' with z | z | z
    · exact absurd b (c' q z)
    · rw [d, d', z]
    · exact absurd b' (c q' z)
  · exact absurd b (a' q a)
  · exact absurd b' (a q' a')
  · rw [b, b']
theorem HiT.cg {g v q : Nat} (hP : PV M) (hf : f < pN M) (h : SaT M f g) : HiT M f v q ↔ HiT M g v q := by
  unfold HiT isQ
  rw [← h.1]
  constructor
  · rintro ⟨a, b⟩; exact ⟨a, by rw [← b]; exact (h.2 _ (mIx_lt (hP.2.2 f hf).1 a)).symm⟩
  · rintro ⟨a, b⟩; exact ⟨a, by rw [← b]; exact h.2 _ (mIx_lt (hP.2.2 f hf).1 a)⟩
theorem FiQ.cg {g v : Nat} {r : Int} (hP : PV M) (hf : f < pN M) (h : SaT M f g) (q : FiQ M f v r) : FiQ M g v r := by
  rcases q with ⟨q, a, b, c, d⟩ | ⟨a, b⟩
  · exact Or.inl ⟨q, a, (HiT.cg hP hf h).mp b, fun j hj z => c j hj ((HiT.cg hP hf h).mpr z), d⟩
  · exact Or.inr ⟨fun q hq z => a q hq ((HiT.cg hP hf h).mpr z), b⟩
theorem first_at {v : Nat} (A : AnFirst s p x r) (hP : PV (sM s)) (hf : f < pN (sM s)) (hp : p.toInt = ((f : Nat) : Int)) (hx : x.toInt = ((v : Nat) : Int)) (hv : v < 5) : FiQ (sM s) f v r.toInt := by
  rcases A with ⟨f', k, K, e1, e2, h1, h2, hK, h3⟩ | ⟨h1, -⟩
  · obtain rfl : f' = f := by omega
    obtain rfl : k = v := by omega
    have e : ∀ q, Hit (sM s) K f' k q ↔ HiT (sM s) f' k q := fun q => by
      unfold Hit HiT
      constructor
      · rintro ⟨a, b⟩; exact ⟨a, by rw [← b]; exact (fT_K (by omega) hP hK h1 (mIx_lt (hP.2.2 f' h1).1 a)).symm⟩
      · rintro ⟨a, b⟩; exact ⟨a, by rw [← b]; exact fT_K (by omega) hP hK h1 (mIx_lt (hP.2.2 f' h1).1 a)⟩
    rcases h3 with ⟨q, a, b, c, d⟩ | ⟨a, b⟩
    · exact Or.inl ⟨q, a, (e q).mp b, fun j hj z => c j hj ((e j).mpr z), d⟩
    · exact Or.inr ⟨fun q hq z => a q hq ((e q).mpr z), b⟩
  · exact absurd (by omega) h1
theorem strict_cg {g : Nat} (hP : PV M) (hf : f < pN M) (hg : g < pN M) (h : SaT M f g) : mBits (mStrictF 0 M f) (pA M f) = mBits (mStrictF 0 M g) (pA M g) := by
  have e : mStrictF 0 M f = mStrictF 0 M g := by
    funext a
    apply propext
    rw [fT_strict (by omega) hP hf, fT_strict (by omega) hP hg]
    unfold mStrict
    rw [← mRw_eq (u := 0) h.1]
    constructor
    · intro q row hr hd; rw [← h.2 row hr]; exact q row hr hd
    · intro q row hr hd; rw [h.2 row hr]; exact q row hr hd
  rw [e, h.1]
-- ===== makes =====
theorem bits_in {S : Nat → Prop} : ∀ {c a : Nat}, a < c → (mBits S c / 2 ^ a % 2 = 1 ↔ S a)
  | 0, a, h => absurd h (Nat.not_lt_zero _)
  | c + 1, a, h => by
    have hb := mBits_lt S c
    by_cases q : a = c
    · subst q
      by_cases z : S a
      · rw [mBits_t z, Nat.add_div_right _ (Nat.two_pow_pos a), Nat.div_eq_of_lt hb]
        exact ⟨fun _ => z, fun _ => rfl⟩
      · rw [mBits_f z, Nat.div_eq_of_lt hb]
        exact ⟨fun y => absurd y (by decide), fun y => absurd y z⟩
    · have ih := bits_in (S := S) (c := c) (a := a) (by omega)
      by_cases z : S c
      · rw [mBits_t z]
        obtain ⟨d, rfl⟩ : ∃ d, c = a + (d + 1) := ⟨c - a - 1, by omega⟩
        rw [show 2 ^ (a + (d + 1)) = 2 ^ a * (2 * 2 ^ d) by rw [Nat.pow_add, Nat.pow_succ, Nat.mul_comm (2 ^ d) 2], Nat.add_mul_div_left _ _ (Nat.two_pow_pos a), Nat.add_mul_mod_self_left]
        exact ih
      · rw [mBits_f z]; exact ih
theorem shr_all : (List.range 3).all (fun a => (List.range 8).all fun b => ((nI b >>> (nI a &&& 31)) &&& 1) == nI (b / 2 ^ a % 2)) = true := by decide +kernel
theorem shr_bit {x y v w : Int32} {b a : Nat} (hx : x.toInt = ((b : Nat) : Int)) (hb : b < 8) (hy : y.toInt = ((a : Nat) : Int)) (ha : a < 3) (e1 : v = x >>> (y &&& 31)) (e2 : w = v &&& 1) : w.toInt = ((b / 2 ^ a % 2 : Nat) : Int) := by
  have h := all_range (all_range shr_all ha) hb
  rw [e2, e1, i_ofN hx, i_ofN hy, eq_of_beq h, nI_toInt]
  have : b / 2 ^ a % 2 < 2 := Nat.mod_lt _ (by decide)
  omega
def MkQ (M : PRG) (f a : Nat) (r : Int) : Prop := (mStrictF 2 M f a ∧ r = -2) ∨ (¬ mStrictF 2 M f a ∧ ((∃ i k, i < pL M f ∧ k < 14 ∧ Cand M f a i k ∧ r = ((200 * i + mCode k : Nat) : Int)) ∨ r = -4))
theorem makes_at {a : Nat} (A : AnMakes s p x r) (hf : f < pN (sM s)) (ha : a < pA (sM s) f) (hp : p.toInt = ((f : Nat) : Int)) (hx : x.toInt = ((a : Nat) : Int)) : MkQ (sM s) f a r.toInt := by
  rcases A with ⟨f', a', e1, e2, h1, h2, h3⟩ | ⟨h1, -⟩
  · obtain rfl : f' = f := by omega
    obtain rfl : a' = a := by omega
    rcases h3 with ⟨b, c⟩ | ⟨b, ⟨i, k, c1, c2, c3, -, c5⟩ | ⟨-, c⟩⟩
    · exact Or.inl ⟨b, c⟩
    · exact Or.inr ⟨b, Or.inl ⟨i, k, c1, c2, c3, c5⟩⟩
    · exact Or.inr ⟨b, Or.inr c⟩
  · exact absurd ⟨f, a, hp, hx, hf, ha⟩ h1
theorem makes_no (A : AnMakes s p x r) (hp : p.toInt = ((f : Nat) : Int)) (hx : x.toInt = ((pA (sM s) f : Nat) : Int)) : r.toInt = -1 := by
  rcases A with ⟨f', a', e1, e2, h1, h2, h3⟩ | ⟨-, h1⟩
  · obtain rfl : f' = f := by omega
    omega
  · exact h1
theorem put_at {s2 : ST} {f i k : Nat} (A : AnPut s p x y r s2) (hp : p.toInt = ((f : Nat) : Int)) (hx : x.toInt = ((i : Nat) : Int)) (hy : y.toInt = ((mCode k : Nat) : Int)) (hf : f < pN (sM s)) (hi : i < pL (sM s) f) (hk : k < 14) (hm : mFit (sM s) f i k) (hne : pB (sM s) f i ≠ k) :
    r.toInt = ((mCode (pB (sM s) f i) : Nat) : Int) ∧ s2 = nAct s (mSet (sM s) f i k) := by
  have hn : mNum y.toInt = k := by rw [hy, mNum_code hk]
  rw [AnPut, hn] at A
  rcases A with ⟨f', j, a1, a2, a3, a4, a5, a6, a7⟩ | ⟨a1, -⟩
  · obtain rfl : f' = f := by omega
    obtain rfl : j = i := by omega
    rcases a7 with ⟨b1, -⟩ | ⟨-, b2, b3⟩
    · exact absurd b1 hne
    · exact ⟨b2, b3⟩
  · exact absurd ⟨f, i, hp, hx, hf, hi, hk, hm⟩ a1
theorem put_is {s2 : ST} {f i : Nat} (A : AnPut s p x y r s2) (hP : PV (sM s)) (hp : p.toInt = ((f : Nat) : Int)) (hx : x.toInt = ((i : Nat) : Int)) (hf : f < pN (sM s)) (hi : i < pL (sM s) f) (hy : y.toInt = ((mCode (pB (sM s) f i) : Nat) : Int)) : r.toInt = -2 ∧ s2 = s := by
  obtain ⟨b1, b2, -⟩ := (hP.2.2 f hf).2.2.2.2.1 i hi
  have hn : mNum y.toInt = pB (sM s) f i := by rw [hy, mNum_code b1]
  rw [AnPut, hn] at A
  rcases A with ⟨f', j, a1, a2, a3, a4, a5, a6, a7⟩ | ⟨a1, -⟩
  · obtain rfl : f' = f := by omega
    obtain rfl : j = i := by omega
    rcases a7 with ⟨-, c1, c2⟩ | ⟨c1, -⟩
    · exact ⟨c1, c2⟩
    · exact absurd rfl c1
  · exact absurd ⟨f, i, hp, hx, hf, hi, b1, b2, rfl⟩ a1
theorem ren_is {s2 : ST} {f : Nat} (A : AnRename s p x r s2) (hp : p.toInt = ((f : Nat) : Int)) (hf : f < pN (sM s)) (hx : x.toInt = ((pK (sM s) f : Nat) : Int)) (hk : pK (sM s) f ≤ 3) : r.toInt = -2 ∧ s2 = s := by
  rcases A with ⟨f', c, a1, a2, a3, a4, a5⟩ | ⟨a1, -⟩
  · obtain rfl : f' = f := by omega
    obtain rfl : c = pK (sM s) f' := by omega
    rcases a5 with ⟨-, c1, c2⟩ | ⟨c1, -⟩
    · exact ⟨c1, c2⟩
    · exact absurd rfl c1
  · exact absurd (by omega) a1
theorem ren_at {s2 : ST} {f c : Nat} (A : AnRename s p x r s2) (hp : p.toInt = ((f : Nat) : Int)) (hf : f < pN (sM s)) (hx : x.toInt = ((c : Nat) : Int)) (hk : c ≤ 3) (hne : pK (sM s) f ≠ c) : r.toInt = ((pK (sM s) f : Nat) : Int) ∧ s2 = nAct s (mKind (sM s) f c) := by
  rcases A with ⟨f', c', a1, a2, a3, a4, a5⟩ | ⟨a1, -⟩
  · obtain rfl : f' = f := by omega
    obtain rfl : c' = c := by omega
    rcases a5 with ⟨c1, -⟩ | ⟨-, c1, c2⟩
    · exact absurd c1 hne
    · exact ⟨c1, c2⟩
  · exact absurd (by omega) a1
/-- an act undone: as it was -/
theorem undo_n {s2 s3 : ST} {M' : PRG} {r : Int32} (A : AnUndo s2 r s3) (e : s2 = nAct s M') : 0 ≤ r.toInt ∧ sM s3 = sM s ∧ sV s3 = sV s ∧ sVs s3 = sVs s ∧ ∀ i, i < sU s3 → sU s3 ≤ sU s ∧ (sU s < 8 → sUs s3 i = sUs s i) := by
  subst e
  obtain ⟨m1, m2, m3, m4, m5⟩ := nact_M s M'
  unfold nAct at A m2 m3
  by_cases q : sU s = 8
  · rw [if_pos q] at A
    rcases A with ⟨a, -⟩ | ⟨-, a2, a3⟩
    · exact absurd a (by decide : ¬ (8 : Nat) = 0)
    · rw [a3]
      refine ⟨by omega, ?_, rfl, rfl, fun i hi => ⟨?_, fun z => by omega⟩⟩
      · show (if (8 - 1 : Nat) = 7 then sM s else sUs s (8 - 1 + 1)) = sM s
        rw [if_pos (by decide)]
      · show 8 - 1 ≤ sU s; omega
  · rw [if_neg q] at A
    rcases A with ⟨a, -⟩ | ⟨-, a2, a3⟩
    · exact absurd (show sU s + 1 = 0 from a) (by omega)
    · rw [a3]
      refine ⟨by omega, ?_, rfl, rfl, fun i hi => ⟨?_, fun z => ?_⟩⟩
      · show (if (sU s + 1 - 1 : Nat) = sU s then sM s else _) = sM s
        rw [if_pos (by omega)]
      · show sU s + 1 - 1 ≤ sU s; omega
      · have hi2 : i < sU s + 1 - 1 := hi
        show (if i = sU s then sM s else sUs s i) = sUs s i
        rw [if_neg (by omega)]
/-- two acts undone: as it was -/
theorem undo_2 {s1 s2 s3 s4 : ST} {M' M'' : PRG} {r r' : Int32} (e1 : s1 = nAct s M') (e2 : s2 = nAct s1 M'') (A : AnUndo s2 r s3) (A' : AnUndo s3 r' s4) : 0 ≤ r.toInt ∧ 0 ≤ r'.toInt ∧ sM s4 = sM s ∧ sV s4 = sV s ∧ sVs s4 = sVs s := by
  subst e1 e2
  by_cases q : sU s = 8
  · have e : nAct s M' = (M', (8, fun i => if i = 7 then sM s else sUs s (i + 1)), s.2.2) := by unfold nAct; rw [if_pos q]
    rw [e] at A
    unfold nAct at A
    rw [if_pos (show (8 : Nat) = 8 from rfl)] at A
    rcases A with ⟨a, -⟩ | ⟨-, a2, a3⟩
    · exact absurd a (by decide : ¬ (8 : Nat) = 0)
    · rw [a3] at A'
      rcases A' with ⟨b, -⟩ | ⟨-, b2, b3⟩
      · exact absurd b (by decide : ¬ (8 - 1 : Nat) = 0)
      · rw [b3]
        refine ⟨by omega, by omega, ?_, rfl, rfl⟩
        show (if (8 - 1 - 1 : Nat) = 7 then M' else (if (8 - 1 - 1 + 1 : Nat) = 7 then sM s else sUs s (8 - 1 - 1 + 1 + 1))) = sM s
        rw [if_neg (by decide), if_pos (by decide)]
  · have e : nAct s M' = (M', (sU s + 1, fun i => if i = sU s then sM s else sUs s i), s.2.2) := by unfold nAct; rw [if_neg q]
    rw [e] at A
    unfold nAct at A
    by_cases q2 : sU s + 1 = 8
    · rw [if_pos (show (sU s + 1 : Nat) = 8 from q2)] at A
      rcases A with ⟨a, -⟩ | ⟨-, a2, a3⟩
      · exact absurd a (by decide : ¬ (8 : Nat) = 0)
      · rw [a3] at A'
        rcases A' with ⟨b, -⟩ | ⟨-, b2, b3⟩
        · exact absurd b (by decide : ¬ (8 - 1 : Nat) = 0)
        · rw [b3]
          refine ⟨by omega, by omega, ?_, rfl, rfl⟩
          show (if (8 - 1 - 1 : Nat) = 7 then M' else (if (8 - 1 - 1 + 1 : Nat) = sU s then sM s else sUs s (8 - 1 - 1 + 1))) = sM s
          rw [if_neg (by decide), if_pos (by omega)]
    · rw [if_neg (show ¬ (sU s + 1 : Nat) = 8 from q2)] at A
      rcases A with ⟨a, -⟩ | ⟨-, a2, a3⟩
      · exact absurd (show sU s + 1 + 1 = 0 from a) (by omega)
      · rw [a3] at A'
        rcases A' with ⟨b, -⟩ | ⟨-, b2, b3⟩
        · exact absurd (show sU s + 1 + 1 - 1 = 0 from b) (by omega)
        · rw [b3]
          refine ⟨by omega, by omega, ?_, rfl, rfl⟩
          show (if (sU s + 1 + 1 - 1 - 1 : Nat) = sU s + 1 then _ else (if (sU s + 1 + 1 - 1 - 1 : Nat) = sU s then sM s else _)) = sM s
          rw [if_neg (by omega), if_pos (by omega)]
theorem keep_at {s2 : ST} (A : AnKeep s r s2) (h : sV s = 0) : r.toInt = 1 ∧ sM s2 = sM s ∧ sV s2 = 1 ∧ sVs s2 0 = sM s := by
  rcases A with ⟨a, -⟩ | ⟨-, a2, a3⟩
  · omega
  · rw [a3]
    refine ⟨by omega, rfl, ?_, ?_⟩
    · show sV s + 1 = 1; omega
    · show (if 0 = sV s then sM s else sVs s 0) = sM s
      rw [if_pos h.symm]
theorem back_at {s2 : ST} (A : AnBack s r s2) (h : sV s = 1) : r.toInt = 0 ∧ sM s2 = sVs s 0 ∧ sV s2 = 0 ∧ sU s2 = 0 := by
  rcases A with ⟨a, -⟩ | ⟨-, a2, a3⟩
  · omega
  · rw [a3]
    refine ⟨by omega, ?_, ?_, rfl⟩
    · show sVs s (sV s - 1) = sVs s 0
      rw [h]
    · show sV s - 1 = 0; omega
end LM
