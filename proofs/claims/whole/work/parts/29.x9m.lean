theorem sgn_in {tx : Nat → Nat} {n i c : Nat} (h : sgn tx n i = c) (hc : 0 < c) : i < n := by
  unfold sgn at h
  split at h
  · assumption
  · omega
/-- behind an f: a function's text -/
def FnOk (S : Nat → Nat) (i : Nat) (M : PRG) (mb p9 : Nat) : Prop := mb < pN M ∧ dgt (S i) ∧ S (i + 1) = 44 ∧ p9 ≤ 24 ∧ BodyR S (pN M) (pA M) mb (i + 1 + 1) p9 0 ∧ S (i + 1 + 1 + p9) = 59
def mFn (S : Nat → Nat) (M : PRG) (mb i p9 : Nat) : PRG := (pN M, pA M, fun x => if x = mb then S i - 48 else pK M x, fun x => if x = mb then p9 else pL M x, fun x j => if x = mb then mNum ((S (i + 1 + 1 + j) : Nat) : Int) else pB M x j)
/-- the functions told so far, mb of them whole -/
def RSp (M : PRG) (mb : Nat) (nm : Int32) (ga gk gl gB : Nat → Int32) : Prop :=
  nm.toInt = ((pN M : Nat) : Int) ∧ mb ≤ pN M ∧ pN M ≤ 4 ∧ (∀ i, i < pN M → (ga i).toInt = (pA M i : Int) ∧ pA M i ≤ 3) ∧ (∀ i, i < mb → (gk i).toInt = ((pK M i : Nat) : Int)) ∧ (∀ i, i < mb → (gl i).toInt = ((pL M i : Nat) : Int) ∧ pL M i ≤ 24) ∧ ∀ i, i < mb → ∀ j, j < pL M i → (gB (24 * i + j)).toInt = ((mCode (pB M i j) : Nat) : Int)
theorem BodyR.ok {S : Nat → Nat} {N : Nat} {A : Nat → Nat} {f i p j : Nat} (h : BodyR S N A f i p 0) (hj : j < p) : ∃ m0, BodyR S N A f i j m0 ∧ 0 < m0 ∧ mNum ((S (i + j) : Nat) : Int) < 14 ∧ mMay N A f (mNum ((S (i + j) : Nat) : Int)) := by
  obtain ⟨x, rfl⟩ : ∃ x, p = j + (x + 1) := ⟨p - j - 1, by omega⟩
  exact BodyR.le h
theorem RSp.fn {S : Nat → Nat} {M : PRG} {mb i p9 : Nat} {nm : Int32} {ga gk gl gB gk2 gl2 gB2 : Nat → Int32} {x : Int32} (R : RSp M mb nm ga gk gl gB) (hF : FnOk S i M mb p9) (e1 : upd gk mb x = gk2) (hx : x.toInt = ((S i - 48 : Nat) : Int)) (h1 : ∀ q, q ≠ mb → gl2 q = gl q) (h2 : ∀ q, (q < 24 * mb ∨ 24 * mb + 24 ≤ q) → gB2 q = gB q) (h3 : (gl2 mb).toInt = ((p9 : Nat) : Int)) (h4 : ∀ j, j < p9 → (gB2 (24 * mb + j)).toInt = ((S (i + 1 + 1 + j) : Nat) : Int)) : RSp (mFn S M mb i p9) (mb + 1) nm ga gk2 gl2 gB2 := by
  obtain ⟨a1, a2, a3, a4, a5, a6, a7⟩ := R
  obtain ⟨f1, f2, f3, f4, f5, f6⟩ := hF
  subst e1
  refine ⟨a1, by show mb + 1 ≤ pN M; omega, a3, a4, fun j hj => ?_, fun j hj => ?_, fun j hj k hk => ?_⟩
  · show (upd gk mb x j).toInt = (((if j = mb then S i - 48 else pK M j) : Nat) : Int)
    by_cases q : j = mb
    · rw [if_pos q, q, pk_us]; exact hx
    · rw [if_neg q, pk_un q]; exact a5 j (by omega)
  · show (gl2 j).toInt = (((if j = mb then p9 else pL M j) : Nat) : Int) ∧ (if j = mb then p9 else pL M j) ≤ 24
    by_cases q : j = mb
    · rw [if_pos q, q]; exact ⟨h3, f4⟩
    · rw [if_neg q, h1 j q]; exact a6 j (by omega)
  · have hk' : k < (if j = mb then p9 else pL M j) := hk
    show (gB2 (24 * j + k)).toInt = ((mCode (if j = mb then mNum ((S (i + 1 + 1 + k) : Nat) : Int) else pB M j k) : Nat) : Int)
    by_cases q : j = mb
    · rw [if_pos q] at hk' ⊢
      obtain ⟨m0, _, _, b3, _⟩ := f5.ok hk'
      rw [q, h4 k hk', mCode_num b3]
    · rw [if_neg q] at hk' ⊢
      have := (a6 j (by omega)).2
      rw [h2 _ (by omega)]; exact a7 j (by omega) k hk'
abbrev PS : Type := Nat × PRG × Nat
/-- one item read -/
def ItemOk (S : Nat → Nat) (s s' : PS) : Prop :=
  (S s.1 = 110 ∧ s.1 = 0 ∧ ∃ c, NumE S (s.1 + 1) c ∧ 0 < c ∧ S (s.1 + 1 + c) = 59 ∧ s' = (s.1 + 1 + c + 1, (c, fun j => S (s.1 + 1 + j) - 48, pK s.2.1, pL s.2.1, pB s.2.1), s.2.2)) ∨
  (S s.1 = 102 ∧ ∃ p9, FnOk S (s.1 + 1) s.2.1 s.2.2 p9 ∧ s' = (s.1 + 1 + 1 + 1 + p9 + 1, mFn S s.2.1 s.2.2 (s.1 + 1) p9, s.2.2 + 1))
theorem ItemOk.inj {S : Nat → Nat} {s a b : PS} (h1 : ItemOk S s a) (h2 : ItemOk S s b) : a = b := by
  rcases h1 with ⟨x1, x2, c, x3, x4, x5, x6⟩ | ⟨x1, p, x2, x3⟩ <;> rcases h2 with ⟨y1, y2, d, y3, y4, y5, y6⟩ | ⟨y1, q, y2, y3⟩
  · have e := x3.inj y3
    subst e
    rw [x6, y6]
  · omega
  · omega
  · have e := x2.2.2.2.2.1.uni y2.2.2.2.2.1
    subst e
    rw [x3, y3]
def ps0 : PS := (0, (0, fun _ => 0, fun _ => 0, fun _ => 0, fun _ _ => 0), 0)
def RunR (S : Nat → Nat) (n : Nat) : Nat → PS → Prop
  | 0, s => s = ps0
  | k + 1, s => ∃ s0, RunR S n k s0 ∧ s0.1 < n ∧ ItemOk S s0 s
theorem RunR.inj {S : Nat → Nat} {n : Nat} : ∀ {k : Nat} {a b : PS}, RunR S n k a → RunR S n k b → a = b
  | 0, _, _, h1, h2 => Eq.trans (show _ = ps0 from h1) (show _ = ps0 from h2).symm
  | k + 1, _, _, ⟨x, x1, x2, x3⟩, ⟨y, y1, y2, y3⟩ => by
    have e := RunR.inj x1 y1
    subst e
    exact x3.inj y3
theorem RunR.le {S : Nat → Nat} {n k : Nat} : ∀ {j : Nat} {b : PS}, RunR S n (k + (j + 1)) b → ∃ a a', RunR S n k a ∧ a.1 < n ∧ ItemOk S a a'
  | 0, b, ⟨x, x1, x2, x3⟩ => ⟨x, b, x1, x2, x3⟩
  | j + 1, _, ⟨_, x1, _⟩ => RunR.le (j := j) x1
/-- a run's end: all is read, or an item is not so -/
def RunE (S : Nat → Nat) (n : Nat) (s : PS) : Prop := (∃ k, RunR S n k s) ∧ (n ≤ s.1 ∨ ¬ ∃ s', ItemOk S s s')
theorem RunE.inj {S : Nat → Nat} {n : Nat} {a b : PS} (h1 : RunE S n a) (h2 : RunE S n b) : a = b := by
  obtain ⟨⟨k, x1⟩, x2⟩ := h1
  obtain ⟨⟨j, y1⟩, y2⟩ := h2
  rcases Nat.lt_trichotomy k j with z | z | z
  · obtain ⟨d, rfl⟩ : ∃ d, j = k + (d + 1) := ⟨j - k - 1, by omega⟩
    obtain ⟨c, c', c1, c2, c3⟩ := RunR.le y1
    have e := x1.inj c1
    subst e
    rcases x2 with q | q
    · omega
    · exact absurd ⟨c', c3⟩ q
  · subst z; exact x1.inj y1
  · obtain ⟨d, rfl⟩ : ∃ d, k = j + (d + 1) := ⟨k - j - 1, by omega⟩
    obtain ⟨c, c', c1, c2, c3⟩ := RunR.le x1
    have e := y1.inj c1
    subst e
    rcases y2 with q | q
    · omega
    · exact absurd ⟨c', c3⟩ q
theorem ItemOk.at {tx : Nat → Nat} {n : Nat} {s s' : PS} (h : ItemOk (sgn tx n) s s') : s.1 < s'.1 ∧ s'.1 ≤ n ∧ 0 < s'.1 ∧ 0 < pN s'.2.1 := by
  rcases h with ⟨x1, x2, c, x3, x4, x5, rfl⟩ | ⟨x1, p, x2, rfl⟩
  · have := sgn_in x5 (by omega)
    exact ⟨by show s.1 < s.1 + 1 + c + 1; omega, by show s.1 + 1 + c + 1 ≤ n; omega, by show 0 < s.1 + 1 + c + 1; omega, x4⟩
  · have := sgn_in x2.2.2.2.2.2 (by omega)
    exact ⟨by show s.1 < s.1 + 1 + 1 + 1 + p + 1; omega, by show s.1 + 1 + 1 + 1 + p + 1 ≤ n; omega, by show 0 < s.1 + 1 + 1 + 1 + p + 1; omega, by show 0 < pN s.2.1; have := x2.1; omega⟩
/-- what a call of fault() answers -/
def AnFault (s : ST) (r : Int32) : Prop := ∃ t, RunE (sgn (sT s) (sL s)) (sL s) t ∧ ((sL s ≤ t.1 ∧ r.toInt = -4) ∨ (t.1 < sL s ∧ r.toInt = ((t.1 : Nat) : Int)))
def AnLay (s : ST) (r : Int32) (s' : ST) : Prop := ∃ t, RunE (sgn (sT s) (sL s)) (sL s) t ∧ ((sL s ≤ t.1 ∧ 0 < pN t.2.1 ∧ t.2.2 = pN t.2.1 ∧ r.toInt = ((pN t.2.1 : Nat) : Int) ∧ s' = (t.2.1, (0, sUs s), (0, sVs s), s.2.2.2)) ∨ (¬ (sL s ≤ t.1 ∧ 0 < pN t.2.1 ∧ t.2.2 = pN t.2.1) ∧ r.toInt = -2 ∧ s' = s))
theorem rsp0 {nm : Int32} {ga gk gl gB : Nat → Int32} (h : nm.toInt = 0) : RSp ps0.2.1 0 nm ga gk gl gB :=
  ⟨h, Nat.le_refl _, by decide, fun i hi => absurd hi (Nat.not_lt_zero _), fun i hi => absurd hi (Nat.not_lt_zero _), fun i hi => absurd hi (Nat.not_lt_zero _), fun i hi => absurd hi (Nat.not_lt_zero _)⟩

theorem rsp_rs {M : PRG} {nm : Int32} {ga gk gl gB : Nat → Int32} (R : RSp M (pN M) nm ga gk gl gB) : RS M nm ga gk gl gB :=
  ⟨R.1, fun i hi => (R.2.2.2.1 i hi).1, fun i hi => R.2.2.2.2.1 i hi, fun i hi => (R.2.2.2.2.2.1 i hi).1, fun i hi j hj => R.2.2.2.2.2.2 i hi j hj⟩
/-- what stands behind items read -/
def RunOk (s : PS) : Prop := s.2.2 ≤ pN s.2.1 ∧ pN s.2.1 ≤ 4 ∧ (s.1 = 0 → s.2.2 = 0) ∧ (∀ f, f < pN s.2.1 → pA s.2.1 f ≤ 3) ∧ ∀ f, f < s.2.2 → pK s.2.1 f ≤ 3 ∧ 1 ≤ pL s.2.1 f ∧ pL s.2.1 f ≤ 24 ∧ (∀ p, p < pL s.2.1 f → pB s.2.1 f p < 14 ∧ mMay (pN s.2.1) (pA s.2.1) f (pB s.2.1 f p) ∧ 1 ≤ mDep s.2.1 f p) ∧ mDep s.2.1 f (pL s.2.1 f) = 0
theorem mDep_cg {M M' : PRG} {f : Nat} (h1 : pN M' = pN M) (h2 : pA M' = pA M) (h3 : ∀ p, pB M' f p = pB M f p) : ∀ p, mDep M' f p = mDep M f p
  | 0 => rfl
  | p + 1 => by
    show mDep M' f p + mParts (pN M') (pA M') (pB M' f p) - 1 = mDep M f p + mParts (pN M) (pA M) (pB M f p) - 1
    rw [mDep_cg h1 h2 h3 p, h1, h2, h3 p]
theorem mDep_body {S : Nat → Nat} {M : PRG} {mb i p9 : Nat} : ∀ {p m : Nat}, BodyR S (pN M) (pA M) mb (i + 1 + 1) p m → mDep (mFn S M mb i p9) mb p = m
  | 0, _, h => Eq.symm (show _ = 1 from h)
  | p + 1, m, ⟨a, a1, _, _, _, a5⟩ => by
    have e := mDep_body (p9 := p9) a1
    show mDep (mFn S M mb i p9) mb p + mParts (pN M) (pA M) (if mb = mb then mNum ((S (i + 1 + 1 + p) : Nat) : Int) else pB M mb p) - 1 = m
    rw [if_pos rfl, e, a5]
theorem RunOk.step {S : Nat → Nat} {s s' : PS} (h : RunOk s) (hI : ItemOk S s s') : RunOk s' := by
  obtain ⟨a1, a2, a3, a4, a5⟩ := h
  rcases hI with ⟨x1, x2, c, x3, x4, x5, rfl⟩ | ⟨x1, p9, x2, rfl⟩
  · have hz := a3 x2
    refine ⟨by show s.2.2 ≤ c; omega, x3.1, fun _ => hz, fun f hf => ?_, fun f hf => ?_⟩
    · have hd := x3.2.1 f hf
      unfold dgt at hd
      show S (s.1 + 1 + f) - 48 ≤ 3
      omega
    · have hf2 : f < s.2.2 := hf
      omega
  · obtain ⟨f1, f2, f3, f4, f5, f6⟩ := x2
    unfold dgt at f2
    refine ⟨by show s.2.2 + 1 ≤ pN s.2.1; omega, a2, fun q => by have q2 : s.1 + 1 + 1 + 1 + p9 + 1 = 0 := q; omega, a4, fun f hf => ?_⟩
    have hf2 : f < s.2.2 + 1 := hf
    by_cases q : f = s.2.2
    · subst q
      have eK : pK (mFn S s.2.1 s.2.2 (s.1 + 1) p9) s.2.2 = S (s.1 + 1) - 48 := if_pos rfl
      have eL : pL (mFn S s.2.1 s.2.2 (s.1 + 1) p9) s.2.2 = p9 := if_pos rfl
      have eB : ∀ p, pB (mFn S s.2.1 s.2.2 (s.1 + 1) p9) s.2.2 p = mNum ((S (s.1 + 1 + 1 + 1 + p) : Nat) : Int) := fun p => if_pos rfl
      have hp1 : p9 ≠ 0 := fun z => by
        rw [z] at f5
        have : (0 : Nat) = 1 := f5
        omega
      refine ⟨by show pK (mFn S s.2.1 s.2.2 (s.1 + 1) p9) s.2.2 ≤ 3; omega, by show 1 ≤ pL (mFn S s.2.1 s.2.2 (s.1 + 1) p9) s.2.2; omega, by show pL (mFn S s.2.1 s.2.2 (s.1 + 1) p9) s.2.2 ≤ 24; omega, fun p hp => ?_, ?_⟩
      · have hp2 : p < pL (mFn S s.2.1 s.2.2 (s.1 + 1) p9) s.2.2 := hp
        rw [eL] at hp2
        obtain ⟨m0, b1, b2, b3, b4⟩ := f5.ok hp2
        refine ⟨?_, ?_, ?_⟩
        · show pB (mFn S s.2.1 s.2.2 (s.1 + 1) p9) s.2.2 p < 14
          rw [eB]; exact b3
        · show mMay (pN s.2.1) (pA s.2.1) s.2.2 (pB (mFn S s.2.1 s.2.2 (s.1 + 1) p9) s.2.2 p)
          rw [eB]; exact b4
        · show 1 ≤ mDep (mFn S s.2.1 s.2.2 (s.1 + 1) p9) s.2.2 p
          rw [mDep_body b1]; omega
      · show mDep (mFn S s.2.1 s.2.2 (s.1 + 1) p9) s.2.2 (pL (mFn S s.2.1 s.2.2 (s.1 + 1) p9) s.2.2) = 0
        rw [eL, mDep_body f5]
    · have eK : pK (mFn S s.2.1 s.2.2 (s.1 + 1) p9) f = pK s.2.1 f := if_neg q
      have eL : pL (mFn S s.2.1 s.2.2 (s.1 + 1) p9) f = pL s.2.1 f := if_neg q
      have eB : ∀ p, pB (mFn S s.2.1 s.2.2 (s.1 + 1) p9) f p = pB s.2.1 f p := fun p => if_neg q
      have eD : ∀ p, mDep (mFn S s.2.1 s.2.2 (s.1 + 1) p9) f p = mDep s.2.1 f p := mDep_cg rfl rfl eB
      obtain ⟨b1, b2, b3, b4, b5⟩ := a5 f (by omega)
      refine ⟨by show pK (mFn S s.2.1 s.2.2 (s.1 + 1) p9) f ≤ 3; omega, by show 1 ≤ pL (mFn S s.2.1 s.2.2 (s.1 + 1) p9) f; omega, by show pL (mFn S s.2.1 s.2.2 (s.1 + 1) p9) f ≤ 24; omega, fun p hp => ?_, ?_⟩
      · have hp2 : p < pL (mFn S s.2.1 s.2.2 (s.1 + 1) p9) f := hp
        rw [eL] at hp2
        obtain ⟨c1, c2, c3⟩ := b4 p hp2
        refine ⟨?_, ?_, ?_⟩
        · show pB (mFn S s.2.1 s.2.2 (s.1 + 1) p9) f p < 14
          rw [eB]; exact c1
        · show mMay (pN s.2.1) (pA s.2.1) f (pB (mFn S s.2.1 s.2.2 (s.1 + 1) p9) f p)
          rw [eB]; exact c2
        · show 1 ≤ mDep (mFn S s.2.1 s.2.2 (s.1 + 1) p9) f p
          rw [eD]; exact c3
      · show mDep (mFn S s.2.1 s.2.2 (s.1 + 1) p9) f (pL (mFn S s.2.1 s.2.2 (s.1 + 1) p9) f) = 0
        rw [eL, eD]; exact b5
theorem RunR.rok {S : Nat → Nat} {n : Nat} : ∀ {k : Nat} {s : PS}, RunR S n k s → RunOk s
  | 0, s, h => by
    have e : s = ps0 := h
    subst e
    exact ⟨Nat.le_refl _, by decide, fun _ => rfl, fun f hf => absurd hf (Nat.not_lt_zero _), fun f hf => absurd hf (Nat.not_lt_zero _)⟩
  | k + 1, s, ⟨x, x1, x2, x3⟩ => (RunR.rok x1).step x3
theorem run_pv {S : Nat → Nat} {n : Nat} {s : PS} (h : ∃ k, RunR S n k s) (e : s.2.2 = pN s.2.1) (hp : 0 < pN s.2.1) : PV s.2.1 := by
  obtain ⟨k, hk⟩ := h
  obtain ⟨a1, a2, a3, a4, a5⟩ := hk.rok
  refine ⟨by omega, a2, fun f hf => ?_⟩
  obtain ⟨b1, b2, b3, b4, b5⟩ := a5 f (by omega)
  exact ⟨a4 f hf, b1, b2, b3, b4, b5⟩
theorem inX9_readsFunction_X9 : ∀ w ∈ wsX90, w ∈ wsX9_readsFunction := by decide +kernel
abbrev rm_X9_readsFunction : Room := { frames := 3, cells := 0, slots := 0, locals := 68 }
set_option maxHeartbeats 4000000 in
set_option maxRecDepth 100000 in
theorem c_X9_readsFunction (l : Launch) {g : GE} {h : Nat → va_E} {r : Nat} {nm kn um sv sz ra rm : Int32} {ga gk gl gB gt gn gr gp gh gv gs gx gf : Nat → Int32} (D : MdA g h r nm kn um sv sz ra rm ga gk gl gB gt gn gr gp gh gv gs gx gf) {n : Nat} {tx : Nat → Nat} (hsz : sz.toInt = (n : Int)) (hn200 : n ≤ 200) (hgx : ∀ i, i < n → (gx i).toInt = ((tx i : Nat) : Int)) (hlt : ∀ i, i < n → 32 ≤ tx i ∧ tx i ≤ 126) {M : PRG} {mb i : Nat} (R : RSp M mb nm ga gk gl gB) (hra : ra.toInt = (i : Int)) (hrm : rm.toInt = (mb : Int)) (hi : i ≤ 300) : MI l yX9_readsFunction wsX9_readsFunction rm_X9_readsFunction [.ref (g.2.2.1 r)] g h (fun r_ h2 => (∀ k, ¬ (r ≤ k ∧ k < r + 14) → h2 k = h k) ∧ ∃ (ra2 rm2 : Int32) (gk2 gl2 gB2 : Nat → Int32), MdA g h2 r nm kn um sv sz ra2 rm2 ga gk2 gl2 gB2 gt gn gr gp gh gv gs gx gf ∧ ((r_ = 1 ∧ ∃ p9, FnOk (sgn tx n) i M mb p9 ∧ ra2.toInt = ((i + 1 + 1 + p9 + 1 : Nat) : Int) ∧ rm2.toInt = ((mb + 1 : Nat) : Int) ∧ RSp (mFn (sgn tx n) M mb i p9) (mb + 1) nm ga gk2 gl2 gB2) ∨ (r_ = 0 ∧ ¬ ∃ p9, FnOk (sgn tx n) i M mb p9))) := by
  refine Met.ofW (cc := cX9_readsFunction) (maxL := 1) (ret := (some .boolean)) (by decide) rfl ?_
  intro p e s m args below meth c s₁ B hml hv
  obtain ⟨rfl, w0⟩ := hv
  have hx := B.exec
  have hb := B.bytes
  have hr := B.returns
  have hts := atoms_spec (ws := wsX9_readsFunction) B.pre
  have hown : s.vm.findClass RX9 = some m.cls := findClass_of_methodNamed B.named
  have hlocks := B.notSynchronized
  have w := w0.start
  clear w0
  have hl := lv_entry ([.ref (g.2.2.1 r)]) (n := 1) (Nat.le_of_ble_eq_true rfl)
  rw [lg_entry_eq]
  generalize (lg_sl ([.ref (g.2.2.1 r)]) ++ List.replicate (1 - (lg_sl ([.ref (g.2.2.1 r)])).length) Slot.unset).toArray = ls at hl ⊢
  have hl : lv_has ls 1 [(0, .ref (g.2.2.1 r))] := hl
  have hfr : ∀ k_, ¬ (r ≤ k_ ∧ k_ < r + 14) → h k_ = h k_ := fun _ _ => rfl
  have hR2_ := R.2.1
  have hR3_ := R.2.2.1
  refine lv_aload_n hx hb dX9_readsFunction_0 rfl (lv_at hl 0 rfl) ?_
  refine r_get (C := RX9) (T := TX9) (N := 20) (ci := 7) hx hb hts inX9_readsFunction_X9 hown w (by have := D.1; omega) D.c0 rfl 18 (by decide) (hts (Cond.fieldLink RX9 213 "EarlyValuesModel" "readMany" "I") (List.mem_of_getElem? (i := 1) (by decide +kernel))) rfl rfl dX9_readsFunction_1 ?_
  refine lv_aload_n hx hb dX9_readsFunction_4 rfl (lv_at hl 0 rfl) ?_
  refine r_get (C := RX9) (T := TX9) (N := 20) (ci := 7) hx hb hts inX9_readsFunction_X9 hown w (by have := D.1; omega) D.c0 rfl 0 (by decide) (hts (Cond.fieldLink RX9 49 "EarlyValuesModel" "many" "I") (List.mem_of_getElem? (i := 2) (by decide +kernel))) rfl rfl dX9_readsFunction_5 ?_
  refine lv_icmp_eq (tgt := 25) hx hb dX9_readsFunction_8 (by decide) (fun c1 => ?_) (fun c1 => ?_)
  · have c1 : ((mb : Nat) : Int) = (((pN M) : Nat) : Int) := (i_eq hrm R.1).mp c1
    refine lv_iconst (v := 0) hx hb dX9_readsFunction_25 (by decide) ?_
    refine r_zret (v := 0) hx hb hr rfl hlocks w dX9_readsFunction_26 ?_
    refine ⟨hfr, _, _, _, _, _, D, Or.inr ⟨rfl, ?_⟩⟩
    rintro ⟨p9, f1_, f2_, f3_, f4_, f5_, f6_⟩
    have := f2_.1; have := f2_.2; omega
  · have c1 : ¬ (((mb : Nat) : Int) = (((pN M) : Nat) : Int)) := fun q => c1 ((i_eq hrm R.1).mpr q)
    refine lv_aload_n hx hb dX9_readsFunction_11 rfl (lv_at hl 0 rfl) ?_
    refine r_callI w (va_runV (As := []) (rest := []) ⟨hx, hb, hml, hown, hts⟩ (c_X9_here l D hsz hn200 hgx hlt hra) (cwV 0 hts gX9_readsFunction_X9_here rfl rfl rfl (by decide +kernel) ⟨Nat.le_of_ble_eq_true rfl, Nat.le_of_ble_eq_true rfl⟩) (r_preV w (by have := D.1; omega) D.c0 rfl) rfl rfl hl.1 rfl (lv_room (Nat.le_of_ble_eq_true rfl)) dX9_readsFunction_12 ⟨Nat.zero_le _, Nat.zero_le _⟩) (fun r3 h2 H locs hp w => ?_)
    obtain ⟨eh_, qq4⟩ := hp
    have eh_ := eh_.symm
    subst eh_
    have b5 := sgn_le (i := i) hlt
    refine lv_bipush (v := 48) hx hb dX9_readsFunction_15 (by decide) ?_
    refine lv_bipush (v := 51) hx hb dX9_readsFunction_17 (by decide) ?_
    refine r_callI w (va_runS (As := [.int r3, .int 48, .int 51]) (rest := []) ⟨hx, hb, hml, hown, hts⟩ (c_X9_in l r3 48 51) (va_cwS 3 hts gX9_readsFunction_X9_in rfl rfl rfl (by decide +kernel) ⟨Nat.le_of_ble_eq_true rfl, Nat.le_of_ble_eq_true rfl⟩) (r_preS w) rfl rfl hl.1 rfl (lv_room (Nat.le_of_ble_eq_true rfl)) dX9_readsFunction_19 ⟨Nat.zero_le _, Nat.zero_le _⟩) (fun r7 h6 H locs hp w => ?_)
    obtain ⟨eh_, qq8⟩ := hp
    have eh_ := eh_.symm
    subst eh_
    have b9 : Bq r7 (((48 : Nat) : Int) ≤ (((sgn tx n i) : Nat) : Int) ∧ (((sgn tx n i) : Nat) : Int) ≤ ((51 : Nat) : Int)) := qq8.iff (by rw [(qq4 : (r3 : Int32).toInt = _), ((by decide : (48 : Int32).toInt = ((48 : Nat) : Int)) : (48 : Int32).toInt = _), ((by decide : (51 : Int32).toInt = ((51 : Nat) : Int)) : (51 : Int32).toInt = _)])
    refine lv_if_ne (tgt := 27) hx hb dX9_readsFunction_22 (by decide) (fun c10 => ?_) (fun c10 => ?_)
    · have c10 := b9.ne c10
      refine lv_aload_n hx hb dX9_readsFunction_27 rfl (lv_at hl 0 rfl) ?_
      refine r_get (C := RX9) (T := TX9) (N := 20) (ci := 7) hx hb hts inX9_readsFunction_X9 hown w (by have := D.1; omega) D.c0 rfl 2 (by decide) (hts (Cond.fieldLink RX9 13 "EarlyValuesModel" "kindOf" "[I") (List.mem_of_getElem? (i := 3) (by decide +kernel))) rfl rfl dX9_readsFunction_28 ?_
      refine lv_aload_n hx hb dX9_readsFunction_31 rfl (lv_at hl 0 rfl) ?_
      refine r_get (C := RX9) (T := TX9) (N := 20) (ci := 7) hx hb hts inX9_readsFunction_X9 hown w (by have := D.1; omega) D.c0 rfl 18 (by decide) (hts (Cond.fieldLink RX9 213 "EarlyValuesModel" "readMany" "I") (List.mem_of_getElem? (i := 1) (by decide +kernel))) rfl rfl dX9_readsFunction_32 ?_
      refine lv_aload_n hx hb dX9_readsFunction_35 rfl (lv_at hl 0 rfl) ?_
      refine r_callI w (va_runV (As := []) (rest := [.int rm, .ref (g.2.2.1 (r + 2))]) ⟨hx, hb, hml, hown, hts⟩ (c_X9_here l D hsz hn200 hgx hlt hra) (cwV 0 hts gX9_readsFunction_X9_here rfl rfl rfl (by decide +kernel) ⟨Nat.le_of_ble_eq_true rfl, Nat.le_of_ble_eq_true rfl⟩) (r_preV w (by have := D.1; omega) D.c0 rfl) rfl rfl hl.1 rfl (lv_room (Nat.le_of_ble_eq_true rfl)) dX9_readsFunction_36 ⟨Nat.zero_le _, Nat.zero_le _⟩) (fun r12 h11 H locs hp w => ?_)
      obtain ⟨eh_, qq13⟩ := hp
      have eh_ := eh_.symm
      subst eh_
      have b14 := sgn_le (i := i) hlt
      refine lv_bipush (v := 48) hx hb dX9_readsFunction_39 (by decide) ?_
      refine lv_isub hx hb dX9_readsFunction_41 ?_
      refine lv_topi (fun y15 ey15 => ?_)
      have ty15 : y15.toInt = ((((sgn tx n i) - 48) : Nat) : Int) := i_subN ey15 qq13 (by decide : (48 : Int32).toInt = ((48 : Nat) : Int)) (by omega)
      refine r_iast (j := mb) hx hb w (by have := D.1; omega) D.c2 hrm (by omega) dX9_readsFunction_42 (fun h16 H locs eh16 w => ?_)
      have D := D.s2 eh16
      generalize egz17 : upd gk mb y15 = gz17 at D
      have hfr : ∀ k_, ¬ (r ≤ k_ ∧ k_ < r + 14) → h16 k_ = h k_ := fun k_ hk_ => by rw [eh16, va_up_ne _ _ (by omega)]
      refine lv_aload_n hx hb dX9_readsFunction_43 rfl (lv_at hl 0 rfl) ?_
      refine lv_dup hx hb dX9_readsFunction_44 rfl ?_
      refine r_get (C := RX9) (T := TX9) (N := 20) (ci := 7) hx hb hts inX9_readsFunction_X9 hown w (by have := D.1; omega) D.c0 rfl 17 (by decide) (hts (Cond.fieldLink RX9 204 "EarlyValuesModel" "readAt" "I") (List.mem_of_getElem? (i := 4) (by decide +kernel))) rfl rfl dX9_readsFunction_45 ?_
      refine lv_iconst (v := 1) hx hb dX9_readsFunction_48 (by decide) ?_
      refine lv_iadd hx hb dX9_readsFunction_49 ?_
      refine lv_topi (fun y18 ey18 => ?_)
      have ty18 : y18.toInt = (((i + 1) : Nat) : Int) := i_addN ey18 hra (by decide : (1 : Int32).toInt = ((1 : Nat) : Int)) (by omega)
      refine r_put (ty := .int) (C := RX9) (T := TX9) (N := 20) (ci := 7) hx hb hts inX9_readsFunction_X9 tyX9 tyX9_ok nmX9 hown w (by have := D.1; omega) D.c0 rfl 17 (by decide) (hts (Cond.fieldLink RX9 204 "EarlyValuesModel" "readAt" "I") (List.mem_of_getElem? (i := 4) (by decide +kernel))) rfl rfl (by decide +kernel) rfl rfl (Nat.le_of_ble_eq_true rfl) dX9_readsFunction_50 (fun h19 H locs eh19 w => ?_)
      have D := D.s0 eh19
      have hfr : ∀ k_, ¬ (r ≤ k_ ∧ k_ < r + 14) → h19 k_ = h k_ := fun k_ hk_ => by rw [eh19, va_up_ne _ _ (by omega)]; exact hfr k_ hk_
      refine lv_aload_n hx hb dX9_readsFunction_53 rfl (lv_at hl 0 rfl) ?_
      refine lv_bipush (v := 44) hx hb dX9_readsFunction_54 (by decide) ?_
      refine r_callI w (va_runV (As := [.int 44]) (rest := []) ⟨hx, hb, hml, hown, hts⟩ (c_X9_reads l D hsz hn200 hgx hlt ty18 (by omega) 44 (by decide : (44 : Int32).toInt = ((44 : Nat) : Int))) (cwV 1 hts gX9_readsFunction_X9_reads rfl rfl rfl (by decide +kernel) ⟨Nat.le_of_ble_eq_true rfl, Nat.le_of_ble_eq_true rfl⟩) (r_preV w (by have := D.1; omega) D.c0 rfl) rfl rfl hl.1 rfl (lv_room (Nat.le_of_ble_eq_true rfl)) dX9_readsFunction_56 ⟨Nat.zero_le _, Nat.zero_le _⟩) (fun r21 h20 H locs hp w => ?_)
      obtain ⟨hfk22, rak22, D, hRk22⟩ := hp
      have hfr : ∀ k_, ¬ (r ≤ k_ ∧ k_ < r + 14) → h20 k_ = h k_ := fun k_ hk_ => (hfk22 k_ (by omega)).trans (hfr k_ hk_)
      have hbk22 : Bq r21 ((sgn tx n ((i + 1))) = 44) := hRk22.elim (fun q_ => Or.inl ⟨q_.1, q_.2.1⟩) (fun q_ => Or.inr ⟨q_.1, q_.2.1⟩)
      have hck22 : (sgn tx n ((i + 1))) = 44 → rak22.toInt = (((i + 1) + 1 : Nat) : Int) := fun z_ => hRk22.elim (fun q_ => q_.2.2) (fun q_ => absurd z_ q_.2.1)
      refine lv_if_eq (tgt := 73) hx hb dX9_readsFunction_59 (by decide) (fun c23 => ?_) (fun c23 => ?_)
      · have c23 := hbk22.eq c23
        refine lv_iconst (v := 0) hx hb dX9_readsFunction_73 (by decide) ?_
        refine r_zret (v := 0) hx hb hr rfl hlocks w dX9_readsFunction_74 ?_
        refine ⟨hfr, _, _, _, _, _, D, Or.inr ⟨rfl, ?_⟩⟩
        rintro ⟨p9, f1_, f2_, f3_, f4_, f5_, f6_⟩
        exact c23 f3_
      · have c23 := hbk22.ne c23
        refine lv_aload_n hx hb dX9_readsFunction_62 rfl (lv_at hl 0 rfl) ?_
        refine lv_aload_n hx hb dX9_readsFunction_63 rfl (lv_at hl 0 rfl) ?_
        refine r_get (C := RX9) (T := TX9) (N := 20) (ci := 7) hx hb hts inX9_readsFunction_X9 hown w (by have := D.1; omega) D.c0 rfl 18 (by decide) (hts (Cond.fieldLink RX9 213 "EarlyValuesModel" "readMany" "I") (List.mem_of_getElem? (i := 1) (by decide +kernel))) rfl rfl dX9_readsFunction_64 ?_
        refine r_callI w (va_runV (As := [.int rm]) (rest := []) ⟨hx, hb, hml, hown, hts⟩ (c_X9_readsBody l D hsz hn200 hgx hlt (pn := pN M) (pa := pA M) R.1 R.2.2.1 R.2.2.2.1 rm hrm (by omega) (hck22 c23) (by omega)) (cwV 1 hts gX9_readsFunction_X9_readsBody rfl rfl rfl (by decide +kernel) ⟨Nat.le_of_ble_eq_true rfl, Nat.le_of_ble_eq_true rfl⟩) (r_preV w (by have := D.1; omega) D.c0 rfl) rfl rfl hl.1 rfl (lv_room (Nat.le_of_ble_eq_true rfl)) dX9_readsFunction_67 ⟨Nat.zero_le _, Nat.zero_le _⟩) (fun r25 h24 H locs hp w => ?_)
        obtain ⟨hfk26, rak26, glk26, gBk26, D, hlk26, hBk26, hRk26⟩ := hp
        have hfr : ∀ k_, ¬ (r ≤ k_ ∧ k_ < r + 14) → h24 k_ = h k_ := fun k_ hk_ => (hfk26 k_ (by omega)).trans (hfr k_ hk_)
        have hbk26 : Bq r25 (∃ p9, p9 ≤ 24 ∧ BodyR (sgn tx n) (pN M) (pA M) mb ((i + 1 + 1)) p9 0 ∧ sgn tx n ((i + 1 + 1) + p9) = 59) := hRk26.elim (fun q_ => Or.inl ⟨q_.1, q_.2.elim (fun p_ z_ => ⟨p_, z_.1, z_.2.1, z_.2.2.1⟩)⟩) (fun q_ => Or.inr ⟨q_.1, q_.2⟩)
        refine lv_if_ne (tgt := 75) hx hb dX9_readsFunction_70 (by decide) (fun c27 => ?_) (fun c27 => ?_)
        · have c27 := hbk26.ne c27
          refine lv_aload_n hx hb dX9_readsFunction_75 rfl (lv_at hl 0 rfl) ?_
          refine lv_dup hx hb dX9_readsFunction_76 rfl ?_
          refine r_get (C := RX9) (T := TX9) (N := 20) (ci := 7) hx hb hts inX9_readsFunction_X9 hown w (by have := D.1; omega) D.c0 rfl 18 (by decide) (hts (Cond.fieldLink RX9 213 "EarlyValuesModel" "readMany" "I") (List.mem_of_getElem? (i := 1) (by decide +kernel))) rfl rfl dX9_readsFunction_77 ?_
          refine lv_iconst (v := 1) hx hb dX9_readsFunction_80 (by decide) ?_
          refine lv_iadd hx hb dX9_readsFunction_81 ?_
          refine lv_topi (fun y28 ey28 => ?_)
          have ty28 : y28.toInt = (((mb + 1) : Nat) : Int) := i_addN ey28 hrm (by decide : (1 : Int32).toInt = ((1 : Nat) : Int)) (by omega)
          refine r_put (ty := .int) (C := RX9) (T := TX9) (N := 20) (ci := 7) hx hb hts inX9_readsFunction_X9 tyX9 tyX9_ok nmX9 hown w (by have := D.1; omega) D.c0 rfl 18 (by decide) (hts (Cond.fieldLink RX9 213 "EarlyValuesModel" "readMany" "I") (List.mem_of_getElem? (i := 1) (by decide +kernel))) rfl rfl (by decide +kernel) rfl rfl (Nat.le_of_ble_eq_true rfl) dX9_readsFunction_82 (fun h29 H locs eh29 w => ?_)
          have D := D.s0 eh29
          have hfr : ∀ k_, ¬ (r ≤ k_ ∧ k_ < r + 14) → h29 k_ = h k_ := fun k_ hk_ => by rw [eh29, va_up_ne _ _ (by omega)]; exact hfr k_ hk_
          refine lv_iconst (v := 1) hx hb dX9_readsFunction_85 (by decide) ?_
          refine r_zret (v := 1) hx hb hr rfl hlocks w dX9_readsFunction_86 ?_
          have hRR_ := hRk26.resolve_right (fun q_ => q_.2 c27)
          obtain ⟨-, p9, b1_, b2_, b3_, b4_, b5_, b6_⟩ := hRR_
          have hF_ : FnOk (sgn tx n) i M mb p9 := ⟨by omega, ⟨by omega, by omega⟩, c23, b1_, b2_, b3_⟩
          exact ⟨hfr, _, _, _, _, _, D, Or.inl ⟨rfl, p9, hF_, b4_, ty28, R.fn hF_ egz17 ty15 hlk26 hBk26 b5_ b6_⟩⟩
        · have c27 := hbk26.eq c27
          refine lv_iconst (v := 0) hx hb dX9_readsFunction_73 (by decide) ?_
          refine r_zret (v := 0) hx hb hr rfl hlocks w dX9_readsFunction_74 ?_
          refine ⟨hfr, _, _, _, _, _, D, Or.inr ⟨rfl, ?_⟩⟩
          rintro ⟨p9, f1_, f2_, f3_, f4_, f5_, f6_⟩
          exact c27 ⟨p9, f4_, f5_, f6_⟩
    · have c10 := b9.eq c10
      refine lv_iconst (v := 0) hx hb dX9_readsFunction_25 (by decide) ?_
      refine r_zret (v := 0) hx hb hr rfl hlocks w dX9_readsFunction_26 ?_
      refine ⟨hfr, _, _, _, _, _, D, Or.inr ⟨rfl, ?_⟩⟩
      rintro ⟨p9, f1_, f2_, f3_, f4_, f5_, f6_⟩
      have := f2_.1; have := f2_.2; omega

theorem inX9_readsItem_X9 : ∀ w ∈ wsX90, w ∈ wsX9_readsItem := by decide +kernel
abbrev rm_X9_readsItem : Room := { frames := 4, cells := 0, slots := 0, locals := 88 }
set_option maxHeartbeats 4000000 in
set_option maxRecDepth 100000 in
theorem c_X9_readsItem (l : Launch) {g : GE} {h : Nat → va_E} {r : Nat} {nm kn um sv sz ra rm : Int32} {ga gk gl gB gt gn gr gp gh gv gs gx gf : Nat → Int32} (D : MdA g h r nm kn um sv sz ra rm ga gk gl gB gt gn gr gp gh gv gs gx gf) {n : Nat} {tx : Nat → Nat} (hsz : sz.toInt = (n : Int)) (hn200 : n ≤ 200) (hgx : ∀ i, i < n → (gx i).toInt = ((tx i : Nat) : Int)) (hlt : ∀ i, i < n → 32 ≤ tx i ∧ tx i ≤ 126) {M : PRG} {mb i : Nat} (R : RSp M mb nm ga gk gl gB) (hra : ra.toInt = (i : Int)) (hrm : rm.toInt = (mb : Int)) (hi : i < n) (hz0 : i = 0 → pN M = 0 ∧ mb = 0) (p0 : Int32) (hp0 : Bq p0 (i = 0)) : MI l yX9_readsItem wsX9_readsItem rm_X9_readsItem [.ref (g.2.2.1 r), .int p0] g h (fun r_ h2 => (∀ k, ¬ (r ≤ k ∧ k < r + 14) → h2 k = h k) ∧ ∃ (nm2 ra2 rm2 : Int32) (ga2 gk2 gl2 gB2 : Nat → Int32), MdA g h2 r nm2 kn um sv sz ra2 rm2 ga2 gk2 gl2 gB2 gt gn gr gp gh gv gs gx gf ∧ ((r_ = 1 ∧ ∃ s2 : PS, ItemOk (sgn tx n) (i, M, mb) s2 ∧ ra2.toInt = ((s2.1 : Nat) : Int) ∧ rm2.toInt = ((s2.2.2 : Nat) : Int) ∧ RSp s2.2.1 s2.2.2 nm2 ga2 gk2 gl2 gB2) ∨ (r_ = 0 ∧ ¬ ∃ s2, ItemOk (sgn tx n) (i, M, mb) s2))) := by
  refine Met.ofW (cc := cX9_readsItem) (maxL := 3) (ret := (some .boolean)) (by decide) rfl ?_
  intro p e s m args below meth c s₁ B hml hv
  obtain ⟨rfl, w0⟩ := hv
  have hx := B.exec
  have hb := B.bytes
  have hr := B.returns
  have hts := atoms_spec (ws := wsX9_readsItem) B.pre
  have hown : s.vm.findClass RX9 = some m.cls := findClass_of_methodNamed B.named
  have hlocks := B.notSynchronized
  have w := w0.start
  clear w0
  have hl := lv_entry ([.ref (g.2.2.1 r), .int p0]) (n := 3) (Nat.le_of_ble_eq_true rfl)
  rw [lg_entry_eq]
  generalize (lg_sl ([.ref (g.2.2.1 r), .int p0]) ++ List.replicate (3 - (lg_sl ([.ref (g.2.2.1 r), .int p0])).length) Slot.unset).toArray = ls at hl ⊢
  have hl : lv_has ls 3 [(0, .ref (g.2.2.1 r)), (1, .int p0)] := hl
  have hfr : ∀ k_, ¬ (r ≤ k_ ∧ k_ < r + 14) → h k_ = h k_ := fun _ _ => rfl
  have hR2_ := R.2.1
  have hR3_ := R.2.2.1
  refine lv_aload_n hx hb dX9_readsItem_0 rfl (lv_at hl 0 rfl) ?_
  refine r_callI w (va_runV (As := []) (rest := []) ⟨hx, hb, hml, hown, hts⟩ (c_X9_here l D hsz hn200 hgx hlt hra) (cwV 0 hts gX9_readsItem_X9_here rfl rfl rfl (by decide +kernel) ⟨Nat.le_of_ble_eq_true rfl, Nat.le_of_ble_eq_true rfl⟩) (r_preV w (by have := D.1; omega) D.c0 rfl) rfl rfl hl.1 rfl (lv_room (Nat.le_of_ble_eq_true rfl)) dX9_readsItem_1 ⟨Nat.zero_le _, Nat.zero_le _⟩) (fun r2 h1 H locs hp w => ?_)
  obtain ⟨eh_, qq3⟩ := hp
  have eh_ := eh_.symm
  subst eh_
  have b4 := sgn_le (i := i) hlt
  refine lv_istore_n (lv' := [(2, .int r2), (0, .ref (g.2.2.1 r)), (1, .int p0)]) hx hb dX9_readsItem_4 rfl hl (by decide) rfl (fun ls hl => ?_)
  refine lv_aload_n hx hb dX9_readsItem_5 rfl (lv_at hl 1 rfl) ?_
  refine lv_dup hx hb dX9_readsItem_6 rfl ?_
  refine r_get (C := RX9) (T := TX9) (N := 20) (ci := 7) hx hb hts inX9_readsItem_X9 hown w (by have := D.1; omega) D.c0 rfl 17 (by decide) (hts (Cond.fieldLink RX9 204 "EarlyValuesModel" "readAt" "I") (List.mem_of_getElem? (i := 1) (by decide +kernel))) rfl rfl dX9_readsItem_7 ?_
  refine lv_iconst (v := 1) hx hb dX9_readsItem_10 (by decide) ?_
  refine lv_iadd hx hb dX9_readsItem_11 ?_
  refine lv_topi (fun y5 ey5 => ?_)
  have ty5 : y5.toInt = (((i + 1) : Nat) : Int) := i_addN ey5 hra (by decide : (1 : Int32).toInt = ((1 : Nat) : Int)) (by omega)
  refine r_put (ty := .int) (C := RX9) (T := TX9) (N := 20) (ci := 7) hx hb hts inX9_readsItem_X9 tyX9 tyX9_ok nmX9 hown w (by have := D.1; omega) D.c0 rfl 17 (by decide) (hts (Cond.fieldLink RX9 204 "EarlyValuesModel" "readAt" "I") (List.mem_of_getElem? (i := 1) (by decide +kernel))) rfl rfl (by decide +kernel) rfl rfl (Nat.le_of_ble_eq_true rfl) dX9_readsItem_12 (fun h6 H locs eh6 w => ?_)
  have D := D.s0 eh6
  have hfr : ∀ k_, ¬ (r ≤ k_ ∧ k_ < r + 14) → h6 k_ = h k_ := fun k_ hk_ => by rw [eh6, va_up_ne _ _ (by omega)]
  refine lv_iload_n hx hb dX9_readsItem_15 rfl (lv_at hl 0 rfl) ?_
  refine lv_bipush (v := 110) hx hb dX9_readsItem_16 (by decide) ?_
  refine lv_icmp_ne (tgt := 40) hx hb dX9_readsItem_18 (by decide) (fun c7 => ?_) (fun c7 => ?_)
  · have c7 : ¬ ((((sgn tx n i) : Nat) : Int) = ((110 : Nat) : Int)) := fun q => c7 ((i_eq qq3 (by decide : (110 : Int32).toInt = ((110 : Nat) : Int))).mpr q)
    refine lv_iload_n hx hb dX9_readsItem_40 rfl (lv_at hl 0 rfl) ?_
    refine lv_bipush (v := 102) hx hb dX9_readsItem_41 (by decide) ?_
    refine lv_icmp_ne (tgt := 57) hx hb dX9_readsItem_43 (by decide) (fun c8 => ?_) (fun c8 => ?_)
    · have c8 : ¬ ((((sgn tx n i) : Nat) : Int) = ((102 : Nat) : Int)) := fun q => c8 ((i_eq qq3 (by decide : (102 : Int32).toInt = ((102 : Nat) : Int))).mpr q)
      refine lv_iconst (v := 0) hx hb dX9_readsItem_57 (by decide) ?_
      refine r_zret (v := 0) hx hb hr rfl hlocks w dX9_readsItem_58 ?_
      refine ⟨hfr, _, _, _, _, _, _, _, D, Or.inr ⟨rfl, ?_⟩⟩
      rintro ⟨s_, ⟨x1_, x2_, c_, x3_, x4_, x5_, -⟩ | ⟨x1_, p_, x2_, -⟩⟩
      · have x1b_ : sgn tx n i = 110 := x1_
        omega
      · have x1b_ : sgn tx n i = 102 := x1_
        omega
    · have c8 : (((sgn tx n i) : Nat) : Int) = ((102 : Nat) : Int) := (i_eq qq3 (by decide : (102 : Int32).toInt = ((102 : Nat) : Int))).mp c8
      refine lv_aload_n hx hb dX9_readsItem_46 rfl (lv_at hl 1 rfl) ?_
      refine r_callI w (va_runV (As := []) (rest := []) ⟨hx, hb, hml, hown, hts⟩ (c_X9_readsFunction l D hsz hn200 hgx hlt R ty5 hrm (by omega)) (cwV 0 hts gX9_readsItem_X9_readsFunction rfl rfl rfl (by decide +kernel) ⟨Nat.le_of_ble_eq_true rfl, Nat.le_of_ble_eq_true rfl⟩) (r_preV w (by have := D.1; omega) D.c0 rfl) rfl rfl hl.1 rfl (lv_room (Nat.le_of_ble_eq_true rfl)) dX9_readsItem_47 ⟨Nat.zero_le _, Nat.zero_le _⟩) (fun r10 h9 H locs hp w => ?_)
      obtain ⟨hfk11, rak11, rmk11, gkk11, glk11, gBk11, D, hRk11⟩ := hp
      have hfr : ∀ k_, ¬ (r ≤ k_ ∧ k_ < r + 14) → h9 k_ = h k_ := fun k_ hk_ => (hfk11 k_ (by omega)).trans (hfr k_ hk_)
      have hbk11 : Bq r10 (∃ p9, FnOk (sgn tx n) (i + 1) M mb p9) := hRk11.elim (fun q_ => Or.inl ⟨q_.1, q_.2.elim (fun p_ z_ => ⟨p_, z_.1⟩)⟩) (fun q_ => Or.inr ⟨q_.1, q_.2⟩)
      refine lv_if_eq (tgt := 57) hx hb dX9_readsItem_50 (by decide) (fun c12 => ?_) (fun c12 => ?_)
      · have c12 := hbk11.eq c12
        refine lv_iconst (v := 0) hx hb dX9_readsItem_57 (by decide) ?_
        refine r_zret (v := 0) hx hb hr rfl hlocks w dX9_readsItem_58 ?_
        refine ⟨hfr, _, _, _, _, _, _, _, D, Or.inr ⟨rfl, ?_⟩⟩
        rintro ⟨s_, ⟨x1_, x2_, c_, x3_, x4_, x5_, -⟩ | ⟨x1_, p_, x2_, -⟩⟩
        · have x1b_ : sgn tx n i = 110 := x1_
          omega
        · exact c12 ⟨p_, x2_⟩
      · have c12 := hbk11.ne c12
        refine lv_iconst (v := 1) hx hb dX9_readsItem_53 (by decide) ?_
        refine lv_goto (tgt := 58) hx hb dX9_readsItem_54 (by decide) ?_
        refine r_zret (v := 1) hx hb hr rfl hlocks w dX9_readsItem_58 ?_
        obtain ⟨-, p9, w1_, w2_, w3_, w4_⟩ := hRk11.resolve_right (fun q_ => q_.2 c12)
        exact ⟨hfr, _, _, _, _, _, _, _, D, Or.inl ⟨rfl, _, Or.inr ⟨by show sgn tx n i = 102; omega, p9, w1_, rfl⟩, w2_, w3_, w4_⟩⟩
  · have c7 : (((sgn tx n i) : Nat) : Int) = ((110 : Nat) : Int) := (i_eq qq3 (by decide : (110 : Int32).toInt = ((110 : Nat) : Int))).mp c7
    refine lv_iload_n hx hb dX9_readsItem_21 rfl (lv_at hl 2 rfl) ?_
    refine lv_if_eq (tgt := 36) hx hb dX9_readsItem_22 (by decide) (fun c13 => ?_) (fun c13 => ?_)
    · have c13 := hp0.eq c13
      refine lv_iconst (v := 0) hx hb dX9_readsItem_36 (by decide) ?_
      refine lv_goto (tgt := 58) hx hb dX9_readsItem_37 (by decide) ?_
      refine r_zret (v := 0) hx hb hr rfl hlocks w dX9_readsItem_58 ?_
      refine ⟨hfr, _, _, _, _, _, _, _, D, Or.inr ⟨rfl, ?_⟩⟩
      rintro ⟨s_, ⟨x1_, x2_, c_, x3_, x4_, x5_, -⟩ | ⟨x1_, p_, x2_, -⟩⟩
      · exact c13 x2_
      · have x1b_ : sgn tx n i = 102 := x1_
        omega
    · have c13 := hp0.ne c13
      refine lv_aload_n hx hb dX9_readsItem_25 rfl (lv_at hl 1 rfl) ?_
      refine r_callI w (va_runV (As := []) (rest := []) ⟨hx, hb, hml, hown, hts⟩ (c_X9_readsNumbers l D hsz hn200 hgx hlt (R.1.trans (by rw [(hz0 c13).1])) ty5 (by omega)) (cwV 0 hts gX9_readsItem_X9_readsNumbers rfl rfl rfl (by decide +kernel) ⟨Nat.le_of_ble_eq_true rfl, Nat.le_of_ble_eq_true rfl⟩) (r_preV w (by have := D.1; omega) D.c0 rfl) rfl rfl hl.1 rfl (lv_room (Nat.le_of_ble_eq_true rfl)) dX9_readsItem_26 ⟨Nat.zero_le _, Nat.zero_le _⟩) (fun r15 h14 H locs hp w => ?_)
      obtain ⟨hfk16, nmk16, rak16, gak16, cwk16, D, hEk16, hmk16, hgk16, hRk16⟩ := hp
      have hfr : ∀ k_, ¬ (r ≤ k_ ∧ k_ < r + 14) → h14 k_ = h k_ := fun k_ hk_ => (hfk16 k_ (by omega)).trans (hfr k_ hk_)
      have hbk16 : Bq r15 (0 < cwk16 ∧ sgn tx n ((i + 1) + cwk16) = 59) := hRk16.elim (fun q_ => Or.inl ⟨q_.1, q_.2.1, q_.2.2.1⟩) (fun q_ => Or.inr ⟨q_.1, q_.2⟩)
      refine lv_if_eq (tgt := 36) hx hb dX9_readsItem_29 (by decide) (fun c17 => ?_) (fun c17 => ?_)
      · have c17 := hbk16.eq c17
        refine lv_iconst (v := 0) hx hb dX9_readsItem_36 (by decide) ?_
        refine lv_goto (tgt := 58) hx hb dX9_readsItem_37 (by decide) ?_
        refine r_zret (v := 0) hx hb hr rfl hlocks w dX9_readsItem_58 ?_
        refine ⟨hfr, _, _, _, _, _, _, _, D, Or.inr ⟨rfl, ?_⟩⟩
        rintro ⟨s_, ⟨x1_, x2_, c_, x3_, x4_, x5_, -⟩ | ⟨x1_, p_, x2_, -⟩⟩
        · have e_ := hEk16.inj x3_
          rw [← e_] at x4_ x5_
          exact c17 ⟨x4_, x5_⟩
        · have x1b_ : sgn tx n i = 102 := x1_
          omega
      · have c17 := hbk16.ne c17
        refine lv_iconst (v := 1) hx hb dX9_readsItem_32 (by decide) ?_
        refine lv_goto (tgt := 58) hx hb dX9_readsItem_33 (by decide) ?_
        refine r_zret (v := 1) hx hb hr rfl hlocks w dX9_readsItem_58 ?_
        obtain ⟨-, w1_, w2_, w3_⟩ := hRk16.resolve_right (fun q_ => q_.2 c17)
        have hz_ := hz0 c13
        refine ⟨hfr, _, _, _, _, _, _, _, D, Or.inl ⟨rfl, _, Or.inl ⟨by show sgn tx n i = 110; omega, c13, cwk16, hEk16, w1_, w2_, rfl⟩, w3_, hrm, ?_⟩⟩
        refine ⟨hmk16, by show mb ≤ _; omega, hEk16.1, fun j_ hj_ => ⟨hgk16 j_ hj_, ?_⟩, fun j_ hj_ => (by have hj2_ : j_ < mb := hj_; omega), fun j_ hj_ => (by have hj2_ : j_ < mb := hj_; omega), fun j_ hj_ => (by have hj2_ : j_ < mb := hj_; omega)⟩
        have hd_ := hEk16.2.1 j_ hj_
        unfold dgt at hd_
        show sgn tx n (i + 1 + j_) - 48 ≤ 3
        omega

theorem inX9_readsAll_X9 : ∀ w ∈ wsX90, w ∈ wsX9_readsAll := by decide +kernel
abbrev rm_X9_readsAll : Room := { frames := 5, cells := 0, slots := 0, locals := 110 }
set_option maxHeartbeats 4000000 in
set_option maxRecDepth 100000 in
theorem c_X9_readsAll (l : Launch) {g : GE} {h : Nat → va_E} {r : Nat} {nm kn um sv sz ra rm : Int32} {ga gk gl gB gt gn gr gp gh gv gs gx gf : Nat → Int32} (D : MdA g h r nm kn um sv sz ra rm ga gk gl gB gt gn gr gp gh gv gs gx gf) {n : Nat} {tx : Nat → Nat} (hsz : sz.toInt = (n : Int)) (hn200 : n ≤ 200) (hgx : ∀ i, i < n → (gx i).toInt = ((tx i : Nat) : Int)) (hlt : ∀ i, i < n → 32 ≤ tx i ∧ tx i ≤ 126) : MI l yX9_readsAll wsX9_readsAll rm_X9_readsAll [.ref (g.2.2.1 r)] g h (fun r_ h2 => (∀ k, ¬ (r ≤ k ∧ k < r + 14) → h2 k = h k) ∧ ∃ (nm2 ra2 rm2 : Int32) (ga2 gk2 gl2 gB2 : Nat → Int32) (t : PS), MdA g h2 r nm2 kn um sv sz ra2 rm2 ga2 gk2 gl2 gB2 gt gn gr gp gh gv gs gx gf ∧ RunE (sgn tx n) n t ∧ ((n ≤ t.1 ∧ r_.toInt = -4 ∧ rm2.toInt = ((t.2.2 : Nat) : Int) ∧ RSp t.2.1 t.2.2 nm2 ga2 gk2 gl2 gB2) ∨ (t.1 < n ∧ r_.toInt = ((t.1 : Nat) : Int)))) := by
  refine Met.ofW (cc := cX9_readsAll) (maxL := 2) (ret := (some .int)) (by decide) rfl ?_
  intro p e s m args below meth c s₁ B hml hv
  obtain ⟨rfl, w0⟩ := hv
  have hx := B.exec
  have hb := B.bytes
  have hr := B.returns
  have hts := atoms_spec (ws := wsX9_readsAll) B.pre
  have hown : s.vm.findClass RX9 = some m.cls := findClass_of_methodNamed B.named
  have hlocks := B.notSynchronized
  have w := w0.start
  clear w0
  have hl := lv_entry ([.ref (g.2.2.1 r)]) (n := 2) (Nat.le_of_ble_eq_true rfl)
  rw [lg_entry_eq]
  generalize (lg_sl ([.ref (g.2.2.1 r)]) ++ List.replicate (2 - (lg_sl ([.ref (g.2.2.1 r)])).length) Slot.unset).toArray = ls at hl ⊢
  have hl : lv_has ls 2 [(0, .ref (g.2.2.1 r))] := hl
  have cuts : ∀ N : Nat, (∀ (kk : Nat) (i1 : Nat) (M1 : PRG) (mb1 : Nat) (nm1 : Int32) (ra1 : Int32) (rm1 : Int32) (ga1 : Nat → Int32) (gk1 : Nat → Int32) (gl1 : Nat → Int32) (gB1 : Nat → Int32) (hc : Nat → va_E) (H : Heap) (locs : List Loc) (ls : Array Slot), WD g (inW g) s hc H locs → lv_has ls 2 [(0, .ref (g.2.2.1 r))] → (RunR (sgn tx n) n kk (i1, M1, mb1)) → (i1 ≤ n) → (i1 = 0 → pN M1 = 0 ∧ mb1 = 0) → (ra1.toInt = ((i1 : Nat) : Int)) → (rm1.toInt = ((mb1 : Nat) : Int)) → (RSp M1 mb1 nm1 ga1 gk1 gl1 gB1) → (MdA g hc r nm1 kn um sv sz ra1 rm1 ga1 gk1 gl1 gB1 gt gn gr gp gh gv gs gx gf) → (∀ k, ¬ (r ≤ k ∧ k < r + 14) → hc k = h k) → 210 - i1 < N → W p l e (headSpec wsX9_readsAll rm_X9_readsAll).room s m ([.ref (g.2.2.1 r)] : List Value).toArray below meth c H locs 0 0 (MQ below (va_Qi (fun r_ h2 => (∀ k, ¬ (r ≤ k ∧ k < r + 14) → h2 k = h k) ∧ ∃ (nm2 ra2 rm2 : Int32) (ga2 gk2 gl2 gB2 : Nat → Int32) (t : PS), MdA g h2 r nm2 kn um sv sz ra2 rm2 ga2 gk2 gl2 gB2 gt gn gr gp gh gv gs gx gf ∧ RunE (sgn tx n) n t ∧ ((n ≤ t.1 ∧ r_.toInt = -4 ∧ rm2.toInt = ((t.2.2 : Nat) : Int) ∧ RSp t.2.1 t.2.2 nm2 ga2 gk2 gl2 gB2) ∨ (t.1 < n ∧ r_.toInt = ((t.1 : Nat) : Int)))) (Wd g) (inW g)) ([.ref (g.2.2.1 r)] : List Value).toArray s 0 0 (inW g)) (F0 m 15 ls [])) := by
    intro N
    induction N with
    | zero => exact by intros; omega
    | succ N ih =>
      have ih15 := ih
      · intro kk i1 M1 mb1 nm1 ra1 rm1 ga1 gk1 gl1 gB1 hc H locs ls w hl hrun hin hz1 hra1 hrm1 R1 D hfr hN_
        refine lv_aload_n hx hb dX9_readsAll_15 rfl (lv_at hl 0 rfl) ?_
        refine r_get (C := RX9) (T := TX9) (N := 20) (ci := 7) hx hb hts inX9_readsAll_X9 hown w (by have := D.1; omega) D.c0 rfl 17 (by decide) (hts (Cond.fieldLink RX9 204 "EarlyValuesModel" "readAt" "I") (List.mem_of_getElem? (i := 1) (by decide +kernel))) rfl rfl dX9_readsAll_16 ?_
        refine lv_aload_n hx hb dX9_readsAll_19 rfl (lv_at hl 0 rfl) ?_
        refine r_get (C := RX9) (T := TX9) (N := 20) (ci := 7) hx hb hts inX9_readsAll_X9 hown w (by have := D.1; omega) D.c0 rfl 16 (by decide) (hts (Cond.fieldLink RX9 201 "EarlyValuesModel" "size" "I") (List.mem_of_getElem? (i := 4) (by decide +kernel))) rfl rfl dX9_readsAll_20 ?_
        refine lv_icmp_ge (tgt := 52) hx hb dX9_readsAll_23 (by decide) (fun c1 => ?_) (fun c1 => ?_)
        · have c1 : ((n : Nat) : Int) ≤ ((i1 : Nat) : Int) := (i_le hsz hra1).mp c1
          refine lv_bipush (v := (-4)) hx hb dX9_readsAll_52 (by decide) ?_
          refine r_iret (v := (-4)) hx hb hr hlocks w dX9_readsAll_54 ?_
          exact ⟨hfr, _, _, _, _, _, _, _, (i1, M1, mb1), D, ⟨⟨kk, hrun⟩, Or.inl (by show n ≤ i1; omega)⟩, Or.inl ⟨by show n ≤ i1; omega, rfl, hrm1, R1⟩⟩
        · have c1 : ¬ (((n : Nat) : Int) ≤ ((i1 : Nat) : Int)) := fun q => c1 ((i_le hsz hra1).mpr q)
          refine lv_aload_n hx hb dX9_readsAll_26 rfl (lv_at hl 0 rfl) ?_
          refine r_get (C := RX9) (T := TX9) (N := 20) (ci := 7) hx hb hts inX9_readsAll_X9 hown w (by have := D.1; omega) D.c0 rfl 17 (by decide) (hts (Cond.fieldLink RX9 204 "EarlyValuesModel" "readAt" "I") (List.mem_of_getElem? (i := 1) (by decide +kernel))) rfl rfl dX9_readsAll_27 ?_
          refine lv_istore_n (lv' := [(1, .int ra1), (0, .ref (g.2.2.1 r))]) hx hb dX9_readsAll_30 rfl hl (by decide) rfl (fun ls hl => ?_)
          refine lv_aload_n hx hb dX9_readsAll_31 rfl (lv_at hl 1 rfl) ?_
          refine lv_iload_n hx hb dX9_readsAll_32 rfl (lv_at hl 0 rfl) ?_
          refine lv_if_ne (tgt := 40) hx hb dX9_readsAll_33 (by decide) (fun c2 => ?_) (fun c2 => ?_)
          · have c2 : ¬ (((i1 : Nat) : Int) = (0 : Int)) := fun q => c2 ((i_eq hra1 (rfl : (0 : Int32).toInt = 0)).mpr q)
            refine lv_iconst (v := 0) hx hb dX9_readsAll_40 (by decide) ?_
            refine r_callI w (va_runV (As := [.int 0]) (rest := []) ⟨hx, hb, hml, hown, hts⟩ (c_X9_readsItem l D hsz hn200 hgx hlt (M := M1) (mb := mb1) (i := i1) R1 hra1 hrm1 (by omega) hz1 0 (by first | exact Bq.t (by omega) | exact Bq.f (by omega))) (cwV 1 hts gX9_readsAll_X9_readsItem rfl rfl rfl (by decide +kernel) ⟨Nat.le_of_ble_eq_true rfl, Nat.le_of_ble_eq_true rfl⟩) (r_preV w (by have := D.1; omega) D.c0 rfl) rfl rfl hl.1 rfl (lv_room (Nat.le_of_ble_eq_true rfl)) dX9_readsAll_41 ⟨Nat.zero_le _, Nat.zero_le _⟩) (fun r4 h3 H locs hp w => ?_)
            obtain ⟨hfk5, nmk5, rak5, rmk5, gak5, gkk5, glk5, gBk5, D, hRk5⟩ := hp
            have hfr : ∀ k_, ¬ (r ≤ k_ ∧ k_ < r + 14) → h3 k_ = h k_ := fun k_ hk_ => (hfk5 k_ (by omega)).trans (hfr k_ hk_)
            have hbk5 : Bq r4 (∃ s2, ItemOk (sgn tx n) (i1, M1, mb1) s2) := hRk5.elim (fun q_ => Or.inl ⟨q_.1, q_.2.elim (fun s_ z_ => ⟨s_, z_.1⟩)⟩) (fun q_ => Or.inr ⟨q_.1, q_.2⟩)
            refine lv_if_ne (tgt := 49) hx hb dX9_readsAll_44 (by decide) (fun c6 => ?_) (fun c6 => ?_)
            · have c6 := hbk5.ne c6
              obtain ⟨-, s2_, w1_, w2_, w3_, w4_⟩ := hRk5.resolve_right (fun q_ => q_.2 c6)
              obtain ⟨i2_, M2_, m2_⟩ := s2_
              have hat_ := w1_.at
              have ht1_ : i1 < i2_ := hat_.1
              have ht2_ : i2_ ≤ n := hat_.2.1
              have ht3_ : 0 < i2_ := hat_.2.2.1
              refine lv_goto (tgt := 15) hx hb dX9_readsAll_49 (by decide) ?_
              exact ih15 (kk + 1) i2_ M2_ m2_ nmk5 rak5 rmk5 gak5 gkk5 glk5 gBk5 h3 _ _ _ w (lv_sub hl [1] rfl) (⟨_, hrun, by show i1 < n; omega, w1_⟩) (by omega) (fun q_ => by omega) w2_ w3_ w4_ D hfr (by omega)
            · have c6 := hbk5.eq c6
              refine lv_iload_n hx hb dX9_readsAll_47 rfl (lv_at hl 0 rfl) ?_
              refine r_iret (v := ra1) hx hb hr hlocks w dX9_readsAll_48 ?_
              exact ⟨hfr, _, _, _, _, _, _, _, (i1, M1, mb1), D, ⟨⟨kk, hrun⟩, Or.inr c6⟩, Or.inr ⟨by show i1 < n; omega, hra1⟩⟩
          · have c2 : ((i1 : Nat) : Int) = (0 : Int) := (i_eq hra1 (rfl : (0 : Int32).toInt = 0)).mp c2
            refine lv_iconst (v := 1) hx hb dX9_readsAll_36 (by decide) ?_
            refine lv_goto (tgt := 41) hx hb dX9_readsAll_37 (by decide) ?_
            refine r_callI w (va_runV (As := [.int 1]) (rest := []) ⟨hx, hb, hml, hown, hts⟩ (c_X9_readsItem l D hsz hn200 hgx hlt (M := M1) (mb := mb1) (i := i1) R1 hra1 hrm1 (by omega) hz1 1 (by first | exact Bq.t (by omega) | exact Bq.f (by omega))) (cwV 1 hts gX9_readsAll_X9_readsItem rfl rfl rfl (by decide +kernel) ⟨Nat.le_of_ble_eq_true rfl, Nat.le_of_ble_eq_true rfl⟩) (r_preV w (by have := D.1; omega) D.c0 rfl) rfl rfl hl.1 rfl (lv_room (Nat.le_of_ble_eq_true rfl)) dX9_readsAll_41 ⟨Nat.zero_le _, Nat.zero_le _⟩) (fun r8 h7 H locs hp w => ?_)
            obtain ⟨hfk9, nmk9, rak9, rmk9, gak9, gkk9, glk9, gBk9, D, hRk9⟩ := hp
            have hfr : ∀ k_, ¬ (r ≤ k_ ∧ k_ < r + 14) → h7 k_ = h k_ := fun k_ hk_ => (hfk9 k_ (by omega)).trans (hfr k_ hk_)
            have hbk9 : Bq r8 (∃ s2, ItemOk (sgn tx n) (i1, M1, mb1) s2) := hRk9.elim (fun q_ => Or.inl ⟨q_.1, q_.2.elim (fun s_ z_ => ⟨s_, z_.1⟩)⟩) (fun q_ => Or.inr ⟨q_.1, q_.2⟩)
            refine lv_if_ne (tgt := 49) hx hb dX9_readsAll_44 (by decide) (fun c10 => ?_) (fun c10 => ?_)
            · have c10 := hbk9.ne c10
              obtain ⟨-, s2_, w1_, w2_, w3_, w4_⟩ := hRk9.resolve_right (fun q_ => q_.2 c10)
              obtain ⟨i2_, M2_, m2_⟩ := s2_
              have hat_ := w1_.at
              have ht1_ : i1 < i2_ := hat_.1
              have ht2_ : i2_ ≤ n := hat_.2.1
              have ht3_ : 0 < i2_ := hat_.2.2.1
              refine lv_goto (tgt := 15) hx hb dX9_readsAll_49 (by decide) ?_
              exact ih15 (kk + 1) i2_ M2_ m2_ nmk9 rak9 rmk9 gak9 gkk9 glk9 gBk9 h7 _ _ _ w (lv_sub hl [1] rfl) (⟨_, hrun, by show i1 < n; omega, w1_⟩) (by omega) (fun q_ => by omega) w2_ w3_ w4_ D hfr (by omega)
            · have c10 := hbk9.eq c10
              refine lv_iload_n hx hb dX9_readsAll_47 rfl (lv_at hl 0 rfl) ?_
              refine r_iret (v := ra1) hx hb hr hlocks w dX9_readsAll_48 ?_
              exact ⟨hfr, _, _, _, _, _, _, _, (i1, M1, mb1), D, ⟨⟨kk, hrun⟩, Or.inr c10⟩, Or.inr ⟨by show i1 < n; omega, hra1⟩⟩
  have ih15 := cuts (300)
  refine lv_aload_n hx hb dX9_readsAll_0 rfl (lv_at hl 0 rfl) ?_
  refine lv_iconst (v := 0) hx hb dX9_readsAll_1 (by decide) ?_
  refine r_put (ty := .int) (C := RX9) (T := TX9) (N := 20) (ci := 7) hx hb hts inX9_readsAll_X9 tyX9 tyX9_ok nmX9 hown w (by have := D.1; omega) D.c0 rfl 17 (by decide) (hts (Cond.fieldLink RX9 204 "EarlyValuesModel" "readAt" "I") (List.mem_of_getElem? (i := 1) (by decide +kernel))) rfl rfl (by decide +kernel) rfl rfl (Nat.le_of_ble_eq_true rfl) dX9_readsAll_2 (fun h11 H locs eh11 w => ?_)
  have D := D.s0 eh11
  have hfr : ∀ k_, ¬ (r ≤ k_ ∧ k_ < r + 14) → h11 k_ = h k_ := fun k_ hk_ => by rw [eh11, va_up_ne _ _ (by omega)]
  refine lv_aload_n hx hb dX9_readsAll_5 rfl (lv_at hl 0 rfl) ?_
  refine lv_iconst (v := 0) hx hb dX9_readsAll_6 (by decide) ?_
  refine r_put (ty := .int) (C := RX9) (T := TX9) (N := 20) (ci := 7) hx hb hts inX9_readsAll_X9 tyX9 tyX9_ok nmX9 hown w (by have := D.1; omega) D.c0 rfl 18 (by decide) (hts (Cond.fieldLink RX9 213 "EarlyValuesModel" "readMany" "I") (List.mem_of_getElem? (i := 2) (by decide +kernel))) rfl rfl (by decide +kernel) rfl rfl (Nat.le_of_ble_eq_true rfl) dX9_readsAll_7 (fun h12 H locs eh12 w => ?_)
  have D := D.s0 eh12
  have hfr : ∀ k_, ¬ (r ≤ k_ ∧ k_ < r + 14) → h12 k_ = h k_ := fun k_ hk_ => by rw [eh12, va_up_ne _ _ (by omega)]; exact hfr k_ hk_
  refine lv_aload_n hx hb dX9_readsAll_10 rfl (lv_at hl 0 rfl) ?_
  refine lv_iconst (v := 0) hx hb dX9_readsAll_11 (by decide) ?_
  refine r_put (ty := .int) (C := RX9) (T := TX9) (N := 20) (ci := 7) hx hb hts inX9_readsAll_X9 tyX9 tyX9_ok nmX9 hown w (by have := D.1; omega) D.c0 rfl 0 (by decide) (hts (Cond.fieldLink RX9 49 "EarlyValuesModel" "many" "I") (List.mem_of_getElem? (i := 3) (by decide +kernel))) rfl rfl (by decide +kernel) rfl rfl (Nat.le_of_ble_eq_true rfl) dX9_readsAll_12 (fun h13 H locs eh13 w => ?_)
  have D := D.s0 eh13
  have hfr : ∀ k_, ¬ (r ≤ k_ ∧ k_ < r + 14) → h13 k_ = h k_ := fun k_ hk_ => by rw [eh13, va_up_ne _ _ (by omega)]; exact hfr k_ hk_
  exact ih15 0 0 ps0.2.1 0 0 0 0 ga gk gl gB h13 _ _ _ w (lv_sub hl [0] rfl) rfl (Nat.zero_le _) (fun _ => ⟨rfl, rfl⟩) (by decide) (by decide) (rsp0 (by decide)) D hfr (by omega)

theorem inX9_fault_X9 : ∀ w ∈ wsX90, w ∈ wsX9_fault := by decide +kernel
abbrev rm_X9_fault : Room := { frames := 6, cells := 0, slots := 0, locals := 131 }
set_option maxHeartbeats 4000000 in
set_option maxRecDepth 100000 in
theorem c_X9_fault (l : Launch) {g : GE} {h : Nat → va_E} {r : Nat} {st0 : ST} (R : RefA g h r st0) : MI l yX9_fault wsX9_fault rm_X9_fault [.ref (g.2.2.1 r)] g h (fun r_ h2 => (∀ k, ¬ (r ≤ k ∧ k < r + 14) → h2 k = h k) ∧ RefA g h2 r st0 ∧ AnFault st0 r_) := by
  refine Met.ofW (cc := cX9_fault) (maxL := 3) (ret := (some .int)) (by decide) rfl ?_
  intro p e s m args below meth c s₁ B hml hv
  obtain ⟨rfl, w0⟩ := hv
  have hx := B.exec
  have hb := B.bytes
  have hr := B.returns
  have hts := atoms_spec (ws := wsX9_fault) B.pre
  have hown : s.vm.findClass RX9 = some m.cls := findClass_of_methodNamed B.named
  have hlocks := B.notSynchronized
  have w := w0.start
  clear w0
  have hl := lv_entry ([.ref (g.2.2.1 r)]) (n := 3) (Nat.le_of_ble_eq_true rfl)
  rw [lg_entry_eq]
  generalize (lg_sl ([.ref (g.2.2.1 r)]) ++ List.replicate (3 - (lg_sl ([.ref (g.2.2.1 r)])).length) Slot.unset).toArray = ls at hl ⊢
  have hl : lv_has ls 3 [(0, .ref (g.2.2.1 r))] := hl
  obtain ⟨nm, kn, um, sv, sz, ra, rm, ga, gk, gl, gB, gt, gn, gr, gp, gh, gv, gs, gx, gf, D, hRS⟩ := R
  obtain ⟨hSV, S, hkn, hum, hUs, hsv, hVs, hsz, hgx⟩ := hRS
  have hSV0 := hSV
  obtain ⟨hP, hu8, hUP, hv2, hVP, hl200, hlt⟩ := hSV
  have hn4 := hP.2.1
  have hfr : ∀ k_, ¬ (r ≤ k_ ∧ k_ < r + 14) → h k_ = h k_ := fun _ _ => rfl
  refine lv_aload_n hx hb dX9_fault_0 rfl (lv_at hl 0 rfl) ?_
  refine lv_aload_n hx hb dX9_fault_1 rfl (lv_at hl 0 rfl) ?_
  refine r_get (C := RX9) (T := TX9) (N := 20) (ci := 7) hx hb hts inX9_fault_X9 hown w (by have := D.1; omega) D.c0 rfl 19 (by decide) (hts (Cond.fieldLink RX9 46 "EarlyValuesModel" "before" "[I") (List.mem_of_getElem? (i := 1) (by decide +kernel))) rfl rfl dX9_fault_2 ?_
  refine lv_iconst (v := 0) hx hb dX9_fault_5 (by decide) ?_
  refine r_callV w (va_runV (As := [.ref (g.2.2.1 (r + 13)), .int 0]) (rest := []) ⟨hx, hb, hml, hown, hts⟩ (c_X9_lays_gf l D 0 (by decide : (0 : Int32).toInt = ((0 : Nat) : Int)) (by omega)) (cwV 2 hts gX9_fault_X9_lays rfl rfl rfl (by decide +kernel) ⟨Nat.le_of_ble_eq_true rfl, Nat.le_of_ble_eq_true rfl⟩) (r_preV w (by have := D.1; omega) D.c0 rfl) rfl rfl hl.1 rfl (lv_room (Nat.le_of_ble_eq_true rfl)) dX9_fault_6 ⟨Nat.zero_le _, Nat.zero_le _⟩) (fun h1 H locs hp w => ?_)
  obtain ⟨hfk2, gzk2, D, snk2, sok2⟩ := hp
  have hfr : ∀ k_, ¬ (r ≤ k_ ∧ k_ < r + 14) → h1 k_ = h k_ := fun k_ hk_ => (hfk2 k_ (by omega))
  refine lv_aload_n hx hb dX9_fault_9 rfl (lv_at hl 0 rfl) ?_
  refine r_get (C := RX9) (T := TX9) (N := 20) (ci := 7) hx hb hts inX9_fault_X9 hown w (by have := D.1; omega) D.c0 rfl 8 (by decide) (hts (Cond.fieldLink RX9 121 "EarlyValuesModel" "isKnown" "Z") (List.mem_of_getElem? (i := 2) (by decide +kernel))) rfl rfl dX9_fault_10 ?_
  have hsn0_ := snk2
  have hknb_ : Bq kn (kn = 1) := by rcases hkn with q_ | q_; exact Or.inr ⟨q_, by rw [q_]; decide⟩; exact Or.inl ⟨q_.1, q_.1⟩
  refine lv_istore_n (lv' := [(1, .int kn), (0, .ref (g.2.2.1 r))]) hx hb dX9_fault_13 rfl hl (by decide) rfl (fun ls hl => ?_)
  refine lv_aload_n hx hb dX9_fault_14 rfl (lv_at hl 1 rfl) ?_
  refine r_callI w (va_runV (As := []) (rest := []) ⟨hx, hb, hml, hown, hts⟩ (c_X9_readsAll l D hsz hl200 hgx hlt) (cwV 0 hts gX9_fault_X9_readsAll rfl rfl rfl (by decide +kernel) ⟨Nat.le_of_ble_eq_true rfl, Nat.le_of_ble_eq_true rfl⟩) (r_preV w (by have := D.1; omega) D.c0 rfl) rfl rfl hl.1 rfl (lv_room (Nat.le_of_ble_eq_true rfl)) dX9_fault_15 ⟨Nat.zero_le _, Nat.zero_le _⟩) (fun r4 h3 H locs hp w => ?_)
  obtain ⟨hfk5, nmk5, rak5, rmk5, gak5, gkk5, glk5, gBk5, tt, D, hE, hO⟩ := hp
  have hfr : ∀ k_, ¬ (r ≤ k_ ∧ k_ < r + 14) → h3 k_ = h k_ := fun k_ hk_ => (hfk5 k_ (by omega)).trans (hfr k_ hk_)
  refine lv_istore_n (lv' := [(2, .int r4), (1, .int kn), (0, .ref (g.2.2.1 r))]) hx hb dX9_fault_18 rfl hl (by decide) rfl (fun ls hl => ?_)
  refine lv_aload_n hx hb dX9_fault_19 rfl (lv_at hl 2 rfl) ?_
  refine lv_aload_n hx hb dX9_fault_20 rfl (lv_at hl 2 rfl) ?_
  refine r_get (C := RX9) (T := TX9) (N := 20) (ci := 7) hx hb hts inX9_fault_X9 hown w (by have := D.1; omega) D.c0 rfl 19 (by decide) (hts (Cond.fieldLink RX9 46 "EarlyValuesModel" "before" "[I") (List.mem_of_getElem? (i := 1) (by decide +kernel))) rfl rfl dX9_fault_21 ?_
  refine lv_iconst (v := 0) hx hb dX9_fault_24 (by decide) ?_
  refine r_callV w (va_runV (As := [.ref (g.2.2.1 (r + 13)), .int 0]) (rest := []) ⟨hx, hb, hml, hown, hts⟩ (c_X9_takes_gf l D 0 (by decide : (0 : Int32).toInt = ((0 : Nat) : Int)) (by omega)) (cwV 2 hts gX9_fault_X9_takes rfl rfl rfl (by decide +kernel) ⟨Nat.le_of_ble_eq_true rfl, Nat.le_of_ble_eq_true rfl⟩) (r_preV w (by have := D.1; omega) D.c0 rfl) rfl rfl hl.1 rfl (lv_room (Nat.le_of_ble_eq_true rfl)) dX9_fault_25 ⟨Nat.zero_le _, Nat.zero_le _⟩) (fun h6 H locs hp w => ?_)
  obtain ⟨hfk7, nmk7, gak7, gkk7, glk7, gBk7, D, snk7⟩ := hp
  have hfr : ∀ k_, ¬ (r ≤ k_ ∧ k_ < r + 14) → h6 k_ = h k_ := fun k_ hk_ => (hfk7 k_ (by omega)).trans (hfr k_ hk_)
  refine lv_aload_n hx hb dX9_fault_28 rfl (lv_at hl 2 rfl) ?_
  refine lv_iload_n hx hb dX9_fault_29 rfl (lv_at hl 1 rfl) ?_
  refine r_put (ty := .boolean) (C := RX9) (T := TX9) (N := 20) (ci := 7) hx hb hts inX9_fault_X9 tyX9 tyX9_ok nmX9 hown w (by have := D.1; omega) D.c0 rfl 8 (by decide) (hts (Cond.fieldLink RX9 121 "EarlyValuesModel" "isKnown" "Z") (List.mem_of_getElem? (i := 2) (by decide +kernel))) rfl rfl (by decide +kernel) (by first | rfl | exact hknb_.nar) (by first | rfl | exact Bq.fit hknb_) (Nat.le_of_ble_eq_true rfl) dX9_fault_30 (fun h8 H locs eh8 w => ?_)
  have D := D.s0 eh8
  have hfr : ∀ k_, ¬ (r ≤ k_ ∧ k_ < r + 14) → h8 k_ = h k_ := fun k_ hk_ => by rw [eh8, va_up_ne _ _ (by omega)]; exact hfr k_ hk_
  refine lv_iload_n hx hb dX9_fault_33 rfl (lv_at hl 0 rfl) ?_
  refine r_iret (v := r4) hx hb hr hlocks w dX9_fault_34 ?_
  exact ⟨hfr, ⟨_, _, _, _, _, _, _, _, _, _, _, _, _, _, _, _, _, _, _, _, D, hSV0, (SnapE.rs hsn0_ snk7 hP S), hkn, hum, hUs, hsv, hVs, hsz, hgx⟩, tt, hE, hO.elim (fun q_ => Or.inl ⟨q_.1, q_.2.1⟩) (fun q_ => Or.inr q_)⟩

theorem inX9_lay_X9 : ∀ w ∈ wsX90, w ∈ wsX9_lay := by decide +kernel
abbrev rm_X9_lay : Room := { frames := 6, cells := 0, slots := 0, locals := 131 }
set_option maxHeartbeats 4000000 in
set_option maxRecDepth 100000 in
theorem c_X9_lay (l : Launch) {g : GE} {h : Nat → va_E} {r : Nat} {st0 : ST} (R : RefA g h r st0) : MI l yX9_lay wsX9_lay rm_X9_lay [.ref (g.2.2.1 r)] g h (fun r_ h2 => (∀ k, ¬ (r ≤ k ∧ k < r + 14) → h2 k = h k) ∧ ∃ s2 : ST, RefA g h2 r s2 ∧ AnLay st0 r_ s2) := by
  refine Met.ofW (cc := cX9_lay) (maxL := 2) (ret := (some .int)) (by decide) rfl ?_
  intro p e s m args below meth c s₁ B hml hv
  obtain ⟨rfl, w0⟩ := hv
  have hx := B.exec
  have hb := B.bytes
  have hr := B.returns
  have hts := atoms_spec (ws := wsX9_lay) B.pre
  have hown : s.vm.findClass RX9 = some m.cls := findClass_of_methodNamed B.named
  have hlocks := B.notSynchronized
  have w := w0.start
  clear w0
  have hl := lv_entry ([.ref (g.2.2.1 r)]) (n := 2) (Nat.le_of_ble_eq_true rfl)
  rw [lg_entry_eq]
  generalize (lg_sl ([.ref (g.2.2.1 r)]) ++ List.replicate (2 - (lg_sl ([.ref (g.2.2.1 r)])).length) Slot.unset).toArray = ls at hl ⊢
  have hl : lv_has ls 2 [(0, .ref (g.2.2.1 r))] := hl
  obtain ⟨nm, kn, um, sv, sz, ra, rm, ga, gk, gl, gB, gt, gn, gr, gp, gh, gv, gs, gx, gf, D, hRS⟩ := R
  obtain ⟨hSV, S, hkn, hum, hUs, hsv, hVs, hsz, hgx⟩ := hRS
  have hSV0 := hSV
  obtain ⟨hP, hu8, hUP, hv2, hVP, hl200, hlt⟩ := hSV
  have hn4 := hP.2.1
  have hfr : ∀ k_, ¬ (r ≤ k_ ∧ k_ < r + 14) → h k_ = h k_ := fun _ _ => rfl
  refine lv_aload_n hx hb dX9_lay_0 rfl (lv_at hl 0 rfl) ?_
  refine lv_aload_n hx hb dX9_lay_1 rfl (lv_at hl 0 rfl) ?_
  refine r_get (C := RX9) (T := TX9) (N := 20) (ci := 7) hx hb hts inX9_lay_X9 hown w (by have := D.1; omega) D.c0 rfl 19 (by decide) (hts (Cond.fieldLink RX9 46 "EarlyValuesModel" "before" "[I") (List.mem_of_getElem? (i := 1) (by decide +kernel))) rfl rfl dX9_lay_2 ?_
  refine lv_iconst (v := 0) hx hb dX9_lay_5 (by decide) ?_
  refine r_callV w (va_runV (As := [.ref (g.2.2.1 (r + 13)), .int 0]) (rest := []) ⟨hx, hb, hml, hown, hts⟩ (c_X9_lays_gf l D 0 (by decide : (0 : Int32).toInt = ((0 : Nat) : Int)) (by omega)) (cwV 2 hts gX9_lay_X9_lays rfl rfl rfl (by decide +kernel) ⟨Nat.le_of_ble_eq_true rfl, Nat.le_of_ble_eq_true rfl⟩) (r_preV w (by have := D.1; omega) D.c0 rfl) rfl rfl hl.1 rfl (lv_room (Nat.le_of_ble_eq_true rfl)) dX9_lay_6 ⟨Nat.zero_le _, Nat.zero_le _⟩) (fun h1 H locs hp w => ?_)
  obtain ⟨hfk2, gzk2, D, snk2, sok2⟩ := hp
  have hfr : ∀ k_, ¬ (r ≤ k_ ∧ k_ < r + 14) → h1 k_ = h k_ := fun k_ hk_ => (hfk2 k_ (by omega))
  refine lv_aload_n hx hb dX9_lay_9 rfl (lv_at hl 0 rfl) ?_
  refine r_get (C := RX9) (T := TX9) (N := 20) (ci := 7) hx hb hts inX9_lay_X9 hown w (by have := D.1; omega) D.c0 rfl 8 (by decide) (hts (Cond.fieldLink RX9 121 "EarlyValuesModel" "isKnown" "Z") (List.mem_of_getElem? (i := 2) (by decide +kernel))) rfl rfl dX9_lay_10 ?_
  have hsn0_ := snk2
  have hknb_ : Bq kn (kn = 1) := by rcases hkn with q_ | q_; exact Or.inr ⟨q_, by rw [q_]; decide⟩; exact Or.inl ⟨q_.1, q_.1⟩
  refine lv_istore_n (lv' := [(1, .int kn), (0, .ref (g.2.2.1 r))]) hx hb dX9_lay_13 rfl hl (by decide) rfl (fun ls hl => ?_)
  refine lv_aload_n hx hb dX9_lay_14 rfl (lv_at hl 1 rfl) ?_
  refine r_callI w (va_runV (As := []) (rest := []) ⟨hx, hb, hml, hown, hts⟩ (c_X9_readsAll l D hsz hl200 hgx hlt) (cwV 0 hts gX9_lay_X9_readsAll rfl rfl rfl (by decide +kernel) ⟨Nat.le_of_ble_eq_true rfl, Nat.le_of_ble_eq_true rfl⟩) (r_preV w (by have := D.1; omega) D.c0 rfl) rfl rfl hl.1 rfl (lv_room (Nat.le_of_ble_eq_true rfl)) dX9_lay_15 ⟨Nat.zero_le _, Nat.zero_le _⟩) (fun r4 h3 H locs hp w => ?_)
  obtain ⟨hfk5, nmk5, rak5, rmk5, gak5, gkk5, glk5, gBk5, tt, D, hE, hO⟩ := hp
  have hfr : ∀ k_, ¬ (r ≤ k_ ∧ k_ < r + 14) → h3 k_ = h k_ := fun k_ hk_ => (hfk5 k_ (by omega)).trans (hfr k_ hk_)
  refine lv_bipush (v := (-4)) hx hb dX9_lay_18 (by decide) ?_
  refine lv_icmp_ne (tgt := 41) hx hb dX9_lay_20 (by decide) (fun c6 => ?_) (fun c6 => ?_)
  · have c6 : ¬ (r4.toInt = (-4 : Int)) := fun q => c6 ((i_eq (rfl : r4.toInt = r4.toInt) (by decide : (-4 : Int32).toInt = (-4 : Int))).mpr q)
    refine lv_aload_n hx hb dX9_lay_41 rfl (lv_at hl 1 rfl) ?_
    refine lv_aload_n hx hb dX9_lay_42 rfl (lv_at hl 1 rfl) ?_
    refine r_get (C := RX9) (T := TX9) (N := 20) (ci := 7) hx hb hts inX9_lay_X9 hown w (by have := D.1; omega) D.c0 rfl 19 (by decide) (hts (Cond.fieldLink RX9 46 "EarlyValuesModel" "before" "[I") (List.mem_of_getElem? (i := 1) (by decide +kernel))) rfl rfl dX9_lay_43 ?_
    refine lv_iconst (v := 0) hx hb dX9_lay_46 (by decide) ?_
    refine r_callV w (va_runV (As := [.ref (g.2.2.1 (r + 13)), .int 0]) (rest := []) ⟨hx, hb, hml, hown, hts⟩ (c_X9_takes_gf l D 0 (by decide : (0 : Int32).toInt = ((0 : Nat) : Int)) (by omega)) (cwV 2 hts gX9_lay_X9_takes rfl rfl rfl (by decide +kernel) ⟨Nat.le_of_ble_eq_true rfl, Nat.le_of_ble_eq_true rfl⟩) (r_preV w (by have := D.1; omega) D.c0 rfl) rfl rfl hl.1 rfl (lv_room (Nat.le_of_ble_eq_true rfl)) dX9_lay_47 ⟨Nat.zero_le _, Nat.zero_le _⟩) (fun h7 H locs hp w => ?_)
    obtain ⟨hfk8, nmk8, gak8, gkk8, glk8, gBk8, D, snk8⟩ := hp
    have hfr : ∀ k_, ¬ (r ≤ k_ ∧ k_ < r + 14) → h7 k_ = h k_ := fun k_ hk_ => (hfk8 k_ (by omega)).trans (hfr k_ hk_)
    refine lv_aload_n hx hb dX9_lay_50 rfl (lv_at hl 1 rfl) ?_
    refine lv_iload_n hx hb dX9_lay_51 rfl (lv_at hl 0 rfl) ?_
    refine r_put (ty := .boolean) (C := RX9) (T := TX9) (N := 20) (ci := 7) hx hb hts inX9_lay_X9 tyX9 tyX9_ok nmX9 hown w (by have := D.1; omega) D.c0 rfl 8 (by decide) (hts (Cond.fieldLink RX9 121 "EarlyValuesModel" "isKnown" "Z") (List.mem_of_getElem? (i := 2) (by decide +kernel))) rfl rfl (by decide +kernel) (by first | rfl | exact hknb_.nar) (by first | rfl | exact Bq.fit hknb_) (Nat.le_of_ble_eq_true rfl) dX9_lay_52 (fun h9 H locs eh9 w => ?_)
    have D := D.s0 eh9
    have hfr : ∀ k_, ¬ (r ≤ k_ ∧ k_ < r + 14) → h9 k_ = h k_ := fun k_ hk_ => by rw [eh9, va_up_ne _ _ (by omega)]; exact hfr k_ hk_
    refine lv_bipush (v := (-2)) hx hb dX9_lay_55 (by decide) ?_
    refine r_iret (v := (-2)) hx hb hr hlocks w dX9_lay_57 ?_
    exact ⟨hfr, st0, ⟨_, _, _, _, _, _, _, _, _, _, _, _, _, _, _, _, _, _, _, _, D, hSV0, (SnapE.rs hsn0_ snk8 hP S), hkn, hum, hUs, hsv, hVs, hsz, hgx⟩, tt, hE, Or.inr ⟨by rintro ⟨z1_, z2_, z3_⟩; rcases hO with q_ | q_; omega; omega, rfl, rfl⟩⟩
  · have c6 : r4.toInt = (-4 : Int) := (i_eq (rfl : r4.toInt = r4.toInt) (by decide : (-4 : Int32).toInt = (-4 : Int))).mp c6
    refine lv_aload_n hx hb dX9_lay_23 rfl (lv_at hl 1 rfl) ?_
    refine r_get (C := RX9) (T := TX9) (N := 20) (ci := 7) hx hb hts inX9_lay_X9 hown w (by have := D.1; omega) D.c0 rfl 0 (by decide) (hts (Cond.fieldLink RX9 49 "EarlyValuesModel" "many" "I") (List.mem_of_getElem? (i := 3) (by decide +kernel))) rfl rfl dX9_lay_24 ?_
    refine lv_if_eq (tgt := 41) hx hb dX9_lay_27 (by decide) (fun c10 => ?_) (fun c10 => ?_)
    · have c10 : nmk5.toInt = (0 : Int) := (i_eq (rfl : nmk5.toInt = nmk5.toInt) (rfl : (0 : Int32).toInt = 0)).mp c10
      refine lv_aload_n hx hb dX9_lay_41 rfl (lv_at hl 1 rfl) ?_
      refine lv_aload_n hx hb dX9_lay_42 rfl (lv_at hl 1 rfl) ?_
      refine r_get (C := RX9) (T := TX9) (N := 20) (ci := 7) hx hb hts inX9_lay_X9 hown w (by have := D.1; omega) D.c0 rfl 19 (by decide) (hts (Cond.fieldLink RX9 46 "EarlyValuesModel" "before" "[I") (List.mem_of_getElem? (i := 1) (by decide +kernel))) rfl rfl dX9_lay_43 ?_
      refine lv_iconst (v := 0) hx hb dX9_lay_46 (by decide) ?_
      refine r_callV w (va_runV (As := [.ref (g.2.2.1 (r + 13)), .int 0]) (rest := []) ⟨hx, hb, hml, hown, hts⟩ (c_X9_takes_gf l D 0 (by decide : (0 : Int32).toInt = ((0 : Nat) : Int)) (by omega)) (cwV 2 hts gX9_lay_X9_takes rfl rfl rfl (by decide +kernel) ⟨Nat.le_of_ble_eq_true rfl, Nat.le_of_ble_eq_true rfl⟩) (r_preV w (by have := D.1; omega) D.c0 rfl) rfl rfl hl.1 rfl (lv_room (Nat.le_of_ble_eq_true rfl)) dX9_lay_47 ⟨Nat.zero_le _, Nat.zero_le _⟩) (fun h11 H locs hp w => ?_)
      obtain ⟨hfk12, nmk12, gak12, gkk12, glk12, gBk12, D, snk12⟩ := hp
      have hfr : ∀ k_, ¬ (r ≤ k_ ∧ k_ < r + 14) → h11 k_ = h k_ := fun k_ hk_ => (hfk12 k_ (by omega)).trans (hfr k_ hk_)
      refine lv_aload_n hx hb dX9_lay_50 rfl (lv_at hl 1 rfl) ?_
      refine lv_iload_n hx hb dX9_lay_51 rfl (lv_at hl 0 rfl) ?_
      refine r_put (ty := .boolean) (C := RX9) (T := TX9) (N := 20) (ci := 7) hx hb hts inX9_lay_X9 tyX9 tyX9_ok nmX9 hown w (by have := D.1; omega) D.c0 rfl 8 (by decide) (hts (Cond.fieldLink RX9 121 "EarlyValuesModel" "isKnown" "Z") (List.mem_of_getElem? (i := 2) (by decide +kernel))) rfl rfl (by decide +kernel) (by first | rfl | exact hknb_.nar) (by first | rfl | exact Bq.fit hknb_) (Nat.le_of_ble_eq_true rfl) dX9_lay_52 (fun h13 H locs eh13 w => ?_)
      have D := D.s0 eh13
      have hfr : ∀ k_, ¬ (r ≤ k_ ∧ k_ < r + 14) → h13 k_ = h k_ := fun k_ hk_ => by rw [eh13, va_up_ne _ _ (by omega)]; exact hfr k_ hk_
      refine lv_bipush (v := (-2)) hx hb dX9_lay_55 (by decide) ?_
      refine r_iret (v := (-2)) hx hb hr hlocks w dX9_lay_57 ?_
      exact ⟨hfr, st0, ⟨_, _, _, _, _, _, _, _, _, _, _, _, _, _, _, _, _, _, _, _, D, hSV0, (SnapE.rs hsn0_ snk12 hP S), hkn, hum, hUs, hsv, hVs, hsz, hgx⟩, tt, hE, Or.inr ⟨by rintro ⟨z1_, z2_, z3_⟩; rcases hO with ⟨q1_, q2_, q3_, q4_⟩ | q_; have q5_ := q4_.1; omega; omega, rfl, rfl⟩⟩
    · have c10 : ¬ (nmk5.toInt = (0 : Int)) := fun q => c10 ((i_eq (rfl : nmk5.toInt = nmk5.toInt) (rfl : (0 : Int32).toInt = 0)).mpr q)
      refine lv_aload_n hx hb dX9_lay_30 rfl (lv_at hl 1 rfl) ?_
      refine r_get (C := RX9) (T := TX9) (N := 20) (ci := 7) hx hb hts inX9_lay_X9 hown w (by have := D.1; omega) D.c0 rfl 18 (by decide) (hts (Cond.fieldLink RX9 213 "EarlyValuesModel" "readMany" "I") (List.mem_of_getElem? (i := 4) (by decide +kernel))) rfl rfl dX9_lay_31 ?_
      refine lv_aload_n hx hb dX9_lay_34 rfl (lv_at hl 1 rfl) ?_
      refine r_get (C := RX9) (T := TX9) (N := 20) (ci := 7) hx hb hts inX9_lay_X9 hown w (by have := D.1; omega) D.c0 rfl 0 (by decide) (hts (Cond.fieldLink RX9 49 "EarlyValuesModel" "many" "I") (List.mem_of_getElem? (i := 3) (by decide +kernel))) rfl rfl dX9_lay_35 ?_
      refine lv_icmp_ge (tgt := 58) hx hb dX9_lay_38 (by decide) (fun c14 => ?_) (fun c14 => ?_)
      · have c14 : nmk5.toInt ≤ rmk5.toInt := (i_le (rfl : nmk5.toInt = nmk5.toInt) (rfl : rmk5.toInt = rmk5.toInt)).mp c14
        refine lv_aload_n hx hb dX9_lay_58 rfl (lv_at hl 1 rfl) ?_
        refine lv_iconst (v := 0) hx hb dX9_lay_59 (by decide) ?_
        refine r_put (ty := .boolean) (C := RX9) (T := TX9) (N := 20) (ci := 7) hx hb hts inX9_lay_X9 tyX9 tyX9_ok nmX9 hown w (by have := D.1; omega) D.c0 rfl 8 (by decide) (hts (Cond.fieldLink RX9 121 "EarlyValuesModel" "isKnown" "Z") (List.mem_of_getElem? (i := 2) (by decide +kernel))) rfl rfl (by decide +kernel) (by first | rfl | exact rfl) (by first | rfl | exact Bq.fit rfl) (Nat.le_of_ble_eq_true rfl) dX9_lay_60 (fun h15 H locs eh15 w => ?_)
        have D := D.s0 eh15
        have hfr : ∀ k_, ¬ (r ≤ k_ ∧ k_ < r + 14) → h15 k_ = h k_ := fun k_ hk_ => by rw [eh15, va_up_ne _ _ (by omega)]; exact hfr k_ hk_
        refine lv_aload_n hx hb dX9_lay_63 rfl (lv_at hl 1 rfl) ?_
        refine lv_iconst (v := 0) hx hb dX9_lay_64 (by decide) ?_
        refine r_put (ty := .int) (C := RX9) (T := TX9) (N := 20) (ci := 7) hx hb hts inX9_lay_X9 tyX9 tyX9_ok nmX9 hown w (by have := D.1; omega) D.c0 rfl 11 (by decide) (hts (Cond.fieldLink RX9 132 "EarlyValuesModel" "undoMany" "I") (List.mem_of_getElem? (i := 5) (by decide +kernel))) rfl rfl (by decide +kernel) rfl rfl (Nat.le_of_ble_eq_true rfl) dX9_lay_65 (fun h16 H locs eh16 w => ?_)
        have D := D.s0 eh16
        have hfr : ∀ k_, ¬ (r ≤ k_ ∧ k_ < r + 14) → h16 k_ = h k_ := fun k_ hk_ => by rw [eh16, va_up_ne _ _ (by omega)]; exact hfr k_ hk_
        refine lv_aload_n hx hb dX9_lay_68 rfl (lv_at hl 1 rfl) ?_
        refine lv_iconst (v := 0) hx hb dX9_lay_69 (by decide) ?_
        refine r_put (ty := .int) (C := RX9) (T := TX9) (N := 20) (ci := 7) hx hb hts inX9_lay_X9 tyX9 tyX9_ok nmX9 hown w (by have := D.1; omega) D.c0 rfl 13 (by decide) (hts (Cond.fieldLink RX9 148 "EarlyValuesModel" "savedMany" "I") (List.mem_of_getElem? (i := 6) (by decide +kernel))) rfl rfl (by decide +kernel) rfl rfl (Nat.le_of_ble_eq_true rfl) dX9_lay_70 (fun h17 H locs eh17 w => ?_)
        have D := D.s0 eh17
        have hfr : ∀ k_, ¬ (r ≤ k_ ∧ k_ < r + 14) → h17 k_ = h k_ := fun k_ hk_ => by rw [eh17, va_up_ne _ _ (by omega)]; exact hfr k_ hk_
        refine lv_aload_n hx hb dX9_lay_73 rfl (lv_at hl 1 rfl) ?_
        refine r_get (C := RX9) (T := TX9) (N := 20) (ci := 7) hx hb hts inX9_lay_X9 hown w (by have := D.1; omega) D.c0 rfl 0 (by decide) (hts (Cond.fieldLink RX9 49 "EarlyValuesModel" "many" "I") (List.mem_of_getElem? (i := 3) (by decide +kernel))) rfl rfl dX9_lay_74 ?_
        refine r_iret (v := nmk5) hx hb hr hlocks w dX9_lay_77 ?_
        obtain ⟨q1_, q2_, q3_, q4_⟩ := hO.resolve_right (fun q_ => by omega)
        have q5_ := q4_.1
        have q6_ := q4_.2.1
        have hmb_ : tt.2.2 = pN tt.2.1 := by omega
        have hpv_ := run_pv hE.1 hmb_ (by omega)
        rw [hmb_] at q4_
        exact ⟨hfr, (tt.2.1, (0, sUs st0), (0, sVs st0), st0.2.2.2), ⟨_, _, _, _, _, _, _, _, _, _, _, _, _, _, _, _, _, _, _, _, D, ⟨hpv_, by show 0 ≤ 8; omega, fun i_ hi_ => absurd hi_ (Nat.not_lt_zero _), by show 0 ≤ 2; omega, fun i_ hi_ => absurd hi_ (Nat.not_lt_zero _), hl200, hlt⟩, (rsp_rs q4_), (Or.inl rfl), rfl, (fun i_ hi_ => absurd hi_ (Nat.not_lt_zero _)), rfl, (fun i_ hi_ => absurd hi_ (Nat.not_lt_zero _)), hsz, hgx⟩, tt, hE, Or.inl ⟨q1_, by omega, hmb_, q5_, rfl⟩⟩
      · have c14 : ¬ (nmk5.toInt ≤ rmk5.toInt) := fun q => c14 ((i_le (rfl : nmk5.toInt = nmk5.toInt) (rfl : rmk5.toInt = rmk5.toInt)).mpr q)
        refine lv_aload_n hx hb dX9_lay_41 rfl (lv_at hl 1 rfl) ?_
        refine lv_aload_n hx hb dX9_lay_42 rfl (lv_at hl 1 rfl) ?_
        refine r_get (C := RX9) (T := TX9) (N := 20) (ci := 7) hx hb hts inX9_lay_X9 hown w (by have := D.1; omega) D.c0 rfl 19 (by decide) (hts (Cond.fieldLink RX9 46 "EarlyValuesModel" "before" "[I") (List.mem_of_getElem? (i := 1) (by decide +kernel))) rfl rfl dX9_lay_43 ?_
        refine lv_iconst (v := 0) hx hb dX9_lay_46 (by decide) ?_
        refine r_callV w (va_runV (As := [.ref (g.2.2.1 (r + 13)), .int 0]) (rest := []) ⟨hx, hb, hml, hown, hts⟩ (c_X9_takes_gf l D 0 (by decide : (0 : Int32).toInt = ((0 : Nat) : Int)) (by omega)) (cwV 2 hts gX9_lay_X9_takes rfl rfl rfl (by decide +kernel) ⟨Nat.le_of_ble_eq_true rfl, Nat.le_of_ble_eq_true rfl⟩) (r_preV w (by have := D.1; omega) D.c0 rfl) rfl rfl hl.1 rfl (lv_room (Nat.le_of_ble_eq_true rfl)) dX9_lay_47 ⟨Nat.zero_le _, Nat.zero_le _⟩) (fun h18 H locs hp w => ?_)
        obtain ⟨hfk19, nmk19, gak19, gkk19, glk19, gBk19, D, snk19⟩ := hp
        have hfr : ∀ k_, ¬ (r ≤ k_ ∧ k_ < r + 14) → h18 k_ = h k_ := fun k_ hk_ => (hfk19 k_ (by omega)).trans (hfr k_ hk_)
        refine lv_aload_n hx hb dX9_lay_50 rfl (lv_at hl 1 rfl) ?_
        refine lv_iload_n hx hb dX9_lay_51 rfl (lv_at hl 0 rfl) ?_
        refine r_put (ty := .boolean) (C := RX9) (T := TX9) (N := 20) (ci := 7) hx hb hts inX9_lay_X9 tyX9 tyX9_ok nmX9 hown w (by have := D.1; omega) D.c0 rfl 8 (by decide) (hts (Cond.fieldLink RX9 121 "EarlyValuesModel" "isKnown" "Z") (List.mem_of_getElem? (i := 2) (by decide +kernel))) rfl rfl (by decide +kernel) (by first | rfl | exact hknb_.nar) (by first | rfl | exact Bq.fit hknb_) (Nat.le_of_ble_eq_true rfl) dX9_lay_52 (fun h20 H locs eh20 w => ?_)
        have D := D.s0 eh20
        have hfr : ∀ k_, ¬ (r ≤ k_ ∧ k_ < r + 14) → h20 k_ = h k_ := fun k_ hk_ => by rw [eh20, va_up_ne _ _ (by omega)]; exact hfr k_ hk_
        refine lv_bipush (v := (-2)) hx hb dX9_lay_55 (by decide) ?_
        refine r_iret (v := (-2)) hx hb hr hlocks w dX9_lay_57 ?_
        exact ⟨hfr, st0, ⟨_, _, _, _, _, _, _, _, _, _, _, _, _, _, _, _, _, _, _, _, D, hSV0, (SnapE.rs hsn0_ snk19 hP S), hkn, hum, hUs, hsv, hVs, hsz, hgx⟩, tt, hE, Or.inr ⟨by rintro ⟨z1_, z2_, z3_⟩; rcases hO with ⟨q1_, q2_, q3_, q4_⟩ | q_; have q5_ := q4_.1; omega; omega, rfl, rfl⟩⟩

