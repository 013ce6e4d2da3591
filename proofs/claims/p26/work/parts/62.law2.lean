section LXT
variable {g g' : GE} {h h' : Nat → va_E}
theorem kpF.ext {x : Nat} (e : Ext g g') (hx : x + 143 ≤ g.2.2.2) : kpF g' x = kpF g x := by
  funext i
  unfold kpF
  by_cases hi : i < 2
  · rw [if_pos hi, if_pos hi, e.at (by omega)]
  · rw [if_neg hi, if_neg hi]
theorem EvA.ext {x : Nat} {kn : Int32} (E : EvA g h x kn) (e : Ext g g') (hf : ∀ k, x ≤ k → k < x + 143 → h' k = h k) : EvA g' h' x kn := by
  obtain ⟨a0, a1, a2⟩ := E
  have := e.2.2.1
  refine ⟨by omega, ?_, ?_⟩
  · rw [hf _ (by omega) (by omega), a1, e.at (k := x + 1) (by omega), e.at (k := x + 12) (by omega), e.at (k := x + 21) (by omega), e.at (k := x + 30) (by omega), e.at (k := x + 49) (by omega), e.at (k := x + 53) (by omega), e.at (k := x + 71) (by omega), e.at (k := x + 89) (by omega), e.at (k := x + 107) (by omega), e.at (k := x + 125) (by omega)]
  · rw [hf _ (by omega) (by omega), a2, kpF.ext e a0, e.2.1]
theorem PrE.ext {o : Nat} {M : PRG} (P : PrE g h o M) (e : Ext g g') (hf : ∀ k, o ≤ k → k < o + 9 → h' k = h k) : PrE g' h' o M := by
  obtain ⟨n, ga, gk, gl, gb, P, S⟩ := P
  exact ⟨n, ga, gk, gl, gb, P.ext e hf, S⟩
theorem TxE.ext {t n : Nat} {tx : Nat → Nat} (T : TxE g h t n tx) (e : Ext g g') (hf : ∀ k, t ≤ k → k < t + 11 → h' k = h k) : TxE g' h' t n tx := by
  obtain ⟨ln, a, bd, gs, T, z⟩ := T
  exact ⟨ln, a, bd, gs, T.ext e (fun k p q _ => hf k p q), z⟩
theorem VwX.ext {v u : Nat} (V : VwX g h v u) (e : Ext g g') (hf : ∀ k, v ≤ k → k < v + 18 → h' k = h k) : VwX g' h' v u := by
  obtain ⟨kk, kc, tk, fz, dp, gp, gg, gs, gd, gt, gc, V⟩ := V
  exact ⟨kk, kc, tk, fz, dp, gp, gg, gs, gd, gt, gc, V.ext e hf⟩
theorem VwE.ext {v u : Nat} {M : PRG} (V : VwE g h v u M) (e : Ext g g') (hf : ∀ k, v ≤ k → k < v + 18 → h' k = h k) : VwE g' h' v u M := by
  obtain ⟨kk, kc, tk, fz, dp, gp, gg, gs, gd, gt, gc, V, z⟩ := V
  exact ⟨kk, kc, tk, fz, dp, gp, gg, gs, gd, gt, gc, V.ext e hf, z⟩
theorem HiE.ext {t : Nat} {s : ST} (V : HiE g h t s) (e : Ext g g') (hf : ∀ k, t ≤ k → k < t + 4 → h' k = h k) : HiE g' h' t s := by
  obtain ⟨c, gf, gp, gq, V, z⟩ := V
  exact ⟨c, gf, gp, gq, V.ext e hf, z⟩
theorem ClsA.ext {x : Nat} {s : ST} (C : ClsA g h x s) (e : Ext g g') (hf : ∀ k, x ≤ k → k < x + 143 → h' k = h k) : ClsA g' h' x s := by
  obtain ⟨a0, ⟨kn, a1, a2⟩, a3, a4, a5, a6, a7, a8, a9, b0, b1, b2, b3, b4⟩ := C
  have h2 : 2 ≥ sV s := a0.2.2.2.1
  exact ⟨a0, ⟨kn, a1.ext e hf, a2⟩, a3.ext e (fun k _ _ => hf k (by omega) (by omega)), a4.ext e (fun k _ _ => hf k (by omega) (by omega)), a5.ext e (fun k _ _ => hf k (by omega) (by omega)), a6.ext e (fun k _ _ => hf k (by omega) (by omega)),
    fun i hi => (a7 i hi).ext e (fun k _ _ => hf k (by omega) (by omega)), fun i hi => (a8 i hi).ext e (fun k _ _ => hf k (by omega) (by omega)), a9.ext e (fun k _ _ => hf k (by omega) (by omega)), b0.ext e (fun k _ _ => hf k (by omega) (by omega)), b1.ext e (fun k _ _ => hf k (by omega) (by omega)), b2.ext e (fun k _ _ => hf k (by omega) (by omega)), b3.ext e (fun k _ _ => hf k (by omega) (by omega)), b4.ext e (fun k _ _ => hf k (by omega) (by omega))⟩
theorem ClsA.ob {x : Nat} {s : ST} (C : ClsA g h x s) : ∃ fs, h x = .inr (6, fs) := by
  obtain ⟨-, ⟨kn, a1, -⟩, -⟩ := C
  exact ⟨_, a1.2.1⟩
theorem ClsA.hN {x : Nat} {s : ST} (C : ClsA g h x s) : x + 143 ≤ g.2.2.2 := by
  obtain ⟨-, ⟨kn, a1, -⟩, -⟩ := C
  exact a1.1
end LXT
-- ===== THE LAW'S ARRAYS TELL OF FUNCTIONS =====
def AlD (M : PRG) (gd : Nat → Int32) : Prop := (gd 12).toInt = ((pN M : Nat) : Int) ∧ ∀ f, f < pN M → (gd f).toInt = ((pA M f : Nat) : Int) ∧ (gd (4 + f)).toInt = ((pK M f : Nat) : Int) ∧ (gd (8 + f)).toInt = ((pL M f : Nat) : Int) ∧ pL M f ≤ 14
def AlB (M : PRG) (gb : Nat → Int32) : Prop := ∀ f j, f < pN M → j < pL M f → (gb (16 * f + j)).toInt = ((mCode (pB M f j) : Nat) : Int)
theorem AlD.pa {M : PRG} {gd : Nat → Int32} (D : AlD M gd) (hP : PV M) : ∀ i, i < pN M → (gd i).toInt = (pA M i : Int) ∧ pA M i ≤ 3 := fun i hi => ⟨(D.2 i hi).1, (hP.2.2 i hi).1⟩
-- what calls answer, by cases
theorem AnCount.c0 {s : ST} {p r : Int32} (A : AnCount s p r) (h : p.toInt = 0) : r.toInt = ((pN (sM s) : Nat) : Int) := by
  rcases A with ⟨a, b⟩ | ⟨a, b⟩ | ⟨a, b⟩ | ⟨a, b⟩ | ⟨a, b⟩ | ⟨a, b⟩ | ⟨a, b⟩ <;> omega
theorem AnCount.c1 {s : ST} {p r : Int32} (A : AnCount s p r) (h : p.toInt = 1) : r.toInt = ((sm (pL (sM s)) (pN (sM s)) : Nat) : Int) := by
  rcases A with ⟨a, b⟩ | ⟨a, b⟩ | ⟨a, b⟩ | ⟨a, b⟩ | ⟨a, b⟩ | ⟨a, b⟩ | ⟨a, b⟩ <;> omega
theorem AnCount.c2 {s : ST} {p r : Int32} (A : AnCount s p r) (h : p.toInt = 2) : r.toInt = ((sm (pA (sM s)) (pN (sM s)) : Nat) : Int) := by
  rcases A with ⟨a, b⟩ | ⟨a, b⟩ | ⟨a, b⟩ | ⟨a, b⟩ | ⟨a, b⟩ | ⟨a, b⟩ | ⟨a, b⟩ <;> omega
theorem AnCount.c3 {s : ST} {p r : Int32} (A : AnCount s p r) (h : p.toInt = 3) : r.toInt = ((sU s : Nat) : Int) := by
  rcases A with ⟨a, b⟩ | ⟨a, b⟩ | ⟨a, b⟩ | ⟨a, b⟩ | ⟨a, b⟩ | ⟨a, b⟩ | ⟨a, b⟩ <;> omega
theorem AnFunction.no {s : ST} {p q r : Int32} (A : AnFunction s p q r) (h : ((pN (sM s) : Nat) : Int) ≤ p.toInt) : r.toInt = -1 := by
  rcases A with ⟨f, a, b, c⟩ | ⟨a, b⟩
  · omega
  · exact b
theorem AnFunction.at {s : ST} {p q r : Int32} {f : Nat} (A : AnFunction s p q r) (hp : p.toInt = ((f : Nat) : Int)) (hf : f < pN (sM s)) : (q.toInt = 0 → r.toInt = ((pK (sM s) f : Nat) : Int)) ∧ (q.toInt = 1 → r.toInt = ((pA (sM s) f : Nat) : Int)) ∧ (q.toInt = 2 → r.toInt = ((pL (sM s) f : Nat) : Int)) := by
  rcases A with ⟨f', a, b, c⟩ | ⟨a, b⟩
  · obtain rfl : f' = f := by omega
    refine ⟨fun e => ?_, fun e => ?_, fun e => ?_⟩ <;> rcases c with ⟨c1, c2⟩ | ⟨c1, c2⟩ | ⟨c1, c2⟩ <;> omega
  · refine ⟨fun e => ?_, fun e => ?_, fun e => ?_⟩ <;> exact absurd (by omega) a
theorem AnLetter.no {s : ST} {p q r : Int32} {f : Nat} (A : AnLetter s p q r) (hp : p.toInt = ((f : Nat) : Int)) (h : ((pL (sM s) f : Nat) : Int) ≤ q.toInt) : r.toInt = -1 := by
  rcases A with ⟨f', j, a, b, c, d, e⟩ | ⟨a, b⟩
  · obtain rfl : f' = f := by omega
    omega
  · exact b
theorem AnLetter.at {s : ST} {p q r : Int32} {f j : Nat} (A : AnLetter s p q r) (hp : p.toInt = ((f : Nat) : Int)) (hq : q.toInt = ((j : Nat) : Int)) (hf : f < pN (sM s)) (hj : j < pL (sM s) f) : r.toInt = ((mCode (pB (sM s) f j) : Nat) : Int) := by
  rcases A with ⟨f', j', a, b, c, d, e⟩ | ⟨a, b⟩
  · obtain rfl : f' = f := by omega
    obtain rfl : j' = j := by omega
    exact e
  · exact absurd ⟨f, j, hp, hq, hf, hj⟩ a
theorem pB_lt {M : PRG} (hP : PV M) {f j : Nat} (hf : f < pN M) (hj : j < pL M f) : pB M f j < 14 := ((hP.2.2 f hf).2.2.2.2.1 j hj).1
theorem mCode_pos {k : Nat} (h : k < 14) : 38 ≤ mCode k := by have := mCode_c h; omega
theorem sum_L {M : PRG} (hP : PV M) {n : Nat} (h : n ≤ pN M) : sm (pL M) n ≤ n * 24 := sm_ub n (fun i hi => (hP.2.2 i (by omega)).2.2.2.1)
theorem sum_A {M : PRG} (hP : PV M) {n : Nat} (h : n ≤ pN M) : sm (pA M) n ≤ n * 3 := sm_ub n (fun i hi => (hP.2.2 i (by omega)).1)
-- ===== AN ACT BY A NUMBER =====
abbrev acF (x : Int32) : Nat := lowF (x >>> ((3 : Int32) &&& 31)) 5
abbrev acW (x : Int32) : Nat := lowF x 8
abbrev acK (x : Int32) : Nat := lowF (x >>> ((6 : Int32) &&& 31)) 5
abbrev acA (M : PRG) (x : Int32) : Nat := lowF (x >>> ((6 : Int32) &&& 31)) (pL M (acF x) + 1)
abbrev acL (x : Int32) : Nat := lowF (x >>> ((12 : Int32) &&& 31)) 14
def AcQ (M : PRG) (x : Int32) (r : Int) (M2 : PRG) : Prop :=
  (pN M ≤ acF x ∧ r = -1 ∧ M2 = M) ∨
  (acF x < pN M ∧ 5 < acW x ∧ ((3 < acK x ∧ r = -1 ∧ M2 = M) ∨ (acK x ≤ 3 ∧ pK M (acF x) = acK x ∧ r = -2 ∧ M2 = M) ∨ (acK x ≤ 3 ∧ pK M (acF x) ≠ acK x ∧ r = ((pK M (acF x) : Nat) : Int) ∧ M2 = mKind M (acF x) (acK x)))) ∨
  (acF x < pN M ∧ acW x ≤ 5 ∧ ((¬ (acA M x < pL M (acF x) ∧ mFit M (acF x) (acA M x) (acL x)) ∧ r = -1 ∧ M2 = M) ∨ ((acA M x < pL M (acF x) ∧ mFit M (acF x) (acA M x) (acL x)) ∧ pB M (acF x) (acA M x) = acL x ∧ r = -2 ∧ M2 = M) ∨
    ((acA M x < pL M (acF x) ∧ mFit M (acF x) (acA M x) (acL x)) ∧ pB M (acF x) (acA M x) ≠ acL x ∧ r = ((mCode (pB M (acF x) (acA M x)) : Nat) : Int) ∧ M2 = mSet M (acF x) (acA M x) (acL x))))
theorem AcQ.inj {M M1 M2 : PRG} {x : Int32} {r r' : Int} (h : AcQ M x r M1) (h2 : AcQ M x r' M2) : r = r' ∧ M1 = M2 := by
  rcases h with ⟨a1, a2, a3⟩ | ⟨a1, a2, a3⟩ | ⟨a1, a2, a3⟩ <;> rcases h2 with ⟨b1, b2, b3⟩ | ⟨b1, b2, b3⟩ | ⟨b1, b2, b3⟩
  · exact ⟨a2.trans b2.symm, a3.trans b3.symm⟩
  · omega
  · omega
  · omega
  · rcases a3 with ⟨p1, p2, p3⟩ | ⟨p1, p2, p3, p4⟩ | ⟨p1, p2, p3, p4⟩ <;> rcases b3 with ⟨q1, q2, q3⟩ | ⟨q1, q2, q3, q4⟩ | ⟨q1, q2, q3, q4⟩ <;> first | exact ⟨p2.trans q2.symm, p3.trans q3.symm⟩ | exact ⟨p3.trans q3.symm, p4.trans q4.symm⟩ | omega
  · omega
  · omega
  · omega
  · rcases a3 with ⟨p1, p2, p3⟩ | ⟨p1, p2, p3, p4⟩ | ⟨p1, p2, p3, p4⟩ <;> rcases b3 with ⟨q1, q2, q3⟩ | ⟨q1, q2, q3, q4⟩ | ⟨q1, q2, q3, q4⟩ <;> first | exact ⟨p2.trans q2.symm, p3.trans q3.symm⟩ | exact ⟨p3.trans q3.symm, p4.trans q4.symm⟩ | exact absurd p1 q1 | exact absurd q1 p1 | exact absurd p2 q2 | exact absurd q2 p2
theorem AcQ.ok {M M2 : PRG} {x : Int32} {r : Int} (h : AcQ M x r M2) (hP : PV M) : PV M2 ∧ pN M2 = pN M ∧ pA M2 = pA M ∧ pL M2 = pL M := by
  rcases h with ⟨a1, a2, a3⟩ | ⟨a1, a2, a3⟩ | ⟨a1, a2, a3⟩
  · rw [a3]; exact ⟨hP, rfl, rfl, rfl⟩
  · rcases a3 with ⟨p1, p2, p3⟩ | ⟨p1, p2, p3, p4⟩ | ⟨p1, p2, p3, p4⟩
    · rw [p3]; exact ⟨hP, rfl, rfl, rfl⟩
    · rw [p4]; exact ⟨hP, rfl, rfl, rfl⟩
    · rw [p4]; exact ⟨mKind_ok hP p1, rfl, rfl, rfl⟩
  · rcases a3 with ⟨p1, p2, p3⟩ | ⟨p1, p2, p3, p4⟩ | ⟨p1, p2, p3, p4⟩
    · rw [p3]; exact ⟨hP, rfl, rfl, rfl⟩
    · rw [p4]; exact ⟨hP, rfl, rfl, rfl⟩
    · rw [p4]; exact ⟨mSet_ok hP p1.2 (lowF_lt (by decide)), rfl, rfl, rfl⟩
/-- PUT answers as an act tells -/
theorem put_ac {s s2 : ST} {p q k r x : Int32} (A : AnPut s p q k r s2) (hw : acW x ≤ 5) (hp : p.toInt = ((acF x : Nat) : Int)) (hq : acF x < pN (sM s) → q.toInt = ((acA (sM s) x : Nat) : Int)) (hk : k.toInt = ((mCode (acL x) : Nat) : Int)) : AcQ (sM s) x r.toInt (sM s2) ∧ sV s2 = sV s := by
  have hl : acL x < 14 := lowF_lt (by decide)
  have hn : mNum k.toInt = acL x := by rw [hk, mNum_code hl]
  rw [AnPut, hn] at A
  rcases A with ⟨f, j, a1, a2, a3, a4, a5, a6, a7⟩ | ⟨a1, a2, a3⟩
  · obtain rfl : f = acF x := by omega
    have hq2 := hq a3
    obtain rfl : j = acA (sM s) x := by omega
    rcases a7 with ⟨b1, b2, b3⟩ | ⟨b1, b2, b3⟩
    · rw [b3]; exact ⟨Or.inr (Or.inr ⟨a3, hw, Or.inr (Or.inl ⟨⟨a4, a6⟩, b1, b2, rfl⟩)⟩), rfl⟩
    · have hm := nact_M s (mSet (sM s) (acF x) (acA (sM s) x) (acL x))
      rw [b3, hm.2.1]
      exact ⟨Or.inr (Or.inr ⟨a3, hw, Or.inr (Or.inr ⟨⟨a4, a6⟩, b1, b2, hm.1⟩)⟩), rfl⟩
  · rw [a3]
    refine ⟨?_, rfl⟩
    by_cases h : pN (sM s) ≤ acF x
    · exact Or.inl ⟨h, a2, rfl⟩
    · have hq2 := hq (by omega)
      exact Or.inr (Or.inr ⟨by omega, hw, Or.inl ⟨fun z => a1 ⟨acF x, acA (sM s) x, hp, hq2, by omega, z.1, hl, z.2⟩, a2, rfl⟩⟩)
/-- RENAME answers as an act tells -/
theorem ren_ac {s s2 : ST} {p k r x : Int32} (A : AnRename s p k r s2) (hw : 5 < acW x) (hp : p.toInt = ((acF x : Nat) : Int)) (hk : k.toInt = ((acK x : Nat) : Int)) : AcQ (sM s) x r.toInt (sM s2) ∧ sV s2 = sV s := by
  rcases A with ⟨f, c, a1, a2, a3, a4, a5⟩ | ⟨a1, a2, a3⟩
  · obtain rfl : f = acF x := by omega
    obtain rfl : c = acK x := by omega
    rcases a5 with ⟨b1, b2, b3⟩ | ⟨b1, b2, b3⟩
    · rw [b3]; exact ⟨Or.inr (Or.inl ⟨a3, hw, Or.inr (Or.inl ⟨a4, b1, b2, rfl⟩)⟩), rfl⟩
    · have hm := nact_M s (mKind (sM s) (acF x) (acK x))
      rw [b3, hm.2.1]
      exact ⟨Or.inr (Or.inl ⟨a3, hw, Or.inr (Or.inr ⟨a4, b1, b2, hm.1⟩)⟩), rfl⟩
  · rw [a3]
    refine ⟨?_, rfl⟩
    by_cases h : pN (sM s) ≤ acF x
    · exact Or.inl ⟨h, a2, rfl⟩
    · exact Or.inr (Or.inl ⟨by omega, hw, Or.inl ⟨by omega, a2, rfl⟩⟩)
theorem PtQ.inj {N : Nat} {A : Nat → Nat} {f k : Nat} {r r2 : Int} (h : PtQ N A f k r) (h2 : PtQ N A f k r2) : r = r2 := by
  rcases h with ⟨a, b, c⟩ | ⟨a, b⟩ <;> rcases h2 with ⟨a', b', c'⟩ | ⟨a', b'⟩
  · rw [c, c']
  · exact absurd ⟨a, b⟩ a'
  · exact absurd ⟨a', b'⟩ a
  · rw [b, b']
/-- parts of a letter as PtQ tells them: whether it fits -/
theorem pt_fit {M : PRG} {f pl k : Nat} {r r2 : Int} (h : PtQ (pN M) (pA M) f k r) (h2 : PtQ (pN M) (pA M) f (pB M f pl) r2) (hk : k < 14) (hb : pB M f pl < 14) (hm : mMay (pN M) (pA M) f (pB M f pl)) : (¬ r < 0 ∧ r = r2) ↔ mFit M f pl k := by
  have e2 : r2 = ((mParts (pN M) (pA M) (pB M f pl) : Nat) : Int) := by
    rcases h2 with ⟨-, -, e⟩ | ⟨e, -⟩
    · exact e
    · exact absurd ⟨hb, hm⟩ e
  unfold mFit
  rcases h with ⟨-, a, e⟩ | ⟨a, e⟩
  · constructor
    · rintro ⟨-, q⟩; exact ⟨a, by omega⟩
    · rintro ⟨-, q⟩; exact ⟨by omega, by omega⟩
  · constructor
    · rintro ⟨q, -⟩; omega
    · rintro ⟨q, -⟩; exact absurd ⟨hk, q⟩ a
theorem AlD.kind {M : PRG} {gd gd2 : Nat → Int32} {f c : Nat} {x : Int32} (D : AlD M gd) (hn : pN M ≤ 4) (hf : f < pN M) (hx : x.toInt = ((c : Nat) : Int)) (e : upd gd (4 + f) x = gd2) : AlD (mKind M f c) gd2 := by
  subst e
  refine ⟨by rw [pk_un (by omega)]; exact D.1, fun i hi => ?_⟩
  have hi4 : i < pN M := hi
  obtain ⟨a, b, c1, d⟩ := D.2 i hi
  refine ⟨by rw [pk_un (by omega)]; exact a, ?_, by rw [pk_un (by omega)]; exact c1, d⟩
  show (upd gd (4 + f) x (4 + i)).toInt = (((if i = f then c else pK M i) : Nat) : Int)
  by_cases q : i = f
  · rw [if_pos q, q, pk_us]; exact hx
  · rw [if_neg q, pk_un (by omega)]; exact b
theorem AlD.keep {M : PRG} {gd gd2 : Nat → Int32} {f : Nat} {x : Int32} (D : AlD M gd) (hn : pN M ≤ 4) (hf : f < pN M) (hx : x.toInt = ((pK M f : Nat) : Int)) (e : upd gd (4 + f) x = gd2) : AlD M gd2 := by
  have h := AlD.kind D hn hf hx e
  refine ⟨h.1, fun i hi => ?_⟩
  obtain ⟨a, b, c, d⟩ := h.2 i hi
  refine ⟨a, b.trans ?_, c, d⟩
  show (((if i = f then pK M f else pK M i) : Nat) : Int) = _
  split
  · rename_i q; rw [q]
  · rfl
theorem AlB.put {M : PRG} {gb gb2 : Nat → Int32} {f j k : Nat} {x : Int32} (B : AlB M gb) {gd : Nat → Int32} (D : AlD M gd) (hf : f < pN M) (hj : j < pL M f) (hx : x.toInt = ((mCode k : Nat) : Int)) (e : upd gb (16 * f + j) x = gb2) : AlB (mSet M f j k) gb2 := by
  subst e
  intro a b ha hb
  have h1 := (D.2 f hf).2.2.2
  have hb2 : b < pL M a := hb
  have h2 := (D.2 a ha).2.2.2
  show (upd gb (16 * f + j) x (16 * a + b)).toInt = ((mCode (if a = f ∧ b = j then k else pB M a b) : Nat) : Int)
  by_cases q : a = f ∧ b = j
  · rw [if_pos q, q.1, q.2, pk_us]; exact hx
  · rw [if_neg q, pk_un (by omega)]; exact B a b ha hb
theorem AlB.keep {M : PRG} {gb gb2 : Nat → Int32} {f j : Nat} {x : Int32} (B : AlB M gb) {gd : Nat → Int32} (D : AlD M gd) (hf : f < pN M) (hj : j < pL M f) (hx : x.toInt = ((mCode (pB M f j) : Nat) : Int)) (e : upd gb (16 * f + j) x = gb2) : AlB M gb2 := by
  have h := AlB.put B D hf hj hx e
  intro a b ha hb
  refine (h a b ha hb).trans ?_
  show ((mCode (if a = f ∧ b = j then pB M f j else pB M a b) : Nat) : Int) = _
  split
  · rename_i q; rw [q.1, q.2]
  · rfl
theorem AlD.set {M : PRG} {gd : Nat → Int32} {f j k : Nat} (D : AlD M gd) : AlD (mSet M f j k) gd := D
abbrev rm_L_alike : Room := { frames := 6, cells := 0, slots := 0, locals := 127 }
set_option maxHeartbeats 4000000 in
set_option maxRecDepth 100000 in
theorem c_L_alike (l : Launch) {g : GE} {h : Nat → va_E} {x : Nat} {st0 : ST} (C : ClsA g h x st0) {kd kb : Nat} {gd gb : Nat → Int32} (D : RaA g h kd 0 13 gd) (Bt : RaA g h kb 0 64 gb) (hkd : x + 143 ≤ kd) (hkb : x + 143 ≤ kb) (hdb : kd ≠ kb) (AD : AlD (sM st0) gd) (AB : AlB (sM st0) gb) : MI l yL_alike wsL_alike rm_L_alike [.ref (g.2.2.1 x), .ref (g.2.2.1 kd), .ref (g.2.2.1 kb)] g h (fun r h2 => h2 = h ∧ r = 1) := by
  refine Met.ofW (cc := cL_alike) (maxL := 8) (ret := (some .boolean)) (by decide) rfl ?_
  intro p e s m args below meth c s₁ B hml hv
  obtain ⟨rfl, w0⟩ := hv
  have hx := B.exec
  have hb := B.bytes
  have hr := B.returns
  have hts := atoms_spec (ws := wsL_alike) B.pre
  have hown : s.vm.findClass RL = some m.cls := findClass_of_methodNamed B.named
  have hlocks := B.notSynchronized
  have w := w0.start
  clear w0
  have hl := lv_entry ([.ref (g.2.2.1 x), .ref (g.2.2.1 kd), .ref (g.2.2.1 kb)]) (n := 8) (Nat.le_of_ble_eq_true rfl)
  rw [lg_entry_eq]
  generalize (lg_sl ([.ref (g.2.2.1 x), .ref (g.2.2.1 kd), .ref (g.2.2.1 kb)]) ++ List.replicate (8 - (lg_sl ([.ref (g.2.2.1 x), .ref (g.2.2.1 kd), .ref (g.2.2.1 kb)])).length) Slot.unset).toArray = ls at hl ⊢
  have hl : lv_has ls 8 [(0, .ref (g.2.2.1 x)), (1, .ref (g.2.2.1 kd)), (2, .ref (g.2.2.1 kb))] := hl
  obtain ⟨hSV, -⟩ := id C
  have hP := hSV.1
  have hn4 := hP.2.1
  have hN12 := AD.1
  have cuts : ∀ N : Nat, (∀ (f : Nat) (x3 : Int32) (x4 : Int32) (x6 : Int32) (hc : Nat → va_E) (H : Heap) (locs : List Loc) (ls : Array Slot), WD g (inW g) s hc H locs → lv_has ls 8 [(0, .ref (g.2.2.1 x)), (1, .ref (g.2.2.1 kd)), (2, .ref (g.2.2.1 kb)), (3, .int x3), (4, .int x4), (5, .int 1), (6, .int x6)] → (f ≤ pN (sM st0)) → (x3.toInt = ((sm (pL (sM st0)) f : Nat) : Int)) → (x4.toInt = ((sm (pA (sM st0)) f : Nat) : Int)) → (x6.toInt = ((f : Nat) : Int)) → (ClsA g hc x st0) → (RaA g hc kd 0 13 gd) → (RaA g hc kb 0 64 gb) → (hc = h) → 20 * (pN (sM st0) - f) + 19 < N → W p l e (headSpec wsL_alike rm_L_alike).room s m ([.ref (g.2.2.1 x), .ref (g.2.2.1 kd), .ref (g.2.2.1 kb)] : List Value).toArray below meth c H locs 0 0 (MQ below (va_Qi (fun r h2 => h2 = h ∧ r = 1) (Wd g) (inW g)) ([.ref (g.2.2.1 x), .ref (g.2.2.1 kd), .ref (g.2.2.1 kb)] : List Value).toArray s 0 0 (inW g)) (F0 m 40 ls [])) ∧ (∀ (f : Nat) (x3 : Int32) (x4 : Int32) (x6 : Int32) (j : Nat) (x7 : Int32) (hc : Nat → va_E) (H : Heap) (locs : List Loc) (ls : Array Slot), WD g (inW g) s hc H locs → lv_has ls 8 [(0, .ref (g.2.2.1 x)), (1, .ref (g.2.2.1 kd)), (2, .ref (g.2.2.1 kb)), (3, .int x3), (4, .int x4), (5, .int 1), (6, .int x6), (7, .int x7)] → (f < pN (sM st0)) → (x3.toInt = ((sm (pL (sM st0)) f : Nat) : Int)) → (x4.toInt = ((sm (pA (sM st0)) f : Nat) : Int)) → (x6.toInt = ((f : Nat) : Int)) → (j ≤ pL (sM st0) f) → (x7.toInt = ((j : Nat) : Int)) → (ClsA g hc x st0) → (RaA g hc kd 0 13 gd) → (RaA g hc kb 0 64 gb) → (hc = h) → 20 * (pN (sM st0) - f) + (pL (sM st0) f - j) < N → W p l e (headSpec wsL_alike rm_L_alike).room s m ([.ref (g.2.2.1 x), .ref (g.2.2.1 kd), .ref (g.2.2.1 kb)] : List Value).toArray below meth c H locs 0 0 (MQ below (va_Qi (fun r h2 => h2 = h ∧ r = 1) (Wd g) (inW g)) ([.ref (g.2.2.1 x), .ref (g.2.2.1 kd), .ref (g.2.2.1 kb)] : List Value).toArray s 0 0 (inW g)) (F0 m 128 ls [])) := by
    intro N
    induction N with
    | zero => exact ⟨by intros; omega, by intros; omega⟩
    | succ N ih =>
      obtain ⟨ih40, ih128⟩ := ih
      refine ⟨?_, ?_⟩
      · intro f x3 x4 x6 hc H locs ls w hl hf hx3 hx4 hx6 C D Bt hh hN_
        refine lv_iload hx hb dL_alike_40 (lv_at hl 6 rfl) ?_
        refine lv_aload_n hx hb dL_alike_42 rfl (lv_at hl 1 rfl) ?_
        refine lv_bipush (v := 12) hx hb dL_alike_43 (by decide) ?_
        refine r_iald (j := 12) hx hb w D.1 D.2 (by decide : (12 : Int32).toInt = ((12 : Nat) : Int)) (by omega) dL_alike_45 ?_
        refine lv_icmp_ge (tgt := 204) hx hb dL_alike_46 (by decide) (fun c1 => ?_) (fun c1 => ?_)
        · have c1 : (((pN (sM st0)) : Nat) : Int) ≤ ((f : Nat) : Int) := (i_le AD.1 hx6).mp c1
          refine lv_iload hx hb dL_alike_204 (lv_at hl 5 rfl) ?_
          refine lv_if_eq (tgt := 232) hx hb dL_alike_206 (by decide) (fun c2 => ?_) (fun c2 => ?_)
          · have c2 : ((1 : Nat) : Int) = (0 : Int) := (i_eq (by decide : (1 : Int32).toInt = ((1 : Nat) : Int)) (rfl : (0 : Int32).toInt = 0)).mp c2
            exfalso; omega
          · have c2 : ¬ (((1 : Nat) : Int) = (0 : Int)) := fun q => c2 ((i_eq (by decide : (1 : Int32).toInt = ((1 : Nat) : Int)) (rfl : (0 : Int32).toInt = 0)).mpr q)
            refine lv_aload_n hx hb dL_alike_209 rfl (lv_at hl 0 rfl) ?_
            refine lv_iconst (v := 1) hx hb dL_alike_210 (by decide) ?_
            refine r_callI w (va_runV (As := [.int 1]) (rest := []) ⟨hx, hb, hml, hown, hts⟩ (c_X8_count l C 1) (cwV 1 hts gL_alike_X8_count rfl rfl rfl (by decide +kernel) ⟨Nat.le_of_ble_eq_true rfl, Nat.le_of_ble_eq_true rfl⟩) (r_preV w (by have := C.hN; omega) C.ob.choose_spec rfl) rfl rfl hl.1 rfl (lv_room (Nat.le_of_ble_eq_true rfl)) dL_alike_211 ⟨Nat.zero_le _, Nat.zero_le _⟩) (fun r4 h3 H locs hp w => ?_)
            obtain ⟨eh_, Ak5⟩ := hp
            have eh_ := eh_.symm
            subst eh_
            have tr4 : r4.toInt = (((sm (pL (sM st0)) (pN (sM st0))) : Nat) : Int) := Ak5.c1 (by decide)
            refine lv_iload_n hx hb dL_alike_214 rfl (lv_at hl 3 rfl) ?_
            refine lv_icmp_ne (tgt := 232) hx hb dL_alike_215 (by decide) (fun c6 => ?_) (fun c6 => ?_)
            · have c6 : ¬ ((((sm (pL (sM st0)) (pN (sM st0))) : Nat) : Int) = (((sm (pL (sM st0)) f) : Nat) : Int)) := fun q => c6 ((i_eq tr4 hx3).mpr q)
              (obtain rfl : f = pN (sM st0) := by omega); exfalso; omega
            · have c6 : (((sm (pL (sM st0)) (pN (sM st0))) : Nat) : Int) = (((sm (pL (sM st0)) f) : Nat) : Int) := (i_eq tr4 hx3).mp c6
              refine lv_aload_n hx hb dL_alike_218 rfl (lv_at hl 0 rfl) ?_
              refine lv_iconst (v := 2) hx hb dL_alike_219 (by decide) ?_
              refine r_callI w (va_runV (As := [.int 2]) (rest := []) ⟨hx, hb, hml, hown, hts⟩ (c_X8_count l C 2) (cwV 1 hts gL_alike_X8_count rfl rfl rfl (by decide +kernel) ⟨Nat.le_of_ble_eq_true rfl, Nat.le_of_ble_eq_true rfl⟩) (r_preV w (by have := C.hN; omega) C.ob.choose_spec rfl) rfl rfl hl.1 rfl (lv_room (Nat.le_of_ble_eq_true rfl)) dL_alike_220 ⟨Nat.zero_le _, Nat.zero_le _⟩) (fun r8 h7 H locs hp w => ?_)
              obtain ⟨eh_, Ak9⟩ := hp
              have eh_ := eh_.symm
              subst eh_
              have tr8 : r8.toInt = (((sm (pA (sM st0)) (pN (sM st0))) : Nat) : Int) := Ak9.c2 (by decide)
              refine lv_iload hx hb dL_alike_223 (lv_at hl 4 rfl) ?_
              refine lv_icmp_ne (tgt := 232) hx hb dL_alike_225 (by decide) (fun c10 => ?_) (fun c10 => ?_)
              · have c10 : ¬ ((((sm (pA (sM st0)) (pN (sM st0))) : Nat) : Int) = (((sm (pA (sM st0)) f) : Nat) : Int)) := fun q => c10 ((i_eq tr8 hx4).mpr q)
                (obtain rfl : f = pN (sM st0) := by omega); exfalso; omega
              · have c10 : (((sm (pA (sM st0)) (pN (sM st0))) : Nat) : Int) = (((sm (pA (sM st0)) f) : Nat) : Int) := (i_eq tr8 hx4).mp c10
                refine lv_iconst (v := 1) hx hb dL_alike_228 (by decide) ?_
                refine lv_goto (tgt := 233) hx hb dL_alike_229 (by decide) ?_
                refine r_zret (v := 1) hx hb hr rfl hlocks w dL_alike_233 ?_
                exact ⟨hh, rfl⟩
        · have c1 : ¬ ((((pN (sM st0)) : Nat) : Int) ≤ ((f : Nat) : Int)) := fun q => c1 ((i_le AD.1 hx6).mpr q)
          have hfl_ := (AD.2 f (by omega)).2.2.2
          have hA3_ := (hP.2.2 f (by omega)).1
          have hsl_ := sum_L hP (n := f) (by omega)
          have hsa_ := sum_A hP (n := f) (by omega)
          refine lv_iload hx hb dL_alike_49 (lv_at hl 5 rfl) ?_
          refine lv_if_eq (tgt := 122) hx hb dL_alike_51 (by decide) (fun c11 => ?_) (fun c11 => ?_)
          · have c11 : ((1 : Nat) : Int) = (0 : Int) := (i_eq (by decide : (1 : Int32).toInt = ((1 : Nat) : Int)) (rfl : (0 : Int32).toInt = 0)).mp c11
            exfalso; omega
          · have c11 : ¬ (((1 : Nat) : Int) = (0 : Int)) := fun q => c11 ((i_eq (by decide : (1 : Int32).toInt = ((1 : Nat) : Int)) (rfl : (0 : Int32).toInt = 0)).mpr q)
            refine lv_aload_n hx hb dL_alike_54 rfl (lv_at hl 0 rfl) ?_
            refine lv_iload hx hb dL_alike_55 (lv_at hl 6 rfl) ?_
            refine lv_iconst (v := 0) hx hb dL_alike_57 (by decide) ?_
            refine r_callI w (va_runV (As := [.int x6, .int 0]) (rest := []) ⟨hx, hb, hml, hown, hts⟩ (c_X8_function l C x6 0) (cwV 2 hts gL_alike_X8_function rfl rfl rfl (by decide +kernel) ⟨Nat.le_of_ble_eq_true rfl, Nat.le_of_ble_eq_true rfl⟩) (r_preV w (by have := C.hN; omega) C.ob.choose_spec rfl) rfl rfl hl.1 rfl (lv_room (Nat.le_of_ble_eq_true rfl)) dL_alike_58 ⟨Nat.zero_le _, Nat.zero_le _⟩) (fun r13 h12 H locs hp w => ?_)
            obtain ⟨eh_, Ak14⟩ := hp
            have eh_ := eh_.symm
            subst eh_
            have tr13 : r13.toInt = (((pK (sM st0) f) : Nat) : Int) := (Ak14.at hx6 (by omega)).1 (by decide)
            refine lv_aload_n hx hb dL_alike_61 rfl (lv_at hl 1 rfl) ?_
            refine lv_iconst (v := 4) hx hb dL_alike_62 (by decide) ?_
            refine lv_iload hx hb dL_alike_63 (lv_at hl 6 rfl) ?_
            refine lv_iadd hx hb dL_alike_65 ?_
            refine lv_topi (fun y15 ey15 => ?_)
            have ty15 : y15.toInt = (((4 + f) : Nat) : Int) := i_addN ey15 (by decide : (4 : Int32).toInt = ((4 : Nat) : Int)) hx6 (by omega)
            refine r_iald (j := (4 + f)) hx hb w D.1 D.2 ty15 (by omega) dL_alike_66 ?_
            refine lv_icmp_ne (tgt := 122) hx hb dL_alike_67 (by decide) (fun c16 => ?_) (fun c16 => ?_)
            · have c16 : ¬ ((((pK (sM st0) f) : Nat) : Int) = (((pK (sM st0) f) : Nat) : Int)) := fun q => c16 ((i_eq tr13 (AD.2 f (by omega)).2.1).mpr q)
              exfalso; omega
            · have c16 : (((pK (sM st0) f) : Nat) : Int) = (((pK (sM st0) f) : Nat) : Int) := (i_eq tr13 (AD.2 f (by omega)).2.1).mp c16
              refine lv_aload_n hx hb dL_alike_70 rfl (lv_at hl 0 rfl) ?_
              refine lv_iload hx hb dL_alike_71 (lv_at hl 6 rfl) ?_
              refine lv_iconst (v := 1) hx hb dL_alike_73 (by decide) ?_
              refine r_callI w (va_runV (As := [.int x6, .int 1]) (rest := []) ⟨hx, hb, hml, hown, hts⟩ (c_X8_function l C x6 1) (cwV 2 hts gL_alike_X8_function rfl rfl rfl (by decide +kernel) ⟨Nat.le_of_ble_eq_true rfl, Nat.le_of_ble_eq_true rfl⟩) (r_preV w (by have := C.hN; omega) C.ob.choose_spec rfl) rfl rfl hl.1 rfl (lv_room (Nat.le_of_ble_eq_true rfl)) dL_alike_74 ⟨Nat.zero_le _, Nat.zero_le _⟩) (fun r18 h17 H locs hp w => ?_)
              obtain ⟨eh_, Ak19⟩ := hp
              have eh_ := eh_.symm
              subst eh_
              have tr18 : r18.toInt = (((pA (sM st0) f) : Nat) : Int) := (Ak19.at hx6 (by omega)).2.1 (by decide)
              refine lv_aload_n hx hb dL_alike_77 rfl (lv_at hl 1 rfl) ?_
              refine lv_iload hx hb dL_alike_78 (lv_at hl 6 rfl) ?_
              refine r_iald (j := f) hx hb w D.1 D.2 hx6 (by omega) dL_alike_80 ?_
              refine lv_icmp_ne (tgt := 122) hx hb dL_alike_81 (by decide) (fun c20 => ?_) (fun c20 => ?_)
              · have c20 : ¬ ((((pA (sM st0) f) : Nat) : Int) = (((pA (sM st0) f) : Nat) : Int)) := fun q => c20 ((i_eq tr18 (AD.2 f (by omega)).1).mpr q)
                exfalso; omega
              · have c20 : (((pA (sM st0) f) : Nat) : Int) = (((pA (sM st0) f) : Nat) : Int) := (i_eq tr18 (AD.2 f (by omega)).1).mp c20
                refine lv_aload_n hx hb dL_alike_84 rfl (lv_at hl 0 rfl) ?_
                refine lv_iload hx hb dL_alike_85 (lv_at hl 6 rfl) ?_
                refine lv_iconst (v := 2) hx hb dL_alike_87 (by decide) ?_
                refine r_callI w (va_runV (As := [.int x6, .int 2]) (rest := []) ⟨hx, hb, hml, hown, hts⟩ (c_X8_function l C x6 2) (cwV 2 hts gL_alike_X8_function rfl rfl rfl (by decide +kernel) ⟨Nat.le_of_ble_eq_true rfl, Nat.le_of_ble_eq_true rfl⟩) (r_preV w (by have := C.hN; omega) C.ob.choose_spec rfl) rfl rfl hl.1 rfl (lv_room (Nat.le_of_ble_eq_true rfl)) dL_alike_88 ⟨Nat.zero_le _, Nat.zero_le _⟩) (fun r22 h21 H locs hp w => ?_)
                obtain ⟨eh_, Ak23⟩ := hp
                have eh_ := eh_.symm
                subst eh_
                have tr22 : r22.toInt = (((pL (sM st0) f) : Nat) : Int) := (Ak23.at hx6 (by omega)).2.2 (by decide)
                refine lv_aload_n hx hb dL_alike_91 rfl (lv_at hl 1 rfl) ?_
                refine lv_bipush (v := 8) hx hb dL_alike_92 (by decide) ?_
                refine lv_iload hx hb dL_alike_94 (lv_at hl 6 rfl) ?_
                refine lv_iadd hx hb dL_alike_96 ?_
                refine lv_topi (fun y24 ey24 => ?_)
                have ty24 : y24.toInt = (((8 + f) : Nat) : Int) := i_addN ey24 (by decide : (8 : Int32).toInt = ((8 : Nat) : Int)) hx6 (by omega)
                refine r_iald (j := (8 + f)) hx hb w D.1 D.2 ty24 (by omega) dL_alike_97 ?_
                refine lv_icmp_ne (tgt := 122) hx hb dL_alike_98 (by decide) (fun c25 => ?_) (fun c25 => ?_)
                · have c25 : ¬ ((((pL (sM st0) f) : Nat) : Int) = (((pL (sM st0) f) : Nat) : Int)) := fun q => c25 ((i_eq tr22 (AD.2 f (by omega)).2.2.1).mpr q)
                  exfalso; omega
                · have c25 : (((pL (sM st0) f) : Nat) : Int) = (((pL (sM st0) f) : Nat) : Int) := (i_eq tr22 (AD.2 f (by omega)).2.2.1).mp c25
                  refine lv_aload_n hx hb dL_alike_101 rfl (lv_at hl 0 rfl) ?_
                  refine lv_iload hx hb dL_alike_102 (lv_at hl 6 rfl) ?_
                  refine lv_aload_n hx hb dL_alike_104 rfl (lv_at hl 1 rfl) ?_
                  refine lv_bipush (v := 8) hx hb dL_alike_105 (by decide) ?_
                  refine lv_iload hx hb dL_alike_107 (lv_at hl 6 rfl) ?_
                  refine lv_iadd hx hb dL_alike_109 ?_
                  refine lv_topi (fun y26 ey26 => ?_)
                  have ty26 : y26.toInt = (((8 + f) : Nat) : Int) := i_addN ey26 (by decide : (8 : Int32).toInt = ((8 : Nat) : Int)) hx6 (by omega)
                  refine r_iald (j := (8 + f)) hx hb w D.1 D.2 ty26 (by omega) dL_alike_110 ?_
                  refine r_callI w (va_runV (As := [.int x6, .int (gd ((8 + f)))]) (rest := []) ⟨hx, hb, hml, hown, hts⟩ (c_X8_letter l C x6 (gd ((8 + f)))) (cwV 2 hts gL_alike_X8_letter rfl rfl rfl (by decide +kernel) ⟨Nat.le_of_ble_eq_true rfl, Nat.le_of_ble_eq_true rfl⟩) (r_preV w (by have := C.hN; omega) C.ob.choose_spec rfl) rfl rfl hl.1 rfl (lv_room (Nat.le_of_ble_eq_true rfl)) dL_alike_111 ⟨Nat.zero_le _, Nat.zero_le _⟩) (fun r28 h27 H locs hp w => ?_)
                  obtain ⟨eh_, Ak29⟩ := hp
                  have eh_ := eh_.symm
                  subst eh_
                  have tr28 : r28.toInt = -1 := Ak29.no hx6 (by have q_ := (AD.2 f (by omega)).2.2.1; omega)
                  refine lv_iconst (v := (-1)) hx hb dL_alike_114 (by decide) ?_
                  refine lv_icmp_ne (tgt := 122) hx hb dL_alike_115 (by decide) (fun c30 => ?_) (fun c30 => ?_)
                  · have c30 : ¬ ((-1 : Int) = (-1 : Int)) := fun q => c30 ((i_eq tr28 (by decide : (-1 : Int32).toInt = (-1 : Int))).mpr q)
                    exfalso; omega
                  · have c30 : (-1 : Int) = (-1 : Int) := (i_eq tr28 (by decide : (-1 : Int32).toInt = (-1 : Int))).mp c30
                    refine lv_iconst (v := 1) hx hb dL_alike_118 (by decide) ?_
                    refine lv_goto (tgt := 123) hx hb dL_alike_119 (by decide) ?_
                    refine lv_istore (lv' := [(5, .int 1), (0, .ref (g.2.2.1 x)), (1, .ref (g.2.2.1 kd)), (2, .ref (g.2.2.1 kb)), (3, .int x3), (4, .int x4), (6, .int x6)]) hx hb dL_alike_123 hl (by decide) rfl (fun ls hl => ?_)
                    refine lv_iconst (v := 0) hx hb dL_alike_125 (by decide) ?_
                    refine lv_istore (lv' := [(7, .int 0), (5, .int 1), (0, .ref (g.2.2.1 x)), (1, .ref (g.2.2.1 kd)), (2, .ref (g.2.2.1 kb)), (3, .int x3), (4, .int x4), (6, .int x6)]) hx hb dL_alike_126 hl (by decide) rfl (fun ls hl => ?_)
                    exact ih128 f x3 x4 x6 0 0 hc _ _ _ w (lv_sub hl [2, 3, 4, 5, 6, 1, 7, 0] rfl) (by omega) hx3 hx4 hx6 (Nat.zero_le _) ((by decide : (0 : Int32).toInt = ((0 : Nat) : Int))) C D Bt hh (by omega)
      · intro f x3 x4 x6 j x7 hc H locs ls w hl hf hx3 hx4 hx6 hj hx7 C D Bt hh hN_
        have hfl_ := (AD.2 f (by omega)).2.2.2
        have hA3_ := (hP.2.2 f (by omega)).1
        have hsl_ := sum_L hP (n := f) (by omega)
        have hsa_ := sum_A hP (n := f) (by omega)
        refine lv_iload hx hb dL_alike_128 (lv_at hl 7 rfl) ?_
        refine lv_aload_n hx hb dL_alike_130 rfl (lv_at hl 1 rfl) ?_
        refine lv_bipush (v := 8) hx hb dL_alike_131 (by decide) ?_
        refine lv_iload hx hb dL_alike_133 (lv_at hl 6 rfl) ?_
        refine lv_iadd hx hb dL_alike_135 ?_
        refine lv_topi (fun y31 ey31 => ?_)
        have ty31 : y31.toInt = (((8 + f) : Nat) : Int) := i_addN ey31 (by decide : (8 : Int32).toInt = ((8 : Nat) : Int)) hx6 (by omega)
        refine r_iald (j := (8 + f)) hx hb w D.1 D.2 ty31 (by omega) dL_alike_136 ?_
        refine lv_icmp_ge (tgt := 179) hx hb dL_alike_137 (by decide) (fun c32 => ?_) (fun c32 => ?_)
        · have c32 : (((pL (sM st0) f) : Nat) : Int) ≤ ((j : Nat) : Int) := (i_le (AD.2 f (by omega)).2.2.1 hx7).mp c32
          refine lv_iload_n hx hb dL_alike_179 rfl (lv_at hl 3 rfl) ?_
          refine lv_aload_n hx hb dL_alike_180 rfl (lv_at hl 1 rfl) ?_
          refine lv_bipush (v := 8) hx hb dL_alike_181 (by decide) ?_
          refine lv_iload hx hb dL_alike_183 (lv_at hl 6 rfl) ?_
          refine lv_iadd hx hb dL_alike_185 ?_
          refine lv_topi (fun y33 ey33 => ?_)
          have ty33 : y33.toInt = (((8 + f) : Nat) : Int) := i_addN ey33 (by decide : (8 : Int32).toInt = ((8 : Nat) : Int)) hx6 (by omega)
          refine r_iald (j := (8 + f)) hx hb w D.1 D.2 ty33 (by omega) dL_alike_186 ?_
          refine lv_iadd hx hb dL_alike_187 ?_
          refine lv_topi (fun y34 ey34 => ?_)
          have ty34 : y34.toInt = ((((sm (pL (sM st0)) f) + (pL (sM st0) f)) : Nat) : Int) := i_addN ey34 hx3 (AD.2 f (by omega)).2.2.1 (by omega)
          refine lv_istore_n (lv' := [(3, .int y34), (0, .ref (g.2.2.1 x)), (1, .ref (g.2.2.1 kd)), (2, .ref (g.2.2.1 kb)), (4, .int x4), (5, .int 1), (6, .int x6), (7, .int x7)]) hx hb dL_alike_188 rfl hl (by decide) rfl (fun ls hl => ?_)
          refine lv_iload hx hb dL_alike_189 (lv_at hl 4 rfl) ?_
          refine lv_aload_n hx hb dL_alike_191 rfl (lv_at hl 2 rfl) ?_
          refine lv_iload hx hb dL_alike_192 (lv_at hl 6 rfl) ?_
          refine r_iald (j := f) hx hb w D.1 D.2 hx6 (by omega) dL_alike_194 ?_
          refine lv_iadd hx hb dL_alike_195 ?_
          refine lv_topi (fun y35 ey35 => ?_)
          have ty35 : y35.toInt = ((((sm (pA (sM st0)) f) + (pA (sM st0) f)) : Nat) : Int) := i_addN ey35 hx4 (AD.2 f (by omega)).1 (by omega)
          refine lv_istore (lv' := [(4, .int y35), (3, .int y34), (0, .ref (g.2.2.1 x)), (1, .ref (g.2.2.1 kd)), (2, .ref (g.2.2.1 kb)), (5, .int 1), (6, .int x6), (7, .int x7)]) hx hb dL_alike_196 hl (by decide) rfl (fun ls hl => ?_)
          obtain ⟨y36, ey36⟩ : ∃ y : Int32, y = x6 + (1) := ⟨_, rfl⟩
          have ty36 : y36.toInt = (((f + 1) : Nat) : Int) := i_addN ey36 hx6 (by decide : (1 : Int32).toInt = ((1 : Nat) : Int)) (by omega)
          refine lv_iinc (v := y36) (lv' := [(6, .int y36), (4, .int y35), (3, .int y34), (0, .ref (g.2.2.1 x)), (1, .ref (g.2.2.1 kd)), (2, .ref (g.2.2.1 kb)), (5, .int 1), (7, .int x7)]) hx hb dL_alike_198 hl (k := 6) rfl (by rw [ey36]; rfl) (by decide) rfl (fun ls hl => ?_)
          refine lv_goto (tgt := 40) hx hb dL_alike_201 (by decide) ?_
          exact ih40 (f + 1) y34 y35 y36 hc _ _ _ w (lv_sub hl [3, 4, 5, 2, 1, 6, 0] rfl) (by omega) (ty34.trans (by rw [sm_succ]; (try rfl))) (ty35.trans (by rw [sm_succ]; (try rfl))) ty36 C D Bt hh (by omega)
        · have c32 : ¬ ((((pL (sM st0) f) : Nat) : Int) ≤ ((j : Nat) : Int)) := fun q => c32 ((i_le (AD.2 f (by omega)).2.2.1 hx7).mpr q)
          refine lv_iload hx hb dL_alike_140 (lv_at hl 5 rfl) ?_
          refine lv_if_eq (tgt := 170) hx hb dL_alike_142 (by decide) (fun c37 => ?_) (fun c37 => ?_)
          · have c37 : ((1 : Nat) : Int) = (0 : Int) := (i_eq (by decide : (1 : Int32).toInt = ((1 : Nat) : Int)) (rfl : (0 : Int32).toInt = 0)).mp c37
            exfalso; omega
          · have c37 : ¬ (((1 : Nat) : Int) = (0 : Int)) := fun q => c37 ((i_eq (by decide : (1 : Int32).toInt = ((1 : Nat) : Int)) (rfl : (0 : Int32).toInt = 0)).mpr q)
            refine lv_aload_n hx hb dL_alike_145 rfl (lv_at hl 0 rfl) ?_
            refine lv_iload hx hb dL_alike_146 (lv_at hl 6 rfl) ?_
            refine lv_iload hx hb dL_alike_148 (lv_at hl 7 rfl) ?_
            refine r_callI w (va_runV (As := [.int x6, .int x7]) (rest := []) ⟨hx, hb, hml, hown, hts⟩ (c_X8_letter l C x6 x7) (cwV 2 hts gL_alike_X8_letter rfl rfl rfl (by decide +kernel) ⟨Nat.le_of_ble_eq_true rfl, Nat.le_of_ble_eq_true rfl⟩) (r_preV w (by have := C.hN; omega) C.ob.choose_spec rfl) rfl rfl hl.1 rfl (lv_room (Nat.le_of_ble_eq_true rfl)) dL_alike_150 ⟨Nat.zero_le _, Nat.zero_le _⟩) (fun r39 h38 H locs hp w => ?_)
            obtain ⟨eh_, Ak40⟩ := hp
            have eh_ := eh_.symm
            subst eh_
            have tr39 : r39.toInt = (((mCode (pB (sM st0) f j)) : Nat) : Int) := Ak40.at hx6 hx7 (by omega) (by omega)
            refine lv_aload_n hx hb dL_alike_153 rfl (lv_at hl 2 rfl) ?_
            refine lv_bipush (v := 16) hx hb dL_alike_154 (by decide) ?_
            refine lv_iload hx hb dL_alike_156 (lv_at hl 6 rfl) ?_
            refine lv_imul hx hb dL_alike_158 ?_
            refine lv_topi (fun y41 ey41 => ?_)
            have ty41 : y41.toInt = (((16 * f) : Nat) : Int) := i_mulN ey41 (by decide : (16 : Int32).toInt = ((16 : Nat) : Int)) hx6 (by omega)
            refine lv_iload hx hb dL_alike_159 (lv_at hl 7 rfl) ?_
            refine lv_iadd hx hb dL_alike_161 ?_
            refine lv_topi (fun y42 ey42 => ?_)
            have ty42 : y42.toInt = ((((16 * f) + j) : Nat) : Int) := i_addN ey42 ty41 hx7 (by omega)
            refine r_iald (j := ((16 * f) + j)) hx hb w Bt.1 Bt.2 ty42 (by omega) dL_alike_162 ?_
            refine lv_icmp_ne (tgt := 170) hx hb dL_alike_163 (by decide) (fun c43 => ?_) (fun c43 => ?_)
            · have c43 : ¬ ((((mCode (pB (sM st0) f j)) : Nat) : Int) = (((mCode (pB (sM st0) f j)) : Nat) : Int)) := fun q => c43 ((i_eq tr39 (AB f j (by omega) (by omega))).mpr q)
              exfalso; omega
            · have c43 : (((mCode (pB (sM st0) f j)) : Nat) : Int) = (((mCode (pB (sM st0) f j)) : Nat) : Int) := (i_eq tr39 (AB f j (by omega) (by omega))).mp c43
              refine lv_iconst (v := 1) hx hb dL_alike_166 (by decide) ?_
              refine lv_goto (tgt := 171) hx hb dL_alike_167 (by decide) ?_
              refine lv_istore (lv' := [(5, .int 1), (0, .ref (g.2.2.1 x)), (1, .ref (g.2.2.1 kd)), (2, .ref (g.2.2.1 kb)), (3, .int x3), (4, .int x4), (6, .int x6), (7, .int x7)]) hx hb dL_alike_171 hl (by decide) rfl (fun ls hl => ?_)
              obtain ⟨y44, ey44⟩ : ∃ y : Int32, y = x7 + (1) := ⟨_, rfl⟩
              have ty44 : y44.toInt = (((j + 1) : Nat) : Int) := i_addN ey44 hx7 (by decide : (1 : Int32).toInt = ((1 : Nat) : Int)) (by omega)
              refine lv_iinc (v := y44) (lv' := [(7, .int y44), (5, .int 1), (0, .ref (g.2.2.1 x)), (1, .ref (g.2.2.1 kd)), (2, .ref (g.2.2.1 kb)), (3, .int x3), (4, .int x4), (6, .int x6)]) hx hb dL_alike_173 hl (k := 7) rfl (by rw [ey44]; rfl) (by decide) rfl (fun ls hl => ?_)
              refine lv_goto (tgt := 128) hx hb dL_alike_176 (by decide) ?_
              exact ih128 f x3 x4 x6 (j + 1) y44 hc _ _ _ w (lv_sub hl [2, 3, 4, 5, 6, 1, 7, 0] rfl) hf hx3 hx4 hx6 (by omega) ty44 C D Bt hh (by omega)
  have cut0 := cuts (200)
  obtain ⟨ih40, ih128⟩ := cut0
  refine lv_iconst (v := 0) hx hb dL_alike_0 (by decide) ?_
  refine lv_istore_n (lv' := [(3, .int 0), (0, .ref (g.2.2.1 x)), (1, .ref (g.2.2.1 kd)), (2, .ref (g.2.2.1 kb))]) hx hb dL_alike_1 rfl hl (by decide) rfl (fun ls hl => ?_)
  refine lv_iconst (v := 0) hx hb dL_alike_2 (by decide) ?_
  refine lv_istore (lv' := [(4, .int 0), (3, .int 0), (0, .ref (g.2.2.1 x)), (1, .ref (g.2.2.1 kd)), (2, .ref (g.2.2.1 kb))]) hx hb dL_alike_3 hl (by decide) rfl (fun ls hl => ?_)
  refine lv_aload_n hx hb dL_alike_5 rfl (lv_at hl 2 rfl) ?_
  refine lv_iconst (v := 0) hx hb dL_alike_6 (by decide) ?_
  refine r_callI w (va_runV (As := [.int 0]) (rest := []) ⟨hx, hb, hml, hown, hts⟩ (c_X8_count l C 0) (cwV 1 hts gL_alike_X8_count rfl rfl rfl (by decide +kernel) ⟨Nat.le_of_ble_eq_true rfl, Nat.le_of_ble_eq_true rfl⟩) (r_preV w (by have := C.hN; omega) C.ob.choose_spec rfl) rfl rfl hl.1 rfl (lv_room (Nat.le_of_ble_eq_true rfl)) dL_alike_7 ⟨Nat.zero_le _, Nat.zero_le _⟩) (fun r46 h45 H locs hp w => ?_)
  obtain ⟨eh_, Ak47⟩ := hp
  have eh_ := eh_.symm
  subst eh_
  have tr46 : r46.toInt = (((pN (sM st0)) : Nat) : Int) := Ak47.c0 (by decide)
  refine lv_aload_n hx hb dL_alike_10 rfl (lv_at hl 3 rfl) ?_
  refine lv_bipush (v := 12) hx hb dL_alike_11 (by decide) ?_
  refine r_iald (j := 12) hx hb w D.1 D.2 (by decide : (12 : Int32).toInt = ((12 : Nat) : Int)) (by omega) dL_alike_13 ?_
  refine lv_icmp_ne (tgt := 34) hx hb dL_alike_14 (by decide) (fun c48 => ?_) (fun c48 => ?_)
  · have c48 : ¬ ((((pN (sM st0)) : Nat) : Int) = (((pN (sM st0)) : Nat) : Int)) := fun q => c48 ((i_eq tr46 AD.1).mpr q)
    exfalso; omega
  · have c48 : (((pN (sM st0)) : Nat) : Int) = (((pN (sM st0)) : Nat) : Int) := (i_eq tr46 AD.1).mp c48
    refine lv_aload_n hx hb dL_alike_17 rfl (lv_at hl 2 rfl) ?_
    refine lv_aload_n hx hb dL_alike_18 rfl (lv_at hl 3 rfl) ?_
    refine lv_bipush (v := 12) hx hb dL_alike_19 (by decide) ?_
    refine r_iald (j := 12) hx hb w D.1 D.2 (by decide : (12 : Int32).toInt = ((12 : Nat) : Int)) (by omega) dL_alike_21 ?_
    refine lv_iconst (v := 0) hx hb dL_alike_22 (by decide) ?_
    refine r_callI w (va_runV (As := [.int (gd 12), .int 0]) (rest := []) ⟨hx, hb, hml, hown, hts⟩ (c_X8_function l C (gd 12) 0) (cwV 2 hts gL_alike_X8_function rfl rfl rfl (by decide +kernel) ⟨Nat.le_of_ble_eq_true rfl, Nat.le_of_ble_eq_true rfl⟩) (r_preV w (by have := C.hN; omega) C.ob.choose_spec rfl) rfl rfl hl.1 rfl (lv_room (Nat.le_of_ble_eq_true rfl)) dL_alike_23 ⟨Nat.zero_le _, Nat.zero_le _⟩) (fun r50 h49 H locs hp w => ?_)
    obtain ⟨eh_, Ak51⟩ := hp
    have eh_ := eh_.symm
    subst eh_
    have tr50 : r50.toInt = -1 := Ak51.no (by omega)
    refine lv_iconst (v := (-1)) hx hb dL_alike_26 (by decide) ?_
    refine lv_icmp_ne (tgt := 34) hx hb dL_alike_27 (by decide) (fun c52 => ?_) (fun c52 => ?_)
    · have c52 : ¬ ((-1 : Int) = (-1 : Int)) := fun q => c52 ((i_eq tr50 (by decide : (-1 : Int32).toInt = (-1 : Int))).mpr q)
      exfalso; omega
    · have c52 : (-1 : Int) = (-1 : Int) := (i_eq tr50 (by decide : (-1 : Int32).toInt = (-1 : Int))).mp c52
      refine lv_iconst (v := 1) hx hb dL_alike_30 (by decide) ?_
      refine lv_goto (tgt := 35) hx hb dL_alike_31 (by decide) ?_
      refine lv_istore (lv' := [(5, .int 1), (4, .int 0), (3, .int 0), (0, .ref (g.2.2.1 x)), (1, .ref (g.2.2.1 kd)), (2, .ref (g.2.2.1 kb))]) hx hb dL_alike_35 hl (by decide) rfl (fun ls hl => ?_)
      refine lv_iconst (v := 0) hx hb dL_alike_37 (by decide) ?_
      refine lv_istore (lv' := [(6, .int 0), (5, .int 1), (4, .int 0), (3, .int 0), (0, .ref (g.2.2.1 x)), (1, .ref (g.2.2.1 kd)), (2, .ref (g.2.2.1 kb))]) hx hb dL_alike_38 hl (by decide) rfl (fun ls hl => ?_)
      exact ih40 0 0 0 0 h _ _ _ w (lv_sub hl [4, 5, 6, 3, 2, 1, 0] rfl) (Nat.zero_le _) rfl rfl ((by decide : (0 : Int32).toInt = ((0 : Nat) : Int))) C D Bt rfl (by omega)

abbrev rm_L_told : Room := { frames := 6, cells := 0, slots := 0, locals := 136 }
set_option maxHeartbeats 4000000 in
set_option maxRecDepth 100000 in
theorem c_L_told (l : Launch) {g : GE} {h : Nat → va_E} {x : Nat} {st0 : ST} (C : ClsA g h x st0) {kd : Nat} {gd : Nat → Int32} (D : RaA g h kd 0 13 gd) (hkd : x + 143 ≤ kd) (AD : AlD (sM st0) gd) (hn4 : pN (sM st0) ≤ 4) (p2 : Int32) : MI l yL_told wsL_told rm_L_told [.ref (g.2.2.1 x), .ref (g.2.2.1 kd), .int p2] g h (fun r h2 => (∀ k, ¬ (x ≤ k ∧ k < x + 143) → h2 k = h k) ∧ ∃ s2 : ST, ClsA g h2 x s2 ∧ AcQ (sM st0) p2 r.toInt (sM s2) ∧ sV s2 = sV st0) := by
  refine Met.ofW (cc := cL_told) (maxL := 4) (ret := (some .int)) (by decide) rfl ?_
  intro p e s m args below meth c s₁ B hml hv
  obtain ⟨rfl, w0⟩ := hv
  have hx := B.exec
  have hb := B.bytes
  have hr := B.returns
  have hts := atoms_spec (ws := wsL_told) B.pre
  have hown : s.vm.findClass RL = some m.cls := findClass_of_methodNamed B.named
  have hlocks := B.notSynchronized
  have w := w0.start
  clear w0
  have hl := lv_entry ([.ref (g.2.2.1 x), .ref (g.2.2.1 kd), .int p2]) (n := 4) (Nat.le_of_ble_eq_true rfl)
  rw [lg_entry_eq]
  generalize (lg_sl ([.ref (g.2.2.1 x), .ref (g.2.2.1 kd), .int p2]) ++ List.replicate (4 - (lg_sl ([.ref (g.2.2.1 x), .ref (g.2.2.1 kd), .int p2])).length) Slot.unset).toArray = ls at hl ⊢
  have hl : lv_has ls 4 [(0, .ref (g.2.2.1 x)), (1, .ref (g.2.2.1 kd)), (2, .int p2)] := hl
  have hfr : ∀ k_, ¬ (x ≤ k_ ∧ k_ < x + 143) → h k_ = h k_ := fun _ _ => rfl
  have eF_ : acF p2 = lowF (p2 >>> ((3 : Int32) &&& 31)) 5 := rfl
  have eW_ : acW p2 = lowF p2 8 := rfl
  have eK_ : acK p2 = lowF (p2 >>> ((6 : Int32) &&& 31)) 5 := rfl
  have eL_ : acL p2 = lowF (p2 >>> ((12 : Int32) &&& 31)) 14 := rfl
  have eA_ : acA (sM st0) p2 = lowF (p2 >>> ((6 : Int32) &&& 31)) (pL (sM st0) (lowF (p2 >>> ((3 : Int32) &&& 31)) 5) + 1) := rfl
  have ePL_ : pL (sM st0) (acF p2) = pL (sM st0) (lowF (p2 >>> ((3 : Int32) &&& 31)) 5) := rfl
  have ePK_ : pK (sM st0) (acF p2) = pK (sM st0) (lowF (p2 >>> ((3 : Int32) &&& 31)) 5) := rfl
  have eMB_ : mCode (pB (sM st0) (acF p2) (acA (sM st0) p2)) = mCode (pB (sM st0) (lowF (p2 >>> ((3 : Int32) &&& 31)) 5) (lowF (p2 >>> ((6 : Int32) &&& 31)) (pL (sM st0) (lowF (p2 >>> ((3 : Int32) &&& 31)) 5) + 1))) := rfl
  have eML_ : mCode (acL p2) = mCode (lowF (p2 >>> ((12 : Int32) &&& 31)) 14) := rfl
  refine lv_iload_n hx hb dL_told_0 rfl (lv_at hl 2 rfl) ?_
  refine lv_iconst (v := 3) hx hb dL_told_1 (by decide) ?_
  refine lv_ishr hx hb dL_told_2 ?_
  refine lv_topi (fun y1 ey1 => ?_)
  subst ey1
  refine lv_iconst (v := 5) hx hb dL_told_3 (by decide) ?_
  refine r_callI w (va_runS (As := [.int ((p2 >>> ((3 : Int32) &&& 31))), .int 5]) (rest := []) ⟨hx, hb, hml, hown, hts⟩ (c_L_low l (g := g) (h := h) ((p2 >>> ((3 : Int32) &&& 31))) 5 (by decide : (5 : Int32).toInt = ((5 : Nat) : Int)) (by omega)) (va_cwS 2 hts gL_told_L_low rfl rfl rfl (by decide +kernel) ⟨Nat.le_of_ble_eq_true rfl, Nat.le_of_ble_eq_true rfl⟩) (r_preS w) rfl rfl hl.1 rfl (lv_room (Nat.le_of_ble_eq_true rfl)) dL_told_4 ⟨Nat.zero_le _, Nat.zero_le _⟩) (fun r3 h2 H locs hp w => ?_)
  obtain ⟨eh_, qq4⟩ := hp
  have eh_ := eh_.symm
  subst eh_
  have hlt_r3 := lowF_lt (v := (p2 >>> ((3 : Int32) &&& 31))) (n := 5) (by omega)
  refine lv_istore_n (lv' := [(3, .int r3), (0, .ref (g.2.2.1 x)), (1, .ref (g.2.2.1 kd)), (2, .int p2)]) hx hb dL_told_7 rfl hl (by decide) rfl (fun ls hl => ?_)
  refine lv_iload_n hx hb dL_told_8 rfl (lv_at hl 3 rfl) ?_
  refine lv_bipush (v := 8) hx hb dL_told_9 (by decide) ?_
  refine r_callI w (va_runS (As := [.int p2, .int 8]) (rest := []) ⟨hx, hb, hml, hown, hts⟩ (c_L_low l (g := g) (h := h) p2 8 (by decide : (8 : Int32).toInt = ((8 : Nat) : Int)) (by omega)) (va_cwS 2 hts gL_told_L_low rfl rfl rfl (by decide +kernel) ⟨Nat.le_of_ble_eq_true rfl, Nat.le_of_ble_eq_true rfl⟩) (r_preS w) rfl rfl hl.1 rfl (lv_room (Nat.le_of_ble_eq_true rfl)) dL_told_11 ⟨Nat.zero_le _, Nat.zero_le _⟩) (fun r6 h5 H locs hp w => ?_)
  obtain ⟨eh_, qq7⟩ := hp
  have eh_ := eh_.symm
  subst eh_
  have hlt_r6 := lowF_lt (v := p2) (n := 8) (by omega)
  refine lv_iconst (v := 5) hx hb dL_told_14 (by decide) ?_
  refine lv_icmp_le (tgt := 32) hx hb dL_told_15 (by decide) (fun c8 => ?_) (fun c8 => ?_)
  · have c8 : (((lowF p2 8) : Nat) : Int) ≤ ((5 : Nat) : Int) := (i_le qq7 (by decide : (5 : Int32).toInt = ((5 : Nat) : Int))).mp c8
    have f0h := qq4
    refine lv_aload_n hx hb dL_told_32 rfl (lv_at hl 1 rfl) ?_
    refine lv_iload_n hx hb dL_told_33 rfl (lv_at hl 0 rfl) ?_
    refine lv_iload_n hx hb dL_told_34 rfl (lv_at hl 0 rfl) ?_
    refine lv_aload_n hx hb dL_told_35 rfl (lv_at hl 2 rfl) ?_
    refine lv_bipush (v := 12) hx hb dL_told_36 (by decide) ?_
    refine r_iald (j := 12) hx hb w D.1 D.2 (by decide : (12 : Int32).toInt = ((12 : Nat) : Int)) (by omega) dL_told_38 ?_
    refine lv_icmp_lt (tgt := 46) hx hb dL_told_39 (by decide) (fun c9 => ?_) (fun c9 => ?_)
    · have c9 : (((lowF ((p2 >>> ((3 : Int32) &&& 31))) 5) : Nat) : Int) < (((pN (sM st0)) : Nat) : Int) := (i_lt qq4 AD.1).mp c9
      have hfl_ := (AD.2 (acF p2) (by omega)).2.2.2
      refine lv_iload_n hx hb dL_told_46 rfl (lv_at hl 3 rfl) ?_
      refine lv_bipush (v := 6) hx hb dL_told_47 (by decide) ?_
      refine lv_ishr hx hb dL_told_49 ?_
      refine lv_topi (fun y10 ey10 => ?_)
      subst ey10
      refine lv_aload_n hx hb dL_told_50 rfl (lv_at hl 2 rfl) ?_
      refine lv_bipush (v := 8) hx hb dL_told_51 (by decide) ?_
      refine lv_iload_n hx hb dL_told_53 rfl (lv_at hl 0 rfl) ?_
      refine lv_iadd hx hb dL_told_54 ?_
      refine lv_topi (fun y11 ey11 => ?_)
      have ty11 : y11.toInt = (((8 + (lowF ((p2 >>> ((3 : Int32) &&& 31))) 5)) : Nat) : Int) := i_addN ey11 (by decide : (8 : Int32).toInt = ((8 : Nat) : Int)) qq4 (by omega)
      refine r_iald (j := (8 + (lowF ((p2 >>> ((3 : Int32) &&& 31))) 5))) hx hb w D.1 D.2 ty11 (by omega) dL_told_55 ?_
      refine lv_iconst (v := 1) hx hb dL_told_56 (by decide) ?_
      refine lv_iadd hx hb dL_told_57 ?_
      refine lv_topi (fun y12 ey12 => ?_)
      have ty12 : y12.toInt = ((((pL (sM st0) ((lowF ((p2 >>> ((3 : Int32) &&& 31))) 5))) + 1) : Nat) : Int) := i_addN ey12 (AD.2 ((lowF ((p2 >>> ((3 : Int32) &&& 31))) 5)) (by omega)).2.2.1 (by decide : (1 : Int32).toInt = ((1 : Nat) : Int)) (by omega)
      refine r_callI w (va_runS (As := [.int ((p2 >>> ((6 : Int32) &&& 31))), .int y12]) (rest := [.int r3, .ref (g.2.2.1 x)]) ⟨hx, hb, hml, hown, hts⟩ (c_L_low l (g := g) (h := h) ((p2 >>> ((6 : Int32) &&& 31))) y12 ty12 (by omega)) (va_cwS 2 hts gL_told_L_low rfl rfl rfl (by decide +kernel) ⟨Nat.le_of_ble_eq_true rfl, Nat.le_of_ble_eq_true rfl⟩) (r_preS w) rfl rfl hl.1 rfl (lv_room (Nat.le_of_ble_eq_true rfl)) dL_told_58 ⟨Nat.zero_le _, Nat.zero_le _⟩) (fun r14 h13 H locs hp w => ?_)
      obtain ⟨eh_, qq15⟩ := hp
      have eh_ := eh_.symm
      subst eh_
      have hlt_r14 := lowF_lt (v := (p2 >>> ((6 : Int32) &&& 31))) (n := ((pL (sM st0) ((lowF ((p2 >>> ((3 : Int32) &&& 31))) 5))) + 1)) (by omega)
      refine lv_iload_n hx hb dL_told_61 rfl (lv_at hl 3 rfl) ?_
      refine lv_bipush (v := 12) hx hb dL_told_62 (by decide) ?_
      refine lv_ishr hx hb dL_told_64 ?_
      refine lv_topi (fun y16 ey16 => ?_)
      subst ey16
      refine lv_bipush (v := 14) hx hb dL_told_65 (by decide) ?_
      refine r_callI w (va_runS (As := [.int ((p2 >>> ((12 : Int32) &&& 31))), .int 14]) (rest := [.int r14, .int r3, .ref (g.2.2.1 x)]) ⟨hx, hb, hml, hown, hts⟩ (c_L_low l (g := g) (h := h) ((p2 >>> ((12 : Int32) &&& 31))) 14 (by decide : (14 : Int32).toInt = ((14 : Nat) : Int)) (by omega)) (va_cwS 2 hts gL_told_L_low rfl rfl rfl (by decide +kernel) ⟨Nat.le_of_ble_eq_true rfl, Nat.le_of_ble_eq_true rfl⟩) (r_preS w) rfl rfl hl.1 rfl (lv_room (Nat.le_of_ble_eq_true rfl)) dL_told_67 ⟨Nat.zero_le _, Nat.zero_le _⟩) (fun r18 h17 H locs hp w => ?_)
      obtain ⟨eh_, qq19⟩ := hp
      have eh_ := eh_.symm
      subst eh_
      have hlt_r18 := lowF_lt (v := (p2 >>> ((12 : Int32) &&& 31))) (n := 14) (by omega)
      refine r_callI w (va_runS (As := [.int r18]) (rest := [.int r14, .int r3, .ref (g.2.2.1 x)]) ⟨hx, hb, hml, hown, hts⟩ (c_L_letter l (g := g) (h := h) r18 qq19 (by omega)) (va_cwS 1 hts gL_told_L_letter rfl rfl rfl (by decide +kernel) ⟨Nat.le_of_ble_eq_true rfl, Nat.le_of_ble_eq_true rfl⟩) (r_preS w) rfl rfl hl.1 rfl (lv_room (Nat.le_of_ble_eq_true rfl)) dL_told_70 ⟨Nat.zero_le _, Nat.zero_le _⟩) (fun r21 h20 H locs hp w => ?_)
      obtain ⟨eh_, qq22⟩ := hp
      have eh_ := eh_.symm
      subst eh_
      have lxh := qq22
      have atq := qq15
      refine r_callI w (va_runV (As := [.int r3, .int r14, .int r21]) (rest := []) ⟨hx, hb, hml, hown, hts⟩ (c_X8_put l C r3 r14 r21) (cwV 3 hts gL_told_X8_put rfl rfl rfl (by decide +kernel) ⟨Nat.le_of_ble_eq_true rfl, Nat.le_of_ble_eq_true rfl⟩) (r_preV w (by have := C.hN; omega) C.ob.choose_spec rfl) rfl rfl hl.1 rfl (lv_room (Nat.le_of_ble_eq_true rfl)) dL_told_73 ⟨Nat.zero_le _, Nat.zero_le _⟩) (fun r24 h23 H locs hp w => ?_)
      obtain ⟨hfk25, sk25, C, Ak25⟩ := hp
      have D := D.fr (h' := h23) (fun k_ h1_ h2_ => hfk25 k_ (by omega))
      have hfr : ∀ k_, ¬ (x ≤ k_ ∧ k_ < x + 143) → h23 k_ = h k_ := fun k_ hk_ => (hfk25 k_ (by omega))
      refine r_iret (v := r24) hx hb hr hlocks w dL_told_76 ?_
      exact ⟨hfr, sk25, C, put_ac Ak25 (by omega) f0h (fun q_ => atq) lxh⟩
    · have c9 : ¬ ((((lowF ((p2 >>> ((3 : Int32) &&& 31))) 5) : Nat) : Int) < (((pN (sM st0)) : Nat) : Int)) := fun q => c9 ((i_lt qq4 AD.1).mpr q)
      refine lv_iconst (v := 0) hx hb dL_told_42 (by decide) ?_
      refine lv_goto (tgt := 61) hx hb dL_told_43 (by decide) ?_
      refine lv_iload_n hx hb dL_told_61 rfl (lv_at hl 3 rfl) ?_
      refine lv_bipush (v := 12) hx hb dL_told_62 (by decide) ?_
      refine lv_ishr hx hb dL_told_64 ?_
      refine lv_topi (fun y26 ey26 => ?_)
      subst ey26
      refine lv_bipush (v := 14) hx hb dL_told_65 (by decide) ?_
      refine r_callI w (va_runS (As := [.int ((p2 >>> ((12 : Int32) &&& 31))), .int 14]) (rest := [.int 0, .int r3, .ref (g.2.2.1 x)]) ⟨hx, hb, hml, hown, hts⟩ (c_L_low l (g := g) (h := h) ((p2 >>> ((12 : Int32) &&& 31))) 14 (by decide : (14 : Int32).toInt = ((14 : Nat) : Int)) (by omega)) (va_cwS 2 hts gL_told_L_low rfl rfl rfl (by decide +kernel) ⟨Nat.le_of_ble_eq_true rfl, Nat.le_of_ble_eq_true rfl⟩) (r_preS w) rfl rfl hl.1 rfl (lv_room (Nat.le_of_ble_eq_true rfl)) dL_told_67 ⟨Nat.zero_le _, Nat.zero_le _⟩) (fun r28 h27 H locs hp w => ?_)
      obtain ⟨eh_, qq29⟩ := hp
      have eh_ := eh_.symm
      subst eh_
      have hlt_r28 := lowF_lt (v := (p2 >>> ((12 : Int32) &&& 31))) (n := 14) (by omega)
      refine r_callI w (va_runS (As := [.int r28]) (rest := [.int 0, .int r3, .ref (g.2.2.1 x)]) ⟨hx, hb, hml, hown, hts⟩ (c_L_letter l (g := g) (h := h) r28 qq29 (by omega)) (va_cwS 1 hts gL_told_L_letter rfl rfl rfl (by decide +kernel) ⟨Nat.le_of_ble_eq_true rfl, Nat.le_of_ble_eq_true rfl⟩) (r_preS w) rfl rfl hl.1 rfl (lv_room (Nat.le_of_ble_eq_true rfl)) dL_told_70 ⟨Nat.zero_le _, Nat.zero_le _⟩) (fun r31 h30 H locs hp w => ?_)
      obtain ⟨eh_, qq32⟩ := hp
      have eh_ := eh_.symm
      subst eh_
      have lxh := qq32
      have atq := (by decide : (0 : Int32).toInt = ((0 : Nat) : Int))
      refine r_callI w (va_runV (As := [.int r3, .int 0, .int r31]) (rest := []) ⟨hx, hb, hml, hown, hts⟩ (c_X8_put l C r3 0 r31) (cwV 3 hts gL_told_X8_put rfl rfl rfl (by decide +kernel) ⟨Nat.le_of_ble_eq_true rfl, Nat.le_of_ble_eq_true rfl⟩) (r_preV w (by have := C.hN; omega) C.ob.choose_spec rfl) rfl rfl hl.1 rfl (lv_room (Nat.le_of_ble_eq_true rfl)) dL_told_73 ⟨Nat.zero_le _, Nat.zero_le _⟩) (fun r34 h33 H locs hp w => ?_)
      obtain ⟨hfk35, sk35, C, Ak35⟩ := hp
      have D := D.fr (h' := h33) (fun k_ h1_ h2_ => hfk35 k_ (by omega))
      have hfr : ∀ k_, ¬ (x ≤ k_ ∧ k_ < x + 143) → h33 k_ = h k_ := fun k_ hk_ => (hfk35 k_ (by omega))
      refine r_iret (v := r34) hx hb hr hlocks w dL_told_76 ?_
      exact ⟨hfr, sk35, C, put_ac Ak35 (by omega) f0h (fun q_ => by omega) lxh⟩
  · have c8 : ¬ ((((lowF p2 8) : Nat) : Int) ≤ ((5 : Nat) : Int)) := fun q => c8 ((i_le qq7 (by decide : (5 : Int32).toInt = ((5 : Nat) : Int))).mpr q)
    have f0h := qq4
    refine lv_aload_n hx hb dL_told_18 rfl (lv_at hl 1 rfl) ?_
    refine lv_iload_n hx hb dL_told_19 rfl (lv_at hl 0 rfl) ?_
    refine lv_iload_n hx hb dL_told_20 rfl (lv_at hl 3 rfl) ?_
    refine lv_bipush (v := 6) hx hb dL_told_21 (by decide) ?_
    refine lv_ishr hx hb dL_told_23 ?_
    refine lv_topi (fun y36 ey36 => ?_)
    subst ey36
    refine lv_iconst (v := 5) hx hb dL_told_24 (by decide) ?_
    refine r_callI w (va_runS (As := [.int ((p2 >>> ((6 : Int32) &&& 31))), .int 5]) (rest := [.int r3, .ref (g.2.2.1 x)]) ⟨hx, hb, hml, hown, hts⟩ (c_L_low l (g := g) (h := h) ((p2 >>> ((6 : Int32) &&& 31))) 5 (by decide : (5 : Int32).toInt = ((5 : Nat) : Int)) (by omega)) (va_cwS 2 hts gL_told_L_low rfl rfl rfl (by decide +kernel) ⟨Nat.le_of_ble_eq_true rfl, Nat.le_of_ble_eq_true rfl⟩) (r_preS w) rfl rfl hl.1 rfl (lv_room (Nat.le_of_ble_eq_true rfl)) dL_told_25 ⟨Nat.zero_le _, Nat.zero_le _⟩) (fun r38 h37 H locs hp w => ?_)
    obtain ⟨eh_, qq39⟩ := hp
    have eh_ := eh_.symm
    subst eh_
    have hlt_r38 := lowF_lt (v := (p2 >>> ((6 : Int32) &&& 31))) (n := 5) (by omega)
    have kxh := qq39
    refine r_callI w (va_runV (As := [.int r3, .int r38]) (rest := []) ⟨hx, hb, hml, hown, hts⟩ (c_X8_rename l C r3 r38) (cwV 2 hts gL_told_X8_rename rfl rfl rfl (by decide +kernel) ⟨Nat.le_of_ble_eq_true rfl, Nat.le_of_ble_eq_true rfl⟩) (r_preV w (by have := C.hN; omega) C.ob.choose_spec rfl) rfl rfl hl.1 rfl (lv_room (Nat.le_of_ble_eq_true rfl)) dL_told_28 ⟨Nat.zero_le _, Nat.zero_le _⟩) (fun r41 h40 H locs hp w => ?_)
    obtain ⟨hfk42, sk42, C, Ak42⟩ := hp
    have D := D.fr (h' := h40) (fun k_ h1_ h2_ => hfk42 k_ (by omega))
    have hfr : ∀ k_, ¬ (x ≤ k_ ∧ k_ < x + 143) → h40 k_ = h k_ := fun k_ hk_ => (hfk42 k_ (by omega))
    refine r_iret (v := r41) hx hb hr hlocks w dL_told_31 ?_
    exact ⟨hfr, sk42, C, ren_ac Ak42 (by omega) f0h kxh⟩

abbrev rm_L_acts : Room := { frames := 3, cells := 0, slots := 0, locals := 65 }
set_option maxHeartbeats 4000000 in
set_option maxRecDepth 100000 in
theorem c_L_acts (l : Launch) {g : GE} {h : Nat → va_E} {kd kb : Nat} {gd gb : Nat → Int32} (D : RaA g h kd 0 13 gd) (Bt : RaA g h kb 0 64 gb) (hdb : kd ≠ kb) {M : PRG} (hP : PV M) (AD : AlD M gd) (AB : AlB M gb) (p2 : Int32) : MI l yL_acts wsL_acts rm_L_acts [.ref (g.2.2.1 kd), .ref (g.2.2.1 kb), .int p2] g h (fun r h2 => (∀ k, ¬ (k = kd ∨ k = kb) → h2 k = h k) ∧ ∃ (M2 : PRG) (gd2 gb2 : Nat → Int32), RaA g h2 kd 0 13 gd2 ∧ RaA g h2 kb 0 64 gb2 ∧ AlD M2 gd2 ∧ AlB M2 gb2 ∧ AcQ M p2 r.toInt M2) := by
  refine Met.ofW (cc := cL_acts) (maxL := 7) (ret := (some .int)) (by decide) rfl ?_
  intro p e s m args below meth c s₁ B hml hv
  obtain ⟨rfl, w0⟩ := hv
  have hx := B.exec
  have hb := B.bytes
  have hr := B.returns
  have hts := atoms_spec (ws := wsL_acts) B.pre
  have hown : s.vm.findClass RL = some m.cls := findClass_of_methodNamed B.named
  have hlocks := B.notSynchronized
  have w := w0.start
  clear w0
  have hl := lv_entry ([.ref (g.2.2.1 kd), .ref (g.2.2.1 kb), .int p2]) (n := 7) (Nat.le_of_ble_eq_true rfl)
  rw [lg_entry_eq]
  generalize (lg_sl ([.ref (g.2.2.1 kd), .ref (g.2.2.1 kb), .int p2]) ++ List.replicate (7 - (lg_sl ([.ref (g.2.2.1 kd), .ref (g.2.2.1 kb), .int p2])).length) Slot.unset).toArray = ls at hl ⊢
  have hl : lv_has ls 7 [(0, .ref (g.2.2.1 kd)), (1, .ref (g.2.2.1 kb)), (2, .int p2)] := hl
  have hn4 := hP.2.1
  have hfr : ∀ k_, ¬ (k_ = kd ∨ k_ = kb) → h k_ = h k_ := fun _ _ => rfl
  have eF_ : acF p2 = lowF (p2 >>> ((3 : Int32) &&& 31)) 5 := rfl
  have eW_ : acW p2 = lowF p2 8 := rfl
  have eK_ : acK p2 = lowF (p2 >>> ((6 : Int32) &&& 31)) 5 := rfl
  have eL_ : acL p2 = lowF (p2 >>> ((12 : Int32) &&& 31)) 14 := rfl
  have eA_ : acA M p2 = lowF (p2 >>> ((6 : Int32) &&& 31)) (pL M (lowF (p2 >>> ((3 : Int32) &&& 31)) 5) + 1) := rfl
  have ePL_ : pL M (acF p2) = pL M (lowF (p2 >>> ((3 : Int32) &&& 31)) 5) := rfl
  have ePK_ : pK M (acF p2) = pK M (lowF (p2 >>> ((3 : Int32) &&& 31)) 5) := rfl
  have eMB_ : mCode (pB M (acF p2) (acA M p2)) = mCode (pB M (lowF (p2 >>> ((3 : Int32) &&& 31)) 5) (lowF (p2 >>> ((6 : Int32) &&& 31)) (pL M (lowF (p2 >>> ((3 : Int32) &&& 31)) 5) + 1))) := rfl
  have eML_ : mCode (acL p2) = mCode (lowF (p2 >>> ((12 : Int32) &&& 31)) 14) := rfl
  refine lv_iload_n hx hb dL_acts_0 rfl (lv_at hl 2 rfl) ?_
  refine lv_iconst (v := 3) hx hb dL_acts_1 (by decide) ?_
  refine lv_ishr hx hb dL_acts_2 ?_
  refine lv_topi (fun y1 ey1 => ?_)
  subst ey1
  refine lv_iconst (v := 5) hx hb dL_acts_3 (by decide) ?_
  refine r_callI w (va_runS (As := [.int ((p2 >>> ((3 : Int32) &&& 31))), .int 5]) (rest := []) ⟨hx, hb, hml, hown, hts⟩ (c_L_low l (g := g) (h := h) ((p2 >>> ((3 : Int32) &&& 31))) 5 (by decide : (5 : Int32).toInt = ((5 : Nat) : Int)) (by omega)) (va_cwS 2 hts gL_acts_L_low rfl rfl rfl (by decide +kernel) ⟨Nat.le_of_ble_eq_true rfl, Nat.le_of_ble_eq_true rfl⟩) (r_preS w) rfl rfl hl.1 rfl (lv_room (Nat.le_of_ble_eq_true rfl)) dL_acts_4 ⟨Nat.zero_le _, Nat.zero_le _⟩) (fun r3 h2 H locs hp w => ?_)
  obtain ⟨eh_, qq4⟩ := hp
  have eh_ := eh_.symm
  subst eh_
  have hlt_r3 := lowF_lt (v := (p2 >>> ((3 : Int32) &&& 31))) (n := 5) (by omega)
  refine lv_istore_n (lv' := [(3, .int r3), (0, .ref (g.2.2.1 kd)), (1, .ref (g.2.2.1 kb)), (2, .int p2)]) hx hb dL_acts_7 rfl hl (by decide) rfl (fun ls hl => ?_)
  refine lv_iload_n hx hb dL_acts_8 rfl (lv_at hl 0 rfl) ?_
  refine lv_aload_n hx hb dL_acts_9 rfl (lv_at hl 1 rfl) ?_
  refine lv_bipush (v := 12) hx hb dL_acts_10 (by decide) ?_
  refine r_iald (j := 12) hx hb w D.1 D.2 (by decide : (12 : Int32).toInt = ((12 : Nat) : Int)) (by omega) dL_acts_12 ?_
  refine lv_icmp_lt (tgt := 18) hx hb dL_acts_13 (by decide) (fun c5 => ?_) (fun c5 => ?_)
  · have c5 : (((lowF ((p2 >>> ((3 : Int32) &&& 31))) 5) : Nat) : Int) < (((pN M) : Nat) : Int) := (i_lt qq4 AD.1).mp c5
    have hfl_ := (AD.2 (acF p2) (by omega)).2.2.2
    have hmy_ : acA M p2 < pL M (acF p2) → mMay (pN M) (pA M) (acF p2) (pB M (acF p2) (acA M p2)) := fun z_ => ((hP.2.2 (acF p2) (by omega)).2.2.2.2.1 _ z_).2.1
    have hk3_ := (hP.2.2 (acF p2) (by omega)).2.1
    refine lv_iload_n hx hb dL_acts_18 rfl (lv_at hl 3 rfl) ?_
    refine lv_bipush (v := 8) hx hb dL_acts_19 (by decide) ?_
    refine r_callI w (va_runS (As := [.int p2, .int 8]) (rest := []) ⟨hx, hb, hml, hown, hts⟩ (c_L_low l (g := g) (h := h) p2 8 (by decide : (8 : Int32).toInt = ((8 : Nat) : Int)) (by omega)) (va_cwS 2 hts gL_acts_L_low rfl rfl rfl (by decide +kernel) ⟨Nat.le_of_ble_eq_true rfl, Nat.le_of_ble_eq_true rfl⟩) (r_preS w) rfl rfl hl.1 rfl (lv_room (Nat.le_of_ble_eq_true rfl)) dL_acts_21 ⟨Nat.zero_le _, Nat.zero_le _⟩) (fun r7 h6 H locs hp w => ?_)
    obtain ⟨eh_, qq8⟩ := hp
    have eh_ := eh_.symm
    subst eh_
    have hlt_r7 := lowF_lt (v := p2) (n := 8) (by omega)
    refine lv_iconst (v := 5) hx hb dL_acts_24 (by decide) ?_
    refine lv_icmp_le (tgt := 88) hx hb dL_acts_25 (by decide) (fun c9 => ?_) (fun c9 => ?_)
    · have c9 : (((lowF p2 8) : Nat) : Int) ≤ ((5 : Nat) : Int) := (i_le qq8 (by decide : (5 : Int32).toInt = ((5 : Nat) : Int))).mp c9
      refine lv_iload_n hx hb dL_acts_88 rfl (lv_at hl 3 rfl) ?_
      refine lv_bipush (v := 6) hx hb dL_acts_89 (by decide) ?_
      refine lv_ishr hx hb dL_acts_91 ?_
      refine lv_topi (fun y10 ey10 => ?_)
      subst ey10
      refine lv_aload_n hx hb dL_acts_92 rfl (lv_at hl 1 rfl) ?_
      refine lv_bipush (v := 8) hx hb dL_acts_93 (by decide) ?_
      refine lv_iload_n hx hb dL_acts_95 rfl (lv_at hl 0 rfl) ?_
      refine lv_iadd hx hb dL_acts_96 ?_
      refine lv_topi (fun y11 ey11 => ?_)
      have ty11 : y11.toInt = (((8 + (lowF ((p2 >>> ((3 : Int32) &&& 31))) 5)) : Nat) : Int) := i_addN ey11 (by decide : (8 : Int32).toInt = ((8 : Nat) : Int)) qq4 (by omega)
      refine r_iald (j := (8 + (lowF ((p2 >>> ((3 : Int32) &&& 31))) 5))) hx hb w D.1 D.2 ty11 (by omega) dL_acts_97 ?_
      refine lv_iconst (v := 1) hx hb dL_acts_98 (by decide) ?_
      refine lv_iadd hx hb dL_acts_99 ?_
      refine lv_topi (fun y12 ey12 => ?_)
      have ty12 : y12.toInt = ((((pL M ((lowF ((p2 >>> ((3 : Int32) &&& 31))) 5))) + 1) : Nat) : Int) := i_addN ey12 (AD.2 ((lowF ((p2 >>> ((3 : Int32) &&& 31))) 5)) (by omega)).2.2.1 (by decide : (1 : Int32).toInt = ((1 : Nat) : Int)) (by omega)
      refine r_callI w (va_runS (As := [.int ((p2 >>> ((6 : Int32) &&& 31))), .int y12]) (rest := []) ⟨hx, hb, hml, hown, hts⟩ (c_L_low l (g := g) (h := h) ((p2 >>> ((6 : Int32) &&& 31))) y12 ty12 (by omega)) (va_cwS 2 hts gL_acts_L_low rfl rfl rfl (by decide +kernel) ⟨Nat.le_of_ble_eq_true rfl, Nat.le_of_ble_eq_true rfl⟩) (r_preS w) rfl rfl hl.1 rfl (lv_room (Nat.le_of_ble_eq_true rfl)) dL_acts_100 ⟨Nat.zero_le _, Nat.zero_le _⟩) (fun r14 h13 H locs hp w => ?_)
      obtain ⟨eh_, qq15⟩ := hp
      have eh_ := eh_.symm
      subst eh_
      have hlt_r14 := lowF_lt (v := (p2 >>> ((6 : Int32) &&& 31))) (n := ((pL M ((lowF ((p2 >>> ((3 : Int32) &&& 31))) 5))) + 1)) (by omega)
      refine lv_istore (lv' := [(4, .int r14), (3, .int r3), (0, .ref (g.2.2.1 kd)), (1, .ref (g.2.2.1 kb)), (2, .int p2)]) hx hb dL_acts_103 hl (by decide) rfl (fun ls hl => ?_)
      refine lv_iload_n hx hb dL_acts_105 rfl (lv_at hl 4 rfl) ?_
      refine lv_bipush (v := 12) hx hb dL_acts_106 (by decide) ?_
      refine lv_ishr hx hb dL_acts_108 ?_
      refine lv_topi (fun y16 ey16 => ?_)
      subst ey16
      refine lv_bipush (v := 14) hx hb dL_acts_109 (by decide) ?_
      refine r_callI w (va_runS (As := [.int ((p2 >>> ((12 : Int32) &&& 31))), .int 14]) (rest := []) ⟨hx, hb, hml, hown, hts⟩ (c_L_low l (g := g) (h := h) ((p2 >>> ((12 : Int32) &&& 31))) 14 (by decide : (14 : Int32).toInt = ((14 : Nat) : Int)) (by omega)) (va_cwS 2 hts gL_acts_L_low rfl rfl rfl (by decide +kernel) ⟨Nat.le_of_ble_eq_true rfl, Nat.le_of_ble_eq_true rfl⟩) (r_preS w) rfl rfl hl.1 rfl (lv_room (Nat.le_of_ble_eq_true rfl)) dL_acts_111 ⟨Nat.zero_le _, Nat.zero_le _⟩) (fun r18 h17 H locs hp w => ?_)
      obtain ⟨eh_, qq19⟩ := hp
      have eh_ := eh_.symm
      subst eh_
      have hlt_r18 := lowF_lt (v := (p2 >>> ((12 : Int32) &&& 31))) (n := 14) (by omega)
      refine r_callI w (va_runS (As := [.int r18]) (rest := []) ⟨hx, hb, hml, hown, hts⟩ (c_L_letter l (g := g) (h := h) r18 qq19 (by omega)) (va_cwS 1 hts gL_acts_L_letter rfl rfl rfl (by decide +kernel) ⟨Nat.le_of_ble_eq_true rfl, Nat.le_of_ble_eq_true rfl⟩) (r_preS w) rfl rfl hl.1 rfl (lv_room (Nat.le_of_ble_eq_true rfl)) dL_acts_114 ⟨Nat.zero_le _, Nat.zero_le _⟩) (fun r21 h20 H locs hp w => ?_)
      obtain ⟨eh_, qq22⟩ := hp
      have eh_ := eh_.symm
      subst eh_
      refine lv_istore (lv' := [(5, .int r21), (4, .int r14), (3, .int r3), (0, .ref (g.2.2.1 kd)), (1, .ref (g.2.2.1 kb)), (2, .int p2)]) hx hb dL_acts_117 hl (by decide) rfl (fun ls hl => ?_)
      have hc5 := qq22
      refine lv_iload hx hb dL_acts_119 (lv_at hl 1 rfl) ?_
      refine lv_aload_n hx hb dL_acts_121 rfl (lv_at hl 3 rfl) ?_
      refine lv_bipush (v := 8) hx hb dL_acts_122 (by decide) ?_
      refine lv_iload_n hx hb dL_acts_124 rfl (lv_at hl 2 rfl) ?_
      refine lv_iadd hx hb dL_acts_125 ?_
      refine lv_topi (fun y23 ey23 => ?_)
      have ty23 : y23.toInt = (((8 + (lowF ((p2 >>> ((3 : Int32) &&& 31))) 5)) : Nat) : Int) := i_addN ey23 (by decide : (8 : Int32).toInt = ((8 : Nat) : Int)) qq4 (by omega)
      refine r_iald (j := (8 + (lowF ((p2 >>> ((3 : Int32) &&& 31))) 5))) hx hb w D.1 D.2 ty23 (by omega) dL_acts_126 ?_
      refine lv_icmp_eq (tgt := 164) hx hb dL_acts_127 (by decide) (fun c24 => ?_) (fun c24 => ?_)
      · have c24 : (((lowF ((p2 >>> ((6 : Int32) &&& 31))) (((pL M ((lowF ((p2 >>> ((3 : Int32) &&& 31))) 5))) + 1))) : Nat) : Int) = (((pL M ((lowF ((p2 >>> ((3 : Int32) &&& 31))) 5))) : Nat) : Int) := (i_eq qq15 (AD.2 ((lowF ((p2 >>> ((3 : Int32) &&& 31))) 5)) (by omega)).2.2.1).mp c24
        refine lv_iconst (v := (-1)) hx hb dL_acts_164 (by decide) ?_
        refine r_iret (v := (-1)) hx hb hr hlocks w dL_acts_165 ?_
        exact ⟨hfr, M, _, _, D, Bt, AD, AB, Or.inr (Or.inr ⟨by omega, by omega, Or.inl ⟨fun q_ => by have q1_ := q_.1; omega, rfl, rfl⟩⟩)⟩
      · have c24 : ¬ ((((lowF ((p2 >>> ((6 : Int32) &&& 31))) (((pL M ((lowF ((p2 >>> ((3 : Int32) &&& 31))) 5))) + 1))) : Nat) : Int) = (((pL M ((lowF ((p2 >>> ((3 : Int32) &&& 31))) 5))) : Nat) : Int)) := fun q => c24 ((i_eq qq15 (AD.2 ((lowF ((p2 >>> ((3 : Int32) &&& 31))) 5)) (by omega)).2.2.1).mpr q)
        refine lv_aload_n hx hb dL_acts_130 rfl (lv_at hl 3 rfl) ?_
        refine lv_iload_n hx hb dL_acts_131 rfl (lv_at hl 2 rfl) ?_
        refine lv_iload hx hb dL_acts_132 (lv_at hl 0 rfl) ?_
        refine r_callI w (va_runS (As := [.ref (g.2.2.1 kd), .int r3, .int r21]) (rest := []) ⟨hx, hb, hml, hown, hts⟩ (c_L_parts l D AD.1 hn4 (AD.pa hP) r3 r21 qq4 (by omega)) (va_cwS 3 hts gL_acts_L_parts rfl rfl rfl (by decide +kernel) ⟨Nat.le_of_ble_eq_true rfl, Nat.le_of_ble_eq_true rfl⟩) (r_preS w) rfl rfl hl.1 rfl (lv_room (Nat.le_of_ble_eq_true rfl)) dL_acts_134 ⟨Nat.zero_le _, Nat.zero_le _⟩) (fun r26 h25 H locs hp w => ?_)
        obtain ⟨eh_, qq27⟩ := hp
        have eh_ := eh_.symm
        subst eh_
        have q1_ := qq27
        rw [hc5, mNum_code (lowF_lt (by decide))] at q1_
        refine lv_if_lt (tgt := 164) hx hb dL_acts_137 (by decide) (fun c28 => ?_) (fun c28 => ?_)
        · have c28 : r26.toInt < (0 : Int) := (i_lt (rfl : r26.toInt = r26.toInt) (rfl : (0 : Int32).toInt = 0)).mp c28
          refine lv_iconst (v := (-1)) hx hb dL_acts_164 (by decide) ?_
          refine r_iret (v := (-1)) hx hb hr hlocks w dL_acts_165 ?_
          exact ⟨hfr, M, _, _, D, Bt, AD, AB, Or.inr (Or.inr ⟨by omega, by omega, Or.inl ⟨fun q_ => by rcases q1_ with ⟨_, _, z_⟩ | ⟨z_, _⟩; omega; exact z_ ⟨lowF_lt (by decide), q_.2.1⟩, rfl, rfl⟩⟩)⟩
        · have c28 : ¬ (r26.toInt < (0 : Int)) := fun q => c28 ((i_lt (rfl : r26.toInt = r26.toInt) (rfl : (0 : Int32).toInt = 0)).mpr q)
          refine lv_aload_n hx hb dL_acts_140 rfl (lv_at hl 3 rfl) ?_
          refine lv_iload_n hx hb dL_acts_141 rfl (lv_at hl 2 rfl) ?_
          refine lv_iload hx hb dL_acts_142 (lv_at hl 0 rfl) ?_
          refine r_callI w (va_runS (As := [.ref (g.2.2.1 kd), .int r3, .int r21]) (rest := []) ⟨hx, hb, hml, hown, hts⟩ (c_L_parts l D AD.1 hn4 (AD.pa hP) r3 r21 qq4 (by omega)) (va_cwS 3 hts gL_acts_L_parts rfl rfl rfl (by decide +kernel) ⟨Nat.le_of_ble_eq_true rfl, Nat.le_of_ble_eq_true rfl⟩) (r_preS w) rfl rfl hl.1 rfl (lv_room (Nat.le_of_ble_eq_true rfl)) dL_acts_144 ⟨Nat.zero_le _, Nat.zero_le _⟩) (fun r30 h29 H locs hp w => ?_)
          obtain ⟨eh_, qq31⟩ := hp
          have eh_ := eh_.symm
          subst eh_
          have q2_ := qq31
          rw [hc5, mNum_code (lowF_lt (by decide))] at q2_
          have e12_ := q1_.inj q2_
          refine lv_aload_n hx hb dL_acts_147 rfl (lv_at hl 3 rfl) ?_
          refine lv_iload_n hx hb dL_acts_148 rfl (lv_at hl 2 rfl) ?_
          refine lv_aload_n hx hb dL_acts_149 rfl (lv_at hl 4 rfl) ?_
          refine lv_bipush (v := 16) hx hb dL_acts_150 (by decide) ?_
          refine lv_iload_n hx hb dL_acts_152 rfl (lv_at hl 2 rfl) ?_
          refine lv_imul hx hb dL_acts_153 ?_
          refine lv_topi (fun y32 ey32 => ?_)
          have ty32 : y32.toInt = (((16 * (lowF ((p2 >>> ((3 : Int32) &&& 31))) 5)) : Nat) : Int) := i_mulN ey32 (by decide : (16 : Int32).toInt = ((16 : Nat) : Int)) qq4 (by omega)
          refine lv_iload hx hb dL_acts_154 (lv_at hl 1 rfl) ?_
          refine lv_iadd hx hb dL_acts_156 ?_
          refine lv_topi (fun y33 ey33 => ?_)
          have ty33 : y33.toInt = ((((16 * (lowF ((p2 >>> ((3 : Int32) &&& 31))) 5)) + (lowF ((p2 >>> ((6 : Int32) &&& 31))) (((pL M ((lowF ((p2 >>> ((3 : Int32) &&& 31))) 5))) + 1)))) : Nat) : Int) := i_addN ey33 ty32 qq15 (by omega)
          refine r_iald (j := ((16 * (lowF ((p2 >>> ((3 : Int32) &&& 31))) 5)) + (lowF ((p2 >>> ((6 : Int32) &&& 31))) (((pL M ((lowF ((p2 >>> ((3 : Int32) &&& 31))) 5))) + 1))))) hx hb w Bt.1 Bt.2 ty33 (by omega) dL_acts_157 ?_
          refine r_callI w (va_runS (As := [.ref (g.2.2.1 kd), .int r3, .int (gb (((16 * (lowF ((p2 >>> ((3 : Int32) &&& 31))) 5)) + (lowF ((p2 >>> ((6 : Int32) &&& 31))) (((pL M ((lowF ((p2 >>> ((3 : Int32) &&& 31))) 5))) + 1))))))]) (rest := [.int r30]) ⟨hx, hb, hml, hown, hts⟩ (c_L_parts l D AD.1 hn4 (AD.pa hP) r3 (gb (((16 * (lowF ((p2 >>> ((3 : Int32) &&& 31))) 5)) + (lowF ((p2 >>> ((6 : Int32) &&& 31))) (((pL M ((lowF ((p2 >>> ((3 : Int32) &&& 31))) 5))) + 1)))))) qq4 (by omega)) (va_cwS 3 hts gL_acts_L_parts rfl rfl rfl (by decide +kernel) ⟨Nat.le_of_ble_eq_true rfl, Nat.le_of_ble_eq_true rfl⟩) (r_preS w) rfl rfl hl.1 rfl (lv_room (Nat.le_of_ble_eq_true rfl)) dL_acts_158 ⟨Nat.zero_le _, Nat.zero_le _⟩) (fun r35 h34 H locs hp w => ?_)
          obtain ⟨eh_, qq36⟩ := hp
          have eh_ := eh_.symm
          subst eh_
          have q3_ := qq36
          rw [AB (acF p2) (acA M p2) (by omega) (by omega), mNum_code (pB_lt hP (by omega) (by omega))] at q3_
          refine lv_icmp_eq (tgt := 166) hx hb dL_acts_161 (by decide) (fun c37 => ?_) (fun c37 => ?_)
          · have c37 : r30.toInt = r35.toInt := (i_eq (rfl : r30.toInt = r30.toInt) (rfl : r35.toInt = r35.toInt)).mp c37
            refine lv_aload_n hx hb dL_acts_166 rfl (lv_at hl 4 rfl) ?_
            refine lv_bipush (v := 16) hx hb dL_acts_167 (by decide) ?_
            refine lv_iload_n hx hb dL_acts_169 rfl (lv_at hl 2 rfl) ?_
            refine lv_imul hx hb dL_acts_170 ?_
            refine lv_topi (fun y38 ey38 => ?_)
            have ty38 : y38.toInt = (((16 * (lowF ((p2 >>> ((3 : Int32) &&& 31))) 5)) : Nat) : Int) := i_mulN ey38 (by decide : (16 : Int32).toInt = ((16 : Nat) : Int)) qq4 (by omega)
            refine lv_iload hx hb dL_acts_171 (lv_at hl 1 rfl) ?_
            refine lv_iadd hx hb dL_acts_173 ?_
            refine lv_topi (fun y39 ey39 => ?_)
            have ty39 : y39.toInt = ((((16 * (lowF ((p2 >>> ((3 : Int32) &&& 31))) 5)) + (lowF ((p2 >>> ((6 : Int32) &&& 31))) (((pL M ((lowF ((p2 >>> ((3 : Int32) &&& 31))) 5))) + 1)))) : Nat) : Int) := i_addN ey39 ty38 qq15 (by omega)
            refine r_iald (j := ((16 * (lowF ((p2 >>> ((3 : Int32) &&& 31))) 5)) + (lowF ((p2 >>> ((6 : Int32) &&& 31))) (((pL M ((lowF ((p2 >>> ((3 : Int32) &&& 31))) 5))) + 1))))) hx hb w Bt.1 Bt.2 ty39 (by omega) dL_acts_174 ?_
            refine lv_istore (lv' := [(6, .int (gb (((16 * (lowF ((p2 >>> ((3 : Int32) &&& 31))) 5)) + (lowF ((p2 >>> ((6 : Int32) &&& 31))) (((pL M ((lowF ((p2 >>> ((3 : Int32) &&& 31))) 5))) + 1))))))), (5, .int r21), (4, .int r14), (3, .int r3), (0, .ref (g.2.2.1 kd)), (1, .ref (g.2.2.1 kb)), (2, .int p2)]) hx hb dL_acts_175 hl (by decide) rfl (fun ls hl => ?_)
            have h6_ := (AB ((lowF ((p2 >>> ((3 : Int32) &&& 31))) 5)) ((lowF ((p2 >>> ((6 : Int32) &&& 31))) (((pL M ((lowF ((p2 >>> ((3 : Int32) &&& 31))) 5))) + 1)))) (by omega) (by omega))
            refine lv_aload_n hx hb dL_acts_177 rfl (lv_at hl 5 rfl) ?_
            refine lv_bipush (v := 16) hx hb dL_acts_178 (by decide) ?_
            refine lv_iload_n hx hb dL_acts_180 rfl (lv_at hl 3 rfl) ?_
            refine lv_imul hx hb dL_acts_181 ?_
            refine lv_topi (fun y40 ey40 => ?_)
            have ty40 : y40.toInt = (((16 * (lowF ((p2 >>> ((3 : Int32) &&& 31))) 5)) : Nat) : Int) := i_mulN ey40 (by decide : (16 : Int32).toInt = ((16 : Nat) : Int)) qq4 (by omega)
            refine lv_iload hx hb dL_acts_182 (lv_at hl 2 rfl) ?_
            refine lv_iadd hx hb dL_acts_184 ?_
            refine lv_topi (fun y41 ey41 => ?_)
            have ty41 : y41.toInt = ((((16 * (lowF ((p2 >>> ((3 : Int32) &&& 31))) 5)) + (lowF ((p2 >>> ((6 : Int32) &&& 31))) (((pL M ((lowF ((p2 >>> ((3 : Int32) &&& 31))) 5))) + 1)))) : Nat) : Int) := i_addN ey41 ty40 qq15 (by omega)
            refine lv_iload hx hb dL_acts_185 (lv_at hl 1 rfl) ?_
            refine r_iast (j := ((16 * (lowF ((p2 >>> ((3 : Int32) &&& 31))) 5)) + (lowF ((p2 >>> ((6 : Int32) &&& 31))) (((pL M ((lowF ((p2 >>> ((3 : Int32) &&& 31))) 5))) + 1))))) hx hb w Bt.1 Bt.2 ty41 (by omega) dL_acts_187 (fun h42 H locs eh42 w => ?_)
            have Bt := Bt.s eh42
            generalize egz43 : upd gb (((16 * (lowF ((p2 >>> ((3 : Int32) &&& 31))) 5)) + (lowF ((p2 >>> ((6 : Int32) &&& 31))) (((pL M ((lowF ((p2 >>> ((3 : Int32) &&& 31))) 5))) + 1))))) r21 = gz43 at Bt
            have hfr : ∀ k_, ¬ (k_ = kd ∨ k_ = kb) → h42 k_ = h k_ := fun k_ hk_ => by rw [eh42, va_up_ne _ _ (by omega)]
            have D := D.fr (h' := h42) (fun k_ h1_ h2_ => by rw [eh42, va_up_ne _ _ (by omega)])
            refine lv_iload hx hb dL_acts_188 (lv_at hl 0 rfl) ?_
            refine lv_iload hx hb dL_acts_190 (lv_at hl 1 rfl) ?_
            refine lv_icmp_ne (tgt := 200) hx hb dL_acts_192 (by decide) (fun c44 => ?_) (fun c44 => ?_)
            · have c44 : ¬ ((((mCode (pB M ((lowF ((p2 >>> ((3 : Int32) &&& 31))) 5)) ((lowF ((p2 >>> ((6 : Int32) &&& 31))) (((pL M ((lowF ((p2 >>> ((3 : Int32) &&& 31))) 5))) + 1)))))) : Nat) : Int) = (((mCode ((lowF ((p2 >>> ((12 : Int32) &&& 31))) 14))) : Nat) : Int)) := fun q => c44 ((i_eq (AB ((lowF ((p2 >>> ((3 : Int32) &&& 31))) 5)) ((lowF ((p2 >>> ((6 : Int32) &&& 31))) (((pL M ((lowF ((p2 >>> ((3 : Int32) &&& 31))) 5))) + 1)))) (by omega) (by omega)) qq22).mpr q)
              refine lv_iload hx hb dL_acts_200 (lv_at hl 0 rfl) ?_
              refine r_iret (v := gb (((16 * (lowF ((p2 >>> ((3 : Int32) &&& 31))) 5)) + (lowF ((p2 >>> ((6 : Int32) &&& 31))) (((pL M ((lowF ((p2 >>> ((3 : Int32) &&& 31))) 5))) + 1)))))) hx hb hr hlocks w dL_acts_202 ?_
              have hft_ : mFit M (acF p2) (acA M p2) (acL p2) := (pt_fit q2_ q3_ (lowF_lt (by decide)) (pB_lt hP (by omega) (by omega)) (hmy_ (by omega))).mp ⟨by omega, by omega⟩
              have e9_ : pB M (acF p2) (acA M p2) ≠ acL p2 := fun q_ => by have z_ := congrArg mCode q_; omega
              exact ⟨hfr, mSet M (acF p2) (acA M p2) (acL p2), _, _, D, Bt, AD.set, AB.put AD (by omega) (by omega) hc5 egz43, Or.inr (Or.inr ⟨by omega, by omega, Or.inr (Or.inr ⟨⟨by omega, hft_⟩, e9_, h6_, rfl⟩)⟩)⟩
            · have c44 : (((mCode (pB M ((lowF ((p2 >>> ((3 : Int32) &&& 31))) 5)) ((lowF ((p2 >>> ((6 : Int32) &&& 31))) (((pL M ((lowF ((p2 >>> ((3 : Int32) &&& 31))) 5))) + 1)))))) : Nat) : Int) = (((mCode ((lowF ((p2 >>> ((12 : Int32) &&& 31))) 14))) : Nat) : Int) := (i_eq (AB ((lowF ((p2 >>> ((3 : Int32) &&& 31))) 5)) ((lowF ((p2 >>> ((6 : Int32) &&& 31))) (((pL M ((lowF ((p2 >>> ((3 : Int32) &&& 31))) 5))) + 1)))) (by omega) (by omega)) qq22).mp c44
              refine lv_bipush (v := (-2)) hx hb dL_acts_195 (by decide) ?_
              refine lv_goto (tgt := 202) hx hb dL_acts_197 (by decide) ?_
              refine r_iret (v := (-2)) hx hb hr hlocks w dL_acts_202 ?_
              have hft_ : mFit M (acF p2) (acA M p2) (acL p2) := (pt_fit q2_ q3_ (lowF_lt (by decide)) (pB_lt hP (by omega) (by omega)) (hmy_ (by omega))).mp ⟨by omega, by omega⟩
              have e9_ : pB M (acF p2) (acA M p2) = acL p2 := mCode_inj (pB_lt hP (by omega) (by omega)) (lowF_lt (by decide)) (by omega)
              exact ⟨hfr, M, _, _, D, Bt, AD, AB.keep AD (by omega) (by omega) (hc5.trans (by rw [e9_])) egz43, Or.inr (Or.inr ⟨by omega, by omega, Or.inr (Or.inl ⟨⟨by omega, hft_⟩, e9_, rfl, rfl⟩)⟩)⟩
          · have c37 : ¬ (r30.toInt = r35.toInt) := fun q => c37 ((i_eq (rfl : r30.toInt = r30.toInt) (rfl : r35.toInt = r35.toInt)).mpr q)
            refine lv_iconst (v := (-1)) hx hb dL_acts_164 (by decide) ?_
            refine r_iret (v := (-1)) hx hb hr hlocks w dL_acts_165 ?_
            exact ⟨hfr, M, _, _, D, Bt, AD, AB, Or.inr (Or.inr ⟨by omega, by omega, Or.inl ⟨fun q_ => by have q1_ := (pt_fit q2_ q3_ (lowF_lt (by decide)) (pB_lt hP (by omega) (by omega)) (hmy_ (by omega))).mpr q_.2; omega, rfl, rfl⟩⟩)⟩
    · have c9 : ¬ ((((lowF p2 8) : Nat) : Int) ≤ ((5 : Nat) : Int)) := fun q => c9 ((i_le qq8 (by decide : (5 : Int32).toInt = ((5 : Nat) : Int))).mpr q)
      refine lv_iload_n hx hb dL_acts_28 rfl (lv_at hl 3 rfl) ?_
      refine lv_bipush (v := 6) hx hb dL_acts_29 (by decide) ?_
      refine lv_ishr hx hb dL_acts_31 ?_
      refine lv_topi (fun y45 ey45 => ?_)
      subst ey45
      refine lv_iconst (v := 5) hx hb dL_acts_32 (by decide) ?_
      refine r_callI w (va_runS (As := [.int ((p2 >>> ((6 : Int32) &&& 31))), .int 5]) (rest := []) ⟨hx, hb, hml, hown, hts⟩ (c_L_low l (g := g) (h := h) ((p2 >>> ((6 : Int32) &&& 31))) 5 (by decide : (5 : Int32).toInt = ((5 : Nat) : Int)) (by omega)) (va_cwS 2 hts gL_acts_L_low rfl rfl rfl (by decide +kernel) ⟨Nat.le_of_ble_eq_true rfl, Nat.le_of_ble_eq_true rfl⟩) (r_preS w) rfl rfl hl.1 rfl (lv_room (Nat.le_of_ble_eq_true rfl)) dL_acts_33 ⟨Nat.zero_le _, Nat.zero_le _⟩) (fun r47 h46 H locs hp w => ?_)
      obtain ⟨eh_, qq48⟩ := hp
      have eh_ := eh_.symm
      subst eh_
      have hlt_r47 := lowF_lt (v := (p2 >>> ((6 : Int32) &&& 31))) (n := 5) (by omega)
      refine lv_istore (lv' := [(4, .int r47), (3, .int r3), (0, .ref (g.2.2.1 kd)), (1, .ref (g.2.2.1 kb)), (2, .int p2)]) hx hb dL_acts_36 hl (by decide) rfl (fun ls hl => ?_)
      refine lv_aload_n hx hb dL_acts_38 rfl (lv_at hl 2 rfl) ?_
      refine lv_iconst (v := 4) hx hb dL_acts_39 (by decide) ?_
      refine lv_iload_n hx hb dL_acts_40 rfl (lv_at hl 1 rfl) ?_
      refine lv_iadd hx hb dL_acts_41 ?_
      refine lv_topi (fun y49 ey49 => ?_)
      have ty49 : y49.toInt = (((4 + (lowF ((p2 >>> ((3 : Int32) &&& 31))) 5)) : Nat) : Int) := i_addN ey49 (by decide : (4 : Int32).toInt = ((4 : Nat) : Int)) qq4 (by omega)
      refine r_iald (j := (4 + (lowF ((p2 >>> ((3 : Int32) &&& 31))) 5))) hx hb w D.1 D.2 ty49 (by omega) dL_acts_42 ?_
      refine lv_istore (lv' := [(5, .int (gd ((4 + (lowF ((p2 >>> ((3 : Int32) &&& 31))) 5))))), (4, .int r47), (3, .int r3), (0, .ref (g.2.2.1 kd)), (1, .ref (g.2.2.1 kb)), (2, .int p2)]) hx hb dL_acts_43 hl (by decide) rfl (fun ls hl => ?_)
      have hK4 := qq48
      have hK5 := (AD.2 ((lowF ((p2 >>> ((3 : Int32) &&& 31))) 5)) (by omega)).2.1
      refine lv_aload_n hx hb dL_acts_45 rfl (lv_at hl 3 rfl) ?_
      refine lv_iconst (v := 4) hx hb dL_acts_46 (by decide) ?_
      refine lv_iload_n hx hb dL_acts_47 rfl (lv_at hl 2 rfl) ?_
      refine lv_iadd hx hb dL_acts_48 ?_
      refine lv_topi (fun y50 ey50 => ?_)
      have ty50 : y50.toInt = (((4 + (lowF ((p2 >>> ((3 : Int32) &&& 31))) 5)) : Nat) : Int) := i_addN ey50 (by decide : (4 : Int32).toInt = ((4 : Nat) : Int)) qq4 (by omega)
      refine lv_iload hx hb dL_acts_49 (lv_at hl 1 rfl) ?_
      refine lv_iconst (v := 3) hx hb dL_acts_51 (by decide) ?_
      refine lv_icmp_le (tgt := 60) hx hb dL_acts_52 (by decide) (fun c51 => ?_) (fun c51 => ?_)
      · have c51 : (((lowF ((p2 >>> ((6 : Int32) &&& 31))) 5) : Nat) : Int) ≤ ((3 : Nat) : Int) := (i_le qq48 (by decide : (3 : Int32).toInt = ((3 : Nat) : Int))).mp c51
        refine lv_iload hx hb dL_acts_60 (lv_at hl 1 rfl) ?_
        refine r_iast (j := (4 + (lowF ((p2 >>> ((3 : Int32) &&& 31))) 5))) hx hb w D.1 D.2 ty50 (by omega) dL_acts_62 (fun h52 H locs eh52 w => ?_)
        have D := D.s eh52
        generalize egz53 : upd gd ((4 + (lowF ((p2 >>> ((3 : Int32) &&& 31))) 5))) r47 = gz53 at D
        have hfr : ∀ k_, ¬ (k_ = kd ∨ k_ = kb) → h52 k_ = h k_ := fun k_ hk_ => by rw [eh52, va_up_ne _ _ (by omega)]
        have Bt := Bt.fr (h' := h52) (fun k_ h1_ h2_ => by rw [eh52, va_up_ne _ _ (by omega)])
        refine lv_iload hx hb dL_acts_63 (lv_at hl 1 rfl) ?_
        refine lv_iconst (v := 3) hx hb dL_acts_65 (by decide) ?_
        refine lv_icmp_le (tgt := 73) hx hb dL_acts_66 (by decide) (fun c54 => ?_) (fun c54 => ?_)
        · have c54 : (((lowF ((p2 >>> ((6 : Int32) &&& 31))) 5) : Nat) : Int) ≤ ((3 : Nat) : Int) := (i_le qq48 (by decide : (3 : Int32).toInt = ((3 : Nat) : Int))).mp c54
          refine lv_iload hx hb dL_acts_73 (lv_at hl 0 rfl) ?_
          refine lv_iload hx hb dL_acts_75 (lv_at hl 1 rfl) ?_
          refine lv_icmp_ne (tgt := 85) hx hb dL_acts_77 (by decide) (fun c55 => ?_) (fun c55 => ?_)
          · have c55 : ¬ ((((pK M ((lowF ((p2 >>> ((3 : Int32) &&& 31))) 5))) : Nat) : Int) = (((lowF ((p2 >>> ((6 : Int32) &&& 31))) 5) : Nat) : Int)) := fun q => c55 ((i_eq (AD.2 ((lowF ((p2 >>> ((3 : Int32) &&& 31))) 5)) (by omega)).2.1 qq48).mpr q)
            refine lv_iload hx hb dL_acts_85 (lv_at hl 0 rfl) ?_
            refine r_iret (v := gd ((4 + (lowF ((p2 >>> ((3 : Int32) &&& 31))) 5)))) hx hb hr hlocks w dL_acts_87 ?_
            exact ⟨hfr, mKind M (acF p2) (acK p2), _, _, D, Bt, AD.kind hn4 (by omega) hK4 egz53, AB, Or.inr (Or.inl ⟨by omega, by omega, Or.inr (Or.inr ⟨by omega, by omega, hK5, rfl⟩)⟩)⟩
          · have c55 : (((pK M ((lowF ((p2 >>> ((3 : Int32) &&& 31))) 5))) : Nat) : Int) = (((lowF ((p2 >>> ((6 : Int32) &&& 31))) 5) : Nat) : Int) := (i_eq (AD.2 ((lowF ((p2 >>> ((3 : Int32) &&& 31))) 5)) (by omega)).2.1 qq48).mp c55
            refine lv_bipush (v := (-2)) hx hb dL_acts_80 (by decide) ?_
            refine lv_goto (tgt := 87) hx hb dL_acts_82 (by decide) ?_
            refine r_iret (v := (-2)) hx hb hr hlocks w dL_acts_87 ?_
            exact ⟨hfr, M, _, _, D, Bt, AD.keep hn4 (by omega) (hK4.trans (by omega)) egz53, AB, Or.inr (Or.inl ⟨by omega, by omega, Or.inr (Or.inl ⟨by omega, by omega, rfl, rfl⟩)⟩)⟩
        · have c54 : ¬ ((((lowF ((p2 >>> ((6 : Int32) &&& 31))) 5) : Nat) : Int) ≤ ((3 : Nat) : Int)) := fun q => c54 ((i_le qq48 (by decide : (3 : Int32).toInt = ((3 : Nat) : Int))).mpr q)
          exfalso; omega
      · have c51 : ¬ ((((lowF ((p2 >>> ((6 : Int32) &&& 31))) 5) : Nat) : Int) ≤ ((3 : Nat) : Int)) := fun q => c51 ((i_le qq48 (by decide : (3 : Int32).toInt = ((3 : Nat) : Int))).mpr q)
        refine lv_iload hx hb dL_acts_55 (lv_at hl 0 rfl) ?_
        refine lv_goto (tgt := 62) hx hb dL_acts_57 (by decide) ?_
        refine r_iast (j := (4 + (lowF ((p2 >>> ((3 : Int32) &&& 31))) 5))) hx hb w D.1 D.2 ty50 (by omega) dL_acts_62 (fun h56 H locs eh56 w => ?_)
        have D := D.s eh56
        generalize egz57 : upd gd ((4 + (lowF ((p2 >>> ((3 : Int32) &&& 31))) 5))) (gd ((4 + (lowF ((p2 >>> ((3 : Int32) &&& 31))) 5)))) = gz57 at D
        have hfr : ∀ k_, ¬ (k_ = kd ∨ k_ = kb) → h56 k_ = h k_ := fun k_ hk_ => by rw [eh56, va_up_ne _ _ (by omega)]
        have Bt := Bt.fr (h' := h56) (fun k_ h1_ h2_ => by rw [eh56, va_up_ne _ _ (by omega)])
        refine lv_iload hx hb dL_acts_63 (lv_at hl 1 rfl) ?_
        refine lv_iconst (v := 3) hx hb dL_acts_65 (by decide) ?_
        refine lv_icmp_le (tgt := 73) hx hb dL_acts_66 (by decide) (fun c58 => ?_) (fun c58 => ?_)
        · have c58 : (((lowF ((p2 >>> ((6 : Int32) &&& 31))) 5) : Nat) : Int) ≤ ((3 : Nat) : Int) := (i_le qq48 (by decide : (3 : Int32).toInt = ((3 : Nat) : Int))).mp c58
          exfalso; omega
        · have c58 : ¬ ((((lowF ((p2 >>> ((6 : Int32) &&& 31))) 5) : Nat) : Int) ≤ ((3 : Nat) : Int)) := fun q => c58 ((i_le qq48 (by decide : (3 : Int32).toInt = ((3 : Nat) : Int))).mpr q)
          refine lv_iconst (v := (-1)) hx hb dL_acts_69 (by decide) ?_
          refine lv_goto (tgt := 87) hx hb dL_acts_70 (by decide) ?_
          refine r_iret (v := (-1)) hx hb hr hlocks w dL_acts_87 ?_
          exact ⟨hfr, M, _, _, D, Bt, AD.keep hn4 (by omega) hK5 egz57, AB, Or.inr (Or.inl ⟨by omega, by omega, Or.inl ⟨by omega, rfl, rfl⟩⟩)⟩
  · have c5 : ¬ ((((lowF ((p2 >>> ((3 : Int32) &&& 31))) 5) : Nat) : Int) < (((pN M) : Nat) : Int)) := fun q => c5 ((i_lt qq4 AD.1).mpr q)
    refine lv_iconst (v := (-1)) hx hb dL_acts_16 (by decide) ?_
    refine r_iret (v := (-1)) hx hb hr hlocks w dL_acts_17 ?_
    exact ⟨hfr, M, _, _, D, Bt, AD, AB, Or.inl ⟨by omega, rfl, rfl⟩⟩

abbrev rm_L_some : Room := { frames := 7, cells := 0, slots := 0, locals := 159 }
set_option maxHeartbeats 4000000 in
set_option maxRecDepth 100000 in
theorem c_L_some (l : Launch) {g : GE} {h : Nat → va_E} {sa sL : Nat} {sx : Nat → Int32} {x : Nat} {st0 : ST} (C : ClsA g h x st0) {kd kb : Nat} {gd gb : Nat → Int32} (D : RaA g h kd 0 13 gd) (Bt : RaA g h kb 0 64 gb) (hkd : x + 143 ≤ kd) (hkb : x + 143 ≤ kb) (hdb : kd ≠ kb) (AD : AlD (sM st0) gd) (AB : AlB (sM st0) gb) (hv0 : sV st0 = 0) (p2 p3 : Int32) {k0 n0 : Nat} (hp2 : p2.toInt = (k0 : Int)) (hk0 : k0 ≤ 1000) (hp3 : p3.toInt = (n0 : Int)) (hn0 : n0 ≤ 1000) : MIs l yL_some wsL_some rm_L_some [.ref (g.2.2.1 x), .ref sa, .int p2, .int p3, .ref (g.2.2.1 kd), .ref (g.2.2.1 kb)] g h sa sL sx (fun r h2 => (∀ k_, ¬ (x ≤ k_ ∧ k_ < x + 143 ∨ k_ = kd ∨ k_ = kb) → h2 k_ = h k_) ∧ r = 1 ∧ ∃ (s2 : ST) (gd2 gb2 : Nat → Int32), ClsA g h2 x s2 ∧ RaA g h2 kd 0 13 gd2 ∧ RaA g h2 kb 0 64 gb2 ∧ AlD (sM s2) gd2 ∧ AlB (sM s2) gb2 ∧ sV s2 = 0) := by
  refine Met.ofW (cc := cL_some) (maxL := 9) (ret := (some .boolean)) (by decide) rfl ?_
  intro p e s m args below meth c s₁ B hml hv
  obtain ⟨rfl, w0, hsc⟩ := hv
  have hx := B.exec
  have hb := B.bytes
  have hr := B.returns
  have hts := atoms_spec (ws := wsL_some) B.pre
  have hown : s.vm.findClass RL = some m.cls := findClass_of_methodNamed B.named
  have hlocks := B.notSynchronized
  have w := w0.start
  clear w0
  have hl := lv_entry ([.ref (g.2.2.1 x), .ref sa, .int p2, .int p3, .ref (g.2.2.1 kd), .ref (g.2.2.1 kb)]) (n := 9) (Nat.le_of_ble_eq_true rfl)
  rw [lg_entry_eq]
  generalize (lg_sl ([.ref (g.2.2.1 x), .ref sa, .int p2, .int p3, .ref (g.2.2.1 kd), .ref (g.2.2.1 kb)]) ++ List.replicate (9 - (lg_sl ([.ref (g.2.2.1 x), .ref sa, .int p2, .int p3, .ref (g.2.2.1 kd), .ref (g.2.2.1 kb)])).length) Slot.unset).toArray = ls at hl ⊢
  have hl : lv_has ls 9 [(0, .ref (g.2.2.1 x)), (1, .ref sa), (2, .int p2), (3, .int p3), (4, .ref (g.2.2.1 kd)), (5, .ref (g.2.2.1 kb))] := hl
  have cuts : ∀ N : Nat, (∀ (i : Nat) (x7 : Int32) (st1 : ST) (gd1 : Nat → Int32) (gb1 : Nat → Int32) (hc : Nat → va_E) (H : Heap) (locs : List Loc) (ls : Array Slot), WD g (inW g) s hc H locs → lv_has ls 9 [(0, .ref (g.2.2.1 x)), (1, .ref sa), (2, .int p2), (3, .int p3), (4, .ref (g.2.2.1 kd)), (5, .ref (g.2.2.1 kb)), (6, .int 1), (7, .int x7)] → (i ≤ n0) → (x7.toInt = ((i : Nat) : Int)) → (ClsA g hc x st1) → (RaA g hc kd 0 13 gd1) → (RaA g hc kb 0 64 gb1) → (AlD (sM st1) gd1) → (AlB (sM st1) gb1) → (sV st1 = 0) → (∀ k_, ¬ (x ≤ k_ ∧ k_ < x + 143 ∨ k_ = kd ∨ k_ = kb) → hc k_ = h k_) → n0 - i < N → W p l e (headSpec wsL_some rm_L_some).room s m ([.ref (g.2.2.1 x), .ref sa, .int p2, .int p3, .ref (g.2.2.1 kd), .ref (g.2.2.1 kb)] : List Value).toArray below meth c H locs 0 0 (MQ below (va_Qi (fun r h2 => (∀ k_, ¬ (x ≤ k_ ∧ k_ < x + 143 ∨ k_ = kd ∨ k_ = kb) → h2 k_ = h k_) ∧ r = 1 ∧ ∃ (s2 : ST) (gd2 gb2 : Nat → Int32), ClsA g h2 x s2 ∧ RaA g h2 kd 0 13 gd2 ∧ RaA g h2 kb 0 64 gb2 ∧ AlD (sM s2) gd2 ∧ AlB (sM s2) gb2 ∧ sV s2 = 0) (Wd g) (inW g)) ([.ref (g.2.2.1 x), .ref sa, .int p2, .int p3, .ref (g.2.2.1 kd), .ref (g.2.2.1 kb)] : List Value).toArray s 0 0 (inW g)) (F0 m 6 ls [])) := by
    intro N
    induction N with
    | zero => exact by intros; omega
    | succ N ih =>
      have ih6 := ih
      · intro i x7 st1 gd1 gb1 hc H locs ls w hl hi hx7 C D Bt AD AB hv hfr hN_
        obtain ⟨hSV, -⟩ := id C
        have hPk := hSV.1
        have hn4 := hPk.2.1
        refine lv_iload hx hb dL_some_6 (lv_at hl 7 rfl) ?_
        refine lv_iload_n hx hb dL_some_8 rfl (lv_at hl 3 rfl) ?_
        refine lv_icmp_ge (tgt := 60) hx hb dL_some_9 (by decide) (fun c1 => ?_) (fun c1 => ?_)
        · have c1 : ((n0 : Nat) : Int) ≤ ((i : Nat) : Int) := (i_le hp3 hx7).mp c1
          refine lv_iload hx hb dL_some_60 (lv_at hl 6 rfl) ?_
          refine r_zret (v := 1) hx hb hr rfl hlocks w dL_some_62 ?_
          exact ⟨hfr, rfl, st1, gd1, gb1, C, D, Bt, AD, AB, hv⟩
        · have c1 : ¬ (((n0 : Nat) : Int) ≤ ((i : Nat) : Int)) := fun q => c1 ((i_le hp3 hx7).mpr q)
          refine lv_iload hx hb dL_some_12 (lv_at hl 6 rfl) ?_
          refine lv_if_eq (tgt := 60) hx hb dL_some_14 (by decide) (fun c2 => ?_) (fun c2 => ?_)
          · have c2 : ((1 : Nat) : Int) = (0 : Int) := (i_eq (by decide : (1 : Int32).toInt = ((1 : Nat) : Int)) (rfl : (0 : Int32).toInt = 0)).mp c2
            exfalso; omega
          · have c2 : ¬ (((1 : Nat) : Int) = (0 : Int)) := fun q => c2 ((i_eq (by decide : (1 : Int32).toInt = ((1 : Nat) : Int)) (rfl : (0 : Int32).toInt = 0)).mpr q)
            refine lv_aload_n hx hb dL_some_17 rfl (lv_at hl 1 rfl) ?_
            refine lv_iload_n hx hb dL_some_18 rfl (lv_at hl 2 rfl) ?_
            refine lv_iload hx hb dL_some_19 (lv_at hl 7 rfl) ?_
            refine lv_iadd hx hb dL_some_21 ?_
            refine lv_topi (fun y3 ey3 => ?_)
            have ty3 : y3.toInt = (((k0 + i) : Nat) : Int) := i_addN ey3 hp2 hx7 (by omega)
            refine r_callI w (va_runS (As := [.ref sa, .int y3]) (rest := []) ⟨hx, hb, hml, hown, hts⟩ (c_L_cell l (g := g) (h := hc) (sa := sa) (sL := sL) (sx := sx) y3 ty3) (va_cwS 2 hts gL_some_L_cell rfl rfl rfl (by decide +kernel) ⟨Nat.le_of_ble_eq_true rfl, Nat.le_of_ble_eq_true rfl⟩) (r_preSs w hsc) rfl rfl hl.1 rfl (lv_room (Nat.le_of_ble_eq_true rfl)) dL_some_22 ⟨Nat.zero_le _, Nat.zero_le _⟩) (fun r5 h4 H locs hp w => ?_)
            have eh_ := hp.symm
            subst eh_
            refine lv_istore (lv' := [(8, .int r5), (0, .ref (g.2.2.1 x)), (1, .ref sa), (2, .int p2), (3, .int p3), (4, .ref (g.2.2.1 kd)), (5, .ref (g.2.2.1 kb)), (6, .int 1), (7, .int x7)]) hx hb dL_some_25 hl (by decide) rfl (fun ls hl => ?_)
            refine lv_aload_n hx hb dL_some_27 rfl (lv_at hl 1 rfl) ?_
            refine lv_aload hx hb dL_some_28 (lv_at hl 5 rfl) ?_
            refine lv_iload hx hb dL_some_30 (lv_at hl 0 rfl) ?_
            refine r_callI w (va_runS (As := [.ref (g.2.2.1 x), .ref (g.2.2.1 kd), .int r5]) (rest := []) ⟨hx, hb, hml, hown, hts⟩ (c_L_told l C D (by omega) AD (by omega) r5) (va_cwS 3 hts gL_some_L_told rfl rfl rfl (by decide +kernel) ⟨Nat.le_of_ble_eq_true rfl, Nat.le_of_ble_eq_true rfl⟩) (r_preS w) rfl rfl hl.1 rfl (lv_room (Nat.le_of_ble_eq_true rfl)) dL_some_32 ⟨Nat.zero_le _, Nat.zero_le _⟩) (fun r7 h6 H locs hp w => ?_)
            obtain ⟨hfk8, sk8, C, Qk8, Vk8⟩ := hp
            have D := D.fr (h' := h6) (fun k_ h1_ h2_ => hfk8 k_ (by omega))
            have Bt := Bt.fr (h' := h6) (fun k_ h1_ h2_ => hfk8 k_ (by omega))
            have hfr : ∀ k_, ¬ (x ≤ k_ ∧ k_ < x + 143 ∨ k_ = kd ∨ k_ = kb) → h6 k_ = h k_ := fun k_ hk_ => (hfk8 k_ (by omega)).trans (hfr k_ hk_)
            refine lv_aload hx hb dL_some_35 (lv_at hl 5 rfl) ?_
            refine lv_aload hx hb dL_some_37 (lv_at hl 6 rfl) ?_
            refine lv_iload hx hb dL_some_39 (lv_at hl 0 rfl) ?_
            refine r_callI w (va_runS (As := [.ref (g.2.2.1 kd), .ref (g.2.2.1 kb), .int r5]) (rest := [.int r7]) ⟨hx, hb, hml, hown, hts⟩ (c_L_acts l D Bt (by omega) hPk AD AB r5) (va_cwS 3 hts gL_some_L_acts rfl rfl rfl (by decide +kernel) ⟨Nat.le_of_ble_eq_true rfl, Nat.le_of_ble_eq_true rfl⟩) (r_preS w) rfl rfl hl.1 rfl (lv_room (Nat.le_of_ble_eq_true rfl)) dL_some_41 ⟨Nat.zero_le _, Nat.zero_le _⟩) (fun r10 h9 H locs hp w => ?_)
            obtain ⟨hfk11, Mk11, gdk11, gbk11, D, Bt, ADk11, ABk11, Rk11⟩ := hp
            have C := C.fr (h' := h9) (fun k_ h1_ h2_ => hfk11 k_ (by omega))
            have hfr : ∀ k_, ¬ (x ≤ k_ ∧ k_ < x + 143 ∨ k_ = kd ∨ k_ = kb) → h9 k_ = h k_ := fun k_ hk_ => (hfk11 k_ (by omega)).trans (hfr k_ hk_)
            refine lv_icmp_ne (tgt := 51) hx hb dL_some_44 (by decide) (fun c12 => ?_) (fun c12 => ?_)
            · have c12 : ¬ (r7.toInt = r10.toInt) := fun q => c12 ((i_eq (rfl : r7.toInt = r7.toInt) (rfl : r10.toInt = r10.toInt)).mpr q)
              exact absurd (Qk8.inj Rk11).1 c12
            · have c12 : r7.toInt = r10.toInt := (i_eq (rfl : r7.toInt = r7.toInt) (rfl : r10.toInt = r10.toInt)).mp c12
              refine lv_iconst (v := 1) hx hb dL_some_47 (by decide) ?_
              refine lv_goto (tgt := 52) hx hb dL_some_48 (by decide) ?_
              refine lv_istore (lv' := [(6, .int 1), (8, .int r5), (0, .ref (g.2.2.1 x)), (1, .ref sa), (2, .int p2), (3, .int p3), (4, .ref (g.2.2.1 kd)), (5, .ref (g.2.2.1 kb)), (7, .int x7)]) hx hb dL_some_52 hl (by decide) rfl (fun ls hl => ?_)
              obtain ⟨y13, ey13⟩ : ∃ y : Int32, y = x7 + (1) := ⟨_, rfl⟩
              have ty13 : y13.toInt = (((i + 1) : Nat) : Int) := i_addN ey13 hx7 (by decide : (1 : Int32).toInt = ((1 : Nat) : Int)) (by omega)
              refine lv_iinc (v := y13) (lv' := [(7, .int y13), (6, .int 1), (8, .int r5), (0, .ref (g.2.2.1 x)), (1, .ref sa), (2, .int p2), (3, .int p3), (4, .ref (g.2.2.1 kd)), (5, .ref (g.2.2.1 kb))]) hx hb dL_some_54 hl (k := 8) rfl (by rw [ey13]; rfl) (by decide) rfl (fun ls hl => ?_)
              refine lv_goto (tgt := 6) hx hb dL_some_57 (by decide) ?_
              obtain ⟨-, eM_⟩ := Qk8.inj Rk11
              rw [← eM_] at ADk11 ABk11
              exact ih6 (i + 1) y13 sk8 gdk11 gbk11 h9 _ _ _ w (lv_sub hl [3, 4, 5, 6, 7, 8, 1, 0] rfl) (by omega) ty13 C D Bt ADk11 ABk11 (Vk8.trans hv) hfr (by omega)
  have ih6 := cuts (n0 + 1)
  refine lv_iconst (v := 1) hx hb dL_some_0 (by decide) ?_
  refine lv_istore (lv' := [(6, .int 1), (0, .ref (g.2.2.1 x)), (1, .ref sa), (2, .int p2), (3, .int p3), (4, .ref (g.2.2.1 kd)), (5, .ref (g.2.2.1 kb))]) hx hb dL_some_1 hl (by decide) rfl (fun ls hl => ?_)
  refine lv_iconst (v := 0) hx hb dL_some_3 (by decide) ?_
  refine lv_istore (lv' := [(7, .int 0), (6, .int 1), (0, .ref (g.2.2.1 x)), (1, .ref sa), (2, .int p2), (3, .int p3), (4, .ref (g.2.2.1 kd)), (5, .ref (g.2.2.1 kb))]) hx hb dL_some_4 hl (by decide) rfl (fun ls hl => ?_)
  exact ih6 0 0 st0 gd gb h _ _ _ w (lv_sub hl [2, 3, 4, 5, 6, 7, 1, 0] rfl) (Nat.zero_le _) ((by decide : (0 : Int32).toInt = ((0 : Nat) : Int))) C D Bt AD AB hv0 (fun _ _ => rfl) (by omega)

