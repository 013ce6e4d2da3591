-- ===== THE CLASS at x, 143 cells: the object; the text x + 1 (told x + 2); now x + 12; trial x + 21; the row of kept x + 30, kept x + 31, x + 40; history x + 49; the views x + 53 (values), 71 (roughly), 89 (finely), 107 (trial values), 125 (trial finely) =====
def kpF (g : GE) (x : Nat) : Nat → Option Nat := fun i => if i < 2 then some (g.2.2.1 (x + 31 + 9 * i)) else none
theorem kpF_in {g : GE} {x i : Nat} (h : i < 2) : kpF g x i = some (g.2.2.1 (x + 31 + 9 * i)) := if_pos h
def EvA (g : GE) (h : Nat → va_E) (x : Nat) (kn : Int32) : Prop :=
  x + 143 ≤ g.2.2.2 ∧ h x = .inr (6, [.ref (g.2.2.1 (x + 1)), .ref (g.2.2.1 (x + 12)), .ref (g.2.2.1 (x + 21)), .ref (g.2.2.1 (x + 30)), .int kn, .ref (g.2.2.1 (x + 49)), .ref (g.2.2.1 (x + 53)), .ref (g.2.2.1 (x + 71)), .ref (g.2.2.1 (x + 89)), .ref (g.2.2.1 (x + 107)), .ref (g.2.2.1 (x + 125))]) ∧
  h (x + 30) = .inl (g.2.1 3, 2, .inr (.inr (.inr (.inr (kpF g x)))))
section EVS
variable {g : GE} {h h' : Nat → va_E} {x o t v u n : Nat} {kn kn' : Int32} {M : PRG} {s : ST} {tx : Nat → Nat}
theorem EvA.fr (E : EvA g h x kn) (hf : ∀ k, x ≤ k → k < x + 143 → (k = x ∨ k = x + 30) → h' k = h k) : EvA g h' x kn := by
  obtain ⟨a0, a1, a2⟩ := E
  exact ⟨a0, by rw [hf _ (by omega) (by omega) (by omega)]; exact a1, by rw [hf _ (by omega) (by omega) (by omega)]; exact a2⟩
theorem EvA.s0 (E : EvA g h x kn) (e : h' = va_up h x (.inr (6, [.ref (g.2.2.1 (x + 1)), .ref (g.2.2.1 (x + 12)), .ref (g.2.2.1 (x + 21)), .ref (g.2.2.1 (x + 30)), .int kn', .ref (g.2.2.1 (x + 49)), .ref (g.2.2.1 (x + 53)), .ref (g.2.2.1 (x + 71)), .ref (g.2.2.1 (x + 89)), .ref (g.2.2.1 (x + 107)), .ref (g.2.2.1 (x + 125))]))) : EvA g h' x kn' := by
  obtain ⟨a0, a1, a2⟩ := E
  subst e
  exact ⟨a0, va_up_self _ _ _, by rw [va_up_ne _ _ (by omega)]; exact a2⟩
/-- a Program, whatever it holds; one that holds M -/
def PrX (g : GE) (h : Nat → va_E) (o : Nat) : Prop := ∃ (n : Int32) (ga gk gl : Nat → Int32) (gb : Nat → Nat → Int32), PrA g h o n ga gk gl gb
def PrE (g : GE) (h : Nat → va_E) (o : Nat) (M : PRG) : Prop := ∃ (n : Int32) (ga gk gl : Nat → Int32) (gb : Nat → Nat → Int32), PrA g h o n ga gk gl gb ∧ PrS M n ga gk gl gb
theorem PrX.fr (P : PrX g h o) (hf : ∀ k, o ≤ k → k < o + 9 → h' k = h k) : PrX g h' o := by
  obtain ⟨n, ga, gk, gl, gb, P⟩ := P
  exact ⟨n, ga, gk, gl, gb, P.fr hf⟩
theorem PrE.fr (P : PrE g h o M) (hf : ∀ k, o ≤ k → k < o + 9 → h' k = h k) : PrE g h' o M := by
  obtain ⟨n, ga, gk, gl, gb, P, S⟩ := P
  exact ⟨n, ga, gk, gl, gb, P.fr hf, S⟩
theorem PrE.any (P : PrE g h o M) : PrX g h o := by
  obtain ⟨n, ga, gk, gl, gb, P, S⟩ := P
  exact ⟨n, ga, gk, gl, gb, P⟩
/-- a Text of n signs -/
def TxE (g : GE) (h : Nat → va_E) (t n : Nat) (tx : Nat → Nat) : Prop := ∃ (ln at_ bd : Int32) (gs : Nat → Int32), TxA g h t ln at_ bd gs ∧ ln.toInt = ((n : Nat) : Int) ∧ ∀ i, i < n → (gs i).toInt = ((tx i : Nat) : Int)
theorem TxE.fr (T : TxE g h t n tx) (hf : ∀ k, t ≤ k → k < t + 11 → h' k = h k) : TxE g h' t n tx := by
  obtain ⟨ln, at_, bd, gs, T, a, b⟩ := T
  exact ⟨ln, at_, bd, gs, T.fr (fun k a b _ => hf k a b), a, b⟩
/-- a View, whatever it knows; one that knows nothing or all of M; one that knows all of M -/
def VwX (g : GE) (h : Nat → va_E) (v u : Nat) : Prop := ∃ (kk kc : Nat) (tk fz dp : Int32) (gp gg gs : Nat → Int32) (gd gt gc : Nat → Nat → Int32), VwA g h v u kk kc tk fz dp gp gg gs gd gt gc
def VwZ (g : GE) (h : Nat → va_E) (v u : Nat) : Prop := ∃ (kk kc : Nat) (tk dp : Int32) (gp gg gs : Nat → Int32) (gd gt gc : Nat → Nat → Int32), VwA g h v u kk kc tk 0 dp gp gg gs gd gt gc
def KnK (u : Nat) (M : PRG) (tk : Int32) (gt : Nat → Nat → Int32) : Prop := ∃ K, IsK u M K ∧ tk.toInt = ((K : Nat) : Int) ∧ TbS u M gt (mTab u M K)
def VwE (g : GE) (h : Nat → va_E) (v u : Nat) (M : PRG) : Prop := ∃ (kk kc : Nat) (tk fz dp : Int32) (gp gg gs : Nat → Int32) (gd gt gc : Nat → Nat → Int32), VwA g h v u kk kc tk fz dp gp gg gs gd gt gc ∧ (fz = 0 ∨ (fz = 1 ∧ KnK u M tk gt))
def VwS (g : GE) (h : Nat → va_E) (v u : Nat) (M : PRG) : Prop := ∃ (kk kc : Nat) (tk dp : Int32) (gp gg gs : Nat → Int32) (gd gt gc : Nat → Nat → Int32), VwA g h v u kk kc tk 1 dp gp gg gs gd gt gc ∧ KnK u M tk gt
theorem VwX.fr (V : VwX g h v u) (hf : ∀ k, v ≤ k → k < v + 18 → h' k = h k) : VwX g h' v u := by
  obtain ⟨kk, kc, tk, fz, dp, gp, gg, gs, gd, gt, gc, V⟩ := V
  exact ⟨kk, kc, tk, fz, dp, gp, gg, gs, gd, gt, gc, V.fr hf⟩
theorem VwE.fr (V : VwE g h v u M) (hf : ∀ k, v ≤ k → k < v + 18 → h' k = h k) : VwE g h' v u M := by
  obtain ⟨kk, kc, tk, fz, dp, gp, gg, gs, gd, gt, gc, V, a⟩ := V
  exact ⟨kk, kc, tk, fz, dp, gp, gg, gs, gd, gt, gc, V.fr hf, a⟩
theorem VwZ.fr (V : VwZ g h v u) (hf : ∀ k, v ≤ k → k < v + 18 → h' k = h k) : VwZ g h' v u := by
  obtain ⟨kk, kc, tk, dp, gp, gg, gs, gd, gt, gc, V⟩ := V
  exact ⟨kk, kc, tk, dp, gp, gg, gs, gd, gt, gc, V.fr hf⟩
theorem VwZ.e (V : VwZ g h v u) : VwE g h v u M := by
  obtain ⟨kk, kc, tk, dp, gp, gg, gs, gd, gt, gc, V⟩ := V
  exact ⟨kk, kc, tk, 0, dp, gp, gg, gs, gd, gt, gc, V, Or.inl rfl⟩
theorem VwS.e (V : VwS g h v u M) : VwE g h v u M := by
  obtain ⟨kk, kc, tk, dp, gp, gg, gs, gd, gt, gc, V, a⟩ := V
  exact ⟨kk, kc, tk, 1, dp, gp, gg, gs, gd, gt, gc, V, Or.inr ⟨rfl, a⟩⟩
theorem VwE.any (V : VwE g h v u M) : VwX g h v u := by
  obtain ⟨kk, kc, tk, fz, dp, gp, gg, gs, gd, gt, gc, V, a⟩ := V
  exact ⟨kk, kc, tk, fz, dp, gp, gg, gs, gd, gt, gc, V⟩
/-- an act: what it left is M, what was ahead of it M0 -/
def Act2 (M M0 : PRG) (f b9 : Nat) (b : Int32) : Prop := (b.toInt = -1 ∧ M0 = mKind M f b9) ∨ ∃ pl : Nat, b.toInt = ((pl : Nat) : Int) ∧ pl < pL M f ∧ M0 = mSet M f pl b9
def ActS (M M0 : PRG) (a b q : Int32) : Prop := ∃ f b9 : Nat, a.toInt = ((f : Nat) : Int) ∧ f < pN M ∧ q.toInt = ((b9 : Nat) : Int) ∧ Act2 M M0 f b9 b
/-- the state behind act i -/
def nxtM (s : ST) (i : Nat) : PRG := if i + 1 < sU s then sUs s (i + 1) else sM s
def HisS (s : ST) (c : Int32) (gf gp gq : Nat → Int32) : Prop := c.toInt = ((sU s : Nat) : Int) ∧ ∀ i, i < sU s → ActS (nxtM s i) (sUs s i) (gf i) (gp i) (gq i)
def HiE (g : GE) (h : Nat → va_E) (t : Nat) (s : ST) : Prop := ∃ (c : Int32) (gf gp gq : Nat → Int32), HiA g h t c gf gp gq ∧ HisS s c gf gp gq
theorem HiE.fr (K : HiE g h t s) (hf : ∀ k, t ≤ k → k < t + 4 → h' k = h k) : HiE g h' t s := by
  obtain ⟨c, gf, gp, gq, K, a⟩ := K
  exact ⟨c, gf, gp, gq, K.fr hf, a⟩
end EVS
theorem his_act {s : ST} {M' : PRG} {c c3 : Int32} {gf gp gq gf3 gp3 gq3 : Nat → Int32} {p0 p1 p2 : Int32} (H : HisS s c gf gp gq)
    (hz : (sU s < 8 ∧ c3.toInt = ((sU s + 1 : Nat) : Int) ∧ gf3 = upd gf (sU s) p0 ∧ gp3 = upd gp (sU s) p1 ∧ gq3 = upd gq (sU s) p2) ∨ (sU s = 8 ∧ c3.toInt = ((8 : Nat) : Int) ∧ gf3 = upd (va_cpy gf gf 1 0 7) 7 p0 ∧ gp3 = upd (va_cpy gp gp 1 0 7) 7 p1 ∧ gq3 = upd (va_cpy gq gq 1 0 7) 7 p2))
    (A : ActS M' (sM s) p0 p1 p2) : HisS (nAct s M') c3 gf3 gp3 gq3 := by
  rcases hz with ⟨a1, a2, rfl, rfl, rfl⟩ | ⟨a1, a2, rfl, rfl, rfl⟩
  · have e : nAct s M' = (M', (sU s + 1, fun i => if i = sU s then sM s else sUs s i), s.2.2) := by unfold nAct; rw [if_neg (by omega)]
    rw [e]
    refine ⟨a2, fun i hi => ?_⟩
    have hi' : i < sU s + 1 := hi
    show ActS (if i + 1 < sU s + 1 then (if i + 1 = sU s then sM s else sUs s (i + 1)) else M') (if i = sU s then sM s else sUs s i) _ _ _
    by_cases q : i = sU s
    · rw [q, if_neg (by omega), if_pos rfl, pk_us, pk_us, pk_us]; exact A
    · have h1 := H.2 i (by omega)
      unfold nxtM at h1
      rw [if_pos (by omega), if_neg q, pk_un q, pk_un q, pk_un q]
      by_cases z : i + 1 = sU s
      · rw [if_pos z]; rw [if_neg (by omega)] at h1; exact h1
      · rw [if_neg z]; rw [if_pos (by omega)] at h1; exact h1
  · have e : nAct s M' = (M', (8, fun i => if i = 7 then sM s else sUs s (i + 1)), s.2.2) := by unfold nAct; rw [if_pos a1]
    rw [e]
    refine ⟨a2, fun i hi => ?_⟩
    have hi' : i < 8 := hi
    show ActS (if i + 1 < 8 then (if i + 1 = 7 then sM s else sUs s (i + 1 + 1)) else M') (if i = 7 then sM s else sUs s (i + 1)) _ _ _
    by_cases q : i = 7
    · rw [q, if_neg (by omega), if_pos rfl, pk_us, pk_us, pk_us]; exact A
    · have h1 := H.2 (i + 1) (by omega)
      unfold nxtM at h1
      rw [if_pos (by omega), if_neg q, pk_un q, pk_un q, pk_un q, pk_cpy_in (Nat.zero_le _) (by omega), pk_cpy_in (Nat.zero_le _) (by omega), pk_cpy_in (Nat.zero_le _) (by omega), show 1 + (i - 0) = i + 1 by omega]
      by_cases z : i + 1 = 7
      · rw [if_pos z]; rw [if_neg (by omega)] at h1; exact h1
      · rw [if_neg z]; rw [if_pos (by omega)] at h1; exact h1
theorem his_back {s : ST} {c c2 : Int32} {gf gp gq : Nat → Int32} (H : HisS s c gf gp gq) (h0 : 0 < sU s) (hc : c2.toInt = ((sU s - 1 : Nat) : Int)) : HisS (sUs s (sU s - 1), (sU s - 1, sUs s), s.2.2) c2 gf gp gq := by
  refine ⟨hc, fun i hi => ?_⟩
  have hi' : i < sU s - 1 := hi
  have h1 := H.2 i (by omega)
  unfold nxtM at h1
  rw [if_pos (by omega)] at h1
  show ActS (if i + 1 < sU s - 1 then sUs s (i + 1) else sUs s (sU s - 1)) (sUs s i) _ _ _
  by_cases z : i + 1 < sU s - 1
  · rw [if_pos z]; exact h1
  · rw [if_neg z, show sU s - 1 = i + 1 by omega]; exact h1
theorem his_0 {M : PRG} {us : Nat → PRG} {w : (Nat × (Nat → PRG)) × (Nat × (Nat → Nat))} {c : Int32} {gf gp gq : Nat → Int32} (hc : c.toInt = 0) : HisS (M, (0, us), w) c gf gp gq :=
  ⟨hc, fun i hi => absurd (show i < 0 from hi) (Nat.not_lt_zero _)⟩
theorem HisS.cg {s s' : ST} {c : Int32} {gf gp gq : Nat → Int32} (H : HisS s c gf gp gq) (e1 : s'.1 = s.1) (e2 : s'.2.1 = s.2.1) : HisS s' c gf gp gq := by
  obtain ⟨M, U, w⟩ := s
  obtain ⟨M', U', w'⟩ := s'
  have e1' : M' = M := e1
  have e2' : U' = U := e2
  subst e1' e2'
  exact H
theorem act_set {M : PRG} {f pl k b9 : Nat} {a b q : Int32} (ha : a.toInt = ((f : Nat) : Int)) (hf : f < pN M) (hb : b.toInt = ((pl : Nat) : Int)) (hpl : pl < pL M f) (hq : q.toInt = ((b9 : Nat) : Int)) (e : pB M f pl = b9) : ActS (mSet M f pl k) M a b q :=
  ⟨f, b9, ha, hf, hq, Or.inr ⟨pl, hb, hpl, by rw [← e]; exact mSet_back.symm⟩⟩
theorem mKind_back {M : PRG} {f k : Nat} : mKind (mKind M f k) f (pK M f) = M := by
  unfold mKind
  show (pN M, pA M, fun a => if a = f then pK M f else if a = f then k else pK M a, pL M, pB M) = M
  have e : (fun a => if a = f then pK M f else if a = f then k else pK M a) = pK M := by
    funext a
    by_cases q : a = f
    · rw [if_pos q, q]
    · rw [if_neg q, if_neg q]
  rw [e]
theorem act_kind {M : PRG} {f k b9 : Nat} {a b q : Int32} (ha : a.toInt = ((f : Nat) : Int)) (hf : f < pN M) (hb : b.toInt = -1) (hq : q.toInt = ((b9 : Nat) : Int)) (e : pK M f = b9) : ActS (mKind M f k) M a b q :=
  ⟨f, b9, ha, hf, hq, Or.inl ⟨hb, by rw [← e]; exact mKind_back.symm⟩⟩
theorem csp_prs {M : PRG} {nn : Int32} {ga gk gl : Nat → Int32} {gb : Nat → Nat → Int32} (R : CSp M (pN M) nn ga gk gl gb) : PrS M nn ga gk gl gb :=
  ⟨R.1, fun i hi => (R.2.2.2.1 i hi).1, fun i hi => R.2.2.2.2.1 i hi, fun i hi => R.2.2.2.2.2.1 i hi, fun i hi j hj => R.2.2.2.2.2.2 i hi j hj⟩
/-- the class stands for s -/
def ClsA (g : GE) (h : Nat → va_E) (x : Nat) (s : ST) : Prop :=
  SV s ∧ (∃ kn, EvA g h x kn ∧ kn.toInt = ((sV s : Nat) : Int)) ∧ TxE g h (x + 1) (sL s) (sT s) ∧ PrX g h (x + 1 + 1) ∧ PrE g h (x + 12) (sM s) ∧ PrX g h (x + 21) ∧ (∀ i, i < 2 → PrX g h (x + 31 + 9 * i)) ∧ (∀ i, i < sV s → PrE g h (x + 31 + 9 * i) (sVs s i)) ∧ HiE g h (x + 49) s ∧
  VwE g h (x + 53) 0 (sM s) ∧ VwE g h (x + 71) 1 (sM s) ∧ VwE g h (x + 89) 2 (sM s) ∧ VwX g h (x + 107) 0 ∧ VwX g h (x + 125) 2
theorem ClsA.fr {g : GE} {h h' : Nat → va_E} {x : Nat} {s : ST} (C : ClsA g h x s) (hf : ∀ k, x ≤ k → k < x + 143 → h' k = h k) : ClsA g h' x s := by
  obtain ⟨a0, ⟨kn, a1, a2⟩, a3, a4, a5, a6, a7, a8, a9, b0, b1, b2, b3, b4⟩ := C
  have h2 : 2 ≥ sV s := a0.2.2.2.1
  exact ⟨a0, ⟨kn, a1.fr (fun k p q _ => hf k p q), a2⟩, a3.fr (fun k _ _ => hf k (by omega) (by omega)), a4.fr (fun k _ _ => hf k (by omega) (by omega)), a5.fr (fun k _ _ => hf k (by omega) (by omega)), a6.fr (fun k _ _ => hf k (by omega) (by omega)),
    fun i hi => (a7 i hi).fr (fun k _ _ => hf k (by omega) (by omega)), fun i hi => (a8 i hi).fr (fun k _ _ => hf k (by omega) (by omega)), a9.fr (fun k _ _ => hf k (by omega) (by omega)), b0.fr (fun k _ _ => hf k (by omega) (by omega)), b1.fr (fun k _ _ => hf k (by omega) (by omega)), b2.fr (fun k _ _ => hf k (by omega) (by omega)), b3.fr (fun k _ _ => hf k (by omega) (by omega)), b4.fr (fun k _ _ => hf k (by omega) (by omega))⟩
theorem isK_le {u : Nat} {M : PRG} : ∀ n k, k ≤ n → Stable u M k → ∃ K, IsK u M K
  | 0, k, hk, hs => ⟨k, hs, fun j hj => by omega⟩
  | n + 1, k, hk, hs => by
    by_cases q : ∃ j, j < k ∧ Stable u M j
    · obtain ⟨j, a, b⟩ := q
      exact isK_le n j (by omega) b
    · exact ⟨k, hs, fun j hj s => q ⟨j, hj, s⟩⟩
theorem isK_ex {u : Nat} {M : PRG} (hu : u < 3) (hP : PV M) : ∃ K, IsK u M K := by
  by_cases h : ∃ k, Stable u M k
  · obtain ⟨k, hk⟩ := h
    exact isK_le k k (Nat.le_refl _) hk
  · have := noStable_512 hu hP (k := 513) (fun j _ q => h ⟨j, q⟩)
    omega
theorem pow_c {b c : Nat} (hc : c ≤ 3) : (c = 0 ∧ b ^ c = 1) ∨ (c = 1 ∧ b ^ c = b) ∨ (c = 2 ∧ b ^ c = b * b) ∨ (c = 3 ∧ b ^ c = b * b * b) := by
  rcases (show c = 0 ∨ c = 1 ∨ c = 2 ∨ c = 3 by omega) with q | q | q | q <;> subst q
  · exact Or.inl ⟨rfl, rfl⟩
  · exact Or.inr (Or.inl ⟨rfl, Nat.pow_one b⟩)
  · exact Or.inr (Or.inr (Or.inl ⟨rfl, by rw [Nat.pow_succ, Nat.pow_one]⟩))
  · exact Or.inr (Or.inr (Or.inr ⟨rfl, by rw [Nat.pow_succ, Nat.pow_succ, Nat.pow_one]⟩))
/-- three digits are a row of c arguments just if what is behind c is 0 -/
theorem row_is {u c a b d : Nat} (hu : u < 3) (hc : c ≤ 3) (ha : a < mB u) (hb : b < mB u) (hd : d < mB u) : a + mB u * b + mB u * mB u * d < mB u ^ c ↔ mIs u c a b d := by
  refine ⟨fun h => ?_, fun h => mIx_lt hc h⟩
  refine mIs_of ha hb hd ?_ ?_ ?_ <;> intro q <;> rcases mB_c hu with ⟨_, e⟩ | ⟨_, e⟩ | ⟨_, e⟩ <;> rw [e] at h ha hb hd <;> have h2 := pow_c (b := mB u) hc <;> rw [e] at h2 <;> omega
theorem nact_sv {s : ST} {M' : PRG} (h : SV s) (hP : PV M') : SV (nAct s M') := by
  obtain ⟨h1, h2, h3, h4⟩ := h
  unfold nAct
  split
  · refine ⟨hP, by show 8 ≤ 8; omega, fun i hi => ?_, h4⟩
    show PV (if i = 7 then sM s else sUs s (i + 1))
    have hi' : i < 8 := hi
    split
    · exact h1
    · exact h3 (i + 1) (by omega)
  · refine ⟨hP, by show sU s + 1 ≤ 8; omega, fun i hi => ?_, h4⟩
    show PV (if i = sU s then sM s else sUs s i)
    have hi' : i < sU s + 1 := hi
    split
    · exact h1
    · exact h3 i (by omega)
theorem nxt_last {s : ST} (h : 0 < sU s) : nxtM s (sU s - 1) = sM s := by unfold nxtM; rw [if_neg (by omega)]
section HRQ
variable {p : Program} {l : Launch} {e : Env} {R : Room} {s : State} {m : MethodId} {args : Array Value} {below : List Frame} {meth : Method} {c : Code} {H : Heap} {locs : List Loc} {cells slots : Nat}
variable {cc : ByteArray} {pc : Nat} {ls : Array Slot} {g : GE} {h : Nat → va_E}
theorem r_qret {post : Option Nat → (Nat → va_E) → Prop} {q : Option Nat} {rt : FieldType} (hx : p.tables.exec = Jvm.exec) (hb : c.code = cc) (hr : meth.sig.returnType = some rt) (hrt : (∃ n, rt = .object n) ∨ ∃ t, rt = .array t) (hlocks : meth.locks = false) (w : WD g (inW g) s h H locs) (hdg : decode cc pc = .ok (.areturn, 1)) (hp : post q h) :
    W p l e R s m args below meth c H locs cells slots (MQ below (va_Qq post (Wd g) (inW g)) args s cells slots (inW g)) (F0 m pc ls [va_rf q]) :=
  W.aret hx hb hr hrt (by cases q; exact Or.inl rfl; exact Or.inr ⟨_, rfl⟩) (fun t ht hW => ⟨⟨q, h, rfl, hp, w.fin ht hW⟩, w.2.2.2.1.F ht⟩) w.2.2.2.1.2.2 hdg hlocks
end HRQ
theorem and_all : (List.range 8).all (fun x => (List.range 8).all fun b => ((nI x &&& nI b) == nI x) == (x &&& b == x)) = true := by decide +kernel
theorem and_iff {x y w : Int32} {a b : Nat} (hx : x.toInt = ((a : Nat) : Int)) (hy : y.toInt = ((b : Nat) : Int)) (ha : a < 8) (hb : b < 8) (e : w = x &&& y) : w = x ↔ a &&& b = a := by
  have := all_range (all_range and_all ha) hb
  simp only [beq_iff_eq] at this
  rw [e, i_ofN hx, i_ofN hy]
  constructor
  · intro h
    have h2 : (nI a &&& nI b == nI a) = true := by rw [h]; exact beq_self_eq_true _
    rw [this] at h2; exact beq_iff_eq.mp h2
  · intro h
    have h2 : (a &&& b == a) = true := by rw [h]; exact beq_self_eq_true a
    rw [← this] at h2; exact beq_iff_eq.mp h2
theorem inX8_solved_X0 : ∀ w ∈ wsX00, w ∈ wsX8_solved := by decide +kernel
theorem inX8_solved_X4 : ∀ w ∈ wsX40, w ∈ wsX8_solved := by decide +kernel
theorem inX8_solved_X6 : ∀ w ∈ wsX60, w ∈ wsX8_solved := by decide +kernel
theorem inX8_solved_X8 : ∀ w ∈ wsX80, w ∈ wsX8_solved := by decide +kernel
abbrev rm_X8_solved : Room := { frames := 6, cells := 0, slots := 0, locals := 136 }
set_option maxHeartbeats 4000000 in
set_option maxRecDepth 100000 in
theorem c_X8_solved (l : Launch) {g : GE} {h : Nat → va_E} {x : Nat} {kn : Int32} (E : EvA g h x kn) {v u : Nat} {M : PRG} (W : VwE g h v u M) {n : Int32} {ga gk gl : Nat → Int32} {gb : Nat → Nat → Int32} (P : PrA g h (x + 12) n ga gk gl gb) (S : PrS M n ga gk gl gb) (hP : PV M) (hdis : x + 53 ≤ v) : MQr l yX8_solved wsX8_solved rm_X8_solved [.ref (g.2.2.1 x), .ref (g.2.2.1 v)] g h (fun r h2 => (∀ k, ¬ (v ≤ k ∧ k < v + 18) → h2 k = h k) ∧ r = some (g.2.2.1 v) ∧ VwS g h2 v u M) := by
  refine Met.ofW (cc := cX8_solved) (maxL := 2) (ret := (some (.object "EarlyValues$View"))) (by decide) rfl ?_
  intro p e s m args below meth c s₁ B hml hv
  obtain ⟨rfl, w0⟩ := hv
  have hx := B.exec
  have hb := B.bytes
  have hr := B.returns
  have hts := atoms_spec (ws := wsX8_solved) B.pre
  have hown : s.vm.findClass RX8 = some m.cls := findClass_of_methodNamed B.named
  have hlocks := B.notSynchronized
  have w := w0.start
  clear w0
  have hl := lv_entry ([.ref (g.2.2.1 x), .ref (g.2.2.1 v)]) (n := 2) (Nat.le_of_ble_eq_true rfl)
  rw [lg_entry_eq]
  generalize (lg_sl ([.ref (g.2.2.1 x), .ref (g.2.2.1 v)]) ++ List.replicate (2 - (lg_sl ([.ref (g.2.2.1 x), .ref (g.2.2.1 v)])).length) Slot.unset).toArray = ls at hl ⊢
  have hl : lv_has ls 2 [(0, .ref (g.2.2.1 x)), (1, .ref (g.2.2.1 v))] := hl
  obtain ⟨kk, kc, tk, fz, dp, gp, gg, gs, gd, gt, gc, V, hz⟩ := W
  have hNv := V.hN
  have hNe := E.1
  have hfz_ : Bq fz (fz = 1) := by rcases hz with q_ | ⟨q_, -⟩; exact Or.inr ⟨q_, by rw [q_]; decide⟩; exact Or.inl ⟨q_, q_⟩
  have hfr : ∀ k_, ¬ (v ≤ k_ ∧ k_ < v + 18) → h k_ = h k_ := fun _ _ => rfl
  refine lv_aload_n hx hb dX8_solved_0 rfl (lv_at hl 1 rfl) ?_
  refine r_getV hx hb hts ⟨inX8_solved_X0, inX8_solved_X4, inX8_solved_X6⟩ hown w V.hu (by have := V.hN; omega) V.c0 9 (by decide) (hts (Cond.fieldLink RX8 222 "EarlyValues$View" "fresh" "Z") (List.mem_of_getElem? (i := 1) (by decide +kernel))) rfl rfl dX8_solved_1 ?_
  refine lv_if_ne (tgt := 15) hx hb dX8_solved_4 (by decide) (fun c1 => ?_) (fun c1 => ?_)
  · have c1 := hfz_.ne c1
    refine lv_aload_n hx hb dX8_solved_15 rfl (lv_at hl 1 rfl) ?_
    refine r_qret (q := (some (g.2.2.1 v))) hx hb hr (Or.inl ⟨_, rfl⟩) hlocks w dX8_solved_16 ?_
    obtain ⟨-, hq_⟩ := hz.resolve_left (fun q_ => by rw [q_] at c1; exact absurd c1 (by decide))
    subst c1
    exact ⟨hfr, rfl, _, _, _, _, _, _, _, _, _, _, V, hq_⟩
  · have c1 := hfz_.eq c1
    refine lv_aload_n hx hb dX8_solved_7 rfl (lv_at hl 1 rfl) ?_
    refine lv_aload_n hx hb dX8_solved_8 rfl (lv_at hl 0 rfl) ?_
    refine r_get (C := RX8) (T := TX8) (N := 11) (ci := 6) hx hb hts inX8_solved_X8 hown w (by have := E.1; omega) E.2.1 rfl 1 (by decide) (hts (Cond.fieldLink RX8 19 "EarlyValues" "now" "LEarlyValues$Program;") (List.mem_of_getElem? (i := 2) (by decide +kernel))) rfl rfl dX8_solved_9 ?_
    refine r_callV w (va_3 V.hu (fun q_ => va_runU (As := [.ref (g.2.2.1 (x + 12))]) (rest := []) ⟨hx, hb, hml, hown, hts⟩ (c_X7_solve l V P S hP (by omega)) (va_cwU 1 hts gX8_solved_X7_solve_u212X6 rfl rfl rfl rfl (by decide +kernel) ⟨Nat.le_of_ble_eq_true rfl, Nat.le_of_ble_eq_true rfl⟩) (r_preV w (by have := V.hN; omega) (V.ob (by subst q_; rfl)) rfl) rfl rfl hl.1 rfl (lv_room (Nat.le_of_ble_eq_true rfl)) dX8_solved_12 ⟨Nat.zero_le _, Nat.zero_le _⟩) (fun q_ => va_runU (As := [.ref (g.2.2.1 (x + 12))]) (rest := []) ⟨hx, hb, hml, hown, hts⟩ (c_X7_solve l V P S hP (by omega)) (va_cwU 1 hts gX8_solved_X7_solve_u212X4 rfl rfl rfl rfl (by decide +kernel) ⟨Nat.le_of_ble_eq_true rfl, Nat.le_of_ble_eq_true rfl⟩) (r_preV w (by have := V.hN; omega) (V.ob (by subst q_; rfl)) rfl) rfl rfl hl.1 rfl (lv_room (Nat.le_of_ble_eq_true rfl)) dX8_solved_12 ⟨Nat.zero_le _, Nat.zero_le _⟩) (fun q_ => va_runU (As := [.ref (g.2.2.1 (x + 12))]) (rest := []) ⟨hx, hb, hml, hown, hts⟩ (c_X7_solve l V P S hP (by omega)) (va_cwU 1 hts gX8_solved_X7_solve_u212X0 rfl rfl rfl rfl (by decide +kernel) ⟨Nat.le_of_ble_eq_true rfl, Nat.le_of_ble_eq_true rfl⟩) (r_preV w (by have := V.hN; omega) (V.ob (by subst q_; rfl)) rfl) rfl rfl hl.1 rfl (lv_room (Nat.le_of_ble_eq_true rfl)) dX8_solved_12 ⟨Nat.zero_le _, Nat.zero_le _⟩)) (fun h2 H locs hp w => ?_)
    obtain ⟨hfk3, kkk3, kck3, tkk3, dpk3, ggk3, gsk3, gtk3, gck3, K9, V, hK, htk, hT⟩ := hp
    have E := E.fr (h' := h2) (fun k_ h1_ h2_ h3_ => hfk3 k_ (by omega))
    have P := P.fr (h' := h2) (fun k_ h1_ h2_ => hfk3 k_ (by omega))
    have hfr : ∀ k_, ¬ (v ≤ k_ ∧ k_ < v + 18) → h2 k_ = h k_ := fun k_ hk_ => (hfk3 k_ (by omega))
    refine lv_aload_n hx hb dX8_solved_15 rfl (lv_at hl 1 rfl) ?_
    refine r_qret (q := (some (g.2.2.1 v))) hx hb hr (Or.inl ⟨_, rfl⟩) hlocks w dX8_solved_16 ?_
    exact ⟨hfr, rfl, _, _, _, _, _, _, _, _, _, _, V, K9, hK, htk, hT⟩

theorem inX8_strictView_X8 : ∀ w ∈ wsX80, w ∈ wsX8_strictView := by decide +kernel
abbrev rm_X8_strictView : Room := { frames := 0, cells := 0, slots := 0, locals := 0 }
set_option maxHeartbeats 4000000 in
set_option maxRecDepth 100000 in
theorem c_X8_strictView (l : Launch) {g : GE} {h : Nat → va_E} {x : Nat} {kn : Int32} (E : EvA g h x kn) (p0 : Int32) : MQr l yX8_strictView wsX8_strictView rm_X8_strictView [.ref (g.2.2.1 x), .int p0] g h (fun r h2 => h2 = h ∧ ((p0.toInt = 0 ∧ r = some (g.2.2.1 (x + 71))) ∨ (p0.toInt = 1 ∧ r = some (g.2.2.1 (x + 89))) ∨ (p0.toInt = 2 ∧ r = some (g.2.2.1 (x + 53))) ∨ (¬ (0 ≤ p0.toInt ∧ p0.toInt ≤ 2) ∧ r = none))) := by
  refine Met.ofW (cc := cX8_strictView) (maxL := 2) (ret := (some (.object "EarlyValues$View"))) (by decide) rfl ?_
  intro p e s m args below meth c s₁ B hml hv
  obtain ⟨rfl, w0⟩ := hv
  have hx := B.exec
  have hb := B.bytes
  have hr := B.returns
  have hts := atoms_spec (ws := wsX8_strictView) B.pre
  have hown : s.vm.findClass RX8 = some m.cls := findClass_of_methodNamed B.named
  have hlocks := B.notSynchronized
  have w := w0.start
  clear w0
  have hl := lv_entry ([.ref (g.2.2.1 x), .int p0]) (n := 2) (Nat.le_of_ble_eq_true rfl)
  rw [lg_entry_eq]
  generalize (lg_sl ([.ref (g.2.2.1 x), .int p0]) ++ List.replicate (2 - (lg_sl ([.ref (g.2.2.1 x), .int p0])).length) Slot.unset).toArray = ls at hl ⊢
  have hl : lv_has ls 2 [(0, .ref (g.2.2.1 x)), (1, .int p0)] := hl
  refine lv_iload_n hx hb dX8_strictView_0 rfl (lv_at hl 1 rfl) ?_
  rcases (show (p0.toInt < 0 ∨ 2 < p0.toInt) ∨ p0.toInt = 0 ∨ p0.toInt = 1 ∨ p0.toInt = 2 by omega) with c1 | c1 | c1 | c1
  · refine lv_tableOut (tgt := 43) hx hb dX8_strictView_1 (by rw [(rfl : p0.toInt = p0.toInt)]; exact c1) (by decide) ?_
    refine lv_null hx hb dX8_strictView_43 ?_
    refine r_qret (q := none) hx hb hr (Or.inl ⟨_, rfl⟩) hlocks w dX8_strictView_44 ?_
    exact ⟨rfl, Or.inr (Or.inr (Or.inr ⟨by omega, rfl⟩))⟩
  · refine lv_tableIn (off := 27) (tgt := 28) hx hb dX8_strictView_1 (by rw [(rfl : p0.toInt = p0.toInt)]; omega) (by rw [(rfl : p0.toInt = p0.toInt)]; omega) (by rw [(rfl : p0.toInt = p0.toInt), c1]; rfl) (by decide) ?_
    refine lv_aload_n hx hb dX8_strictView_28 rfl (lv_at hl 0 rfl) ?_
    refine r_get (C := RX8) (T := TX8) (N := 11) (ci := 6) hx hb hts inX8_strictView_X8 hown w (by have := E.1; omega) E.2.1 rfl 7 (by decide) (hts (Cond.fieldLink RX8 47 "EarlyValues" "roughly" "LEarlyValues$View;") (List.mem_of_getElem? (i := 1) (by decide +kernel))) rfl rfl dX8_strictView_29 ?_
    refine r_qret (q := (some (g.2.2.1 (x + 71)))) hx hb hr (Or.inl ⟨_, rfl⟩) hlocks w dX8_strictView_32 ?_
    exact ⟨rfl, Or.inl ⟨by omega, rfl⟩⟩
  · refine lv_tableIn (off := 32) (tgt := 33) hx hb dX8_strictView_1 (by rw [(rfl : p0.toInt = p0.toInt)]; omega) (by rw [(rfl : p0.toInt = p0.toInt)]; omega) (by rw [(rfl : p0.toInt = p0.toInt), c1]; rfl) (by decide) ?_
    refine lv_aload_n hx hb dX8_strictView_33 rfl (lv_at hl 0 rfl) ?_
    refine r_get (C := RX8) (T := TX8) (N := 11) (ci := 6) hx hb hts inX8_strictView_X8 hown w (by have := E.1; omega) E.2.1 rfl 8 (by decide) (hts (Cond.fieldLink RX8 53 "EarlyValues" "finely" "LEarlyValues$View;") (List.mem_of_getElem? (i := 2) (by decide +kernel))) rfl rfl dX8_strictView_34 ?_
    refine r_qret (q := (some (g.2.2.1 (x + 89)))) hx hb hr (Or.inl ⟨_, rfl⟩) hlocks w dX8_strictView_37 ?_
    exact ⟨rfl, Or.inr (Or.inl ⟨by omega, rfl⟩)⟩
  · refine lv_tableIn (off := 37) (tgt := 38) hx hb dX8_strictView_1 (by rw [(rfl : p0.toInt = p0.toInt)]; omega) (by rw [(rfl : p0.toInt = p0.toInt)]; omega) (by rw [(rfl : p0.toInt = p0.toInt), c1]; rfl) (by decide) ?_
    refine lv_aload_n hx hb dX8_strictView_38 rfl (lv_at hl 0 rfl) ?_
    refine r_get (C := RX8) (T := TX8) (N := 11) (ci := 6) hx hb hts inX8_strictView_X8 hown w (by have := E.1; omega) E.2.1 rfl 6 (by decide) (hts (Cond.fieldLink RX8 40 "EarlyValues" "values" "LEarlyValues$View;") (List.mem_of_getElem? (i := 3) (by decide +kernel))) rfl rfl dX8_strictView_39 ?_
    refine r_qret (q := (some (g.2.2.1 (x + 53)))) hx hb hr (Or.inl ⟨_, rfl⟩) hlocks w dX8_strictView_42 ?_
    exact ⟨rfl, Or.inr (Or.inr (Or.inl ⟨by omega, rfl⟩))⟩

theorem inX8_forgetViews_X0 : ∀ w ∈ wsX00, w ∈ wsX8_forgetViews := by decide +kernel
theorem inX8_forgetViews_X4 : ∀ w ∈ wsX40, w ∈ wsX8_forgetViews := by decide +kernel
theorem inX8_forgetViews_X6 : ∀ w ∈ wsX60, w ∈ wsX8_forgetViews := by decide +kernel
theorem inX8_forgetViews_X8 : ∀ w ∈ wsX80, w ∈ wsX8_forgetViews := by decide +kernel
abbrev rm_X8_forgetViews : Room := { frames := 0, cells := 0, slots := 0, locals := 0 }
set_option maxHeartbeats 4000000 in
set_option maxRecDepth 100000 in
theorem c_X8_forgetViews (l : Launch) {g : GE} {h : Nat → va_E} {x : Nat} {kn : Int32} (E : EvA g h x kn) (W0 : VwX g h (x + 53) 0) (W1 : VwX g h (x + 71) 1) (W2 : VwX g h (x + 89) 2) : MV l yX8_forgetViews wsX8_forgetViews rm_X8_forgetViews [.ref (g.2.2.1 x)] g h (fun h2 => (∀ k, ¬ (x + 53 ≤ k ∧ k < x + 107) → h2 k = h k) ∧ VwZ g h2 (x + 53) 0 ∧ VwZ g h2 (x + 71) 1 ∧ VwZ g h2 (x + 89) 2) := by
  refine Met.ofW (cc := cX8_forgetViews) (maxL := 1) (ret := none) (by decide) rfl ?_
  intro p e s m args below meth c s₁ B hml hv
  obtain ⟨rfl, w0⟩ := hv
  have hx := B.exec
  have hb := B.bytes
  have hr := B.returns
  have hts := atoms_spec (ws := wsX8_forgetViews) B.pre
  have hown : s.vm.findClass RX8 = some m.cls := findClass_of_methodNamed B.named
  have hlocks := B.notSynchronized
  have w := w0.start
  clear w0
  have hl := lv_entry ([.ref (g.2.2.1 x)]) (n := 1) (Nat.le_of_ble_eq_true rfl)
  rw [lg_entry_eq]
  generalize (lg_sl ([.ref (g.2.2.1 x)]) ++ List.replicate (1 - (lg_sl ([.ref (g.2.2.1 x)])).length) Slot.unset).toArray = ls at hl ⊢
  have hl : lv_has ls 1 [(0, .ref (g.2.2.1 x))] := hl
  obtain ⟨u0, hu0, W0⟩ : ∃ u_ : Nat, u_ = 0 ∧ VwX g h (x + 53) u_ := ⟨_, rfl, W0⟩
  obtain ⟨kk0, kc0, tk0, fz0, dp0, gp0, gg0, gs0, gd0, gt0, gc0, V0⟩ := W0
  have hNv0 := V0.hN
  obtain ⟨u1, hu1, W1⟩ : ∃ u_ : Nat, u_ = 1 ∧ VwX g h (x + 71) u_ := ⟨_, rfl, W1⟩
  obtain ⟨kk1, kc1, tk1, fz1, dp1, gp1, gg1, gs1, gd1, gt1, gc1, V1⟩ := W1
  have hNv1 := V1.hN
  obtain ⟨u2, hu2, W2⟩ : ∃ u_ : Nat, u_ = 2 ∧ VwX g h (x + 89) u_ := ⟨_, rfl, W2⟩
  obtain ⟨kk2, kc2, tk2, fz2, dp2, gp2, gg2, gs2, gd2, gt2, gc2, V2⟩ := W2
  have hNv2 := V2.hN
  have hNe := E.1
  refine lv_aload_n hx hb dX8_forgetViews_0 rfl (lv_at hl 0 rfl) ?_
  refine r_get (C := RX8) (T := TX8) (N := 11) (ci := 6) hx hb hts inX8_forgetViews_X8 hown w (by have := E.1; omega) E.2.1 rfl 6 (by decide) (hts (Cond.fieldLink RX8 40 "EarlyValues" "values" "LEarlyValues$View;") (List.mem_of_getElem? (i := 1) (by decide +kernel))) rfl rfl dX8_forgetViews_1 ?_
  refine lv_iconst (v := 0) hx hb dX8_forgetViews_4 (by decide) ?_
  refine r_putV (ty := .boolean) hx hb hts ⟨inX8_forgetViews_X0, inX8_forgetViews_X4, inX8_forgetViews_X6⟩ hown w V0.hu (by have := V0.hN; omega) V0.c0 9 (by decide) (hts (Cond.fieldLink RX8 222 "EarlyValues$View" "fresh" "Z") (List.mem_of_getElem? (i := 2) (by decide +kernel))) rfl rfl (by decide +kernel) rfl rfl (Nat.le_of_ble_eq_true rfl) dX8_forgetViews_5 (fun h1 H locs eh1 w => ?_)
  have hfr : ∀ k_, ¬ (x + 53 ≤ k_ ∧ k_ < x + 107) → h1 k_ = h k_ := fun k_ hk_ => by rw [eh1, va_up_ne _ _ (by omega)]
  have E := E.fr (h' := h1) (fun k_ h1_ h2_ h3_ => by rw [eh1, va_up_ne _ _ (by omega)])
  have V1 := V1.fr (h' := h1) (fun k_ h1_ h2_ => by rw [eh1, va_up_ne _ _ (by omega)])
  have V2 := V2.fr (h' := h1) (fun k_ h1_ h2_ => by rw [eh1, va_up_ne _ _ (by omega)])
  have V0 := V0.s0 eh1
  refine lv_aload_n hx hb dX8_forgetViews_8 rfl (lv_at hl 0 rfl) ?_
  refine r_get (C := RX8) (T := TX8) (N := 11) (ci := 6) hx hb hts inX8_forgetViews_X8 hown w (by have := E.1; omega) E.2.1 rfl 7 (by decide) (hts (Cond.fieldLink RX8 47 "EarlyValues" "roughly" "LEarlyValues$View;") (List.mem_of_getElem? (i := 3) (by decide +kernel))) rfl rfl dX8_forgetViews_9 ?_
  refine lv_iconst (v := 0) hx hb dX8_forgetViews_12 (by decide) ?_
  refine r_putV (ty := .boolean) hx hb hts ⟨inX8_forgetViews_X0, inX8_forgetViews_X4, inX8_forgetViews_X6⟩ hown w V1.hu (by have := V1.hN; omega) V1.c0 9 (by decide) (hts (Cond.fieldLink RX8 222 "EarlyValues$View" "fresh" "Z") (List.mem_of_getElem? (i := 2) (by decide +kernel))) rfl rfl (by decide +kernel) rfl rfl (Nat.le_of_ble_eq_true rfl) dX8_forgetViews_13 (fun h2 H locs eh2 w => ?_)
  have hfr : ∀ k_, ¬ (x + 53 ≤ k_ ∧ k_ < x + 107) → h2 k_ = h k_ := fun k_ hk_ => by rw [eh2, va_up_ne _ _ (by omega)]; exact hfr k_ hk_
  have E := E.fr (h' := h2) (fun k_ h1_ h2_ h3_ => by rw [eh2, va_up_ne _ _ (by omega)])
  have V0 := V0.fr (h' := h2) (fun k_ h1_ h2_ => by rw [eh2, va_up_ne _ _ (by omega)])
  have V2 := V2.fr (h' := h2) (fun k_ h1_ h2_ => by rw [eh2, va_up_ne _ _ (by omega)])
  have V1 := V1.s0 eh2
  refine lv_aload_n hx hb dX8_forgetViews_16 rfl (lv_at hl 0 rfl) ?_
  refine r_get (C := RX8) (T := TX8) (N := 11) (ci := 6) hx hb hts inX8_forgetViews_X8 hown w (by have := E.1; omega) E.2.1 rfl 8 (by decide) (hts (Cond.fieldLink RX8 53 "EarlyValues" "finely" "LEarlyValues$View;") (List.mem_of_getElem? (i := 4) (by decide +kernel))) rfl rfl dX8_forgetViews_17 ?_
  refine lv_iconst (v := 0) hx hb dX8_forgetViews_20 (by decide) ?_
  refine r_putV (ty := .boolean) hx hb hts ⟨inX8_forgetViews_X0, inX8_forgetViews_X4, inX8_forgetViews_X6⟩ hown w V2.hu (by have := V2.hN; omega) V2.c0 9 (by decide) (hts (Cond.fieldLink RX8 222 "EarlyValues$View" "fresh" "Z") (List.mem_of_getElem? (i := 2) (by decide +kernel))) rfl rfl (by decide +kernel) rfl rfl (Nat.le_of_ble_eq_true rfl) dX8_forgetViews_21 (fun h3 H locs eh3 w => ?_)
  have hfr : ∀ k_, ¬ (x + 53 ≤ k_ ∧ k_ < x + 107) → h3 k_ = h k_ := fun k_ hk_ => by rw [eh3, va_up_ne _ _ (by omega)]; exact hfr k_ hk_
  have E := E.fr (h' := h3) (fun k_ h1_ h2_ h3_ => by rw [eh3, va_up_ne _ _ (by omega)])
  have V0 := V0.fr (h' := h3) (fun k_ h1_ h2_ => by rw [eh3, va_up_ne _ _ (by omega)])
  have V1 := V1.fr (h' := h3) (fun k_ h1_ h2_ => by rw [eh3, va_up_ne _ _ (by omega)])
  have V2 := V2.s0 eh3
  refine r_vret hx hb hr hlocks w dX8_forgetViews_24 ?_
  exact ⟨hfr, by rw [← hu0]; exact ⟨_, _, _, _, _, _, _, _, _, _, V0⟩, by rw [← hu1]; exact ⟨_, _, _, _, _, _, _, _, _, _, V1⟩, by rw [← hu2]; exact ⟨_, _, _, _, _, _, _, _, _, _, V2⟩⟩

abbrev rm_X8_isLeast : Room := { frames := 1, cells := 0, slots := 0, locals := 23 }
set_option maxHeartbeats 4000000 in
set_option maxRecDepth 100000 in
theorem c_X8_isLeast (l : Launch) {g : GE} {h : Nat → va_E} {x : Nat} {v u kk kc : Nat} {tk fz dp : Int32} {gp gg gs : Nat → Int32} {gd gt gc : Nat → Nat → Int32} (V : VwA g h v u kk kc tk fz dp gp gg gs gd gt gc) {M : PRG} (hP : PV M) {T : Nat → Nat → Nat} (hT : TbS u M gt T) (p1 p2 : Int32) {f b9 : Nat} (hp1 : p1.toInt = (f : Int)) (hp2 : p2.toInt = (b9 : Int)) (hf : f < pN M) (hb9 : b9 < mRw u M f) (h8 : mRw u M f ≤ 8) (hT2 : ∀ j, j < mRw u M f → T f j < 2) : MI l yX8_isLeast wsX8_isLeast rm_X8_isLeast [.ref (g.2.2.1 x), .ref (g.2.2.1 v), .int p1, .int p2] g h (fun r h2 => h2 = h ∧ Bq r (FrQ T f b9 b9)) := by
  refine Met.ofW (cc := cX8_isLeast) (maxL := 5) (ret := (some .boolean)) (by decide) rfl ?_
  intro p e s m args below meth c s₁ B hml hv
  obtain ⟨rfl, w0⟩ := hv
  have hx := B.exec
  have hb := B.bytes
  have hr := B.returns
  have hts := atoms_spec (ws := wsX8_isLeast) B.pre
  have hown : s.vm.findClass RX8 = some m.cls := findClass_of_methodNamed B.named
  have hlocks := B.notSynchronized
  have w := w0.start
  clear w0
  have hl := lv_entry ([.ref (g.2.2.1 x), .ref (g.2.2.1 v), .int p1, .int p2]) (n := 5) (Nat.le_of_ble_eq_true rfl)
  rw [lg_entry_eq]
  generalize (lg_sl ([.ref (g.2.2.1 x), .ref (g.2.2.1 v), .int p1, .int p2]) ++ List.replicate (5 - (lg_sl ([.ref (g.2.2.1 x), .ref (g.2.2.1 v), .int p1, .int p2])).length) Slot.unset).toArray = ls at hl ⊢
  have hl : lv_has ls 5 [(0, .ref (g.2.2.1 x)), (1, .ref (g.2.2.1 v)), (2, .int p1), (3, .int p2)] := hl
  have hn4 := hP.2.1
  have hR := mRw_mR V.hu hP hf
  have hTb := hT f b9 hf hb9
  have hT2b := hT2 b9 hb9
  have cuts : ∀ N : Nat, (∀ (j : Nat) (x4 : Int32) (hc : Nat → va_E) (H : Heap) (locs : List Loc) (ls : Array Slot), WD g (inW g) s hc H locs → lv_has ls 5 [(0, .ref (g.2.2.1 x)), (1, .ref (g.2.2.1 v)), (2, .int p1), (3, .int p2), (4, .int x4)] → (j ≤ b9) → (x4.toInt = ((j : Nat) : Int)) → (T f b9 = 1) → (∀ x_, x_ < j → x_ &&& b9 = x_ → T f x_ = 0) → (VwA g hc v u kk kc tk fz dp gp gg gs gd gt gc) → (hc = h) → 9 - j < N → W p l e (headSpec wsX8_isLeast rm_X8_isLeast).room s m ([.ref (g.2.2.1 x), .ref (g.2.2.1 v), .int p1, .int p2] : List Value).toArray below meth c H locs 0 0 (MQ below (va_Qi (fun r h2 => h2 = h ∧ Bq r (FrQ T f b9 b9)) (Wd g) (inW g)) ([.ref (g.2.2.1 x), .ref (g.2.2.1 v), .int p1, .int p2] : List Value).toArray s 0 0 (inW g)) (F0 m 14 ls [])) := by
    intro N
    induction N with
    | zero => exact by intros; omega
    | succ N ih =>
      have ih14 := ih
      · intro j x4 hc H locs ls w hl hj hx4 h1b hno V hh hN_
        refine lv_iload hx hb dX8_isLeast_14 (lv_at hl 4 rfl) ?_
        refine lv_iload_n hx hb dX8_isLeast_16 rfl (lv_at hl 3 rfl) ?_
        refine lv_icmp_ge (tgt := 47) hx hb dX8_isLeast_17 (by decide) (fun c1 => ?_) (fun c1 => ?_)
        · have c1 : ((b9 : Nat) : Int) ≤ ((j : Nat) : Int) := (i_le hp2 hx4).mp c1
          refine lv_iconst (v := 1) hx hb dX8_isLeast_47 (by decide) ?_
          refine r_zret (v := 1) hx hb hr rfl hlocks w dX8_isLeast_48 ?_
          exact ⟨hh, Bq.t ⟨by omega, fun x_ hx_ hs_ => hno x_ (by omega) hs_⟩⟩
        · have c1 : ¬ (((b9 : Nat) : Int) ≤ ((j : Nat) : Int)) := fun q => c1 ((i_le hp2 hx4).mpr q)
          refine lv_iload hx hb dX8_isLeast_20 (lv_at hl 4 rfl) ?_
          refine lv_iload_n hx hb dX8_isLeast_22 rfl (lv_at hl 3 rfl) ?_
          refine lv_iand hx hb dX8_isLeast_23 ?_
          refine lv_topi (fun y2 ey2 => ?_)
          refine lv_iload hx hb dX8_isLeast_24 (lv_at hl 4 rfl) ?_
          refine lv_icmp_ne (tgt := 41) hx hb dX8_isLeast_26 (by decide) (fun c3 => ?_) (fun c3 => ?_)
          · have cq_ : ¬ (j &&& b9 = j) := fun q_ => c3 ((and_iff hx4 hp2 (by omega) (by omega) ey2).mpr q_)
            obtain ⟨y4, ey4⟩ : ∃ y : Int32, y = x4 + (1) := ⟨_, rfl⟩
            have ty4 : y4.toInt = (((j + 1) : Nat) : Int) := i_addN ey4 hx4 (by decide : (1 : Int32).toInt = ((1 : Nat) : Int)) (by omega)
            refine lv_iinc (v := y4) (lv' := [(4, .int y4), (0, .ref (g.2.2.1 x)), (1, .ref (g.2.2.1 v)), (2, .int p1), (3, .int p2)]) hx hb dX8_isLeast_41 hl (k := 4) rfl (by rw [ey4]; rfl) (by decide) rfl (fun ls hl => ?_)
            refine lv_goto (tgt := 14) hx hb dX8_isLeast_44 (by decide) ?_
            exact ih14 (j + 1) y4 hc _ _ _ w (lv_sub hl [1, 2, 3, 4, 0] rfl) (by omega) ty4 h1b (fun x_ hx_ hs_ => by rcases Nat.lt_succ_iff_lt_or_eq.mp hx_ with z_ | z_; exact hno x_ z_ hs_; rw [z_] at hs_ ⊢; exact (fun q_ => absurd q_ cq_) hs_) V hh (by omega)
          · have cq_ : j &&& b9 = j := (and_iff hx4 hp2 (by omega) (by omega) ey2).mp c3
            have hTj := hT f j hf (by omega)
            have hT2j := hT2 j (by omega)
            refine lv_aload_n hx hb dX8_isLeast_29 rfl (lv_at hl 1 rfl) ?_
            refine lv_iload_n hx hb dX8_isLeast_30 rfl (lv_at hl 2 rfl) ?_
            refine lv_iload hx hb dX8_isLeast_31 (lv_at hl 4 rfl) ?_
            refine r_callI w (va_3 V.hu (fun q_ => va_runU (As := [.int p1, .int x4]) (rest := []) ⟨hx, hb, hml, hown, hts⟩ (c_X7_at l V p1 x4 hp1 hx4 (by omega) (by omega)) (va_cwU 2 hts gX8_isLeast_X7_at_u165X6 rfl rfl rfl rfl (by decide +kernel) ⟨Nat.le_of_ble_eq_true rfl, Nat.le_of_ble_eq_true rfl⟩) (r_preV w (by have := V.hN; omega) (V.ob (by subst q_; rfl)) rfl) rfl rfl hl.1 rfl (lv_room (Nat.le_of_ble_eq_true rfl)) dX8_isLeast_33 ⟨Nat.zero_le _, Nat.zero_le _⟩) (fun q_ => va_runU (As := [.int p1, .int x4]) (rest := []) ⟨hx, hb, hml, hown, hts⟩ (c_X7_at l V p1 x4 hp1 hx4 (by omega) (by omega)) (va_cwU 2 hts gX8_isLeast_X7_at_u165X4 rfl rfl rfl rfl (by decide +kernel) ⟨Nat.le_of_ble_eq_true rfl, Nat.le_of_ble_eq_true rfl⟩) (r_preV w (by have := V.hN; omega) (V.ob (by subst q_; rfl)) rfl) rfl rfl hl.1 rfl (lv_room (Nat.le_of_ble_eq_true rfl)) dX8_isLeast_33 ⟨Nat.zero_le _, Nat.zero_le _⟩) (fun q_ => va_runU (As := [.int p1, .int x4]) (rest := []) ⟨hx, hb, hml, hown, hts⟩ (c_X7_at l V p1 x4 hp1 hx4 (by omega) (by omega)) (va_cwU 2 hts gX8_isLeast_X7_at_u165X0 rfl rfl rfl rfl (by decide +kernel) ⟨Nat.le_of_ble_eq_true rfl, Nat.le_of_ble_eq_true rfl⟩) (r_preV w (by have := V.hN; omega) (V.ob (by subst q_; rfl)) rfl) rfl rfl hl.1 rfl (lv_room (Nat.le_of_ble_eq_true rfl)) dX8_isLeast_33 ⟨Nat.zero_le _, Nat.zero_le _⟩)) (fun r6 h5 H locs hp w => ?_)
            obtain ⟨eh_, qq7⟩ := hp
            have eh_ := eh_.symm
            subst eh_
            subst qq7
            refine lv_if_eq (tgt := 41) hx hb dX8_isLeast_36 (by decide) (fun c8 => ?_) (fun c8 => ?_)
            · have c8 : (gt f j).toInt = (0 : Int) := (i_eq rfl (rfl : (0 : Int32).toInt = 0)).mp c8
              obtain ⟨y9, ey9⟩ : ∃ y : Int32, y = x4 + (1) := ⟨_, rfl⟩
              have ty9 : y9.toInt = (((j + 1) : Nat) : Int) := i_addN ey9 hx4 (by decide : (1 : Int32).toInt = ((1 : Nat) : Int)) (by omega)
              refine lv_iinc (v := y9) (lv' := [(4, .int y9), (0, .ref (g.2.2.1 x)), (1, .ref (g.2.2.1 v)), (2, .int p1), (3, .int p2)]) hx hb dX8_isLeast_41 hl (k := 4) rfl (by rw [ey9]; rfl) (by decide) rfl (fun ls hl => ?_)
              refine lv_goto (tgt := 14) hx hb dX8_isLeast_44 (by decide) ?_
              exact ih14 (j + 1) y9 hc _ _ _ w (lv_sub hl [1, 2, 3, 4, 0] rfl) (by omega) ty9 h1b (fun x_ hx_ hs_ => by rcases Nat.lt_succ_iff_lt_or_eq.mp hx_ with z_ | z_; exact hno x_ z_ hs_; rw [z_] at hs_ ⊢; exact (fun _ => by omega) hs_) V hh (by omega)
            · have c8 : ¬ ((gt f j).toInt = (0 : Int)) := fun q => c8 ((i_eq rfl (rfl : (0 : Int32).toInt = 0)).mpr q)
              refine lv_iconst (v := 0) hx hb dX8_isLeast_39 (by decide) ?_
              refine r_zret (v := 0) hx hb hr rfl hlocks w dX8_isLeast_40 ?_
              exact ⟨hh, Bq.f (fun q_ => by have := q_.2 j (by omega) cq_; omega)⟩
  have ih14 := cuts (10)
  refine lv_aload_n hx hb dX8_isLeast_0 rfl (lv_at hl 1 rfl) ?_
  refine lv_iload_n hx hb dX8_isLeast_1 rfl (lv_at hl 2 rfl) ?_
  refine lv_iload_n hx hb dX8_isLeast_2 rfl (lv_at hl 3 rfl) ?_
  refine r_callI w (va_3 V.hu (fun q_ => va_runU (As := [.int p1, .int p2]) (rest := []) ⟨hx, hb, hml, hown, hts⟩ (c_X7_at l V p1 p2 hp1 hp2 (by omega) (by omega)) (va_cwU 2 hts gX8_isLeast_X7_at_u165X6 rfl rfl rfl rfl (by decide +kernel) ⟨Nat.le_of_ble_eq_true rfl, Nat.le_of_ble_eq_true rfl⟩) (r_preV w (by have := V.hN; omega) (V.ob (by subst q_; rfl)) rfl) rfl rfl hl.1 rfl (lv_room (Nat.le_of_ble_eq_true rfl)) dX8_isLeast_3 ⟨Nat.zero_le _, Nat.zero_le _⟩) (fun q_ => va_runU (As := [.int p1, .int p2]) (rest := []) ⟨hx, hb, hml, hown, hts⟩ (c_X7_at l V p1 p2 hp1 hp2 (by omega) (by omega)) (va_cwU 2 hts gX8_isLeast_X7_at_u165X4 rfl rfl rfl rfl (by decide +kernel) ⟨Nat.le_of_ble_eq_true rfl, Nat.le_of_ble_eq_true rfl⟩) (r_preV w (by have := V.hN; omega) (V.ob (by subst q_; rfl)) rfl) rfl rfl hl.1 rfl (lv_room (Nat.le_of_ble_eq_true rfl)) dX8_isLeast_3 ⟨Nat.zero_le _, Nat.zero_le _⟩) (fun q_ => va_runU (As := [.int p1, .int p2]) (rest := []) ⟨hx, hb, hml, hown, hts⟩ (c_X7_at l V p1 p2 hp1 hp2 (by omega) (by omega)) (va_cwU 2 hts gX8_isLeast_X7_at_u165X0 rfl rfl rfl rfl (by decide +kernel) ⟨Nat.le_of_ble_eq_true rfl, Nat.le_of_ble_eq_true rfl⟩) (r_preV w (by have := V.hN; omega) (V.ob (by subst q_; rfl)) rfl) rfl rfl hl.1 rfl (lv_room (Nat.le_of_ble_eq_true rfl)) dX8_isLeast_3 ⟨Nat.zero_le _, Nat.zero_le _⟩)) (fun r11 h10 H locs hp w => ?_)
  obtain ⟨eh_, qq12⟩ := hp
  have eh_ := eh_.symm
  subst eh_
  subst qq12
  refine lv_if_ne (tgt := 11) hx hb dX8_isLeast_6 (by decide) (fun c13 => ?_) (fun c13 => ?_)
  · have c13 : ¬ ((gt f b9).toInt = (0 : Int)) := fun q => c13 ((i_eq rfl (rfl : (0 : Int32).toInt = 0)).mpr q)
    refine lv_iconst (v := 0) hx hb dX8_isLeast_11 (by decide) ?_
    refine lv_istore (lv' := [(4, .int 0), (0, .ref (g.2.2.1 x)), (1, .ref (g.2.2.1 v)), (2, .int p1), (3, .int p2)]) hx hb dX8_isLeast_12 hl (by decide) rfl (fun ls hl => ?_)
    exact ih14 0 0 h _ _ _ w (lv_sub hl [1, 2, 3, 4, 0] rfl) (Nat.zero_le _) ((by decide : (0 : Int32).toInt = ((0 : Nat) : Int))) (by omega) (fun x_ hx_ => absurd hx_ (Nat.not_lt_zero _)) V rfl (by omega)
  · have c13 : (gt f b9).toInt = (0 : Int) := (i_eq rfl (rfl : (0 : Int32).toInt = 0)).mp c13
    refine lv_iconst (v := 0) hx hb dX8_isLeast_9 (by decide) ?_
    refine r_zret (v := 0) hx hb hr rfl hlocks w dX8_isLeast_10 ?_
    exact ⟨rfl, Bq.f (fun q_ => by have := q_.1; omega)⟩

