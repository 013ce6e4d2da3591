-- ===== THE TEXT THAT THE LAW WRITES =====
/-- the text of a state is a list -/
def TxL (s : ST) (l : List Nat) : Prop := sL s = l.length ∧ ∀ i, i < l.length → sT s i = l.getD i 0
theorem getD_app_l {a b : List Nat} {i : Nat} (h : i < a.length) : (a ++ b).getD i 0 = a.getD i 0 := by
  rw [List.getD_eq_getElem?_getD, List.getD_eq_getElem?_getD, List.getElem?_append_left h]
theorem getD_app_r {a b : List Nat} {i : Nat} : (a ++ b).getD (a.length + i) 0 = b.getD i 0 := by
  rw [List.getD_eq_getElem?_getD, List.getD_eq_getElem?_getD, List.getElem?_append_right (Nat.le_add_right _ _), Nat.add_sub_cancel_left]
theorem TxL.wr {s s2 : ST} {l : List Nat} {p r : Int32} {c : Nat} (h : TxL s l) (A : AnWrite s p r s2) (hp : p.toInt = ((c : Nat) : Int)) (hc : 32 ≤ c ∧ c ≤ 126) (hl : l.length < 200) : TxL s2 (l ++ [c]) := by
  obtain ⟨h1, h2⟩ := h
  rcases A with ⟨a, -⟩ | ⟨-, a, -⟩ | ⟨-, a, -, e⟩
  · exact absurd (by omega) a
  · omega
  · have e1 : sL s2 = sL s + 1 := by rw [e]
    have e2 : sT s2 = fun i => if i = sL s then p.toInt.toNat else sT s i := by rw [e]
    have e3 : p.toInt.toNat = c := by omega
    refine ⟨by rw [e1, h1]; simp, fun i hi => ?_⟩
    rw [e2]
    dsimp only
    by_cases q : i = sL s
    · rw [if_pos q, e3, q, h1]
      have := getD_app_r (a := l) (b := [c]) (i := 0)
      exact this.symm
    · have hi2 : i < l.length + 1 := by simpa using hi
      rw [if_neg q, getD_app_l (by omega)]
      exact h2 i (by omega)
def hdrD (A : Nat → Nat) (f : Nat) : List Nat := 110 :: (List.range f).map (fun j => 48 + A j)
theorem hdrD_up {A : Nat → Nat} {f a : Nat} : hdrD (fun j => if j = f then a else A j) (f + 1) = hdrD A f ++ [48 + a] := by
  unfold hdrD
  rw [List.range_succ, List.map_append, List.cons_append]
  congr 2
  · apply List.map_congr_left
    intro j hj
    have := List.mem_range.mp hj
    show 48 + (if j = f then a else A j) = 48 + A j
    rw [if_neg (by omega)]
  · simp
theorem hdrD_len {A : Nat → Nat} {f : Nat} : (hdrD A f).length = f + 1 := by simp [hdrD]
def fnT (k n : Nat) (bb : Nat → Nat) : List Nat := [102, 48 + k, 44] ++ ((List.range n).map (fun j => mCode (bb j)) ++ [59])
def fnsT (K L : Nat → Nat) (B : Nat → Nat → Nat) : Nat → List Nat
  | 0 => []
  | f + 1 => fnsT K L B f ++ fnT (K f) (L f) (B f)
theorem fnsT_cg {K L L' : Nat → Nat} {B B' : Nat → Nat → Nat} : ∀ {f : Nat}, (∀ i, i < f → L' i = L i ∧ B' i = B i) → fnsT K L' B' f = fnsT K L B f
  | 0, _ => rfl
  | f + 1, h => by
    show fnsT K L' B' f ++ fnT (K f) (L' f) (B' f) = fnsT K L B f ++ fnT (K f) (L f) (B f)
    rw [fnsT_cg (f := f) (fun i hi => h i (by omega)), (h f (by omega)).1, (h f (by omega)).2]
theorem fnT_len {k n : Nat} {bb : Nat → Nat} : (fnT k n bb).length = 4 + n := by simp [fnT]; omega
theorem fnsT_len {K L : Nat → Nat} {B : Nat → Nat → Nat} : ∀ {f : Nat}, (∀ i, i < f → L i ≤ 14) → (fnsT K L B f).length ≤ 18 * f
  | 0, _ => by simp [fnsT]
  | f + 1, h => by
    show (fnsT K L B f ++ fnT (K f) (L f) (B f)).length ≤ _
    have := fnsT_len (K := K) (L := L) (B := B) (f := f) (fun i hi => h i (by omega))
    have := h f (by omega)
    rw [List.length_append, fnT_len]; omega
theorem fnsT_mono {K L : Nat → Nat} {B : Nat → Nat → Nat} {f : Nat} : ∀ {m : Nat}, f < m → (fnsT K L B f).length + (4 + L f) ≤ (fnsT K L B m).length
  | 0, h => absurd h (Nat.not_lt_zero _)
  | m + 1, h => by
    show _ ≤ (fnsT K L B m ++ fnT (K m) (L m) (B m)).length
    rw [List.length_append, fnT_len]
    rcases Nat.lt_succ_iff_lt_or_eq.mp h with q | q
    · have := fnsT_mono (K := K) (L := L) (B := B) q; omega
    · rw [q]; exact Nat.le_refl _
theorem fns_at {K L : Nat → Nat} {B : Nat → Nat → Nat} {f j : Nat} (hj : j < 4 + L f) : ∀ {m : Nat}, f < m → (fnsT K L B m).getD ((fnsT K L B f).length + j) 0 = (fnT (K f) (L f) (B f)).getD j 0
  | 0, h => absurd h (Nat.not_lt_zero _)
  | m + 1, h => by
    show (fnsT K L B m ++ fnT (K m) (L m) (B m)).getD _ 0 = _
    rcases Nat.lt_succ_iff_lt_or_eq.mp h with q | q
    · have := fnsT_mono (K := K) (L := L) (B := B) q
      rw [getD_app_l (by omega)]
      exact fns_at hj q
    · subst q; exact getD_app_r
theorem fnT_at {k n : Nat} {bb : Nat → Nat} : (fnT k n bb).getD 0 0 = 102 ∧ (fnT k n bb).getD 1 0 = 48 + k ∧ (fnT k n bb).getD 2 0 = 44 ∧ (∀ j, j < n → (fnT k n bb).getD (3 + j) 0 = mCode (bb j)) ∧ (fnT k n bb).getD (3 + n) 0 = 59 := by
  refine ⟨rfl, rfl, rfl, fun j hj => ?_, ?_⟩
  · show ([102, 48 + k, 44] ++ ((List.range n).map (fun j => mCode (bb j)) ++ [59])).getD ([102, 48 + k, 44].length + j) 0 = _
    rw [getD_app_r, getD_app_l (by simpa using hj), List.getD_eq_getElem?_getD]
    simp [hj]
  · show ([102, 48 + k, 44] ++ ((List.range n).map (fun j => mCode (bb j)) ++ [59])).getD ([102, 48 + k, 44].length + n) 0 = _
    rw [getD_app_r]
    have := getD_app_r (a := (List.range n).map (fun j => mCode (bb j))) (b := [59]) (i := 0)
    simpa using this
/-- all that is known of what was drawn -/
def DrQ (nf : Nat) (A K L : Nat → Nat) (B : Nat → Nat → Nat) : Prop := 1 ≤ nf ∧ nf ≤ 4 ∧ ∀ f, f < nf → A f ≤ 3 ∧ K f ≤ 3 ∧ 1 ≤ L f ∧ L f ≤ 14 ∧ (∀ j, j < L f → B f j < 14 ∧ mMay nf A f (B f j) ∧ 1 ≤ dpF nf A (B f) j) ∧ dpF nf A (B f) (L f) = 0
def allT (nf : Nat) (A K L : Nat → Nat) (B : Nat → Nat → Nat) : List Nat := hdrD A nf ++ [59] ++ fnsT K L B nf
section PRS3
variable {nf : Nat} {A K L : Nat → Nat} {B : Nat → Nat → Nat} {s : ST}
theorem allT_len : (allT nf A K L B).length = nf + 2 + (fnsT K L B nf).length := by
  unfold allT; rw [List.length_append, List.length_append, hdrD_len]; simp
theorem sg_at (h : TxL s (allT nf A K L B)) (i : Nat) : sgn (sT s) (sL s) i = (allT nf A K L B).getD i 0 := by
  unfold sgn
  rw [h.1]
  split
  · rename_i q; exact h.2 i q
  · rename_i q
    rw [List.getD_eq_getElem?_getD, List.getElem?_eq_none (by omega)]; rfl
theorem sg_hd (h : TxL s (allT nf A K L B)) : sgn (sT s) (sL s) 0 = 110 ∧ (∀ j, j < nf → sgn (sT s) (sL s) (1 + j) = 48 + A j) ∧ sgn (sT s) (sL s) (1 + nf) = 59 := by
  refine ⟨?_, fun j hj => ?_, ?_⟩
  · rw [sg_at h]; rfl
  · rw [sg_at h]
    unfold allT
    rw [getD_app_l (by rw [List.length_append, hdrD_len]; omega), getD_app_l (by rw [hdrD_len]; omega)]
    show ([110] ++ (List.range nf).map (fun j => 48 + A j)).getD ([110].length + j) 0 = _
    rw [getD_app_r, List.getD_eq_getElem?_getD]
    simp [hj]
  · rw [sg_at h]
    unfold allT
    rw [getD_app_l (by rw [List.length_append, hdrD_len]; simp; omega)]
    have := getD_app_r (a := hdrD A nf) (b := [59]) (i := 0)
    rw [hdrD_len] at this
    rw [Nat.add_comm 1 nf]
    simpa using this
def posT (nf : Nat) (K L : Nat → Nat) (B : Nat → Nat → Nat) (f : Nat) : Nat := nf + 2 + (fnsT K L B f).length
theorem sg_fn (h : TxL s (allT nf A K L B)) {f j : Nat} (hf : f < nf) (hj : j < 4 + L f) : sgn (sT s) (sL s) (posT nf K L B f + j) = (fnT (K f) (L f) (B f)).getD j 0 := by
  rw [sg_at h]
  unfold allT posT
  have e : nf + 2 + (fnsT K L B f).length + j = (hdrD A nf ++ [59]).length + ((fnsT K L B f).length + j) := by
    rw [List.length_append, hdrD_len]; simp; omega
  rw [e, getD_app_r]
  exact fns_at hj hf
theorem mMay_cg {n : Nat} {a a' : Nat → Nat} {f k : Nat} (hf : f < n) (h : ∀ i, i < n → a' i = a i) : mMay n a' f k ↔ mMay n a f k := by
  unfold mMay; rw [h f hf]
theorem mParts_cg {n : Nat} {a a' : Nat → Nat} {k : Nat} (h : ∀ i, i < n → a' i = a i) : mParts n a' k = mParts n a k := by
  unfold mParts
  split
  · rename_i q; exact h _ (by omega)
  · rfl
theorem body_R {S : Nat → Nat} {A' : Nat → Nat} {f i : Nat} {bb : Nat → Nat} {n : Nat} (hf : f < nf) (hA : ∀ i, i < nf → A' i = A i) (hS : ∀ j, j < n → S (i + j) = mCode (bb j)) (hb : ∀ j, j < n → bb j < 14 ∧ mMay nf A f (bb j) ∧ 1 ≤ dpF nf A bb j) : ∀ p, p ≤ n → BodyR S nf A' f i p (dpF nf A bb p)
  | 0, _ => rfl
  | p + 1, hp => by
    obtain ⟨b1, b2, b3⟩ := hb p (by omega)
    have e : mNum ((S (i + p) : Nat) : Int) = bb p := by rw [hS p (by omega), mNum_code b1]
    refine ⟨dpF nf A bb p, body_R hf hA hS hb p (by omega), b3, ?_, ?_, ?_⟩
    · rw [e]; exact b1
    · rw [e]; exact (mMay_cg hf hA).mpr b2
    · rw [e, mParts_cg hA]; rfl
/-- functions read so far -/
def RdQ (S : Nat → Nat) (n nf : Nat) (A K L : Nat → Nat) (B : Nat → Nat → Nat) (f : Nat) (M : PRG) : Prop :=
  RunR S n (f + 1) (posT nf K L B f, M, f) ∧ pN M = nf ∧ (∀ i, i < nf → pA M i = A i) ∧ ∀ i, i < f → pK M i = K i ∧ pL M i = L i ∧ ∀ j, j < L i → pB M i j = B i j
theorem rd_all (h : TxL s (allT nf A K L B)) (hD : DrQ nf A K L B) : ∀ f, f ≤ nf → ∃ M, RdQ (sgn (sT s) (sL s)) (sL s) nf A K L B f M
  | 0, _ => by
    obtain ⟨h1, h4, hq⟩ := hD
    obtain ⟨a, b, c⟩ := sg_hd h
    refine ⟨(nf, fun j => sgn (sT s) (sL s) (0 + 1 + j) - 48, fun _ => 0, fun _ => 0, fun _ _ => 0), ⟨ps0, rfl, ?_, Or.inl ⟨a, rfl, nf, ⟨h4, fun j hj => ?_, Or.inr ?_⟩, h1, c, ?_⟩⟩, rfl, fun i hi => ?_, fun i hi => absurd hi (Nat.not_lt_zero _)⟩
    · rw [h.1, allT_len]; show 0 < _; omega
    · show dgt (sgn (sT s) (sL s) (1 + j))
      rw [b j hj]
      have := (hq j hj).1
      unfold dgt; omega
    · show ¬ dgt (sgn (sT s) (sL s) (1 + nf))
      rw [c]; unfold dgt; omega
    · show (_, _, _) = (_, _, _)
      congr 1
      show nf + 2 + 0 = 0 + 1 + nf + 1
      omega
    · show sgn (sT s) (sL s) (1 + i) - 48 = A i
      rw [b i hi]; omega
  | f + 1, hf => by
    obtain ⟨M, r1, r2, r3, r4⟩ := rd_all h hD f (by omega)
    obtain ⟨h1, h4, hq⟩ := id hD
    obtain ⟨q1, q2, q3, q4, q5, q6⟩ := hq f (by omega)
    obtain ⟨t0, t1, t2, t3, t4⟩ := fnT_at (k := K f) (n := L f) (bb := B f)
    have g0 := sg_fn h (f := f) (j := 0) (by omega) (by omega)
    have g1 := sg_fn h (f := f) (j := 1) (by omega) (by omega)
    have g2 := sg_fn h (f := f) (j := 2) (by omega) (by omega)
    have g4 := sg_fn h (f := f) (j := 3 + L f) (by omega) (by omega)
    rw [t0] at g0; rw [t1] at g1; rw [t2] at g2; rw [t4] at g4
    rw [Nat.add_zero] at g0
    have hm := fnsT_mono (K := K) (L := L) (B := B) (show f < nf by omega)
    have hbod : BodyR (sgn (sT s) (sL s)) (pN M) (pA M) f (posT nf K L B f + 1 + 1 + 1) (L f) 0 := by
      rw [r2]
      have := body_R (nf := nf) (A := A) (S := sgn (sT s) (sL s)) (A' := pA M) (f := f) (i := posT nf K L B f + 1 + 1 + 1) (bb := B f) (n := L f) (by omega) r3 (fun j hj => by
        have g3 := sg_fn h (f := f) (j := 3 + j) (by omega) (by omega)
        rw [t3 j hj] at g3
        rw [← g3]; congr 1; omega) q5 (L f) (Nat.le_refl _)
      rw [q6] at this
      exact this
    have e1 : posT nf K L B (f + 1) = posT nf K L B f + 1 + 1 + 1 + L f + 1 := by
      unfold posT
      show nf + 2 + (fnsT K L B f ++ fnT (K f) (L f) (B f)).length = _
      rw [List.length_append, fnT_len]; omega
    refine ⟨mFn (sgn (sT s) (sL s)) M f (posT nf K L B f + 1) (L f), ⟨(posT nf K L B f, M, f), r1, ?_, Or.inr ⟨g0, L f, ⟨by show f < pN M; omega, ?_, ?_, by omega, hbod, ?_⟩, ?_⟩⟩, r2, r3, fun i hi => ?_⟩
    · rw [h.1, allT_len]; show nf + 2 + (fnsT K L B f).length < _; omega
    · show dgt (sgn (sT s) (sL s) (posT nf K L B f + 1))
      rw [g1]; unfold dgt; omega
    · show sgn (sT s) (sL s) (posT nf K L B f + 1 + 1) = 44
      rw [← g2]
    · show sgn (sT s) (sL s) (posT nf K L B f + 1 + 1 + 1 + L f) = 59
      rw [← g4]; congr 1; omega
    · rw [e1]
    · show (if i = f then sgn (sT s) (sL s) (posT nf K L B f + 1) - 48 else pK M i) = K i ∧ (if i = f then L f else pL M i) = L i ∧ ∀ j, j < L i → (if i = f then mNum ((sgn (sT s) (sL s) (posT nf K L B f + 1 + 1 + 1 + j) : Nat) : Int) else pB M i j) = B i j
      by_cases q : i = f
      · subst q
        rw [if_pos rfl, if_pos rfl, g1]
        refine ⟨by omega, rfl, fun j hj => ?_⟩
        rw [if_pos rfl]
        have g3 := sg_fn h (f := i) (j := 3 + j) (by omega) (by omega)
        rw [t3 j hj] at g3
        rw [show posT nf K L B i + 1 + 1 + 1 + j = posT nf K L B i + (3 + j) by omega, g3, mNum_code (q5 j hj).1]
      · rw [if_neg q, if_neg q]
        obtain ⟨z1, z2, z3⟩ := r4 i (by omega)
        exact ⟨z1, z2, fun j hj => by rw [if_neg q]; exact z3 j hj⟩
/-- the text is laid: what is drawn -/
theorem text_ok (h : TxL s (allT nf A K L B)) (hD : DrQ nf A K L B) : ∃ M, RunE (sgn (sT s) (sL s)) (sL s) (sL s, M, nf) ∧ pN M = nf ∧ (∀ i, i < nf → pA M i = A i) ∧ ∀ i, i < nf → pK M i = K i ∧ pL M i = L i ∧ ∀ j, j < L i → pB M i j = B i j := by
  obtain ⟨M, r1, r2, r3, r4⟩ := rd_all h hD nf (Nat.le_refl _)
  have e : posT nf K L B nf = sL s := by rw [h.1, allT_len]; rfl
  rw [e] at r1
  exact ⟨M, ⟨⟨_, r1⟩, Or.inl (Nat.le_refl _)⟩, r2, r3, r4⟩
theorem fault_ok {r : Int32} (F : AnFault s r) (h : TxL s (allT nf A K L B)) (hD : DrQ nf A K L B) : r.toInt = -4 := by
  obtain ⟨M, r1, -⟩ := text_ok h hD
  obtain ⟨t, t1, t2⟩ := F
  have e := t1.inj r1
  subst e
  rcases t2 with ⟨-, q⟩ | ⟨q, -⟩
  · exact q
  · exact absurd q (Nat.lt_irrefl _)
theorem lay_ok {s2 : ST} {r : Int32} (F : AnLay s r s2) (h : TxL s (allT nf A K L B)) (hD : DrQ nf A K L B) : r.toInt = ((nf : Nat) : Int) ∧ sV s2 = 0 ∧ sL s2 = sL s ∧ pN (sM s2) = nf ∧ (∀ i, i < nf → pA (sM s2) i = A i) ∧ ∀ i, i < nf → pK (sM s2) i = K i ∧ pL (sM s2) i = L i ∧ ∀ j, j < L i → pB (sM s2) i j = B i j := by
  obtain ⟨M, r1, r2, r3, r4⟩ := text_ok h hD
  obtain ⟨t, t1, t2⟩ := F
  have e := t1.inj r1
  subst e
  rcases t2 with ⟨-, -, -, q4, q5⟩ | ⟨q, -⟩
  · have e2 : ((pN M : Nat) : Int) = ((nf : Nat) : Int) := by rw [r2]
    rw [q5]
    exact ⟨q4.trans e2, rfl, rfl, r2, r3, r4⟩
  · exact absurd ⟨Nat.le_refl _, by show 0 < pN M; have := hD.1; omega, by show nf = pN M; omega⟩ q
end PRS3
/-- another function's body stands -/
theorem BdI.fr {N : Nat} {A : Nat → Nat} {i : Nat} {bb : Nat → Nat} {gb gb2 : Nat → Int32} {n f : Nat} (h : BdI N A i bb gb n) (hi : i ≠ f) (hn : n ≤ 16) (e : ∀ q, ¬ (16 * f ≤ q ∧ q < 16 * f + 16) → gb2 q = gb q) : BdI N A i bb gb2 n := by
  intro j hj
  rw [e _ (by omega)]; exact h j hj
abbrev rm_L_body : Room := { frames := 3, cells := 0, slots := 0, locals := 65 }
set_option maxHeartbeats 4000000 in
set_option maxRecDepth 100000 in
theorem c_L_body (l : Launch) {g : GE} {h : Nat → va_E} {kd kb : Nat} {gd gb : Nat → Int32} (D : RaA g h kd 0 13 gd) (Bt : RaA g h kb 0 64 gb) (hdb : kd ≠ kb) {nf : Nat} {A : Nat → Nat} (hN : (gd 12).toInt = (nf : Int)) (hN4 : nf ≤ 4) (hA : ∀ i, i < nf → (gd i).toInt = (A i : Int) ∧ A i ≤ 3) (p2 p3 p4 : Int32) {f : Nat} (hp2 : p2.toInt = (f : Int)) (hf : f < nf) : MV l yL_body wsL_body rm_L_body [.ref (g.2.2.1 kd), .ref (g.2.2.1 kb), .int p2, .int p3, .int p4] g h (fun h2 => (∀ k, ¬ (k = kd ∨ k = kb) → h2 k = h k) ∧ ∃ (gd2 gb2 : Nat → Int32) (bb : Nat → Nat) (n : Nat), RaA g h2 kd 0 13 gd2 ∧ RaA g h2 kb 0 64 gb2 ∧ (gd2 (8 + f)).toInt = ((n : Nat) : Int) ∧ (∀ q, q ≠ 8 + f → gd2 q = gd q) ∧ 1 ≤ n ∧ n ≤ 14 ∧ BdI nf A f bb gb2 n ∧ dpF nf A bb n = 0 ∧ (∀ q, ¬ (16 * f ≤ q ∧ q < 16 * f + 16) → gb2 q = gb q)) := by
  refine Met.ofW (cc := cL_body) (maxL := 13) (ret := none) (by decide) rfl ?_
  intro p e s m args below meth c s₁ B hml hv
  obtain ⟨rfl, w0⟩ := hv
  have hx := B.exec
  have hb := B.bytes
  have hr := B.returns
  have hts := atoms_spec (ws := wsL_body) B.pre
  have hown : s.vm.findClass RL = some m.cls := findClass_of_methodNamed B.named
  have hlocks := B.notSynchronized
  have w := w0.start
  clear w0
  have hl := lv_entry ([.ref (g.2.2.1 kd), .ref (g.2.2.1 kb), .int p2, .int p3, .int p4]) (n := 13) (Nat.le_of_ble_eq_true rfl)
  rw [lg_entry_eq]
  generalize (lg_sl ([.ref (g.2.2.1 kd), .ref (g.2.2.1 kb), .int p2, .int p3, .int p4]) ++ List.replicate (13 - (lg_sl ([.ref (g.2.2.1 kd), .ref (g.2.2.1 kb), .int p2, .int p3, .int p4])).length) Slot.unset).toArray = ls at hl ⊢
  have hl : lv_has ls 13 [(0, .ref (g.2.2.1 kd)), (1, .ref (g.2.2.1 kb)), (2, .int p2), (3, .int p3), (4, .int p4)] := hl
  have cuts : ∀ N : Nat, (∀ (n : Nat) (bb : Nat → Nat) (gb1 : Nat → Int32) (x5 : Int32) (x6 : Int32) (x7 : Int32) (x8 : Int32) (hc : Nat → va_E) (H : Heap) (locs : List Loc) (ls : Array Slot), WD g (inW g) s hc H locs → lv_has ls 13 [(0, .ref (g.2.2.1 kd)), (1, .ref (g.2.2.1 kb)), (2, .int p2), (3, .int p3), (4, .int p4), (5, .int x5), (6, .int x6), (7, .int x7), (8, .int x8)] → (x5.toInt = ((dpF nf A bb n : Nat) : Int)) → (x6.toInt = ((n : Nat) : Int)) → (x8.toInt = ((n : Nat) : Int)) → (n + dpF nf A bb n ≤ 14) → (BdI nf A f bb gb1 n) → (∀ q_, ¬ (16 * f ≤ q_ ∧ q_ < 16 * f + 16) → gb1 q_ = gb q_) → (RaA g hc kd 0 13 gd) → (RaA g hc kb 0 64 gb1) → (∀ k_, ¬ (k_ = kd ∨ k_ = kb) → hc k_ = h k_) → 4 * (15 - n) + 3 < N → W p l e (headSpec wsL_body rm_L_body).room s m ([.ref (g.2.2.1 kd), .ref (g.2.2.1 kb), .int p2, .int p3, .int p4] : List Value).toArray below meth c H locs 0 0 (MQ below (va_Qv (fun h2 => (∀ k, ¬ (k = kd ∨ k = kb) → h2 k = h k) ∧ ∃ (gd2 gb2 : Nat → Int32) (bb : Nat → Nat) (n : Nat), RaA g h2 kd 0 13 gd2 ∧ RaA g h2 kb 0 64 gb2 ∧ (gd2 (8 + f)).toInt = ((n : Nat) : Int) ∧ (∀ q, q ≠ 8 + f → gd2 q = gd q) ∧ 1 ≤ n ∧ n ≤ 14 ∧ BdI nf A f bb gb2 n ∧ dpF nf A bb n = 0 ∧ (∀ q, ¬ (16 * f ≤ q ∧ q < 16 * f + 16) → gb2 q = gb q)) (Wd g) (inW g)) ([.ref (g.2.2.1 kd), .ref (g.2.2.1 kb), .int p2, .int p3, .int p4] : List Value).toArray s 0 0 (inW g)) (F0 m 22 ls [])) ∧ (∀ (n : Nat) (bb : Nat → Nat) (gb1 : Nat → Int32) (x5 : Int32) (x6 : Int32) (x7 : Int32) (x8 : Int32) (k9 : Nat) (x9 : Int32) (hc : Nat → va_E) (H : Heap) (locs : List Loc) (ls : Array Slot), WD g (inW g) s hc H locs → lv_has ls 13 [(0, .ref (g.2.2.1 kd)), (1, .ref (g.2.2.1 kb)), (2, .int p2), (3, .int p3), (4, .int p4), (5, .int x5), (6, .int x6), (7, .int x7), (8, .int x8), (9, .int x9)] → (x5.toInt = ((dpF nf A bb n : Nat) : Int)) → (x6.toInt = ((n : Nat) : Int)) → (x8.toInt = ((n : Nat) : Int)) → (n + dpF nf A bb n ≤ 14) → (BdI nf A f bb gb1 n) → (∀ q_, ¬ (16 * f ≤ q_ ∧ q_ < 16 * f + 16) → gb1 q_ = gb q_) → (1 ≤ dpF nf A bb n) → (k9 < 14) → (x9.toInt = ((k9 : Nat) : Int)) → (RaA g hc kd 0 13 gd) → (RaA g hc kb 0 64 gb1) → (∀ k_, ¬ (k_ = kd ∨ k_ = kb) → hc k_ = h k_) → 4 * (15 - n) + 2 < N → W p l e (headSpec wsL_body rm_L_body).room s m ([.ref (g.2.2.1 kd), .ref (g.2.2.1 kb), .int p2, .int p3, .int p4] : List Value).toArray below meth c H locs 0 0 (MQ below (va_Qv (fun h2 => (∀ k, ¬ (k = kd ∨ k = kb) → h2 k = h k) ∧ ∃ (gd2 gb2 : Nat → Int32) (bb : Nat → Nat) (n : Nat), RaA g h2 kd 0 13 gd2 ∧ RaA g h2 kb 0 64 gb2 ∧ (gd2 (8 + f)).toInt = ((n : Nat) : Int) ∧ (∀ q, q ≠ 8 + f → gd2 q = gd q) ∧ 1 ≤ n ∧ n ≤ 14 ∧ BdI nf A f bb gb2 n ∧ dpF nf A bb n = 0 ∧ (∀ q, ¬ (16 * f ≤ q ∧ q < 16 * f + 16) → gb2 q = gb q)) (Wd g) (inW g)) ([.ref (g.2.2.1 kd), .ref (g.2.2.1 kb), .int p2, .int p3, .int p4] : List Value).toArray s 0 0 (inW g)) (F0 m 53 ls [])) ∧ (∀ (n : Nat) (bb : Nat → Nat) (gb1 : Nat → Int32) (x5 : Int32) (x6 : Int32) (x7 : Int32) (x8 : Int32) (kk : Nat) (x10 : Int32) (x11 : Int32) (hc : Nat → va_E) (H : Heap) (locs : List Loc) (ls : Array Slot), WD g (inW g) s hc H locs → lv_has ls 13 [(0, .ref (g.2.2.1 kd)), (1, .ref (g.2.2.1 kb)), (2, .int p2), (3, .int p3), (4, .int p4), (5, .int x5), (6, .int x6), (7, .int x7), (8, .int x8), (10, .int x10), (11, .int x11)] → (x5.toInt = ((dpF nf A bb n : Nat) : Int)) → (x6.toInt = ((n : Nat) : Int)) → (x8.toInt = ((n : Nat) : Int)) → (n + dpF nf A bb n ≤ 14) → (BdI nf A f bb gb1 n) → (∀ q_, ¬ (16 * f ≤ q_ ∧ q_ < 16 * f + 16) → gb1 q_ = gb q_) → (1 ≤ dpF nf A bb n) → (x10.toInt = ((mCode kk : Nat) : Int)) → (kk < 14) → (mMay nf A f kk) → (x11.toInt = ((mParts nf A kk : Nat) : Int)) → (RaA g hc kd 0 13 gd) → (RaA g hc kb 0 64 gb1) → (∀ k_, ¬ (k_ = kd ∨ k_ = kb) → hc k_ = h k_) → 4 * (15 - n) + 1 < N → W p l e (headSpec wsL_body rm_L_body).room s m ([.ref (g.2.2.1 kd), .ref (g.2.2.1 kb), .int p2, .int p3, .int p4] : List Value).toArray below meth c H locs 0 0 (MQ below (va_Qv (fun h2 => (∀ k, ¬ (k = kd ∨ k = kb) → h2 k = h k) ∧ ∃ (gd2 gb2 : Nat → Int32) (bb : Nat → Nat) (n : Nat), RaA g h2 kd 0 13 gd2 ∧ RaA g h2 kb 0 64 gb2 ∧ (gd2 (8 + f)).toInt = ((n : Nat) : Int) ∧ (∀ q, q ≠ 8 + f → gd2 q = gd q) ∧ 1 ≤ n ∧ n ≤ 14 ∧ BdI nf A f bb gb2 n ∧ dpF nf A bb n = 0 ∧ (∀ q, ¬ (16 * f ≤ q ∧ q < 16 * f + 16) → gb2 q = gb q)) (Wd g) (inW g)) ([.ref (g.2.2.1 kd), .ref (g.2.2.1 kb), .int p2, .int p3, .int p4] : List Value).toArray s 0 0 (inW g)) (F0 m 150 ls [])) ∧ (∀ (n : Nat) (bb : Nat → Nat) (gb1 : Nat → Int32) (x5 : Int32) (x6 : Int32) (x7 : Int32) (x8 : Int32) (kk : Nat) (x10 : Int32) (x11 : Int32) (hc : Nat → va_E) (H : Heap) (locs : List Loc) (ls : Array Slot), WD g (inW g) s hc H locs → lv_has ls 13 [(0, .ref (g.2.2.1 kd)), (1, .ref (g.2.2.1 kb)), (2, .int p2), (3, .int p3), (4, .int p4), (5, .int x5), (6, .int x6), (7, .int x7), (8, .int x8), (10, .int x10), (11, .int x11)] → (x5.toInt = ((dpF nf A bb n : Nat) : Int)) → (x6.toInt = ((n : Nat) : Int)) → (x8.toInt = ((n : Nat) : Int)) → (n + dpF nf A bb n ≤ 14) → (BdI nf A f bb gb1 n) → (∀ q_, ¬ (16 * f ≤ q_ ∧ q_ < 16 * f + 16) → gb1 q_ = gb q_) → (1 ≤ dpF nf A bb n) → (x10.toInt = ((mCode kk : Nat) : Int)) → (kk < 14) → (mMay nf A f kk) → (x11.toInt = ((mParts nf A kk : Nat) : Int)) → (n + dpF nf A bb n + mParts nf A kk ≤ 14) → (RaA g hc kd 0 13 gd) → (RaA g hc kb 0 64 gb1) → (∀ k_, ¬ (k_ = kd ∨ k_ = kb) → hc k_ = h k_) → 4 * (15 - n) + 0 < N → W p l e (headSpec wsL_body rm_L_body).room s m ([.ref (g.2.2.1 kd), .ref (g.2.2.1 kb), .int p2, .int p3, .int p4] : List Value).toArray below meth c H locs 0 0 (MQ below (va_Qv (fun h2 => (∀ k, ¬ (k = kd ∨ k = kb) → h2 k = h k) ∧ ∃ (gd2 gb2 : Nat → Int32) (bb : Nat → Nat) (n : Nat), RaA g h2 kd 0 13 gd2 ∧ RaA g h2 kb 0 64 gb2 ∧ (gd2 (8 + f)).toInt = ((n : Nat) : Int) ∧ (∀ q, q ≠ 8 + f → gd2 q = gd q) ∧ 1 ≤ n ∧ n ≤ 14 ∧ BdI nf A f bb gb2 n ∧ dpF nf A bb n = 0 ∧ (∀ q, ¬ (16 * f ≤ q ∧ q < 16 * f + 16) → gb2 q = gb q)) (Wd g) (inW g)) ([.ref (g.2.2.1 kd), .ref (g.2.2.1 kb), .int p2, .int p3, .int p4] : List Value).toArray s 0 0 (inW g)) (F0 m 170 ls [])) := by
    intro N
    induction N with
    | zero => exact ⟨by intros; omega, by intros; omega, by intros; omega, by intros; omega⟩
    | succ N ih =>
      obtain ⟨ih22, ih53, ih150, ih170⟩ := ih
      refine ⟨?_, ?_, ?_, ?_⟩
      · intro n bb gb1 x5 x6 x7 x8 hc H locs ls w hl hx5 hx6 hx8 hnq hBd hout D Bt hfr hN_
        refine lv_iload hx hb dL_body_22 (lv_at hl 5 rfl) ?_
        refine lv_if_le (tgt := 199) hx hb dL_body_24 (by decide) (fun c1 => ?_) (fun c1 => ?_)
        · have c1 : (((dpF nf A bb n) : Nat) : Int) ≤ (0 : Int) := (i_le hx5 (rfl : (0 : Int32).toInt = 0)).mp c1
          refine lv_aload_n hx hb dL_body_199 rfl (lv_at hl 0 rfl) ?_
          refine lv_bipush (v := 8) hx hb dL_body_200 (by decide) ?_
          refine lv_iload_n hx hb dL_body_202 rfl (lv_at hl 2 rfl) ?_
          refine lv_iadd hx hb dL_body_203 ?_
          refine lv_topi (fun y2 ey2 => ?_)
          have ty2 : y2.toInt = (((8 + f) : Nat) : Int) := i_addN ey2 (by decide : (8 : Int32).toInt = ((8 : Nat) : Int)) hp2 (by omega)
          refine lv_iload hx hb dL_body_204 (lv_at hl 6 rfl) ?_
          refine r_iast (j := (8 + f)) hx hb w D.1 D.2 ty2 (by omega) dL_body_206 (fun h3 H locs eh3 w => ?_)
          have D := D.s eh3
          generalize egz4 : upd gd ((8 + f)) x6 = gz4 at D
          have hfr : ∀ k_, ¬ (k_ = kd ∨ k_ = kb) → h3 k_ = h k_ := fun k_ hk_ => by rw [eh3, va_up_ne _ _ (by omega)]; exact hfr k_ hk_
          have Bt := Bt.fr (h' := h3) (fun k_ h1_ h2_ => by rw [eh3, va_up_ne _ _ (by omega)])
          refine r_vret hx hb hr hlocks w dL_body_207 ?_
          have h0_ : dpF nf A bb n = 0 := by omega
          refine ⟨hfr, _, _, bb, n, D, Bt, by rw [← egz4, pk_us]; exact hx6, fun q_ hq_ => by rw [← egz4, pk_un hq_], ?_, by omega, hBd, h0_, hout⟩
          rcases Nat.eq_zero_or_pos n with z_ | z_
          · rw [z_] at h0_; have h1_ : (1 : Nat) = 0 := h0_; omega
          · exact z_
        · have c1 : ¬ ((((dpF nf A bb n) : Nat) : Int) ≤ (0 : Int)) := fun q => c1 ((i_le hx5 (rfl : (0 : Int32).toInt = 0)).mpr q)
          refine lv_iload hx hb dL_body_27 (lv_at hl 8 rfl) ?_
          refine lv_iconst (v := 2) hx hb dL_body_29 (by decide) ?_
          refine lv_irem hx hb dL_body_30 (fun q => absurd ((i_eq (by decide : (2 : Int32).toInt = ((2 : Nat) : Int)) (by decide : (0 : Int32).toInt = (0 : Int))).mp q) (by omega)) ?_
          refine lv_topi (fun y5 ey5 => ?_)
          have ty5 : y5.toInt = (((n % 2) : Nat) : Int) := i_remN ey5 hx8 (by decide : (2 : Int32).toInt = ((2 : Nat) : Int)) (by omega)
          refine lv_if_ne (tgt := 41) hx hb dL_body_31 (by decide) (fun c6 => ?_) (fun c6 => ?_)
          · have c6 : ¬ ((((n % 2) : Nat) : Int) = (0 : Int)) := fun q => c6 ((i_eq ty5 (rfl : (0 : Int32).toInt = 0)).mpr q)
            refine lv_iload hx hb dL_body_41 (lv_at hl 4 rfl) ?_
            refine lv_iload hx hb dL_body_43 (lv_at hl 8 rfl) ?_
            refine lv_ishr hx hb dL_body_45 ?_
            refine lv_topi (fun y7 ey7 => ?_)
            subst ey7
            refine lv_bipush (v := 14) hx hb dL_body_46 (by decide) ?_
            refine r_callI w (va_runS (As := [.int ((p4 >>> ((x8 : Int32) &&& 31))), .int 14]) (rest := []) ⟨hx, hb, hml, hown, hts⟩ (c_L_low l (g := g) (h := hc) ((p4 >>> ((x8 : Int32) &&& 31))) 14 (by decide : (14 : Int32).toInt = ((14 : Nat) : Int)) (by omega)) (va_cwS 2 hts gL_body_L_low rfl rfl rfl (by decide +kernel) ⟨Nat.le_of_ble_eq_true rfl, Nat.le_of_ble_eq_true rfl⟩) (r_preS w) rfl rfl hl.1 rfl (lv_room (Nat.le_of_ble_eq_true rfl)) dL_body_48 ⟨Nat.zero_le _, Nat.zero_le _⟩) (fun r9 h8 H locs hp w => ?_)
            obtain ⟨eh_, qq10⟩ := hp
            have eh_ := eh_.symm
            subst eh_
            have hlt_r9 := lowF_lt (v := (p4 >>> ((x8 : Int32) &&& 31))) (n := 14) (by omega)
            refine lv_istore (lv' := [(9, .int r9), (0, .ref (g.2.2.1 kd)), (1, .ref (g.2.2.1 kb)), (2, .int p2), (3, .int p3), (4, .int p4), (5, .int x5), (6, .int x6), (7, .int x7), (8, .int x8)]) hx hb dL_body_51 hl (by decide) rfl (fun ls hl => ?_)
            exact ih53 n bb gb1 x5 x6 x7 x8 ((lowF ((p4 >>> ((x8 : Int32) &&& 31))) 14)) r9 hc _ _ _ w (lv_sub hl [1, 2, 3, 4, 5, 6, 7, 8, 9, 0] rfl) hx5 hx6 hx8 hnq hBd hout (by omega) (by omega) qq10 D Bt hfr (by omega)
          · have c6 : (((n % 2) : Nat) : Int) = (0 : Int) := (i_eq ty5 (rfl : (0 : Int32).toInt = 0)).mp c6
            refine lv_iload_n hx hb dL_body_34 rfl (lv_at hl 3 rfl) ?_
            refine lv_iload hx hb dL_body_35 (lv_at hl 8 rfl) ?_
            refine lv_ishr hx hb dL_body_37 ?_
            refine lv_topi (fun y11 ey11 => ?_)
            subst ey11
            refine lv_goto (tgt := 46) hx hb dL_body_38 (by decide) ?_
            refine lv_bipush (v := 14) hx hb dL_body_46 (by decide) ?_
            refine r_callI w (va_runS (As := [.int ((p3 >>> ((x8 : Int32) &&& 31))), .int 14]) (rest := []) ⟨hx, hb, hml, hown, hts⟩ (c_L_low l (g := g) (h := hc) ((p3 >>> ((x8 : Int32) &&& 31))) 14 (by decide : (14 : Int32).toInt = ((14 : Nat) : Int)) (by omega)) (va_cwS 2 hts gL_body_L_low rfl rfl rfl (by decide +kernel) ⟨Nat.le_of_ble_eq_true rfl, Nat.le_of_ble_eq_true rfl⟩) (r_preS w) rfl rfl hl.1 rfl (lv_room (Nat.le_of_ble_eq_true rfl)) dL_body_48 ⟨Nat.zero_le _, Nat.zero_le _⟩) (fun r13 h12 H locs hp w => ?_)
            obtain ⟨eh_, qq14⟩ := hp
            have eh_ := eh_.symm
            subst eh_
            have hlt_r13 := lowF_lt (v := (p3 >>> ((x8 : Int32) &&& 31))) (n := 14) (by omega)
            refine lv_istore (lv' := [(9, .int r13), (0, .ref (g.2.2.1 kd)), (1, .ref (g.2.2.1 kb)), (2, .int p2), (3, .int p3), (4, .int p4), (5, .int x5), (6, .int x6), (7, .int x7), (8, .int x8)]) hx hb dL_body_51 hl (by decide) rfl (fun ls hl => ?_)
            exact ih53 n bb gb1 x5 x6 x7 x8 ((lowF ((p3 >>> ((x8 : Int32) &&& 31))) 14)) r13 hc _ _ _ w (lv_sub hl [1, 2, 3, 4, 5, 6, 7, 8, 9, 0] rfl) hx5 hx6 hx8 hnq hBd hout (by omega) (by omega) qq14 D Bt hfr (by omega)
      · intro n bb gb1 x5 x6 x7 x8 k9 x9 hc H locs ls w hl hx5 hx6 hx8 hnq hBd hout h1q hk9 hx9 D Bt hfr hN_
        have hAf_ := hA f hf
        refine lv_iload hx hb dL_body_53 (lv_at hl 9 rfl) ?_
        refine r_callI w (va_runS (As := [.int x9]) (rest := []) ⟨hx, hb, hml, hown, hts⟩ (c_L_letter l (g := g) (h := hc) x9 hx9 (by omega)) (va_cwS 1 hts gL_body_L_letter rfl rfl rfl (by decide +kernel) ⟨Nat.le_of_ble_eq_true rfl, Nat.le_of_ble_eq_true rfl⟩) (r_preS w) rfl rfl hl.1 rfl (lv_room (Nat.le_of_ble_eq_true rfl)) dL_body_55 ⟨Nat.zero_le _, Nat.zero_le _⟩) (fun r16 h15 H locs hp w => ?_)
        obtain ⟨eh_, qq17⟩ := hp
        have eh_ := eh_.symm
        subst eh_
        refine lv_istore (lv' := [(10, .int r16), (0, .ref (g.2.2.1 kd)), (1, .ref (g.2.2.1 kb)), (2, .int p2), (3, .int p3), (4, .int p4), (5, .int x5), (6, .int x6), (7, .int x7), (8, .int x8), (9, .int x9)]) hx hb dL_body_58 hl (by decide) rfl (fun ls hl => ?_)
        refine lv_aload_n hx hb dL_body_60 rfl (lv_at hl 1 rfl) ?_
        refine lv_iload_n hx hb dL_body_61 rfl (lv_at hl 3 rfl) ?_
        refine lv_iload hx hb dL_body_62 (lv_at hl 0 rfl) ?_
        refine r_callI w (va_runS (As := [.ref (g.2.2.1 kd), .int p2, .int r16]) (rest := []) ⟨hx, hb, hml, hown, hts⟩ (c_L_parts l D hN hN4 hA p2 r16 hp2 (by omega)) (va_cwS 3 hts gL_body_L_parts rfl rfl rfl (by decide +kernel) ⟨Nat.le_of_ble_eq_true rfl, Nat.le_of_ble_eq_true rfl⟩) (r_preS w) rfl rfl hl.1 rfl (lv_room (Nat.le_of_ble_eq_true rfl)) dL_body_64 ⟨Nat.zero_le _, Nat.zero_le _⟩) (fun r19 h18 H locs hp w => ?_)
        obtain ⟨eh_, qq20⟩ := hp
        have eh_ := eh_.symm
        subst eh_
        rw [qq17, mNum_code hk9] at qq20
        refine lv_istore (lv' := [(11, .int r19), (10, .int r16), (0, .ref (g.2.2.1 kd)), (1, .ref (g.2.2.1 kb)), (2, .int p2), (3, .int p3), (4, .int p4), (5, .int x5), (6, .int x6), (7, .int x7), (8, .int x8), (9, .int x9)]) hx hb dL_body_67 hl (by decide) rfl (fun ls hl => ?_)
        refine lv_iload hx hb dL_body_69 (lv_at hl 8 rfl) ?_
        refine lv_iload hx hb dL_body_71 (lv_at hl 7 rfl) ?_
        refine lv_iadd hx hb dL_body_73 ?_
        refine lv_topi (fun y21 ey21 => ?_)
        have ty21 : y21.toInt = (((n + (dpF nf A bb n)) : Nat) : Int) := i_addN ey21 hx6 hx5 (by omega)
        refine lv_iload hx hb dL_body_74 (lv_at hl 9 rfl) ?_
        refine lv_icmp_lt (tgt := 83) hx hb dL_body_76 (by decide) (fun c22 => ?_) (fun c22 => ?_)
        · have c22 : (((n + (dpF nf A bb n)) : Nat) : Int) < x7.toInt := (i_lt ty21 (rfl : x7.toInt = x7.toInt)).mp c22
          refine lv_iconst (v := 0) hx hb dL_body_83 (by decide) ?_
          refine lv_istore (lv' := [(12, .int 0), (11, .int r19), (10, .int r16), (0, .ref (g.2.2.1 kd)), (1, .ref (g.2.2.1 kb)), (2, .int p2), (3, .int p3), (4, .int p4), (5, .int x5), (6, .int x6), (7, .int x7), (8, .int x8), (9, .int x9)]) hx hb dL_body_84 hl (by decide) rfl (fun ls hl => ?_)
          refine lv_iload hx hb dL_body_86 (lv_at hl 1 rfl) ?_
          refine lv_if_lt (tgt := 101) hx hb dL_body_88 (by decide) (fun c23 => ?_) (fun c23 => ?_)
          · have c23 : r19.toInt < (0 : Int) := (i_lt (rfl : r19.toInt = r19.toInt) (rfl : (0 : Int32).toInt = 0)).mp c23
            refine lv_aload_n hx hb dL_body_101 rfl (lv_at hl 3 rfl) ?_
            refine lv_iload_n hx hb dL_body_102 rfl (lv_at hl 5 rfl) ?_
            refine r_iald (j := f) hx hb w D.1 D.2 hp2 (by omega) dL_body_103 ?_
            refine lv_if_le (tgt := 126) hx hb dL_body_104 (by decide) (fun c24 => ?_) (fun c24 => ?_)
            · have c24 : (((A f) : Nat) : Int) ≤ (0 : Int) := (i_le (hA f (by omega)).1 (rfl : (0 : Int32).toInt = 0)).mp c24
              refine lv_iload hx hb dL_body_126 (lv_at hl 7 rfl) ?_
              refine lv_iload hx hb dL_body_128 (lv_at hl 11 rfl) ?_
              refine lv_ishr hx hb dL_body_130 ?_
              refine lv_topi (fun y25 ey25 => ?_)
              subst ey25
              refine lv_iconst (v := 3) hx hb dL_body_131 (by decide) ?_
              refine r_callI w (va_runS (As := [.int ((p4 >>> ((x8 : Int32) &&& 31))), .int 3]) (rest := []) ⟨hx, hb, hml, hown, hts⟩ (c_L_low l (g := g) (h := hc) ((p4 >>> ((x8 : Int32) &&& 31))) 3 (by decide : (3 : Int32).toInt = ((3 : Nat) : Int)) (by omega)) (va_cwS 2 hts gL_body_L_low rfl rfl rfl (by decide +kernel) ⟨Nat.le_of_ble_eq_true rfl, Nat.le_of_ble_eq_true rfl⟩) (r_preS w) rfl rfl hl.1 rfl (lv_room (Nat.le_of_ble_eq_true rfl)) dL_body_132 ⟨Nat.zero_le _, Nat.zero_le _⟩) (fun r27 h26 H locs hp w => ?_)
              obtain ⟨eh_, qq28⟩ := hp
              have eh_ := eh_.symm
              subst eh_
              have hlt_r27 := lowF_lt (v := (p4 >>> ((x8 : Int32) &&& 31))) (n := 3) (by omega)
              refine lv_if_ne (tgt := 143) hx hb dL_body_135 (by decide) (fun c29 => ?_) (fun c29 => ?_)
              · have c29 : ¬ ((((lowF ((p4 >>> ((x8 : Int32) &&& 31))) 3) : Nat) : Int) = (0 : Int)) := fun q => c29 ((i_eq qq28 (rfl : (0 : Int32).toInt = 0)).mpr q)
                refine lv_bipush (v := 105) hx hb dL_body_143 (by decide) ?_
                refine lv_istore (lv' := [(10, .int 105), (12, .int 0), (11, .int r19), (0, .ref (g.2.2.1 kd)), (1, .ref (g.2.2.1 kb)), (2, .int p2), (3, .int p3), (4, .int p4), (5, .int x5), (6, .int x6), (7, .int x7), (8, .int x8), (9, .int x9)]) hx hb dL_body_145 hl (by decide) rfl (fun ls hl => ?_)
                refine lv_iconst (v := 0) hx hb dL_body_147 (by decide) ?_
                refine lv_istore (lv' := [(11, .int 0), (10, .int 105), (12, .int 0), (0, .ref (g.2.2.1 kd)), (1, .ref (g.2.2.1 kb)), (2, .int p2), (3, .int p3), (4, .int p4), (5, .int x5), (6, .int x6), (7, .int x7), (8, .int x8), (9, .int x9)]) hx hb dL_body_148 hl (by decide) rfl (fun ls hl => ?_)
                exact ih150 n bb gb1 x5 x6 x7 x8 1 105 0 hc _ _ _ w (lv_sub hl [3, 4, 5, 6, 7, 8, 9, 10, 11, 1, 0] rfl) hx5 hx6 hx8 hnq hBd hout (by omega) ((by decide)) ((by decide)) ((may_01 (N := nf) (A := A) (f := f) (by decide)).1) ((by rw [(may_01 (N := nf) (A := A) (f := f) (k := 1) (by decide)).2]; rfl)) D Bt hfr (by omega)
              · have c29 : (((lowF ((p4 >>> ((x8 : Int32) &&& 31))) 3) : Nat) : Int) = (0 : Int) := (i_eq qq28 (rfl : (0 : Int32).toInt = 0)).mp c29
                refine lv_bipush (v := 111) hx hb dL_body_138 (by decide) ?_
                refine lv_goto (tgt := 145) hx hb dL_body_140 (by decide) ?_
                refine lv_istore (lv' := [(10, .int 111), (12, .int 0), (11, .int r19), (0, .ref (g.2.2.1 kd)), (1, .ref (g.2.2.1 kb)), (2, .int p2), (3, .int p3), (4, .int p4), (5, .int x5), (6, .int x6), (7, .int x7), (8, .int x8), (9, .int x9)]) hx hb dL_body_145 hl (by decide) rfl (fun ls hl => ?_)
                refine lv_iconst (v := 0) hx hb dL_body_147 (by decide) ?_
                refine lv_istore (lv' := [(11, .int 0), (10, .int 111), (12, .int 0), (0, .ref (g.2.2.1 kd)), (1, .ref (g.2.2.1 kb)), (2, .int p2), (3, .int p3), (4, .int p4), (5, .int x5), (6, .int x6), (7, .int x7), (8, .int x8), (9, .int x9)]) hx hb dL_body_148 hl (by decide) rfl (fun ls hl => ?_)
                exact ih150 n bb gb1 x5 x6 x7 x8 0 111 0 hc _ _ _ w (lv_sub hl [3, 4, 5, 6, 7, 8, 9, 10, 11, 1, 0] rfl) hx5 hx6 hx8 hnq hBd hout (by omega) ((by decide)) ((by decide)) ((may_01 (N := nf) (A := A) (f := f) (by decide)).1) ((by rw [(may_01 (N := nf) (A := A) (f := f) (k := 0) (by decide)).2]; rfl)) D Bt hfr (by omega)
            · have c24 : ¬ ((((A f) : Nat) : Int) ≤ (0 : Int)) := fun q => c24 ((i_le (hA f (by omega)).1 (rfl : (0 : Int32).toInt = 0)).mpr q)
              refine lv_bipush (v := 97) hx hb dL_body_107 (by decide) ?_
              refine lv_iload hx hb dL_body_109 (lv_at hl 7 rfl) ?_
              refine lv_iload hx hb dL_body_111 (lv_at hl 11 rfl) ?_
              refine lv_iconst (v := 2) hx hb dL_body_113 (by decide) ?_
              refine lv_iadd hx hb dL_body_114 ?_
              refine lv_topi (fun y30 ey30 => ?_)
              have ty30 : y30.toInt = (((n + 2) : Nat) : Int) := i_addN ey30 hx8 (by decide : (2 : Int32).toInt = ((2 : Nat) : Int)) (by omega)
              refine lv_ishr hx hb dL_body_115 ?_
              refine lv_topi (fun y31 ey31 => ?_)
              subst ey31
              refine lv_aload_n hx hb dL_body_116 rfl (lv_at hl 3 rfl) ?_
              refine lv_iload_n hx hb dL_body_117 rfl (lv_at hl 5 rfl) ?_
              refine r_iald (j := f) hx hb w D.1 D.2 hp2 (by omega) dL_body_118 ?_
              refine r_callI w (va_runS (As := [.int ((p4 >>> ((y30 : Int32) &&& 31))), .int (gd f)]) (rest := [.int 97]) ⟨hx, hb, hml, hown, hts⟩ (c_L_low l (g := g) (h := hc) ((p4 >>> ((y30 : Int32) &&& 31))) (gd f) (hA f (by omega)).1 (by omega)) (va_cwS 2 hts gL_body_L_low rfl rfl rfl (by decide +kernel) ⟨Nat.le_of_ble_eq_true rfl, Nat.le_of_ble_eq_true rfl⟩) (r_preS w) rfl rfl hl.1 rfl (lv_room (Nat.le_of_ble_eq_true rfl)) dL_body_119 ⟨Nat.zero_le _, Nat.zero_le _⟩) (fun r33 h32 H locs hp w => ?_)
              obtain ⟨eh_, qq34⟩ := hp
              have eh_ := eh_.symm
              subst eh_
              have hlt_r33 := lowF_lt (v := (p4 >>> ((y30 : Int32) &&& 31))) (n := (A f)) (by omega)
              refine lv_iadd hx hb dL_body_122 ?_
              refine lv_topi (fun y35 ey35 => ?_)
              have ty35 : y35.toInt = (((97 + (lowF ((p4 >>> ((y30 : Int32) &&& 31))) ((A f)))) : Nat) : Int) := i_addN ey35 (by decide : (97 : Int32).toInt = ((97 : Nat) : Int)) qq34 (by omega)
              refine lv_goto (tgt := 145) hx hb dL_body_123 (by decide) ?_
              refine lv_istore (lv' := [(10, .int y35), (12, .int 0), (11, .int r19), (0, .ref (g.2.2.1 kd)), (1, .ref (g.2.2.1 kb)), (2, .int p2), (3, .int p3), (4, .int p4), (5, .int x5), (6, .int x6), (7, .int x7), (8, .int x8), (9, .int x9)]) hx hb dL_body_145 hl (by decide) rfl (fun ls hl => ?_)
              refine lv_iconst (v := 0) hx hb dL_body_147 (by decide) ?_
              refine lv_istore (lv' := [(11, .int 0), (10, .int y35), (12, .int 0), (0, .ref (g.2.2.1 kd)), (1, .ref (g.2.2.1 kb)), (2, .int p2), (3, .int p3), (4, .int p4), (5, .int x5), (6, .int x6), (7, .int x7), (8, .int x8), (9, .int x9)]) hx hb dL_body_148 hl (by decide) rfl (fun ls hl => ?_)
              obtain ⟨hma_, hmc_, hmp_⟩ := may_arg (N := nf) (A := A) (f := f) (a := (lowF ((p4 >>> ((y30 : Int32) &&& 31))) ((A f)))) (by omega) (hA f (by omega)).2
              exact ih150 n bb gb1 x5 x6 x7 x8 (3 + (lowF ((p4 >>> ((y30 : Int32) &&& 31))) ((A f)))) y35 0 hc _ _ _ w (lv_sub hl [3, 4, 5, 6, 7, 8, 9, 10, 11, 1, 0] rfl) hx5 hx6 hx8 hnq hBd hout (by omega) (ty35.trans (by rw [hmc_])) (by omega) hma_ ((by rw [hmp_]; rfl)) D Bt hfr (by omega)
          · have c23 : ¬ (r19.toInt < (0 : Int)) := fun q => c23 ((i_lt (rfl : r19.toInt = r19.toInt) (rfl : (0 : Int32).toInt = 0)).mpr q)
            refine lv_iload hx hb dL_body_91 (lv_at hl 0 rfl) ?_
            refine lv_if_eq (tgt := 150) hx hb dL_body_93 (by decide) (fun c36 => ?_) (fun c36 => ?_)
            · have c36 : ((0 : Nat) : Int) = (0 : Int) := (i_eq (by decide : (0 : Int32).toInt = ((0 : Nat) : Int)) (rfl : (0 : Int32).toInt = 0)).mp c36
              obtain ⟨_, hmy_, hpt_⟩ := qq20.resolve_right (fun z_ => by omega)
              exact ih150 n bb gb1 x5 x6 x7 x8 k9 r16 r19 hc _ _ _ w (lv_sub hl [3, 4, 5, 6, 7, 8, 9, 10, 11, 2, 1] rfl) hx5 hx6 hx8 hnq hBd hout (by omega) qq17 hk9 hmy_ hpt_ D Bt hfr (by omega)
            · have c36 : ¬ (((0 : Nat) : Int) = (0 : Int)) := fun q => c36 ((i_eq (by decide : (0 : Int32).toInt = ((0 : Nat) : Int)) (rfl : (0 : Int32).toInt = 0)).mpr q)
              refine lv_iload hx hb dL_body_96 (lv_at hl 1 rfl) ?_
              refine lv_if_le (tgt := 150) hx hb dL_body_98 (by decide) (fun c37 => ?_) (fun c37 => ?_)
              · have c37 : r19.toInt ≤ (0 : Int) := (i_le (rfl : r19.toInt = r19.toInt) (rfl : (0 : Int32).toInt = 0)).mp c37
                obtain ⟨_, hmy_, hpt_⟩ := qq20.resolve_right (fun z_ => by omega)
                exact ih150 n bb gb1 x5 x6 x7 x8 k9 r16 r19 hc _ _ _ w (lv_sub hl [3, 4, 5, 6, 7, 8, 9, 10, 11, 2, 1] rfl) hx5 hx6 hx8 hnq hBd hout (by omega) qq17 hk9 hmy_ hpt_ D Bt hfr (by omega)
              · have c37 : ¬ (r19.toInt ≤ (0 : Int)) := fun q => c37 ((i_le (rfl : r19.toInt = r19.toInt) (rfl : (0 : Int32).toInt = 0)).mpr q)
                refine lv_aload_n hx hb dL_body_101 rfl (lv_at hl 3 rfl) ?_
                refine lv_iload_n hx hb dL_body_102 rfl (lv_at hl 5 rfl) ?_
                refine r_iald (j := f) hx hb w D.1 D.2 hp2 (by omega) dL_body_103 ?_
                refine lv_if_le (tgt := 126) hx hb dL_body_104 (by decide) (fun c38 => ?_) (fun c38 => ?_)
                · have c38 : (((A f) : Nat) : Int) ≤ (0 : Int) := (i_le (hA f (by omega)).1 (rfl : (0 : Int32).toInt = 0)).mp c38
                  refine lv_iload hx hb dL_body_126 (lv_at hl 7 rfl) ?_
                  refine lv_iload hx hb dL_body_128 (lv_at hl 11 rfl) ?_
                  refine lv_ishr hx hb dL_body_130 ?_
                  refine lv_topi (fun y39 ey39 => ?_)
                  subst ey39
                  refine lv_iconst (v := 3) hx hb dL_body_131 (by decide) ?_
                  refine r_callI w (va_runS (As := [.int ((p4 >>> ((x8 : Int32) &&& 31))), .int 3]) (rest := []) ⟨hx, hb, hml, hown, hts⟩ (c_L_low l (g := g) (h := hc) ((p4 >>> ((x8 : Int32) &&& 31))) 3 (by decide : (3 : Int32).toInt = ((3 : Nat) : Int)) (by omega)) (va_cwS 2 hts gL_body_L_low rfl rfl rfl (by decide +kernel) ⟨Nat.le_of_ble_eq_true rfl, Nat.le_of_ble_eq_true rfl⟩) (r_preS w) rfl rfl hl.1 rfl (lv_room (Nat.le_of_ble_eq_true rfl)) dL_body_132 ⟨Nat.zero_le _, Nat.zero_le _⟩) (fun r41 h40 H locs hp w => ?_)
                  obtain ⟨eh_, qq42⟩ := hp
                  have eh_ := eh_.symm
                  subst eh_
                  have hlt_r41 := lowF_lt (v := (p4 >>> ((x8 : Int32) &&& 31))) (n := 3) (by omega)
                  refine lv_if_ne (tgt := 143) hx hb dL_body_135 (by decide) (fun c43 => ?_) (fun c43 => ?_)
                  · have c43 : ¬ ((((lowF ((p4 >>> ((x8 : Int32) &&& 31))) 3) : Nat) : Int) = (0 : Int)) := fun q => c43 ((i_eq qq42 (rfl : (0 : Int32).toInt = 0)).mpr q)
                    refine lv_bipush (v := 105) hx hb dL_body_143 (by decide) ?_
                    refine lv_istore (lv' := [(10, .int 105), (12, .int 0), (11, .int r19), (0, .ref (g.2.2.1 kd)), (1, .ref (g.2.2.1 kb)), (2, .int p2), (3, .int p3), (4, .int p4), (5, .int x5), (6, .int x6), (7, .int x7), (8, .int x8), (9, .int x9)]) hx hb dL_body_145 hl (by decide) rfl (fun ls hl => ?_)
                    refine lv_iconst (v := 0) hx hb dL_body_147 (by decide) ?_
                    refine lv_istore (lv' := [(11, .int 0), (10, .int 105), (12, .int 0), (0, .ref (g.2.2.1 kd)), (1, .ref (g.2.2.1 kb)), (2, .int p2), (3, .int p3), (4, .int p4), (5, .int x5), (6, .int x6), (7, .int x7), (8, .int x8), (9, .int x9)]) hx hb dL_body_148 hl (by decide) rfl (fun ls hl => ?_)
                    exact ih150 n bb gb1 x5 x6 x7 x8 1 105 0 hc _ _ _ w (lv_sub hl [3, 4, 5, 6, 7, 8, 9, 10, 11, 1, 0] rfl) hx5 hx6 hx8 hnq hBd hout (by omega) ((by decide)) ((by decide)) ((may_01 (N := nf) (A := A) (f := f) (by decide)).1) ((by rw [(may_01 (N := nf) (A := A) (f := f) (k := 1) (by decide)).2]; rfl)) D Bt hfr (by omega)
                  · have c43 : (((lowF ((p4 >>> ((x8 : Int32) &&& 31))) 3) : Nat) : Int) = (0 : Int) := (i_eq qq42 (rfl : (0 : Int32).toInt = 0)).mp c43
                    refine lv_bipush (v := 111) hx hb dL_body_138 (by decide) ?_
                    refine lv_goto (tgt := 145) hx hb dL_body_140 (by decide) ?_
                    refine lv_istore (lv' := [(10, .int 111), (12, .int 0), (11, .int r19), (0, .ref (g.2.2.1 kd)), (1, .ref (g.2.2.1 kb)), (2, .int p2), (3, .int p3), (4, .int p4), (5, .int x5), (6, .int x6), (7, .int x7), (8, .int x8), (9, .int x9)]) hx hb dL_body_145 hl (by decide) rfl (fun ls hl => ?_)
                    refine lv_iconst (v := 0) hx hb dL_body_147 (by decide) ?_
                    refine lv_istore (lv' := [(11, .int 0), (10, .int 111), (12, .int 0), (0, .ref (g.2.2.1 kd)), (1, .ref (g.2.2.1 kb)), (2, .int p2), (3, .int p3), (4, .int p4), (5, .int x5), (6, .int x6), (7, .int x7), (8, .int x8), (9, .int x9)]) hx hb dL_body_148 hl (by decide) rfl (fun ls hl => ?_)
                    exact ih150 n bb gb1 x5 x6 x7 x8 0 111 0 hc _ _ _ w (lv_sub hl [3, 4, 5, 6, 7, 8, 9, 10, 11, 1, 0] rfl) hx5 hx6 hx8 hnq hBd hout (by omega) ((by decide)) ((by decide)) ((may_01 (N := nf) (A := A) (f := f) (by decide)).1) ((by rw [(may_01 (N := nf) (A := A) (f := f) (k := 0) (by decide)).2]; rfl)) D Bt hfr (by omega)
                · have c38 : ¬ ((((A f) : Nat) : Int) ≤ (0 : Int)) := fun q => c38 ((i_le (hA f (by omega)).1 (rfl : (0 : Int32).toInt = 0)).mpr q)
                  refine lv_bipush (v := 97) hx hb dL_body_107 (by decide) ?_
                  refine lv_iload hx hb dL_body_109 (lv_at hl 7 rfl) ?_
                  refine lv_iload hx hb dL_body_111 (lv_at hl 11 rfl) ?_
                  refine lv_iconst (v := 2) hx hb dL_body_113 (by decide) ?_
                  refine lv_iadd hx hb dL_body_114 ?_
                  refine lv_topi (fun y44 ey44 => ?_)
                  have ty44 : y44.toInt = (((n + 2) : Nat) : Int) := i_addN ey44 hx8 (by decide : (2 : Int32).toInt = ((2 : Nat) : Int)) (by omega)
                  refine lv_ishr hx hb dL_body_115 ?_
                  refine lv_topi (fun y45 ey45 => ?_)
                  subst ey45
                  refine lv_aload_n hx hb dL_body_116 rfl (lv_at hl 3 rfl) ?_
                  refine lv_iload_n hx hb dL_body_117 rfl (lv_at hl 5 rfl) ?_
                  refine r_iald (j := f) hx hb w D.1 D.2 hp2 (by omega) dL_body_118 ?_
                  refine r_callI w (va_runS (As := [.int ((p4 >>> ((y44 : Int32) &&& 31))), .int (gd f)]) (rest := [.int 97]) ⟨hx, hb, hml, hown, hts⟩ (c_L_low l (g := g) (h := hc) ((p4 >>> ((y44 : Int32) &&& 31))) (gd f) (hA f (by omega)).1 (by omega)) (va_cwS 2 hts gL_body_L_low rfl rfl rfl (by decide +kernel) ⟨Nat.le_of_ble_eq_true rfl, Nat.le_of_ble_eq_true rfl⟩) (r_preS w) rfl rfl hl.1 rfl (lv_room (Nat.le_of_ble_eq_true rfl)) dL_body_119 ⟨Nat.zero_le _, Nat.zero_le _⟩) (fun r47 h46 H locs hp w => ?_)
                  obtain ⟨eh_, qq48⟩ := hp
                  have eh_ := eh_.symm
                  subst eh_
                  have hlt_r47 := lowF_lt (v := (p4 >>> ((y44 : Int32) &&& 31))) (n := (A f)) (by omega)
                  refine lv_iadd hx hb dL_body_122 ?_
                  refine lv_topi (fun y49 ey49 => ?_)
                  have ty49 : y49.toInt = (((97 + (lowF ((p4 >>> ((y44 : Int32) &&& 31))) ((A f)))) : Nat) : Int) := i_addN ey49 (by decide : (97 : Int32).toInt = ((97 : Nat) : Int)) qq48 (by omega)
                  refine lv_goto (tgt := 145) hx hb dL_body_123 (by decide) ?_
                  refine lv_istore (lv' := [(10, .int y49), (12, .int 0), (11, .int r19), (0, .ref (g.2.2.1 kd)), (1, .ref (g.2.2.1 kb)), (2, .int p2), (3, .int p3), (4, .int p4), (5, .int x5), (6, .int x6), (7, .int x7), (8, .int x8), (9, .int x9)]) hx hb dL_body_145 hl (by decide) rfl (fun ls hl => ?_)
                  refine lv_iconst (v := 0) hx hb dL_body_147 (by decide) ?_
                  refine lv_istore (lv' := [(11, .int 0), (10, .int y49), (12, .int 0), (0, .ref (g.2.2.1 kd)), (1, .ref (g.2.2.1 kb)), (2, .int p2), (3, .int p3), (4, .int p4), (5, .int x5), (6, .int x6), (7, .int x7), (8, .int x8), (9, .int x9)]) hx hb dL_body_148 hl (by decide) rfl (fun ls hl => ?_)
                  obtain ⟨hma_, hmc_, hmp_⟩ := may_arg (N := nf) (A := A) (f := f) (a := (lowF ((p4 >>> ((y44 : Int32) &&& 31))) ((A f)))) (by omega) (hA f (by omega)).2
                  exact ih150 n bb gb1 x5 x6 x7 x8 (3 + (lowF ((p4 >>> ((y44 : Int32) &&& 31))) ((A f)))) y49 0 hc _ _ _ w (lv_sub hl [3, 4, 5, 6, 7, 8, 9, 10, 11, 1, 0] rfl) hx5 hx6 hx8 hnq hBd hout (by omega) (ty49.trans (by rw [hmc_])) (by omega) hma_ ((by rw [hmp_]; rfl)) D Bt hfr (by omega)
        · have c22 : ¬ ((((n + (dpF nf A bb n)) : Nat) : Int) < x7.toInt) := fun q => c22 ((i_lt ty21 (rfl : x7.toInt = x7.toInt)).mpr q)
          refine lv_iconst (v := 1) hx hb dL_body_79 (by decide) ?_
          refine lv_goto (tgt := 84) hx hb dL_body_80 (by decide) ?_
          refine lv_istore (lv' := [(12, .int 1), (11, .int r19), (10, .int r16), (0, .ref (g.2.2.1 kd)), (1, .ref (g.2.2.1 kb)), (2, .int p2), (3, .int p3), (4, .int p4), (5, .int x5), (6, .int x6), (7, .int x7), (8, .int x8), (9, .int x9)]) hx hb dL_body_84 hl (by decide) rfl (fun ls hl => ?_)
          refine lv_iload hx hb dL_body_86 (lv_at hl 1 rfl) ?_
          refine lv_if_lt (tgt := 101) hx hb dL_body_88 (by decide) (fun c50 => ?_) (fun c50 => ?_)
          · have c50 : r19.toInt < (0 : Int) := (i_lt (rfl : r19.toInt = r19.toInt) (rfl : (0 : Int32).toInt = 0)).mp c50
            refine lv_aload_n hx hb dL_body_101 rfl (lv_at hl 3 rfl) ?_
            refine lv_iload_n hx hb dL_body_102 rfl (lv_at hl 5 rfl) ?_
            refine r_iald (j := f) hx hb w D.1 D.2 hp2 (by omega) dL_body_103 ?_
            refine lv_if_le (tgt := 126) hx hb dL_body_104 (by decide) (fun c51 => ?_) (fun c51 => ?_)
            · have c51 : (((A f) : Nat) : Int) ≤ (0 : Int) := (i_le (hA f (by omega)).1 (rfl : (0 : Int32).toInt = 0)).mp c51
              refine lv_iload hx hb dL_body_126 (lv_at hl 7 rfl) ?_
              refine lv_iload hx hb dL_body_128 (lv_at hl 11 rfl) ?_
              refine lv_ishr hx hb dL_body_130 ?_
              refine lv_topi (fun y52 ey52 => ?_)
              subst ey52
              refine lv_iconst (v := 3) hx hb dL_body_131 (by decide) ?_
              refine r_callI w (va_runS (As := [.int ((p4 >>> ((x8 : Int32) &&& 31))), .int 3]) (rest := []) ⟨hx, hb, hml, hown, hts⟩ (c_L_low l (g := g) (h := hc) ((p4 >>> ((x8 : Int32) &&& 31))) 3 (by decide : (3 : Int32).toInt = ((3 : Nat) : Int)) (by omega)) (va_cwS 2 hts gL_body_L_low rfl rfl rfl (by decide +kernel) ⟨Nat.le_of_ble_eq_true rfl, Nat.le_of_ble_eq_true rfl⟩) (r_preS w) rfl rfl hl.1 rfl (lv_room (Nat.le_of_ble_eq_true rfl)) dL_body_132 ⟨Nat.zero_le _, Nat.zero_le _⟩) (fun r54 h53 H locs hp w => ?_)
              obtain ⟨eh_, qq55⟩ := hp
              have eh_ := eh_.symm
              subst eh_
              have hlt_r54 := lowF_lt (v := (p4 >>> ((x8 : Int32) &&& 31))) (n := 3) (by omega)
              refine lv_if_ne (tgt := 143) hx hb dL_body_135 (by decide) (fun c56 => ?_) (fun c56 => ?_)
              · have c56 : ¬ ((((lowF ((p4 >>> ((x8 : Int32) &&& 31))) 3) : Nat) : Int) = (0 : Int)) := fun q => c56 ((i_eq qq55 (rfl : (0 : Int32).toInt = 0)).mpr q)
                refine lv_bipush (v := 105) hx hb dL_body_143 (by decide) ?_
                refine lv_istore (lv' := [(10, .int 105), (12, .int 1), (11, .int r19), (0, .ref (g.2.2.1 kd)), (1, .ref (g.2.2.1 kb)), (2, .int p2), (3, .int p3), (4, .int p4), (5, .int x5), (6, .int x6), (7, .int x7), (8, .int x8), (9, .int x9)]) hx hb dL_body_145 hl (by decide) rfl (fun ls hl => ?_)
                refine lv_iconst (v := 0) hx hb dL_body_147 (by decide) ?_
                refine lv_istore (lv' := [(11, .int 0), (10, .int 105), (12, .int 1), (0, .ref (g.2.2.1 kd)), (1, .ref (g.2.2.1 kb)), (2, .int p2), (3, .int p3), (4, .int p4), (5, .int x5), (6, .int x6), (7, .int x7), (8, .int x8), (9, .int x9)]) hx hb dL_body_148 hl (by decide) rfl (fun ls hl => ?_)
                exact ih150 n bb gb1 x5 x6 x7 x8 1 105 0 hc _ _ _ w (lv_sub hl [3, 4, 5, 6, 7, 8, 9, 10, 11, 1, 0] rfl) hx5 hx6 hx8 hnq hBd hout (by omega) ((by decide)) ((by decide)) ((may_01 (N := nf) (A := A) (f := f) (by decide)).1) ((by rw [(may_01 (N := nf) (A := A) (f := f) (k := 1) (by decide)).2]; rfl)) D Bt hfr (by omega)
              · have c56 : (((lowF ((p4 >>> ((x8 : Int32) &&& 31))) 3) : Nat) : Int) = (0 : Int) := (i_eq qq55 (rfl : (0 : Int32).toInt = 0)).mp c56
                refine lv_bipush (v := 111) hx hb dL_body_138 (by decide) ?_
                refine lv_goto (tgt := 145) hx hb dL_body_140 (by decide) ?_
                refine lv_istore (lv' := [(10, .int 111), (12, .int 1), (11, .int r19), (0, .ref (g.2.2.1 kd)), (1, .ref (g.2.2.1 kb)), (2, .int p2), (3, .int p3), (4, .int p4), (5, .int x5), (6, .int x6), (7, .int x7), (8, .int x8), (9, .int x9)]) hx hb dL_body_145 hl (by decide) rfl (fun ls hl => ?_)
                refine lv_iconst (v := 0) hx hb dL_body_147 (by decide) ?_
                refine lv_istore (lv' := [(11, .int 0), (10, .int 111), (12, .int 1), (0, .ref (g.2.2.1 kd)), (1, .ref (g.2.2.1 kb)), (2, .int p2), (3, .int p3), (4, .int p4), (5, .int x5), (6, .int x6), (7, .int x7), (8, .int x8), (9, .int x9)]) hx hb dL_body_148 hl (by decide) rfl (fun ls hl => ?_)
                exact ih150 n bb gb1 x5 x6 x7 x8 0 111 0 hc _ _ _ w (lv_sub hl [3, 4, 5, 6, 7, 8, 9, 10, 11, 1, 0] rfl) hx5 hx6 hx8 hnq hBd hout (by omega) ((by decide)) ((by decide)) ((may_01 (N := nf) (A := A) (f := f) (by decide)).1) ((by rw [(may_01 (N := nf) (A := A) (f := f) (k := 0) (by decide)).2]; rfl)) D Bt hfr (by omega)
            · have c51 : ¬ ((((A f) : Nat) : Int) ≤ (0 : Int)) := fun q => c51 ((i_le (hA f (by omega)).1 (rfl : (0 : Int32).toInt = 0)).mpr q)
              refine lv_bipush (v := 97) hx hb dL_body_107 (by decide) ?_
              refine lv_iload hx hb dL_body_109 (lv_at hl 7 rfl) ?_
              refine lv_iload hx hb dL_body_111 (lv_at hl 11 rfl) ?_
              refine lv_iconst (v := 2) hx hb dL_body_113 (by decide) ?_
              refine lv_iadd hx hb dL_body_114 ?_
              refine lv_topi (fun y57 ey57 => ?_)
              have ty57 : y57.toInt = (((n + 2) : Nat) : Int) := i_addN ey57 hx8 (by decide : (2 : Int32).toInt = ((2 : Nat) : Int)) (by omega)
              refine lv_ishr hx hb dL_body_115 ?_
              refine lv_topi (fun y58 ey58 => ?_)
              subst ey58
              refine lv_aload_n hx hb dL_body_116 rfl (lv_at hl 3 rfl) ?_
              refine lv_iload_n hx hb dL_body_117 rfl (lv_at hl 5 rfl) ?_
              refine r_iald (j := f) hx hb w D.1 D.2 hp2 (by omega) dL_body_118 ?_
              refine r_callI w (va_runS (As := [.int ((p4 >>> ((y57 : Int32) &&& 31))), .int (gd f)]) (rest := [.int 97]) ⟨hx, hb, hml, hown, hts⟩ (c_L_low l (g := g) (h := hc) ((p4 >>> ((y57 : Int32) &&& 31))) (gd f) (hA f (by omega)).1 (by omega)) (va_cwS 2 hts gL_body_L_low rfl rfl rfl (by decide +kernel) ⟨Nat.le_of_ble_eq_true rfl, Nat.le_of_ble_eq_true rfl⟩) (r_preS w) rfl rfl hl.1 rfl (lv_room (Nat.le_of_ble_eq_true rfl)) dL_body_119 ⟨Nat.zero_le _, Nat.zero_le _⟩) (fun r60 h59 H locs hp w => ?_)
              obtain ⟨eh_, qq61⟩ := hp
              have eh_ := eh_.symm
              subst eh_
              have hlt_r60 := lowF_lt (v := (p4 >>> ((y57 : Int32) &&& 31))) (n := (A f)) (by omega)
              refine lv_iadd hx hb dL_body_122 ?_
              refine lv_topi (fun y62 ey62 => ?_)
              have ty62 : y62.toInt = (((97 + (lowF ((p4 >>> ((y57 : Int32) &&& 31))) ((A f)))) : Nat) : Int) := i_addN ey62 (by decide : (97 : Int32).toInt = ((97 : Nat) : Int)) qq61 (by omega)
              refine lv_goto (tgt := 145) hx hb dL_body_123 (by decide) ?_
              refine lv_istore (lv' := [(10, .int y62), (12, .int 1), (11, .int r19), (0, .ref (g.2.2.1 kd)), (1, .ref (g.2.2.1 kb)), (2, .int p2), (3, .int p3), (4, .int p4), (5, .int x5), (6, .int x6), (7, .int x7), (8, .int x8), (9, .int x9)]) hx hb dL_body_145 hl (by decide) rfl (fun ls hl => ?_)
              refine lv_iconst (v := 0) hx hb dL_body_147 (by decide) ?_
              refine lv_istore (lv' := [(11, .int 0), (10, .int y62), (12, .int 1), (0, .ref (g.2.2.1 kd)), (1, .ref (g.2.2.1 kb)), (2, .int p2), (3, .int p3), (4, .int p4), (5, .int x5), (6, .int x6), (7, .int x7), (8, .int x8), (9, .int x9)]) hx hb dL_body_148 hl (by decide) rfl (fun ls hl => ?_)
              obtain ⟨hma_, hmc_, hmp_⟩ := may_arg (N := nf) (A := A) (f := f) (a := (lowF ((p4 >>> ((y57 : Int32) &&& 31))) ((A f)))) (by omega) (hA f (by omega)).2
              exact ih150 n bb gb1 x5 x6 x7 x8 (3 + (lowF ((p4 >>> ((y57 : Int32) &&& 31))) ((A f)))) y62 0 hc _ _ _ w (lv_sub hl [3, 4, 5, 6, 7, 8, 9, 10, 11, 1, 0] rfl) hx5 hx6 hx8 hnq hBd hout (by omega) (ty62.trans (by rw [hmc_])) (by omega) hma_ ((by rw [hmp_]; rfl)) D Bt hfr (by omega)
          · have c50 : ¬ (r19.toInt < (0 : Int)) := fun q => c50 ((i_lt (rfl : r19.toInt = r19.toInt) (rfl : (0 : Int32).toInt = 0)).mpr q)
            refine lv_iload hx hb dL_body_91 (lv_at hl 0 rfl) ?_
            refine lv_if_eq (tgt := 150) hx hb dL_body_93 (by decide) (fun c63 => ?_) (fun c63 => ?_)
            · have c63 : ((1 : Nat) : Int) = (0 : Int) := (i_eq (by decide : (1 : Int32).toInt = ((1 : Nat) : Int)) (rfl : (0 : Int32).toInt = 0)).mp c63
              obtain ⟨_, hmy_, hpt_⟩ := qq20.resolve_right (fun z_ => by omega)
              exact ih150 n bb gb1 x5 x6 x7 x8 k9 r16 r19 hc _ _ _ w (lv_sub hl [3, 4, 5, 6, 7, 8, 9, 10, 11, 2, 1] rfl) hx5 hx6 hx8 hnq hBd hout (by omega) qq17 hk9 hmy_ hpt_ D Bt hfr (by omega)
            · have c63 : ¬ (((1 : Nat) : Int) = (0 : Int)) := fun q => c63 ((i_eq (by decide : (1 : Int32).toInt = ((1 : Nat) : Int)) (rfl : (0 : Int32).toInt = 0)).mpr q)
              refine lv_iload hx hb dL_body_96 (lv_at hl 1 rfl) ?_
              refine lv_if_le (tgt := 150) hx hb dL_body_98 (by decide) (fun c64 => ?_) (fun c64 => ?_)
              · have c64 : r19.toInt ≤ (0 : Int) := (i_le (rfl : r19.toInt = r19.toInt) (rfl : (0 : Int32).toInt = 0)).mp c64
                obtain ⟨_, hmy_, hpt_⟩ := qq20.resolve_right (fun z_ => by omega)
                exact ih150 n bb gb1 x5 x6 x7 x8 k9 r16 r19 hc _ _ _ w (lv_sub hl [3, 4, 5, 6, 7, 8, 9, 10, 11, 2, 1] rfl) hx5 hx6 hx8 hnq hBd hout (by omega) qq17 hk9 hmy_ hpt_ D Bt hfr (by omega)
              · have c64 : ¬ (r19.toInt ≤ (0 : Int)) := fun q => c64 ((i_le (rfl : r19.toInt = r19.toInt) (rfl : (0 : Int32).toInt = 0)).mpr q)
                refine lv_aload_n hx hb dL_body_101 rfl (lv_at hl 3 rfl) ?_
                refine lv_iload_n hx hb dL_body_102 rfl (lv_at hl 5 rfl) ?_
                refine r_iald (j := f) hx hb w D.1 D.2 hp2 (by omega) dL_body_103 ?_
                refine lv_if_le (tgt := 126) hx hb dL_body_104 (by decide) (fun c65 => ?_) (fun c65 => ?_)
                · have c65 : (((A f) : Nat) : Int) ≤ (0 : Int) := (i_le (hA f (by omega)).1 (rfl : (0 : Int32).toInt = 0)).mp c65
                  refine lv_iload hx hb dL_body_126 (lv_at hl 7 rfl) ?_
                  refine lv_iload hx hb dL_body_128 (lv_at hl 11 rfl) ?_
                  refine lv_ishr hx hb dL_body_130 ?_
                  refine lv_topi (fun y66 ey66 => ?_)
                  subst ey66
                  refine lv_iconst (v := 3) hx hb dL_body_131 (by decide) ?_
                  refine r_callI w (va_runS (As := [.int ((p4 >>> ((x8 : Int32) &&& 31))), .int 3]) (rest := []) ⟨hx, hb, hml, hown, hts⟩ (c_L_low l (g := g) (h := hc) ((p4 >>> ((x8 : Int32) &&& 31))) 3 (by decide : (3 : Int32).toInt = ((3 : Nat) : Int)) (by omega)) (va_cwS 2 hts gL_body_L_low rfl rfl rfl (by decide +kernel) ⟨Nat.le_of_ble_eq_true rfl, Nat.le_of_ble_eq_true rfl⟩) (r_preS w) rfl rfl hl.1 rfl (lv_room (Nat.le_of_ble_eq_true rfl)) dL_body_132 ⟨Nat.zero_le _, Nat.zero_le _⟩) (fun r68 h67 H locs hp w => ?_)
                  obtain ⟨eh_, qq69⟩ := hp
                  have eh_ := eh_.symm
                  subst eh_
                  have hlt_r68 := lowF_lt (v := (p4 >>> ((x8 : Int32) &&& 31))) (n := 3) (by omega)
                  refine lv_if_ne (tgt := 143) hx hb dL_body_135 (by decide) (fun c70 => ?_) (fun c70 => ?_)
                  · have c70 : ¬ ((((lowF ((p4 >>> ((x8 : Int32) &&& 31))) 3) : Nat) : Int) = (0 : Int)) := fun q => c70 ((i_eq qq69 (rfl : (0 : Int32).toInt = 0)).mpr q)
                    refine lv_bipush (v := 105) hx hb dL_body_143 (by decide) ?_
                    refine lv_istore (lv' := [(10, .int 105), (12, .int 1), (11, .int r19), (0, .ref (g.2.2.1 kd)), (1, .ref (g.2.2.1 kb)), (2, .int p2), (3, .int p3), (4, .int p4), (5, .int x5), (6, .int x6), (7, .int x7), (8, .int x8), (9, .int x9)]) hx hb dL_body_145 hl (by decide) rfl (fun ls hl => ?_)
                    refine lv_iconst (v := 0) hx hb dL_body_147 (by decide) ?_
                    refine lv_istore (lv' := [(11, .int 0), (10, .int 105), (12, .int 1), (0, .ref (g.2.2.1 kd)), (1, .ref (g.2.2.1 kb)), (2, .int p2), (3, .int p3), (4, .int p4), (5, .int x5), (6, .int x6), (7, .int x7), (8, .int x8), (9, .int x9)]) hx hb dL_body_148 hl (by decide) rfl (fun ls hl => ?_)
                    exact ih150 n bb gb1 x5 x6 x7 x8 1 105 0 hc _ _ _ w (lv_sub hl [3, 4, 5, 6, 7, 8, 9, 10, 11, 1, 0] rfl) hx5 hx6 hx8 hnq hBd hout (by omega) ((by decide)) ((by decide)) ((may_01 (N := nf) (A := A) (f := f) (by decide)).1) ((by rw [(may_01 (N := nf) (A := A) (f := f) (k := 1) (by decide)).2]; rfl)) D Bt hfr (by omega)
                  · have c70 : (((lowF ((p4 >>> ((x8 : Int32) &&& 31))) 3) : Nat) : Int) = (0 : Int) := (i_eq qq69 (rfl : (0 : Int32).toInt = 0)).mp c70
                    refine lv_bipush (v := 111) hx hb dL_body_138 (by decide) ?_
                    refine lv_goto (tgt := 145) hx hb dL_body_140 (by decide) ?_
                    refine lv_istore (lv' := [(10, .int 111), (12, .int 1), (11, .int r19), (0, .ref (g.2.2.1 kd)), (1, .ref (g.2.2.1 kb)), (2, .int p2), (3, .int p3), (4, .int p4), (5, .int x5), (6, .int x6), (7, .int x7), (8, .int x8), (9, .int x9)]) hx hb dL_body_145 hl (by decide) rfl (fun ls hl => ?_)
                    refine lv_iconst (v := 0) hx hb dL_body_147 (by decide) ?_
                    refine lv_istore (lv' := [(11, .int 0), (10, .int 111), (12, .int 1), (0, .ref (g.2.2.1 kd)), (1, .ref (g.2.2.1 kb)), (2, .int p2), (3, .int p3), (4, .int p4), (5, .int x5), (6, .int x6), (7, .int x7), (8, .int x8), (9, .int x9)]) hx hb dL_body_148 hl (by decide) rfl (fun ls hl => ?_)
                    exact ih150 n bb gb1 x5 x6 x7 x8 0 111 0 hc _ _ _ w (lv_sub hl [3, 4, 5, 6, 7, 8, 9, 10, 11, 1, 0] rfl) hx5 hx6 hx8 hnq hBd hout (by omega) ((by decide)) ((by decide)) ((may_01 (N := nf) (A := A) (f := f) (by decide)).1) ((by rw [(may_01 (N := nf) (A := A) (f := f) (k := 0) (by decide)).2]; rfl)) D Bt hfr (by omega)
                · have c65 : ¬ ((((A f) : Nat) : Int) ≤ (0 : Int)) := fun q => c65 ((i_le (hA f (by omega)).1 (rfl : (0 : Int32).toInt = 0)).mpr q)
                  refine lv_bipush (v := 97) hx hb dL_body_107 (by decide) ?_
                  refine lv_iload hx hb dL_body_109 (lv_at hl 7 rfl) ?_
                  refine lv_iload hx hb dL_body_111 (lv_at hl 11 rfl) ?_
                  refine lv_iconst (v := 2) hx hb dL_body_113 (by decide) ?_
                  refine lv_iadd hx hb dL_body_114 ?_
                  refine lv_topi (fun y71 ey71 => ?_)
                  have ty71 : y71.toInt = (((n + 2) : Nat) : Int) := i_addN ey71 hx8 (by decide : (2 : Int32).toInt = ((2 : Nat) : Int)) (by omega)
                  refine lv_ishr hx hb dL_body_115 ?_
                  refine lv_topi (fun y72 ey72 => ?_)
                  subst ey72
                  refine lv_aload_n hx hb dL_body_116 rfl (lv_at hl 3 rfl) ?_
                  refine lv_iload_n hx hb dL_body_117 rfl (lv_at hl 5 rfl) ?_
                  refine r_iald (j := f) hx hb w D.1 D.2 hp2 (by omega) dL_body_118 ?_
                  refine r_callI w (va_runS (As := [.int ((p4 >>> ((y71 : Int32) &&& 31))), .int (gd f)]) (rest := [.int 97]) ⟨hx, hb, hml, hown, hts⟩ (c_L_low l (g := g) (h := hc) ((p4 >>> ((y71 : Int32) &&& 31))) (gd f) (hA f (by omega)).1 (by omega)) (va_cwS 2 hts gL_body_L_low rfl rfl rfl (by decide +kernel) ⟨Nat.le_of_ble_eq_true rfl, Nat.le_of_ble_eq_true rfl⟩) (r_preS w) rfl rfl hl.1 rfl (lv_room (Nat.le_of_ble_eq_true rfl)) dL_body_119 ⟨Nat.zero_le _, Nat.zero_le _⟩) (fun r74 h73 H locs hp w => ?_)
                  obtain ⟨eh_, qq75⟩ := hp
                  have eh_ := eh_.symm
                  subst eh_
                  have hlt_r74 := lowF_lt (v := (p4 >>> ((y71 : Int32) &&& 31))) (n := (A f)) (by omega)
                  refine lv_iadd hx hb dL_body_122 ?_
                  refine lv_topi (fun y76 ey76 => ?_)
                  have ty76 : y76.toInt = (((97 + (lowF ((p4 >>> ((y71 : Int32) &&& 31))) ((A f)))) : Nat) : Int) := i_addN ey76 (by decide : (97 : Int32).toInt = ((97 : Nat) : Int)) qq75 (by omega)
                  refine lv_goto (tgt := 145) hx hb dL_body_123 (by decide) ?_
                  refine lv_istore (lv' := [(10, .int y76), (12, .int 1), (11, .int r19), (0, .ref (g.2.2.1 kd)), (1, .ref (g.2.2.1 kb)), (2, .int p2), (3, .int p3), (4, .int p4), (5, .int x5), (6, .int x6), (7, .int x7), (8, .int x8), (9, .int x9)]) hx hb dL_body_145 hl (by decide) rfl (fun ls hl => ?_)
                  refine lv_iconst (v := 0) hx hb dL_body_147 (by decide) ?_
                  refine lv_istore (lv' := [(11, .int 0), (10, .int y76), (12, .int 1), (0, .ref (g.2.2.1 kd)), (1, .ref (g.2.2.1 kb)), (2, .int p2), (3, .int p3), (4, .int p4), (5, .int x5), (6, .int x6), (7, .int x7), (8, .int x8), (9, .int x9)]) hx hb dL_body_148 hl (by decide) rfl (fun ls hl => ?_)
                  obtain ⟨hma_, hmc_, hmp_⟩ := may_arg (N := nf) (A := A) (f := f) (a := (lowF ((p4 >>> ((y71 : Int32) &&& 31))) ((A f)))) (by omega) (hA f (by omega)).2
                  exact ih150 n bb gb1 x5 x6 x7 x8 (3 + (lowF ((p4 >>> ((y71 : Int32) &&& 31))) ((A f)))) y76 0 hc _ _ _ w (lv_sub hl [3, 4, 5, 6, 7, 8, 9, 10, 11, 1, 0] rfl) hx5 hx6 hx8 hnq hBd hout (by omega) (ty76.trans (by rw [hmc_])) (by omega) hma_ ((by rw [hmp_]; rfl)) D Bt hfr (by omega)
      · intro n bb gb1 x5 x6 x7 x8 kk x10 x11 hc H locs ls w hl hx5 hx6 hx8 hnq hBd hout h1q hx10 hkk hmy hx11 D Bt hfr hN_
        have hpl_ := mParts_le (k := kk) (fun i hi => (hA i hi).2)
        refine lv_iload hx hb dL_body_150 (lv_at hl 6 rfl) ?_
        refine lv_iload hx hb dL_body_152 (lv_at hl 5 rfl) ?_
        refine lv_iadd hx hb dL_body_154 ?_
        refine lv_topi (fun y77 ey77 => ?_)
        have ty77 : y77.toInt = (((n + (dpF nf A bb n)) : Nat) : Int) := i_addN ey77 hx6 hx5 (by omega)
        refine lv_iload hx hb dL_body_155 (lv_at hl 10 rfl) ?_
        refine lv_iadd hx hb dL_body_157 ?_
        refine lv_topi (fun y78 ey78 => ?_)
        have ty78 : y78.toInt = ((((n + (dpF nf A bb n)) + (mParts nf A kk)) : Nat) : Int) := i_addN ey78 ty77 hx11 (by omega)
        refine lv_bipush (v := 14) hx hb dL_body_158 (by decide) ?_
        refine lv_icmp_le (tgt := 170) hx hb dL_body_160 (by decide) (fun c79 => ?_) (fun c79 => ?_)
        · have c79 : ((((n + (dpF nf A bb n)) + (mParts nf A kk)) : Nat) : Int) ≤ ((14 : Nat) : Int) := (i_le ty78 (by decide : (14 : Int32).toInt = ((14 : Nat) : Int))).mp c79
          exact ih170 n bb gb1 x5 x6 x7 x8 kk x10 x11 hc _ _ _ w (lv_sub hl [0, 1, 2, 3, 4, 5, 6, 7, 8, 9, 10] rfl) hx5 hx6 hx8 hnq hBd hout h1q hx10 hkk hmy hx11 (by omega) D Bt hfr (by omega)
        · have c79 : ¬ (((((n + (dpF nf A bb n)) + (mParts nf A kk)) : Nat) : Int) ≤ ((14 : Nat) : Int)) := fun q => c79 ((i_le ty78 (by decide : (14 : Int32).toInt = ((14 : Nat) : Int))).mpr q)
          refine lv_bipush (v := 105) hx hb dL_body_163 (by decide) ?_
          refine lv_istore (lv' := [(10, .int 105), (0, .ref (g.2.2.1 kd)), (1, .ref (g.2.2.1 kb)), (2, .int p2), (3, .int p3), (4, .int p4), (5, .int x5), (6, .int x6), (7, .int x7), (8, .int x8), (11, .int x11)]) hx hb dL_body_165 hl (by decide) rfl (fun ls hl => ?_)
          refine lv_iconst (v := 0) hx hb dL_body_167 (by decide) ?_
          refine lv_istore (lv' := [(11, .int 0), (10, .int 105), (0, .ref (g.2.2.1 kd)), (1, .ref (g.2.2.1 kb)), (2, .int p2), (3, .int p3), (4, .int p4), (5, .int x5), (6, .int x6), (7, .int x7), (8, .int x8)]) hx hb dL_body_168 hl (by decide) rfl (fun ls hl => ?_)
          exact ih170 n bb gb1 x5 x6 x7 x8 1 105 0 hc _ _ _ w (lv_sub hl [2, 3, 4, 5, 6, 7, 8, 9, 10, 1, 0] rfl) hx5 hx6 hx8 hnq hBd hout h1q ((by decide)) ((by decide)) ((may_01 (N := nf) (A := A) (f := f) (by decide)).1) ((by rw [(may_01 (N := nf) (A := A) (f := f) (k := 1) (by decide)).2]; rfl)) ((by rw [(may_01 (N := nf) (A := A) (f := f) (k := 1) (by decide)).2]; omega)) D Bt hfr (by omega)
      · intro n bb gb1 x5 x6 x7 x8 kk x10 x11 hc H locs ls w hl hx5 hx6 hx8 hnq hBd hout h1q hx10 hkk hmy hx11 hle D Bt hfr hN_
        refine lv_aload_n hx hb dL_body_170 rfl (lv_at hl 1 rfl) ?_
        refine lv_bipush (v := 16) hx hb dL_body_171 (by decide) ?_
        refine lv_iload_n hx hb dL_body_173 rfl (lv_at hl 2 rfl) ?_
        refine lv_imul hx hb dL_body_174 ?_
        refine lv_topi (fun y80 ey80 => ?_)
        have ty80 : y80.toInt = (((16 * f) : Nat) : Int) := i_mulN ey80 (by decide : (16 : Int32).toInt = ((16 : Nat) : Int)) hp2 (by omega)
        refine lv_iload hx hb dL_body_175 (lv_at hl 6 rfl) ?_
        refine lv_iadd hx hb dL_body_177 ?_
        refine lv_topi (fun y81 ey81 => ?_)
        have ty81 : y81.toInt = ((((16 * f) + n) : Nat) : Int) := i_addN ey81 ty80 hx6 (by omega)
        refine lv_iload hx hb dL_body_178 (lv_at hl 9 rfl) ?_
        refine r_iast (j := ((16 * f) + n)) hx hb w Bt.1 Bt.2 ty81 (by omega) dL_body_180 (fun h82 H locs eh82 w => ?_)
        have Bt := Bt.s eh82
        generalize egz83 : upd gb1 (((16 * f) + n)) x10 = gz83 at Bt
        have hfr : ∀ k_, ¬ (k_ = kd ∨ k_ = kb) → h82 k_ = h k_ := fun k_ hk_ => by rw [eh82, va_up_ne _ _ (by omega)]; exact hfr k_ hk_
        have D := D.fr (h' := h82) (fun k_ h1_ h2_ => by rw [eh82, va_up_ne _ _ (by omega)])
        obtain ⟨y84, ey84⟩ : ∃ y : Int32, y = x6 + (1) := ⟨_, rfl⟩
        have ty84 : y84.toInt = (((n + 1) : Nat) : Int) := i_addN ey84 hx6 (by decide : (1 : Int32).toInt = ((1 : Nat) : Int)) (by omega)
        refine lv_iinc (v := y84) (lv' := [(6, .int y84), (0, .ref (g.2.2.1 kd)), (1, .ref (g.2.2.1 kb)), (2, .int p2), (3, .int p3), (4, .int p4), (5, .int x5), (7, .int x7), (8, .int x8), (10, .int x10), (11, .int x11)]) hx hb dL_body_181 hl (k := 6) rfl (by rw [ey84]; rfl) (by decide) rfl (fun ls hl => ?_)
        refine lv_iload hx hb dL_body_184 (lv_at hl 6 rfl) ?_
        refine lv_iload hx hb dL_body_186 (lv_at hl 10 rfl) ?_
        refine lv_iconst (v := 1) hx hb dL_body_188 (by decide) ?_
        refine lv_isub hx hb dL_body_189 ?_
        refine lv_topi (fun y85 ey85 => ?_)
        have ty85 : y85.toInt = (((mParts nf A kk) : Nat) : Int) - ((1 : Nat) : Int) := i_sub ey85 hx11 (by decide : (1 : Int32).toInt = ((1 : Nat) : Int)) (by omega)
        refine lv_iadd hx hb dL_body_190 ?_
        refine lv_topi (fun y86 ey86 => ?_)
        have ty86 : y86.toInt = (((dpF nf A bb n) : Nat) : Int) + ((((mParts nf A kk) : Nat) : Int) - ((1 : Nat) : Int)) := i_add ey86 hx5 ty85 (by omega)
        refine lv_istore (lv' := [(5, .int y86), (6, .int y84), (0, .ref (g.2.2.1 kd)), (1, .ref (g.2.2.1 kb)), (2, .int p2), (3, .int p3), (4, .int p4), (7, .int x7), (8, .int x8), (10, .int x10), (11, .int x11)]) hx hb dL_body_191 hl (by decide) rfl (fun ls hl => ?_)
        obtain ⟨y87, ey87⟩ : ∃ y : Int32, y = x8 + (1) := ⟨_, rfl⟩
        have ty87 : y87.toInt = (((n + 1) : Nat) : Int) := i_addN ey87 hx8 (by decide : (1 : Int32).toInt = ((1 : Nat) : Int)) (by omega)
        refine lv_iinc (v := y87) (lv' := [(8, .int y87), (5, .int y86), (6, .int y84), (0, .ref (g.2.2.1 kd)), (1, .ref (g.2.2.1 kb)), (2, .int p2), (3, .int p3), (4, .int p4), (7, .int x7), (10, .int x10), (11, .int x11)]) hx hb dL_body_193 hl (k := 8) rfl (by rw [ey87]; rfl) (by decide) rfl (fun ls hl => ?_)
        refine lv_goto (tgt := 22) hx hb dL_body_196 (by decide) ?_
        obtain ⟨hBd2_, hdp2_⟩ := hBd.up hx10 hkk hmy h1q egz83
        exact ih22 (n + 1) ((fun j => if j = n then kk else bb j)) gz83 y86 y84 x7 y87 h82 _ _ _ w (lv_sub hl [3, 4, 5, 6, 7, 1, 2, 8, 0] rfl) (ty86.trans (by rw [hdp2_]; omega)) ty84 ty87 (by rw [hdp2_]; omega) hBd2_ (fun q_ hq_ => by rw [← egz83, pk_un (by omega)]; exact hout q_ hq_) D Bt hfr (by omega)
  have cut0 := cuts (100)
  obtain ⟨ih22, ih53, ih150, ih170⟩ := cut0
  refine lv_iconst (v := 1) hx hb dL_body_0 (by decide) ?_
  refine lv_istore (lv' := [(5, .int 1), (0, .ref (g.2.2.1 kd)), (1, .ref (g.2.2.1 kb)), (2, .int p2), (3, .int p3), (4, .int p4)]) hx hb dL_body_1 hl (by decide) rfl (fun ls hl => ?_)
  refine lv_iconst (v := 0) hx hb dL_body_3 (by decide) ?_
  refine lv_istore (lv' := [(6, .int 0), (5, .int 1), (0, .ref (g.2.2.1 kd)), (1, .ref (g.2.2.1 kb)), (2, .int p2), (3, .int p3), (4, .int p4)]) hx hb dL_body_4 hl (by decide) rfl (fun ls hl => ?_)
  refine lv_iconst (v := 3) hx hb dL_body_6 (by decide) ?_
  refine lv_iload_n hx hb dL_body_7 rfl (lv_at hl 5 rfl) ?_
  refine lv_bipush (v := 20) hx hb dL_body_8 (by decide) ?_
  refine lv_ishr hx hb dL_body_10 ?_
  refine lv_topi (fun y88 ey88 => ?_)
  subst ey88
  refine lv_bipush (v := 8) hx hb dL_body_11 (by decide) ?_
  refine r_callI w (va_runS (As := [.int ((p3 >>> ((20 : Int32) &&& 31))), .int 8]) (rest := [.int 3]) ⟨hx, hb, hml, hown, hts⟩ (c_L_low l (g := g) (h := h) ((p3 >>> ((20 : Int32) &&& 31))) 8 (by decide : (8 : Int32).toInt = ((8 : Nat) : Int)) (by omega)) (va_cwS 2 hts gL_body_L_low rfl rfl rfl (by decide +kernel) ⟨Nat.le_of_ble_eq_true rfl, Nat.le_of_ble_eq_true rfl⟩) (r_preS w) rfl rfl hl.1 rfl (lv_room (Nat.le_of_ble_eq_true rfl)) dL_body_13 ⟨Nat.zero_le _, Nat.zero_le _⟩) (fun r90 h89 H locs hp w => ?_)
  obtain ⟨eh_, qq91⟩ := hp
  have eh_ := eh_.symm
  subst eh_
  have hlt_r90 := lowF_lt (v := (p3 >>> ((20 : Int32) &&& 31))) (n := 8) (by omega)
  refine lv_iadd hx hb dL_body_16 ?_
  refine lv_topi (fun y92 ey92 => ?_)
  have ty92 : y92.toInt = (((3 + (lowF ((p3 >>> ((20 : Int32) &&& 31))) 8)) : Nat) : Int) := i_addN ey92 (by decide : (3 : Int32).toInt = ((3 : Nat) : Int)) qq91 (by omega)
  refine lv_istore (lv' := [(7, .int y92), (6, .int 0), (5, .int 1), (0, .ref (g.2.2.1 kd)), (1, .ref (g.2.2.1 kb)), (2, .int p2), (3, .int p3), (4, .int p4)]) hx hb dL_body_17 hl (by decide) rfl (fun ls hl => ?_)
  refine lv_iconst (v := 0) hx hb dL_body_19 (by decide) ?_
  refine lv_istore (lv' := [(8, .int 0), (7, .int y92), (6, .int 0), (5, .int 1), (0, .ref (g.2.2.1 kd)), (1, .ref (g.2.2.1 kb)), (2, .int p2), (3, .int p3), (4, .int p4)]) hx hb dL_body_20 hl (by decide) rfl (fun ls hl => ?_)
  exact ih22 0 ((fun _ => 0)) gb 1 0 y92 0 h _ _ _ w (lv_sub hl [4, 5, 6, 7, 8, 3, 2, 1, 0] rfl) rfl rfl rfl ((by show 0 + 1 ≤ 14; decide)) ((fun j_ hj_ => absurd hj_ (Nat.not_lt_zero _))) ((fun _ _ => rfl)) D Bt (fun _ _ => rfl) (by omega)

