theorem mSet_mSet {M : PRG} {f i k k' : Nat} : mSet (mSet M f i k) f i k' = mSet M f i k' := by
  unfold mSet
  show (pN M, pA M, pK M, pL M, fun a b => if a = f ∧ b = i then k' else if a = f ∧ b = i then k else pB M a b) = (pN M, pA M, pK M, pL M, fun a b => if a = f ∧ b = i then k' else pB M a b)
  have e : (fun a b => if a = f ∧ b = i then k' else if a = f ∧ b = i then k else pB M a b) = (fun a b => if a = f ∧ b = i then k' else pB M a b) := by
    funext a b
    by_cases q : a = f ∧ b = i
    · rw [if_pos q, if_pos q]
    · rw [if_neg q, if_neg q, if_neg q]
  rw [e]
theorem mSet_self {M : PRG} {f i : Nat} : mSet M f i (pB M f i) = M := by
  unfold mSet
  show (pN M, pA M, pK M, pL M, fun a b => if a = f ∧ b = i then pB M f i else pB M a b) = M
  have e : (fun a b => if a = f ∧ b = i then pB M f i else pB M a b) = pB M := by
    funext a b
    by_cases q : a = f ∧ b = i
    · rw [if_pos q, q.1, q.2]
    · rw [if_neg q]
  rw [e]
/-- no letter so far makes it strict -/
def NoC (M : PRG) (f a i k : Nat) : Prop := ∀ i' k', i' < pL M f → k' < 14 → (i' < i ∨ (i' = i ∧ k' < k)) → ¬ Cand M f a i' k'
theorem NoC.z {M : PRG} {f a : Nat} : NoC M f a 0 0 := fun i' k' _ _ h => by omega
theorem NoC.s {M : PRG} {f a i k : Nat} (h : NoC M f a i k) (q : ¬ Cand M f a i k) : NoC M f a i (k + 1) := by
  intro i' k' h1 h2 h3
  by_cases z : i' = i ∧ k' = k
  · rw [z.1, z.2]; exact q
  · exact h i' k' h1 h2 (by omega)
theorem NoC.n {M : PRG} {f a i : Nat} (h : NoC M f a i 14) : NoC M f a (i + 1) 0 := fun i' k' h1 h2 h3 => h i' k' h1 h2 (by omega)
-- the rows of values that come to something: by the class's rows and by the reference's
def isB (c q : Nat) : Bool := decide (q / 25 < (if 0 < c then 5 else 1)) && decide (q / 5 % 5 < (if 1 < c then 5 else 1)) && decide (q % 5 < (if 2 < c then 5 else 1))
theorem isB_iff {c q : Nat} : isB c q = true ↔ mIs 0 c (q / 25) (q / 5 % 5) (q % 5) := by
  unfold isB mIs
  simp only [Bool.and_eq_true, decide_eq_true_eq, mB_0]
  exact ⟨fun h => ⟨h.1.1, h.1.2, h.2⟩, fun h => ⟨⟨h.1, h.2.1⟩, h.2.2⟩⟩
theorem ix_perm : ∀ c, c < 4 → (((List.range 125).filter (isB c)).map (mIx 0)).isPerm (List.range (5 ^ c)) = true := by
  intro c hc
  have h : (List.range 4).all (fun c => (((List.range 125).filter (isB c)).map (mIx 0)).isPerm (List.range (5 ^ c))) = true := by decide +kernel
  exact List.all_eq_true.mp h c (List.mem_range.mpr hc)
def lsum : List Nat → Nat
  | [] => 0
  | x :: t => x + lsum t
theorem lsum_app (a b : List Nat) : lsum (a ++ b) = lsum a + lsum b := by
  induction a with
  | nil => show lsum b = 0 + lsum b; omega
  | cons x t ih => show x + lsum (t ++ b) = x + lsum t + lsum b; rw [ih]; omega
theorem lsum_perm {a b : List Nat} (h : a.Perm b) : lsum a = lsum b := by
  induction h with
  | nil => rfl
  | cons x _ ih => show x + lsum _ = x + lsum _; rw [ih]
  | swap x y t => show y + (x + lsum t) = x + (y + lsum t); omega
  | trans _ _ ih1 ih2 => exact ih1.trans ih2
theorem sm_lsum {f : Nat → Nat} : ∀ n, sm f n = lsum ((List.range n).map f)
  | 0 => rfl
  | n + 1 => by
    rw [sm_succ, sm_lsum n, List.range_succ, List.map_append, lsum_app]
    show _ = _ + (f n + 0)
    omega
theorem lsum_filter {p : Nat → Bool} {f g : Nat → Nat} : ∀ L : List Nat, (∀ q, q ∈ L → p q = true → f q = g q) → (∀ q, q ∈ L → p q = false → f q = 0) → lsum (L.map f) = lsum ((L.filter p).map g)
  | [], _, _ => rfl
  | x :: t, h1, h2 => by
    have ih := lsum_filter (p := p) (f := f) (g := g) t (fun q hq => h1 q (List.mem_cons_of_mem _ hq)) (fun q hq => h2 q (List.mem_cons_of_mem _ hq))
    cases hp : p x with
    | true =>
      rw [List.filter_cons_of_pos hp]
      show f x + lsum (t.map f) = g x + lsum _
      rw [ih, h1 x List.mem_cons_self hp]
    | false =>
      rw [List.filter_cons_of_neg (by rw [hp]; decide)]
      show f x + lsum (t.map f) = lsum _
      rw [ih, h2 x List.mem_cons_self hp]; omega
theorem rows_come {M : PRG} {K f : Nat} (hP : PV M) (hf : f < pN M) : sm (fun q => vRow M K f q) 125 = sm (fun r_ => if mTab 0 M K f r_ = mN 0 then 0 else 1) (mRw 0 M f) := by
  have h3 := (hP.2.2 f hf).1
  have hp := List.isPerm_iff.mp (ix_perm (pA M f) (by omega))
  rw [sm_lsum, sm_lsum]
  have e : mRw 0 M f = 5 ^ pA M f := rfl
  rw [e, ← lsum_perm (hp.map (fun r_ => if mTab 0 M K f r_ = mN 0 then 0 else 1)), List.map_map]
  refine lsum_filter (p := isB (pA M f)) _ (fun q _ h => ?_) (fun q _ h => ?_)
  · have hI := isB_iff.mp h
    show vRow M K f q = (if mTab 0 M K f (mIx 0 q) = mN 0 then 0 else 1)
    by_cases z : mTab 0 M K f (mIx 0 q) = mN 0
    · rw [if_pos z]; exact vRow_0 (fun y => y.2 z)
    · rw [if_neg z]; exact vRow_1 ⟨hI, z⟩
  · exact vRow_0 (fun y => by rw [isB_iff.mpr y.1] at h; exact absurd h (by decide))
noncomputable def rCome (M : PRG) (K f : Nat) : Nat := sm (fun r_ => if mTab 0 M K f r_ = mN 0 then 0 else 1) (mRw 0 M f)
theorem rAll {M : PRG} {K : Nat} (hP : PV M) : vAll M K = sm (rCome M K) (pN M) := by
  unfold vAll
  have : ∀ n, n ≤ pN M → sm (fun f => sm (fun q => vRow M K f q) 125) n = sm (rCome M K) n := by
    intro n
    induction n with
    | zero => intro _; rfl
    | succ n ih =>
      intro hn
      show sm (fun f => sm (fun q => vRow M K f q) 125) n + sm (fun q => vRow M K n q) 125 = sm (rCome M K) n + rCome M K n
      rw [ih (by omega), rows_come hP (show n < pN M by omega)]; rfl
  exact this _ (Nat.le_refl _)
theorem rCome_le {M : PRG} {K f : Nat} (hP : PV M) (hf : f < pN M) : rCome M K f ≤ 125 := by
  have h1 := sm_ub1 (mTab 0 M K f) (mN 0) (mRw 0 M f)
  have h2 : mRw 0 M f ≤ 125 := mRw_le (u := 0) (by omega) hP hf
  unfold rCome
  omega
/-- together: strict arguments (w < 2), rows that come to something (w = 2) -/
noncomputable def dOne (M : PRG) (K w f : Nat) : Nat := if w = 2 then rCome M K f else dSt M w f
theorem dOne_le {M : PRG} {K w f : Nat} (hP : PV M) (hf : f < pN M) : dOne M K w f ≤ 125 := by
  unfold dOne
  split
  · exact rCome_le hP hf
  · unfold dSt
    have := pop_le (mBits (mStrictF (wU (w + 1)) M f) (pA M f))
    omega
theorem dOne_2 {M : PRG} {K f : Nat} : dOne M K 2 f = rCome M K f := if_pos rfl
theorem dOne_w {M : PRG} {K w u f : Nat} (hw : w < 2) (hu : u = wU (w + 1)) (hK : IsK u M K) : dOne M K w f = pop (mBits (mStrict u M (mTab u M K) f) (pA M f)) := by
  unfold dOne
  rw [if_neg (by omega), mBits_F hK, hu]; rfl
theorem sm_cg {f g : Nat → Nat} : ∀ n, (∀ i, i < n → f i = g i) → sm f n = sm g n
  | 0, _ => rfl
  | n + 1, h => by rw [sm_succ, sm_succ, sm_cg n (fun i hi => h i (by omega)), h n (by omega)]
theorem dayN_fin {M : PRG} {K w u : Nat} {x : Int} (hP : PV M) (hw : w ≤ 2) (hu : u = (if w = 0 then 2 else 0)) (hK : IsK u M K) (hx : x = ((sm (dOne M K w) (pN M) : Nat) : Int)) : DayN M w x := by
  by_cases q : w = 2
  · refine Or.inr ⟨q, K, ?_, ?_⟩
    · rw [hu, q] at hK; exact hK
    · rw [hx, rAll hP, q]
      exact congrArg (fun n : Nat => (n : Int)) (sm_cg _ (fun i _ => dOne_2))
  · refine Or.inl ⟨by omega, ?_⟩
    rw [hx]
    exact congrArg (fun n : Nat => (n : Int)) (sm_cg _ (fun i _ => if_neg q))
theorem inX8_makes_X3 : ∀ w ∈ wsX30, w ∈ wsX8_makes := by decide +kernel
theorem inX8_makes_X8 : ∀ w ∈ wsX80, w ∈ wsX8_makes := by decide +kernel
abbrev rm_X8_makes : Room := { frames := 7, cells := 0, slots := 0, locals := 157 }
set_option maxHeartbeats 4000000 in
set_option maxRecDepth 100000 in
theorem c_X8_makes (l : Launch) {g : GE} {h : Nat → va_E} {x : Nat} {st0 : ST} (C : ClsA g h x st0) (p0 : Int32) (p1 : Int32) : MI l yX8_makes wsX8_makes rm_X8_makes [.ref (g.2.2.1 x), .int p0, .int p1] g h (fun r_ h2 => (∀ k, ¬ (x ≤ k ∧ k < x + 143) → h2 k = h k) ∧ ClsA g h2 x st0 ∧ AnMakes st0 p0 p1 r_) := by
  refine Met.ofW (cc := cX8_makes) (maxL := 5) (ret := (some .int)) (by decide) rfl ?_
  intro p e s m args below meth c s₁ B hml hv
  obtain ⟨rfl, w0⟩ := hv
  have hx := B.exec
  have hb := B.bytes
  have hr := B.returns
  have hts := atoms_spec (ws := wsX8_makes) B.pre
  have hown : s.vm.findClass RX8 = some m.cls := findClass_of_methodNamed B.named
  have hlocks := B.notSynchronized
  have w := w0.start
  clear w0
  have hl := lv_entry ([.ref (g.2.2.1 x), .int p0, .int p1]) (n := 5) (Nat.le_of_ble_eq_true rfl)
  rw [lg_entry_eq]
  generalize (lg_sl ([.ref (g.2.2.1 x), .int p0, .int p1]) ++ List.replicate (5 - (lg_sl ([.ref (g.2.2.1 x), .int p0, .int p1])).length) Slot.unset).toArray = ls at hl ⊢
  have hl : lv_has ls 5 [(0, .ref (g.2.2.1 x)), (1, .int p0), (2, .int p1)] := hl
  obtain ⟨hSV, ⟨kn, E, hkn⟩, T0, Q1, P0, Q2, Q3, Q4, H0_, W0, W1, W2, W3, W4⟩ := C
  have hSV0 := hSV
  obtain ⟨hP, hu8, hUP, hv2, hVP, hl200, hlt⟩ := hSV
  have hn4 := hP.2.1
  have hNe := E.1
  obtain ⟨n, ga, gk, gl, gb, P, S⟩ := P0
  have hnS := S.1
  obtain ⟨rn, ra, rk, rl, rb, Pr⟩ := Q2
  obtain ⟨u2, hu2, W2⟩ : ∃ u_ : Nat, u_ = 2 ∧ VwE g h (x + 89) u_ (sM st0) := ⟨_, rfl, W2⟩
  obtain ⟨kk2, kc2, tk2, fz2, dp2, gp2, gg2, gs2, gd2, gt2, gc2, V2, hz2⟩ := W2
  have hNv2 := V2.hN
  obtain ⟨u4, hu4, W4⟩ : ∃ u_ : Nat, u_ = 2 ∧ VwX g h (x + 125) u_ := ⟨_, rfl, W4⟩
  obtain ⟨kk4, kc4, tk4, fz4, dp4, gp4, gg4, gs4, gd4, gt4, gc4, V4⟩ := W4
  have hNv4 := V4.hN
  obtain ⟨f, hfd⟩ : ∃ f_ : Nat, f_ = p0.toInt.toNat := ⟨_, rfl⟩
  obtain ⟨a9, had⟩ : ∃ f_ : Nat, f_ = p1.toInt.toNat := ⟨_, rfl⟩
  have hfr : ∀ k_, ¬ ((x + 21 ≤ k_ ∧ k_ < x + 30) ∨ (x + 89 ≤ k_ ∧ k_ < x + 107) ∨ (x + 125 ≤ k_ ∧ k_ < x + 143)) → h k_ = h k_ := fun _ _ => rfl
  have cuts : ∀ N : Nat, (∀ (i : Nat) (x3 : Int32) (ra1 : Nat → Int32) (rk1 : Nat → Int32) (rl1 : Nat → Int32) (rb1 : Nat → Nat → Int32) (hc : Nat → va_E) (H : Heap) (locs : List Loc) (ls : Array Slot), WD g (inW g) s hc H locs → lv_has ls 5 [(0, .ref (g.2.2.1 x)), (1, .int p0), (2, .int p1), (3, .int x3)] → (p0.toInt = ((f : Nat) : Int)) → (f < pN (sM st0)) → (p1.toInt = ((a9 : Nat) : Int)) → (a9 < pA (sM st0) f) → (¬ mStrictF 2 (sM st0) f a9) → (i ≤ pL (sM st0) f) → (x3.toInt = ((i : Nat) : Int)) → (NoC (sM st0) f a9 i 0) → (PrS (sM st0) n ra1 rk1 rl1 rb1) → (EvA g hc x kn) → (PrA g hc (x + 12) n ga gk gl gb) → (PrA g hc (x + 21) n ra1 rk1 rl1 rb1) → (VwE g hc (x + 89) 2 (sM st0)) → (VwX g hc (x + 125) u4) → (∀ k, ¬ ((x + 21 ≤ k ∧ k < x + 30) ∨ (x + 89 ≤ k ∧ k < x + 107) ∨ (x + 125 ≤ k ∧ k < x + 143)) → hc k = h k) → (pL (sM st0) f - i) * 20 + 16 < N → W p l e (headSpec wsX8_makes rm_X8_makes).room s m ([.ref (g.2.2.1 x), .int p0, .int p1] : List Value).toArray below meth c H locs 0 0 (MQ below (va_Qi (fun r_ h2 => (∀ k, ¬ (x ≤ k ∧ k < x + 143) → h2 k = h k) ∧ ClsA g h2 x st0 ∧ AnMakes st0 p0 p1 r_) (Wd g) (inW g)) ([.ref (g.2.2.1 x), .int p0, .int p1] : List Value).toArray s 0 0 (inW g)) (F0 m 66 ls [])) ∧ (∀ (i : Nat) (k9 : Nat) (kq : Nat) (x3 : Int32) (x4 : Int32) (ra1 : Nat → Int32) (rk1 : Nat → Int32) (rl1 : Nat → Int32) (rb1 : Nat → Nat → Int32) (hc : Nat → va_E) (H : Heap) (locs : List Loc) (ls : Array Slot), WD g (inW g) s hc H locs → lv_has ls 5 [(0, .ref (g.2.2.1 x)), (1, .int p0), (2, .int p1), (3, .int x3), (4, .int x4)] → (p0.toInt = ((f : Nat) : Int)) → (f < pN (sM st0)) → (p1.toInt = ((a9 : Nat) : Int)) → (a9 < pA (sM st0) f) → (¬ mStrictF 2 (sM st0) f a9) → (i < pL (sM st0) f) → (k9 ≤ 14) → (x3.toInt = ((i : Nat) : Int)) → (x4.toInt = ((k9 : Nat) : Int)) → (NoC (sM st0) f a9 i k9) → (PrS (mSet (sM st0) f i kq) n ra1 rk1 rl1 rb1) → (EvA g hc x kn) → (PrA g hc (x + 12) n ga gk gl gb) → (PrA g hc (x + 21) n ra1 rk1 rl1 rb1) → (VwE g hc (x + 89) 2 (sM st0)) → (VwX g hc (x + 125) u4) → (∀ k, ¬ ((x + 21 ≤ k ∧ k < x + 30) ∨ (x + 89 ≤ k ∧ k < x + 107) ∨ (x + 125 ≤ k ∧ k < x + 143)) → hc k = h k) → (pL (sM st0) f - i) * 20 + (15 - k9) < N → W p l e (headSpec wsX8_makes rm_X8_makes).room s m ([.ref (g.2.2.1 x), .int p0, .int p1] : List Value).toArray below meth c H locs 0 0 (MQ below (va_Qi (fun r_ h2 => (∀ k, ¬ (x ≤ k ∧ k < x + 143) → h2 k = h k) ∧ ClsA g h2 x st0 ∧ AnMakes st0 p0 p1 r_) (Wd g) (inW g)) ([.ref (g.2.2.1 x), .int p0, .int p1] : List Value).toArray s 0 0 (inW g)) (F0 m 82 ls [])) := by
    intro N
    induction N with
    | zero => exact ⟨by intros; omega, by intros; omega⟩
    | succ N ih =>
      obtain ⟨ih66, ih82⟩ := ih
      refine ⟨?_, ?_⟩
      · intro i x3 ra1 rk1 rl1 rb1 hc H locs ls w hl hf0 hf ha0 ha9 hns hi hx3 hno Str E P Pr W2 W4 hfr hN_
        obtain ⟨kk4, kc4, tk4, fz4, dp4, gp4, gg4, gs4, gd4, gt4, gc4, V4⟩ := W4
        have hNv4 := V4.hN
        have hNe := E.1
        obtain ⟨ha3, -, -, hl24, hpl, -⟩ := hP.2.2 f hf
        refine lv_iload_n hx hb dX8_makes_66 rfl (lv_at hl 3 rfl) ?_
        refine lv_aload_n hx hb dX8_makes_67 rfl (lv_at hl 0 rfl) ?_
        refine r_get (C := RX8) (T := TX8) (N := 11) (ci := 6) hx hb hts inX8_makes_X8 hown w (by have := E.1; omega) E.2.1 rfl 1 (by decide) (hts (Cond.fieldLink RX8 19 "EarlyValues" "now" "LEarlyValues$Program;") (List.mem_of_getElem? (i := 1) (by decide +kernel))) rfl rfl dX8_makes_68 ?_
        refine r_get (C := RX3) (T := TX3) (N := 5) (ci := 2) hx hb hts inX8_makes_X3 hown w (by have := P.1; omega) P.c0 rfl 3 (by decide) (hts (Cond.fieldLink RX8 122 "EarlyValues$Program" "lengths" "[I") (List.mem_of_getElem? (i := 5) (by decide +kernel))) rfl rfl dX8_makes_71 ?_
        refine lv_iload_n hx hb dX8_makes_74 rfl (lv_at hl 1 rfl) ?_
        refine r_iald (j := f) hx hb w (by have := P.1; omega) P.c3 hf0 (by omega) dX8_makes_75 ?_
        refine lv_icmp_ge (tgt := 194) hx hb dX8_makes_76 (by decide) (fun c1 => ?_) (fun c1 => ?_)
        · have c1 : (((pL (sM st0) f) : Nat) : Int) ≤ ((i : Nat) : Int) := (i_le (S.2.2.2.1 f (by omega)) hx3).mp c1
          refine lv_bipush (v := (-4)) hx hb dX8_makes_194 (by decide) ?_
          refine r_iret (v := (-4)) hx hb hr hlocks w dX8_makes_196 ?_
          subst hu4
          exact ⟨(fun k_ hk_ => hfr k_ (by omega)), ⟨hSV0, ⟨_, E, hkn⟩, (T0.fr (fun k_ a_ b_ => hfr k_ (by omega))), (Q1.fr (fun k_ a_ b_ => hfr k_ (by omega))), ⟨_, _, _, _, _, P, S⟩, ⟨_, _, _, _, _, Pr⟩, (fun i_ hi_ => (Q3 i_ hi_).fr (fun k_ a_ b_ => hfr k_ (by omega))), (fun i_ (hi_ : i_ < sV st0) => (Q4 i_ hi_).fr (fun k_ a_ b_ => hfr k_ (by omega))), (H0_.fr (fun k_ a_ b_ => hfr k_ (by omega))), (W0.fr (fun k_ a_ b_ => hfr k_ (by omega))), (W1.fr (fun k_ a_ b_ => hfr k_ (by omega))), W2, (W3.fr (fun k_ a_ b_ => hfr k_ (by omega))), ⟨_, _, _, _, _, _, _, _, _, _, _, V4⟩⟩, Or.inl ⟨f, a9, hf0, ha0, hf, ha9, Or.inr ⟨hns, Or.inr ⟨fun i_ k_ h1_ h2_ => hno i_ k_ h1_ h2_ (by omega), rfl⟩⟩⟩⟩
        · have c1 : ¬ ((((pL (sM st0) f) : Nat) : Int) ≤ ((i : Nat) : Int)) := fun q => c1 ((i_le (S.2.2.2.1 f (by omega)) hx3).mpr q)
          have hi : i < pL (sM st0) f := by omega
          refine lv_iconst (v := 0) hx hb dX8_makes_79 (by decide) ?_
          refine lv_istore (lv' := [(4, .int 0), (0, .ref (g.2.2.1 x)), (1, .int p0), (2, .int p1), (3, .int x3)]) hx hb dX8_makes_80 hl (by decide) rfl (fun ls hl => ?_)
          exact ih82 i 0 (pB (sM st0) f i) x3 0 ra1 rk1 rl1 rb1 hc _ _ _ w (lv_sub hl [1, 2, 3, 4, 0] rfl) hf0 hf ha0 ha9 hns (by omega) (by omega) hx3 ((by decide : (0 : Int32).toInt = ((0 : Nat) : Int))) hno ((Str.self f i)) E P Pr W2 (⟨_, _, _, _, _, _, _, _, _, _, _, V4⟩) hfr (by omega)
      · intro i k9 kq x3 x4 ra1 rk1 rl1 rb1 hc H locs ls w hl hf0 hf ha0 ha9 hns hi hk hx3 hx4 hno Str E P Pr W2 W4 hfr hN_
        obtain ⟨kk4, kc4, tk4, fz4, dp4, gp4, gg4, gs4, gd4, gt4, gc4, V4⟩ := W4
        have hNv4 := V4.hN
        have hNe := E.1
        obtain ⟨ha3, -, -, hl24, hpl, -⟩ := hP.2.2 f hf
        refine lv_iload hx hb dX8_makes_82 (lv_at hl 4 rfl) ?_
        refine lv_bipush (v := 14) hx hb dX8_makes_84 (by decide) ?_
        refine lv_icmp_ge (tgt := 166) hx hb dX8_makes_86 (by decide) (fun c2 => ?_) (fun c2 => ?_)
        · have c2 : ((14 : Nat) : Int) ≤ ((k9 : Nat) : Int) := (i_le (by decide : (14 : Int32).toInt = ((14 : Nat) : Int)) hx4).mp c2
          refine lv_aload_n hx hb dX8_makes_166 rfl (lv_at hl 0 rfl) ?_
          refine r_get (C := RX8) (T := TX8) (N := 11) (ci := 6) hx hb hts inX8_makes_X8 hown w (by have := E.1; omega) E.2.1 rfl 2 (by decide) (hts (Cond.fieldLink RX8 23 "EarlyValues" "trial" "LEarlyValues$Program;") (List.mem_of_getElem? (i := 4) (by decide +kernel))) rfl rfl dX8_makes_167 ?_
          refine r_get (C := RX3) (T := TX3) (N := 5) (ci := 2) hx hb hts inX8_makes_X3 hown w (by have := Pr.1; omega) Pr.c0 rfl 4 (by decide) (hts (Cond.fieldLink RX8 129 "EarlyValues$Program" "bodies" "[[I") (List.mem_of_getElem? (i := 6) (by decide +kernel))) rfl rfl dX8_makes_170 ?_
          refine lv_iload_n hx hb dX8_makes_173 rfl (lv_at hl 1 rfl) ?_
          refine r_aald (t := 4) (j := f) hx hb w (by decide) (by have := Pr.1; omega) Pr.c4 hf0 (by omega) (rowsF_in (by omega)) dX8_makes_174 ?_
          refine lv_iload_n hx hb dX8_makes_175 rfl (lv_at hl 3 rfl) ?_
          refine lv_aload_n hx hb dX8_makes_176 rfl (lv_at hl 0 rfl) ?_
          refine r_get (C := RX8) (T := TX8) (N := 11) (ci := 6) hx hb hts inX8_makes_X8 hown w (by have := E.1; omega) E.2.1 rfl 1 (by decide) (hts (Cond.fieldLink RX8 19 "EarlyValues" "now" "LEarlyValues$Program;") (List.mem_of_getElem? (i := 1) (by decide +kernel))) rfl rfl dX8_makes_177 ?_
          refine r_get (C := RX3) (T := TX3) (N := 5) (ci := 2) hx hb hts inX8_makes_X3 hown w (by have := P.1; omega) P.c0 rfl 4 (by decide) (hts (Cond.fieldLink RX8 129 "EarlyValues$Program" "bodies" "[[I") (List.mem_of_getElem? (i := 6) (by decide +kernel))) rfl rfl dX8_makes_180 ?_
          refine lv_iload_n hx hb dX8_makes_183 rfl (lv_at hl 1 rfl) ?_
          refine r_aald (t := 4) (j := f) hx hb w (by decide) (by have := P.1; omega) P.c4 hf0 (by omega) (rowsF_in (by omega)) dX8_makes_184 ?_
          refine lv_iload_n hx hb dX8_makes_185 rfl (lv_at hl 3 rfl) ?_
          refine r_iald (j := i) hx hb w (by have := P.1; omega) (P.c5 (i := f) (by omega)) hx3 (by omega) dX8_makes_186 ?_
          have hpB_ := S.2.2.2.2 f hf i hi
          refine r_iast (j := i) hx hb w (by have := Pr.1; omega) (Pr.c5 (i := f) (by omega)) hx3 (by omega) dX8_makes_187 (fun h3 H locs eh3 w => ?_)
          have Pr := Pr.s5 (i := f) (by omega) eh3
          generalize egb4 : va_up rb1 f (upd (rb1 f) i (gb f i)) = gb4 at Pr
          have hfr : ∀ k_, ¬ ((x + 21 ≤ k_ ∧ k_ < x + 30) ∨ (x + 89 ≤ k_ ∧ k_ < x + 107) ∨ (x + 125 ≤ k_ ∧ k_ < x + 143)) → h3 k_ = h k_ := fun k_ hk_ => by rw [eh3, va_up_ne _ _ (by omega)]; exact hfr k_ hk_
          have E := E.fr (h' := h3) (fun k_ h1_ h2_ h3_ => by rw [eh3, va_up_ne _ _ (by omega)])
          have P := P.fr (h' := h3) (fun k_ h1_ h2_ => by rw [eh3, va_up_ne _ _ (by omega)])
          have W2 := W2.fr (h' := h3) (fun k_ h1_ h2_ => by rw [eh3, va_up_ne _ _ (by omega)])
          have V4 := V4.fr (h' := h3) (fun k_ h1_ h2_ => by rw [eh3, va_up_ne _ _ (by omega)])
          obtain ⟨y5, ey5⟩ : ∃ y : Int32, y = x3 + (1) := ⟨_, rfl⟩
          have ty5 : y5.toInt = (((i + 1) : Nat) : Int) := i_addN ey5 hx3 (by decide : (1 : Int32).toInt = ((1 : Nat) : Int)) (by omega)
          refine lv_iinc (v := y5) (lv' := [(3, .int y5), (0, .ref (g.2.2.1 x)), (1, .int p0), (2, .int p1), (4, .int x4)]) hx hb dX8_makes_188 hl (k := 3) rfl (by rw [ey5]; rfl) (by decide) rfl (fun ls hl => ?_)
          refine lv_goto (tgt := 66) hx hb dX8_makes_191 (by decide) ?_
          exact ih66 (i + 1) y5 ra1 rk1 rl1 gb4 h3 _ _ _ w (lv_sub hl [1, 2, 3, 0] rfl) hf0 hf ha0 ha9 hns (by omega) ty5 ((show NoC (sM st0) f a9 (i + 1) 0 from by rw [show k9 = 14 by omega] at hno; exact hno.n)) ((by have q_ := Str.put_e (hpB_ : _ = ((pB (sM st0) f i : Nat) : Int)) egb4; rw [mSet_mSet, mSet_self] at q_; exact q_)) E P Pr W2 (⟨_, _, _, _, _, _, _, _, _, _, _, V4⟩) hfr (by omega)
        · have c2 : ¬ (((14 : Nat) : Int) ≤ ((k9 : Nat) : Int)) := fun q => c2 ((i_le (by decide : (14 : Int32).toInt = ((14 : Nat) : Int)) hx4).mpr q)
          refine lv_aload_n hx hb dX8_makes_89 rfl (lv_at hl 0 rfl) ?_
          refine r_get (C := RX8) (T := TX8) (N := 11) (ci := 6) hx hb hts inX8_makes_X8 hown w (by have := E.1; omega) E.2.1 rfl 1 (by decide) (hts (Cond.fieldLink RX8 19 "EarlyValues" "now" "LEarlyValues$Program;") (List.mem_of_getElem? (i := 1) (by decide +kernel))) rfl rfl dX8_makes_90 ?_
          refine r_get (C := RX3) (T := TX3) (N := 5) (ci := 2) hx hb hts inX8_makes_X3 hown w (by have := P.1; omega) P.c0 rfl 4 (by decide) (hts (Cond.fieldLink RX8 129 "EarlyValues$Program" "bodies" "[[I") (List.mem_of_getElem? (i := 6) (by decide +kernel))) rfl rfl dX8_makes_93 ?_
          refine lv_iload_n hx hb dX8_makes_96 rfl (lv_at hl 1 rfl) ?_
          refine r_aald (t := 4) (j := f) hx hb w (by decide) (by have := P.1; omega) P.c4 hf0 (by omega) (rowsF_in (by omega)) dX8_makes_97 ?_
          refine lv_iload_n hx hb dX8_makes_98 rfl (lv_at hl 3 rfl) ?_
          refine r_iald (j := i) hx hb w (by have := P.1; omega) (P.c5 (i := f) (by omega)) hx3 (by omega) dX8_makes_99 ?_
          refine lv_iload hx hb dX8_makes_100 (lv_at hl 4 rfl) ?_
          refine lv_icmp_eq (tgt := 160) hx hb dX8_makes_102 (by decide) (fun c6 => ?_) (fun c6 => ?_)
          · have c6 : (((pB (sM st0) f i) : Nat) : Int) = ((k9 : Nat) : Int) := (i_eq (S.2.2.2.2 f (by omega) i (by omega)) hx4).mp c6
            obtain ⟨y7, ey7⟩ : ∃ y : Int32, y = x4 + (1) := ⟨_, rfl⟩
            have ty7 : y7.toInt = (((k9 + 1) : Nat) : Int) := i_addN ey7 hx4 (by decide : (1 : Int32).toInt = ((1 : Nat) : Int)) (by omega)
            refine lv_iinc (v := y7) (lv' := [(4, .int y7), (0, .ref (g.2.2.1 x)), (1, .int p0), (2, .int p1), (3, .int x3)]) hx hb dX8_makes_160 hl (k := 4) rfl (by rw [ey7]; rfl) (by decide) rfl (fun ls hl => ?_)
            refine lv_goto (tgt := 82) hx hb dX8_makes_163 (by decide) ?_
            exact ih82 i (k9 + 1) kq x3 y7 ra1 rk1 rl1 rb1 hc _ _ _ w (lv_sub hl [1, 2, 3, 4, 0] rfl) hf0 hf ha0 ha9 hns hi (by omega) hx3 ty7 (hno.s (fun q_ => q_.1 (by omega))) Str E P Pr W2 (⟨_, _, _, _, _, _, _, _, _, _, _, V4⟩) hfr (by omega)
          · have c6 : ¬ ((((pB (sM st0) f i) : Nat) : Int) = ((k9 : Nat) : Int)) := fun q => c6 ((i_eq (S.2.2.2.2 f (by omega) i (by omega)) hx4).mpr q)
            refine lv_aload_n hx hb dX8_makes_105 rfl (lv_at hl 0 rfl) ?_
            refine r_get (C := RX8) (T := TX8) (N := 11) (ci := 6) hx hb hts inX8_makes_X8 hown w (by have := E.1; omega) E.2.1 rfl 1 (by decide) (hts (Cond.fieldLink RX8 19 "EarlyValues" "now" "LEarlyValues$Program;") (List.mem_of_getElem? (i := 1) (by decide +kernel))) rfl rfl dX8_makes_106 ?_
            refine lv_iload_n hx hb dX8_makes_109 rfl (lv_at hl 1 rfl) ?_
            refine lv_iload_n hx hb dX8_makes_110 rfl (lv_at hl 3 rfl) ?_
            refine lv_iload hx hb dX8_makes_111 (lv_at hl 4 rfl) ?_
            refine r_callI w (va_runV (As := [.int p0, .int x3, .int x4]) (rest := []) ⟨hx, hb, hml, hown, hts⟩ (c_X3_fits l P S hP p0 x3 x4 hf0 hx3 (by omega) (by omega) (by omega)) (cwV 3 hts gX8_makes_X3_fits rfl rfl rfl (by decide +kernel) ⟨Nat.le_of_ble_eq_true rfl, Nat.le_of_ble_eq_true rfl⟩) (r_preV w (by have := P.1; omega) P.c0 rfl) rfl rfl hl.1 rfl (lv_room (Nat.le_of_ble_eq_true rfl)) dX8_makes_113 ⟨Nat.zero_le _, Nat.zero_le _⟩) (fun r9 h8 H locs hp w => ?_)
            obtain ⟨eh_, qq10⟩ := hp
            have eh_ := eh_.symm
            subst eh_
            refine lv_if_eq (tgt := 160) hx hb dX8_makes_116 (by decide) (fun c11 => ?_) (fun c11 => ?_)
            · have c11 := qq10.eq c11
              obtain ⟨y12, ey12⟩ : ∃ y : Int32, y = x4 + (1) := ⟨_, rfl⟩
              have ty12 : y12.toInt = (((k9 + 1) : Nat) : Int) := i_addN ey12 hx4 (by decide : (1 : Int32).toInt = ((1 : Nat) : Int)) (by omega)
              refine lv_iinc (v := y12) (lv' := [(4, .int y12), (0, .ref (g.2.2.1 x)), (1, .int p0), (2, .int p1), (3, .int x3)]) hx hb dX8_makes_160 hl (k := 4) rfl (by rw [ey12]; rfl) (by decide) rfl (fun ls hl => ?_)
              refine lv_goto (tgt := 82) hx hb dX8_makes_163 (by decide) ?_
              exact ih82 i (k9 + 1) kq x3 y12 ra1 rk1 rl1 rb1 hc _ _ _ w (lv_sub hl [1, 2, 3, 4, 0] rfl) hf0 hf ha0 ha9 hns hi (by omega) hx3 ty12 (hno.s (fun q_ => c11 ⟨by omega, by rw [show x4.toInt.toNat = k9 by omega]; exact q_.2.1⟩)) Str E P Pr W2 (⟨_, _, _, _, _, _, _, _, _, _, _, V4⟩) hfr (by omega)
            · have c11 := qq10.ne c11
              have hft_ := c11.2
              rw [show x4.toInt.toNat = k9 by omega] at hft_
              refine lv_aload_n hx hb dX8_makes_119 rfl (lv_at hl 0 rfl) ?_
              refine r_get (C := RX8) (T := TX8) (N := 11) (ci := 6) hx hb hts inX8_makes_X8 hown w (by have := E.1; omega) E.2.1 rfl 2 (by decide) (hts (Cond.fieldLink RX8 23 "EarlyValues" "trial" "LEarlyValues$Program;") (List.mem_of_getElem? (i := 4) (by decide +kernel))) rfl rfl dX8_makes_120 ?_
              refine r_get (C := RX3) (T := TX3) (N := 5) (ci := 2) hx hb hts inX8_makes_X3 hown w (by have := Pr.1; omega) Pr.c0 rfl 4 (by decide) (hts (Cond.fieldLink RX8 129 "EarlyValues$Program" "bodies" "[[I") (List.mem_of_getElem? (i := 6) (by decide +kernel))) rfl rfl dX8_makes_123 ?_
              refine lv_iload_n hx hb dX8_makes_126 rfl (lv_at hl 1 rfl) ?_
              refine r_aald (t := 4) (j := f) hx hb w (by decide) (by have := Pr.1; omega) Pr.c4 hf0 (by omega) (rowsF_in (by omega)) dX8_makes_127 ?_
              refine lv_iload_n hx hb dX8_makes_128 rfl (lv_at hl 3 rfl) ?_
              refine lv_iload hx hb dX8_makes_129 (lv_at hl 4 rfl) ?_
              refine r_iast (j := i) hx hb w (by have := Pr.1; omega) (Pr.c5 (i := f) (by omega)) hx3 (by omega) dX8_makes_131 (fun h13 H locs eh13 w => ?_)
              have Pr := Pr.s5 (i := f) (by omega) eh13
              generalize egb14 : va_up rb1 f (upd (rb1 f) i x4) = gb14 at Pr
              have hfr : ∀ k_, ¬ ((x + 21 ≤ k_ ∧ k_ < x + 30) ∨ (x + 89 ≤ k_ ∧ k_ < x + 107) ∨ (x + 125 ≤ k_ ∧ k_ < x + 143)) → h13 k_ = h k_ := fun k_ hk_ => by rw [eh13, va_up_ne _ _ (by omega)]; exact hfr k_ hk_
              have E := E.fr (h' := h13) (fun k_ h1_ h2_ h3_ => by rw [eh13, va_up_ne _ _ (by omega)])
              have P := P.fr (h' := h13) (fun k_ h1_ h2_ => by rw [eh13, va_up_ne _ _ (by omega)])
              have W2 := W2.fr (h' := h13) (fun k_ h1_ h2_ => by rw [eh13, va_up_ne _ _ (by omega)])
              have V4 := V4.fr (h' := h13) (fun k_ h1_ h2_ => by rw [eh13, va_up_ne _ _ (by omega)])
              have hPs_ := mSet_ok hP hft_ (show k9 < 14 by omega)
              have Str2 : PrS (mSet (sM st0) f i k9) n ra1 rk1 rl1 gb14 := by have q_ := Str.put_e hx4 egb14; rw [mSet_mSet] at q_; exact q_
              refine lv_aload_n hx hb dX8_makes_132 rfl (lv_at hl 0 rfl) ?_
              refine r_get (C := RX8) (T := TX8) (N := 11) (ci := 6) hx hb hts inX8_makes_X8 hown w (by have := E.1; omega) E.2.1 rfl 10 (by decide) (hts (Cond.fieldLink RX8 59 "EarlyValues" "trialFinely" "LEarlyValues$View;") (List.mem_of_getElem? (i := 7) (by decide +kernel))) rfl rfl dX8_makes_133 ?_
              refine lv_aload_n hx hb dX8_makes_136 rfl (lv_at hl 0 rfl) ?_
              refine r_get (C := RX8) (T := TX8) (N := 11) (ci := 6) hx hb hts inX8_makes_X8 hown w (by have := E.1; omega) E.2.1 rfl 2 (by decide) (hts (Cond.fieldLink RX8 23 "EarlyValues" "trial" "LEarlyValues$Program;") (List.mem_of_getElem? (i := 4) (by decide +kernel))) rfl rfl dX8_makes_137 ?_
              refine lv_iload_n hx hb dX8_makes_140 rfl (lv_at hl 1 rfl) ?_
              refine lv_iload_n hx hb dX8_makes_141 rfl (lv_at hl 2 rfl) ?_
              refine r_callI w (va_3 V4.hu (fun q_ => va_runU (As := [.ref (g.2.2.1 (x + 21)), .int p0, .int p1]) (rest := []) ⟨hx, hb, hml, hown, hts⟩ (c_X7_staysStrict l V4 Pr Str2 hPs_ p0 p1 hf0 ha0 hf (by omega) (by omega)) (va_cwU 3 hts gX8_makes_X7_staysStrict_u199X6 rfl rfl rfl rfl (by decide +kernel) ⟨Nat.le_of_ble_eq_true rfl, Nat.le_of_ble_eq_true rfl⟩) (r_preV w (by have := V4.hN; omega) (V4.ob (by subst q_; rfl)) rfl) rfl rfl hl.1 rfl (lv_room (Nat.le_of_ble_eq_true rfl)) dX8_makes_142 ⟨Nat.zero_le _, Nat.zero_le _⟩) (fun q_ => va_runU (As := [.ref (g.2.2.1 (x + 21)), .int p0, .int p1]) (rest := []) ⟨hx, hb, hml, hown, hts⟩ (c_X7_staysStrict l V4 Pr Str2 hPs_ p0 p1 hf0 ha0 hf (by omega) (by omega)) (va_cwU 3 hts gX8_makes_X7_staysStrict_u199X4 rfl rfl rfl rfl (by decide +kernel) ⟨Nat.le_of_ble_eq_true rfl, Nat.le_of_ble_eq_true rfl⟩) (r_preV w (by have := V4.hN; omega) (V4.ob (by subst q_; rfl)) rfl) rfl rfl hl.1 rfl (lv_room (Nat.le_of_ble_eq_true rfl)) dX8_makes_142 ⟨Nat.zero_le _, Nat.zero_le _⟩) (fun q_ => va_runU (As := [.ref (g.2.2.1 (x + 21)), .int p0, .int p1]) (rest := []) ⟨hx, hb, hml, hown, hts⟩ (c_X7_staysStrict l V4 Pr Str2 hPs_ p0 p1 hf0 ha0 hf (by omega) (by omega)) (va_cwU 3 hts gX8_makes_X7_staysStrict_u199X0 rfl rfl rfl rfl (by decide +kernel) ⟨Nat.le_of_ble_eq_true rfl, Nat.le_of_ble_eq_true rfl⟩) (r_preV w (by have := V4.hN; omega) (V4.ob (by subst q_; rfl)) rfl) rfl rfl hl.1 rfl (lv_room (Nat.le_of_ble_eq_true rfl)) dX8_makes_142 ⟨Nat.zero_le _, Nat.zero_le _⟩)) (fun r16 h15 H locs hp w => ?_)
              obtain ⟨hfk17, hbk17, kkk17, kck17, dpk17, ggk17, gsk17, gtk17, gck17, V4⟩ := hp
              have E := E.fr (h' := h15) (fun k_ h1_ h2_ h3_ => hfk17 k_ (by omega))
              have P := P.fr (h' := h15) (fun k_ h1_ h2_ => hfk17 k_ (by omega))
              have Pr := Pr.fr (h' := h15) (fun k_ h1_ h2_ => hfk17 k_ (by omega))
              have W2 := W2.fr (h' := h15) (fun k_ h1_ h2_ => hfk17 k_ (by omega))
              have hfr : ∀ k_, ¬ ((x + 21 ≤ k_ ∧ k_ < x + 30) ∨ (x + 89 ≤ k_ ∧ k_ < x + 107) ∨ (x + 125 ≤ k_ ∧ k_ < x + 143)) → h15 k_ = h k_ := fun k_ hk_ => (hfk17 k_ (by omega)).trans (hfr k_ hk_)
              refine lv_if_eq (tgt := 160) hx hb dX8_makes_145 (by decide) (fun c18 => ?_) (fun c18 => ?_)
              · have c18 := hbk17.eq c18
                obtain ⟨y19, ey19⟩ : ∃ y : Int32, y = x4 + (1) := ⟨_, rfl⟩
                have ty19 : y19.toInt = (((k9 + 1) : Nat) : Int) := i_addN ey19 hx4 (by decide : (1 : Int32).toInt = ((1 : Nat) : Int)) (by omega)
                refine lv_iinc (v := y19) (lv' := [(4, .int y19), (0, .ref (g.2.2.1 x)), (1, .int p0), (2, .int p1), (3, .int x3)]) hx hb dX8_makes_160 hl (k := 4) rfl (by rw [ey19]; rfl) (by decide) rfl (fun ls hl => ?_)
                refine lv_goto (tgt := 82) hx hb dX8_makes_163 (by decide) ?_
                exact ih82 i (k9 + 1) k9 x3 y19 ra1 rk1 rl1 gb14 h15 _ _ _ w (lv_sub hl [1, 2, 3, 4, 0] rfl) hf0 hf ha0 ha9 hns hi (by omega) hx3 ty19 (hno.s (fun q_ => c18 (by rw [hu4]; exact q_.2.2))) Str2 E P Pr W2 (⟨_, _, _, _, _, _, _, _, _, _, _, V4⟩) hfr (by omega)
              · have c18 := hbk17.ne c18
                refine lv_sipush (v := 200) hx hb dX8_makes_148 (by decide) ?_
                refine lv_iload_n hx hb dX8_makes_151 rfl (lv_at hl 3 rfl) ?_
                refine lv_imul hx hb dX8_makes_152 ?_
                refine lv_topi (fun y20 ey20 => ?_)
                have ty20 : y20.toInt = (((200 * i) : Nat) : Int) := i_mulN ey20 (by decide : (200 : Int32).toInt = ((200 : Nat) : Int)) hx3 (by omega)
                refine lv_iload hx hb dX8_makes_153 (lv_at hl 4 rfl) ?_
                refine r_callI w (va_runS (As := [.int x4]) (rest := [.int y20]) ⟨hx, hb, hml, hown, hts⟩ (c_X2_signOf l x4 hx4 (by omega)) (va_cwS 1 hts gX8_makes_X2_signOf rfl rfl rfl (by decide +kernel) ⟨Nat.le_of_ble_eq_true rfl, Nat.le_of_ble_eq_true rfl⟩) (r_preS w) rfl rfl hl.1 rfl (lv_room (Nat.le_of_ble_eq_true rfl)) dX8_makes_155 ⟨Nat.zero_le _, Nat.zero_le _⟩) (fun r22 h21 H locs hp w => ?_)
                obtain ⟨eh_, qq23⟩ := hp
                have eh_ := eh_.symm
                subst eh_
                have hmc_ := mCode_le (j := k9) (by omega)
                refine lv_iadd hx hb dX8_makes_158 ?_
                refine lv_topi (fun y24 ey24 => ?_)
                have ty24 : y24.toInt = ((((200 * i) + (mCode k9)) : Nat) : Int) := i_addN ey24 ty20 qq23 (by omega)
                refine r_iret (v := y24) hx hb hr hlocks w dX8_makes_159 ?_
                have hs_ : mStrictF 2 (mSet (sM st0) f i k9) f a9 := by rw [← hu4]; exact c18
                subst hu4
                exact ⟨(fun k_ hk_ => hfr k_ (by omega)), ⟨hSV0, ⟨_, E, hkn⟩, (T0.fr (fun k_ a_ b_ => hfr k_ (by omega))), (Q1.fr (fun k_ a_ b_ => hfr k_ (by omega))), ⟨_, _, _, _, _, P, S⟩, ⟨_, _, _, _, _, Pr⟩, (fun i_ hi_ => (Q3 i_ hi_).fr (fun k_ a_ b_ => hfr k_ (by omega))), (fun i_ (hi_ : i_ < sV st0) => (Q4 i_ hi_).fr (fun k_ a_ b_ => hfr k_ (by omega))), (H0_.fr (fun k_ a_ b_ => hfr k_ (by omega))), (W0.fr (fun k_ a_ b_ => hfr k_ (by omega))), (W1.fr (fun k_ a_ b_ => hfr k_ (by omega))), W2, (W3.fr (fun k_ a_ b_ => hfr k_ (by omega))), ⟨_, _, _, _, _, _, _, _, _, _, _, V4⟩⟩, Or.inl ⟨f, a9, hf0, ha0, hf, ha9, Or.inr ⟨hns, Or.inl ⟨i, k9, hi, by omega, ⟨by omega, hft_, hs_⟩, hno, ty24⟩⟩⟩⟩
  have cut0 := cuts (2000)
  obtain ⟨ih66, ih82⟩ := cut0
  refine lv_aload_n hx hb dX8_makes_0 rfl (lv_at hl 0 rfl) ?_
  refine r_get (C := RX8) (T := TX8) (N := 11) (ci := 6) hx hb hts inX8_makes_X8 hown w (by have := E.1; omega) E.2.1 rfl 1 (by decide) (hts (Cond.fieldLink RX8 19 "EarlyValues" "now" "LEarlyValues$Program;") (List.mem_of_getElem? (i := 1) (by decide +kernel))) rfl rfl dX8_makes_1 ?_
  refine lv_iload_n hx hb dX8_makes_4 rfl (lv_at hl 1 rfl) ?_
  refine r_callI w (va_runV (As := [.int p0]) (rest := []) ⟨hx, hb, hml, hown, hts⟩ (c_X3_has l P p0) (cwV 1 hts gX8_makes_X3_has rfl rfl rfl (by decide +kernel) ⟨Nat.le_of_ble_eq_true rfl, Nat.le_of_ble_eq_true rfl⟩) (r_preV w (by have := P.1; omega) P.c0 rfl) rfl rfl hl.1 rfl (lv_room (Nat.le_of_ble_eq_true rfl)) dX8_makes_5 ⟨Nat.zero_le _, Nat.zero_le _⟩) (fun r26 h25 H locs hp w => ?_)
  obtain ⟨eh_, qq27⟩ := hp
  have eh_ := eh_.symm
  subst eh_
  have b28 : Bq r26 (0 ≤ p0.toInt ∧ p0.toInt < (((pN (sM st0)) : Nat) : Int)) := qq27.iff (by rw [((rfl : p0.toInt = p0.toInt) : p0.toInt = _), (S.1 : n.toInt = _)])
  refine lv_if_eq (tgt := 28) hx hb dX8_makes_8 (by decide) (fun c29 => ?_) (fun c29 => ?_)
  · have c29 := b28.eq c29
    refine lv_iconst (v := (-1)) hx hb dX8_makes_28 (by decide) ?_
    refine r_iret (v := (-1)) hx hb hr hlocks w dX8_makes_29 ?_
    subst hu2 hu4
    exact ⟨(fun k_ hk_ => hfr k_ (by omega)), ⟨hSV0, ⟨_, E, hkn⟩, (T0.fr (fun k_ a_ b_ => hfr k_ (by omega))), (Q1.fr (fun k_ a_ b_ => hfr k_ (by omega))), ⟨_, _, _, _, _, P, S⟩, ⟨_, _, _, _, _, Pr⟩, (fun i_ hi_ => (Q3 i_ hi_).fr (fun k_ a_ b_ => hfr k_ (by omega))), (fun i_ (hi_ : i_ < sV st0) => (Q4 i_ hi_).fr (fun k_ a_ b_ => hfr k_ (by omega))), (H0_.fr (fun k_ a_ b_ => hfr k_ (by omega))), (W0.fr (fun k_ a_ b_ => hfr k_ (by omega))), (W1.fr (fun k_ a_ b_ => hfr k_ (by omega))), ⟨_, _, _, _, _, _, _, _, _, _, _, V2, hz2⟩, (W3.fr (fun k_ a_ b_ => hfr k_ (by omega))), ⟨_, _, _, _, _, _, _, _, _, _, _, V4⟩⟩, Or.inr ⟨by rintro ⟨f_, a_, e1_, e2_, e3_, e4_⟩; first | omega | (obtain rfl : f_ = f := (by omega); omega), rfl⟩⟩
  · have c29 := b28.ne c29
    have hf0 : p0.toInt = ((f : Nat) : Int) := by omega
    have hf : f < pN (sM st0) := by omega
    obtain ⟨ha3, hk3, hl1, hl24, hpl, hd0⟩ := hP.2.2 f hf
    refine lv_iload_n hx hb dX8_makes_11 rfl (lv_at hl 2 rfl) ?_
    refine lv_if_lt (tgt := 28) hx hb dX8_makes_12 (by decide) (fun c30 => ?_) (fun c30 => ?_)
    · have c30 : p1.toInt < (0 : Int) := (i_lt (rfl : p1.toInt = p1.toInt) (rfl : (0 : Int32).toInt = 0)).mp c30
      refine lv_iconst (v := (-1)) hx hb dX8_makes_28 (by decide) ?_
      refine r_iret (v := (-1)) hx hb hr hlocks w dX8_makes_29 ?_
      subst hu2 hu4
      exact ⟨(fun k_ hk_ => hfr k_ (by omega)), ⟨hSV0, ⟨_, E, hkn⟩, (T0.fr (fun k_ a_ b_ => hfr k_ (by omega))), (Q1.fr (fun k_ a_ b_ => hfr k_ (by omega))), ⟨_, _, _, _, _, P, S⟩, ⟨_, _, _, _, _, Pr⟩, (fun i_ hi_ => (Q3 i_ hi_).fr (fun k_ a_ b_ => hfr k_ (by omega))), (fun i_ (hi_ : i_ < sV st0) => (Q4 i_ hi_).fr (fun k_ a_ b_ => hfr k_ (by omega))), (H0_.fr (fun k_ a_ b_ => hfr k_ (by omega))), (W0.fr (fun k_ a_ b_ => hfr k_ (by omega))), (W1.fr (fun k_ a_ b_ => hfr k_ (by omega))), ⟨_, _, _, _, _, _, _, _, _, _, _, V2, hz2⟩, (W3.fr (fun k_ a_ b_ => hfr k_ (by omega))), ⟨_, _, _, _, _, _, _, _, _, _, _, V4⟩⟩, Or.inr ⟨by rintro ⟨f_, a_, e1_, e2_, e3_, e4_⟩; first | omega | (obtain rfl : f_ = f := (by omega); omega), rfl⟩⟩
    · have c30 : ¬ (p1.toInt < (0 : Int)) := fun q => c30 ((i_lt (rfl : p1.toInt = p1.toInt) (rfl : (0 : Int32).toInt = 0)).mpr q)
      refine lv_iload_n hx hb dX8_makes_15 rfl (lv_at hl 2 rfl) ?_
      refine lv_aload_n hx hb dX8_makes_16 rfl (lv_at hl 0 rfl) ?_
      refine r_get (C := RX8) (T := TX8) (N := 11) (ci := 6) hx hb hts inX8_makes_X8 hown w (by have := E.1; omega) E.2.1 rfl 1 (by decide) (hts (Cond.fieldLink RX8 19 "EarlyValues" "now" "LEarlyValues$Program;") (List.mem_of_getElem? (i := 1) (by decide +kernel))) rfl rfl dX8_makes_17 ?_
      refine r_get (C := RX3) (T := TX3) (N := 5) (ci := 2) hx hb hts inX8_makes_X3 hown w (by have := P.1; omega) P.c0 rfl 1 (by decide) (hts (Cond.fieldLink RX8 119 "EarlyValues$Program" "arguments" "[I") (List.mem_of_getElem? (i := 2) (by decide +kernel))) rfl rfl dX8_makes_20 ?_
      refine lv_iload_n hx hb dX8_makes_23 rfl (lv_at hl 1 rfl) ?_
      refine r_iald (j := f) hx hb w (by have := P.1; omega) P.c1 hf0 (by omega) dX8_makes_24 ?_
      refine lv_icmp_lt (tgt := 30) hx hb dX8_makes_25 (by decide) (fun c31 => ?_) (fun c31 => ?_)
      · have c31 : p1.toInt < (((pA (sM st0) f) : Nat) : Int) := (i_lt (rfl : p1.toInt = p1.toInt) (S.2.1 f (by omega))).mp c31
        have ha0 : p1.toInt = ((a9 : Nat) : Int) := by omega
        have ha9 : a9 < pA (sM st0) f := by omega
        refine lv_aload_n hx hb dX8_makes_30 rfl (lv_at hl 0 rfl) ?_
        refine lv_aload_n hx hb dX8_makes_31 rfl (lv_at hl 0 rfl) ?_
        refine r_get (C := RX8) (T := TX8) (N := 11) (ci := 6) hx hb hts inX8_makes_X8 hown w (by have := E.1; omega) E.2.1 rfl 8 (by decide) (hts (Cond.fieldLink RX8 53 "EarlyValues" "finely" "LEarlyValues$View;") (List.mem_of_getElem? (i := 3) (by decide +kernel))) rfl rfl dX8_makes_32 ?_
        refine r_callQ w (va_runV (As := [.ref (g.2.2.1 (x + 89))]) (rest := []) ⟨hx, hb, hml, hown, hts⟩ (c_X8_solved l E ⟨_, _, _, _, _, _, _, _, _, _, _, V2, hz2⟩ P S hP (by omega)) (cwV 1 hts gX8_makes_X8_solved rfl rfl rfl (by decide +kernel) ⟨Nat.le_of_ble_eq_true rfl, Nat.le_of_ble_eq_true rfl⟩) (r_preV w (by have := E.1; omega) E.2.1 rfl) rfl rfl hl.1 rfl (lv_room (Nat.le_of_ble_eq_true rfl)) dX8_makes_35 ⟨Nat.zero_le _, Nat.zero_le _⟩) (fun r33 h32 H locs hp w => ?_)
        obtain ⟨hfk34, hrk34, kkk34, kck34, tkk34, dpk34, gpk34, ggk34, gsk34, gdk34, gtk34, gck34, V2, K2, hK2, htk2, hT2⟩ := hp
        subst hrk34
        have E := E.fr (h' := h32) (fun k_ h1_ h2_ h3_ => hfk34 k_ (by omega))
        have P := P.fr (h' := h32) (fun k_ h1_ h2_ => hfk34 k_ (by omega))
        have Pr := Pr.fr (h' := h32) (fun k_ h1_ h2_ => hfk34 k_ (by omega))
        have V4 := V4.fr (h' := h32) (fun k_ h1_ h2_ => hfk34 k_ (by omega))
        have hfr : ∀ k_, ¬ ((x + 21 ≤ k_ ∧ k_ < x + 30) ∨ (x + 89 ≤ k_ ∧ k_ < x + 107) ∨ (x + 125 ≤ k_ ∧ k_ < x + 143)) → h32 k_ = h k_ := fun k_ hk_ => (hfk34 k_ (by omega))
        have hz2 : (1 : Int32) = 0 ∨ ((1 : Int32) = 1 ∧ KnK u2 (sM st0) tkk34 gtk34) := Or.inr ⟨rfl, K2, hK2, htk2, hT2⟩
        refine lv_aload_n hx hb dX8_makes_38 rfl (lv_at hl 0 rfl) ?_
        refine r_get (C := RX8) (T := TX8) (N := 11) (ci := 6) hx hb hts inX8_makes_X8 hown w (by have := E.1; omega) E.2.1 rfl 1 (by decide) (hts (Cond.fieldLink RX8 19 "EarlyValues" "now" "LEarlyValues$Program;") (List.mem_of_getElem? (i := 1) (by decide +kernel))) rfl rfl dX8_makes_39 ?_
        refine lv_iload_n hx hb dX8_makes_42 rfl (lv_at hl 1 rfl) ?_
        refine lv_iload_n hx hb dX8_makes_43 rfl (lv_at hl 2 rfl) ?_
        refine r_callI w (va_3 V2.hu (fun q_ => va_runU (As := [.ref (g.2.2.1 (x + 12)), .int p0, .int p1]) (rest := []) ⟨hx, hb, hml, hown, hts⟩ (c_X7_isStrict l V2 P S hP hT2 p0 p1 hf0 ha0 hf (by omega)) (va_cwU 3 hts gX8_makes_X7_isStrict_u195X6 rfl rfl rfl rfl (by decide +kernel) ⟨Nat.le_of_ble_eq_true rfl, Nat.le_of_ble_eq_true rfl⟩) (r_preV w (by have := V2.hN; omega) (V2.ob (by subst q_; rfl)) rfl) rfl rfl hl.1 rfl (lv_room (Nat.le_of_ble_eq_true rfl)) dX8_makes_44 ⟨Nat.zero_le _, Nat.zero_le _⟩) (fun q_ => va_runU (As := [.ref (g.2.2.1 (x + 12)), .int p0, .int p1]) (rest := []) ⟨hx, hb, hml, hown, hts⟩ (c_X7_isStrict l V2 P S hP hT2 p0 p1 hf0 ha0 hf (by omega)) (va_cwU 3 hts gX8_makes_X7_isStrict_u195X4 rfl rfl rfl rfl (by decide +kernel) ⟨Nat.le_of_ble_eq_true rfl, Nat.le_of_ble_eq_true rfl⟩) (r_preV w (by have := V2.hN; omega) (V2.ob (by subst q_; rfl)) rfl) rfl rfl hl.1 rfl (lv_room (Nat.le_of_ble_eq_true rfl)) dX8_makes_44 ⟨Nat.zero_le _, Nat.zero_le _⟩) (fun q_ => va_runU (As := [.ref (g.2.2.1 (x + 12)), .int p0, .int p1]) (rest := []) ⟨hx, hb, hml, hown, hts⟩ (c_X7_isStrict l V2 P S hP hT2 p0 p1 hf0 ha0 hf (by omega)) (va_cwU 3 hts gX8_makes_X7_isStrict_u195X0 rfl rfl rfl rfl (by decide +kernel) ⟨Nat.le_of_ble_eq_true rfl, Nat.le_of_ble_eq_true rfl⟩) (r_preV w (by have := V2.hN; omega) (V2.ob (by subst q_; rfl)) rfl) rfl rfl hl.1 rfl (lv_room (Nat.le_of_ble_eq_true rfl)) dX8_makes_44 ⟨Nat.zero_le _, Nat.zero_le _⟩)) (fun r36 h35 H locs hp w => ?_)
        obtain ⟨eh_, qq37⟩ := hp
        have eh_ := eh_.symm
        subst eh_
        refine lv_if_eq (tgt := 53) hx hb dX8_makes_47 (by decide) (fun c38 => ?_) (fun c38 => ?_)
        · have c38 := qq37.eq c38
          have hns2_ : ¬ mStrictF 2 (sM st0) f a9 := fun q_ => c38 ((mStrictF_iff hK2).mp (by rw [hu2]; exact q_))
          have W2 : VwE g h32 (x + 89) 2 (sM st0) := by rw [← hu2]; exact ⟨_, _, _, _, _, _, _, _, _, _, _, V2, hz2⟩
          refine lv_aload_n hx hb dX8_makes_53 rfl (lv_at hl 0 rfl) ?_
          refine r_get (C := RX8) (T := TX8) (N := 11) (ci := 6) hx hb hts inX8_makes_X8 hown w (by have := E.1; omega) E.2.1 rfl 2 (by decide) (hts (Cond.fieldLink RX8 23 "EarlyValues" "trial" "LEarlyValues$Program;") (List.mem_of_getElem? (i := 4) (by decide +kernel))) rfl rfl dX8_makes_54 ?_
          refine lv_aload_n hx hb dX8_makes_57 rfl (lv_at hl 0 rfl) ?_
          refine r_get (C := RX8) (T := TX8) (N := 11) (ci := 6) hx hb hts inX8_makes_X8 hown w (by have := E.1; omega) E.2.1 rfl 1 (by decide) (hts (Cond.fieldLink RX8 19 "EarlyValues" "now" "LEarlyValues$Program;") (List.mem_of_getElem? (i := 1) (by decide +kernel))) rfl rfl dX8_makes_58 ?_
          refine r_callV w (va_runV (As := [.ref (g.2.2.1 (x + 12))]) (rest := []) ⟨hx, hb, hml, hown, hts⟩ (c_X3_takeFrom l Pr P (by omega)) (cwV 1 hts gX8_makes_X3_takeFrom rfl rfl rfl (by decide +kernel) ⟨Nat.le_of_ble_eq_true rfl, Nat.le_of_ble_eq_true rfl⟩) (r_preV w (by have := Pr.1; omega) Pr.c0 rfl) rfl rfl hl.1 rfl (lv_room (Nat.le_of_ble_eq_true rfl)) dX8_makes_61 ⟨Nat.zero_le _, Nat.zero_le _⟩) (fun h39 H locs hp w => ?_)
          obtain ⟨hfk40, gak40, gkk40, glk40, gbk40, Pr, hcpk40⟩ := hp
          have E := E.fr (h' := h39) (fun k_ h1_ h2_ h3_ => hfk40 k_ (by omega))
          have P := P.fr (h' := h39) (fun k_ h1_ h2_ => hfk40 k_ (by omega))
          have V4 := V4.fr (h' := h39) (fun k_ h1_ h2_ => hfk40 k_ (by omega))
          have W2 := W2.fr (h' := h39) (fun k_ h1_ h2_ => hfk40 k_ (by omega))
          have hfr : ∀ k_, ¬ ((x + 21 ≤ k_ ∧ k_ < x + 30) ∨ (x + 89 ≤ k_ ∧ k_ < x + 107) ∨ (x + 125 ≤ k_ ∧ k_ < x + 143)) → h39 k_ = h k_ := fun k_ hk_ => (hfk40 k_ (by omega)).trans (hfr k_ hk_)
          refine lv_iconst (v := 0) hx hb dX8_makes_64 (by decide) ?_
          refine lv_istore_n (lv' := [(3, .int 0), (0, .ref (g.2.2.1 x)), (1, .int p0), (2, .int p1)]) hx hb dX8_makes_65 rfl hl (by decide) rfl (fun ls hl => ?_)
          exact ih66 0 0 gak40 gkk40 glk40 gbk40 h39 _ _ _ w (lv_sub hl [1, 2, 3, 0] rfl) hf0 hf ha0 ha9 hns2_ (Nat.zero_le _) ((by decide : (0 : Int32).toInt = ((0 : Nat) : Int))) NoC.z ((S.cp hP hcpk40)) E P Pr W2 (⟨_, _, _, _, _, _, _, _, _, _, _, V4⟩) hfr (by omega)
        · have c38 := qq37.ne c38
          refine lv_bipush (v := (-2)) hx hb dX8_makes_50 (by decide) ?_
          refine r_iret (v := (-2)) hx hb hr hlocks w dX8_makes_52 ?_
          have hs_ := (mStrictF_iff hK2).mpr c38
          subst hu2 hu4
          exact ⟨(fun k_ hk_ => hfr k_ (by omega)), ⟨hSV0, ⟨_, E, hkn⟩, (T0.fr (fun k_ a_ b_ => hfr k_ (by omega))), (Q1.fr (fun k_ a_ b_ => hfr k_ (by omega))), ⟨_, _, _, _, _, P, S⟩, ⟨_, _, _, _, _, Pr⟩, (fun i_ hi_ => (Q3 i_ hi_).fr (fun k_ a_ b_ => hfr k_ (by omega))), (fun i_ (hi_ : i_ < sV st0) => (Q4 i_ hi_).fr (fun k_ a_ b_ => hfr k_ (by omega))), (H0_.fr (fun k_ a_ b_ => hfr k_ (by omega))), (W0.fr (fun k_ a_ b_ => hfr k_ (by omega))), (W1.fr (fun k_ a_ b_ => hfr k_ (by omega))), ⟨_, _, _, _, _, _, _, _, _, _, _, V2, hz2⟩, (W3.fr (fun k_ a_ b_ => hfr k_ (by omega))), ⟨_, _, _, _, _, _, _, _, _, _, _, V4⟩⟩, Or.inl ⟨f, a9, hf0, ha0, hf, ha9, Or.inl ⟨hs_, rfl⟩⟩⟩
      · have c31 : ¬ (p1.toInt < (((pA (sM st0) f) : Nat) : Int)) := fun q => c31 ((i_lt (rfl : p1.toInt = p1.toInt) (S.2.1 f (by omega))).mpr q)
        refine lv_iconst (v := (-1)) hx hb dX8_makes_28 (by decide) ?_
        refine r_iret (v := (-1)) hx hb hr hlocks w dX8_makes_29 ?_
        subst hu2 hu4
        exact ⟨(fun k_ hk_ => hfr k_ (by omega)), ⟨hSV0, ⟨_, E, hkn⟩, (T0.fr (fun k_ a_ b_ => hfr k_ (by omega))), (Q1.fr (fun k_ a_ b_ => hfr k_ (by omega))), ⟨_, _, _, _, _, P, S⟩, ⟨_, _, _, _, _, Pr⟩, (fun i_ hi_ => (Q3 i_ hi_).fr (fun k_ a_ b_ => hfr k_ (by omega))), (fun i_ (hi_ : i_ < sV st0) => (Q4 i_ hi_).fr (fun k_ a_ b_ => hfr k_ (by omega))), (H0_.fr (fun k_ a_ b_ => hfr k_ (by omega))), (W0.fr (fun k_ a_ b_ => hfr k_ (by omega))), (W1.fr (fun k_ a_ b_ => hfr k_ (by omega))), ⟨_, _, _, _, _, _, _, _, _, _, _, V2, hz2⟩, (W3.fr (fun k_ a_ b_ => hfr k_ (by omega))), ⟨_, _, _, _, _, _, _, _, _, _, _, V4⟩⟩, Or.inr ⟨by rintro ⟨f_, a_, e1_, e2_, e3_, e4_⟩; first | omega | (obtain rfl : f_ = f := (by omega); omega), rfl⟩⟩

