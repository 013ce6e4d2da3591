theorem mSet_mSet {M : PRG} {f i k k' : Nat} : mSet (mSet M f i k) f i k' = mSet M f i k' := by
  unfold mSet
  show (pN M, pA M, pK M, pL M, fun a b => if a = f ∧ b = i then k' else if a = f ∧ b = i then k else pB M a b) = (pN M, pA M, pK M, pL M, fun a b => if a = f ∧ b = i then k' else pB M a b)
  have e : (fun a b => if a = f ∧ b = i then k' else if a = f ∧ b = i then k else pB M a b) = (fun a b => if a = f ∧ b = i then k' else pB M a b) := by
    funext a b
    by_cases q : a = f ∧ b = i
    · rw [if_pos q, if_pos q]
    · rw [if_neg q, if_neg q, if_neg q]
  rw [e]
theorem mSet_self {M : PRG} {f i : Nat} : mSet M f i (pB M f i) = M := by
  unfold mSet
  show (pN M, pA M, pK M, pL M, fun a b => if a = f ∧ b = i then pB M f i else pB M a b) = M
  have e : (fun a b => if a = f ∧ b = i then pB M f i else pB M a b) = pB M := by
    funext a b
    by_cases q : a = f ∧ b = i
    · rw [if_pos q, q.1, q.2]
    · rw [if_neg q]
  rw [e]
/-- no letter so far makes it strict -/
def NoC (M : PRG) (f a i k : Nat) : Prop := ∀ i' k', i' < pL M f → k' < 14 → (i' < i ∨ (i' = i ∧ k' < k)) → ¬ Cand M f a i' k'
theorem NoC.z {M : PRG} {f a : Nat} : NoC M f a 0 0 := fun i' k' _ _ h => by omega
theorem NoC.s {M : PRG} {f a i k : Nat} (h : NoC M f a i k) (q : ¬ Cand M f a i k) : NoC M f a i (k + 1) := by
  intro i' k' h1 h2 h3
  by_cases z : i' = i ∧ k' = k
  · rw [z.1, z.2]; exact q
  · exact h i' k' h1 h2 (by omega)
theorem NoC.n {M : PRG} {f a i : Nat} (h : NoC M f a i 14) : NoC M f a (i + 1) 0 := fun i' k' h1 h2 h3 => h i' k' h1 h2 (by omega)
-- the rows of values that come to something: by the class's rows and by the reference's
def isB (c q : Nat) : Bool := decide (q / 25 < (if 0 < c then 5 else 1)) && decide (q / 5 % 5 < (if 1 < c then 5 else 1)) && decide (q % 5 < (if 2 < c then 5 else 1))
theorem isB_iff {c q : Nat} : isB c q = true ↔ mIs 0 c (q / 25) (q / 5 % 5) (q % 5) := by
  unfold isB mIs
  simp only [Bool.and_eq_true, decide_eq_true_eq, mB_0]
  exact ⟨fun h => ⟨h.1.1, h.1.2, h.2⟩, fun h => ⟨⟨h.1, h.2.1⟩, h.2.2⟩⟩
theorem ix_perm : ∀ c, c < 4 → (((List.range 125).filter (isB c)).map (mIx 0)).isPerm (List.range (5 ^ c)) = true := by
  intro c hc
  have h : (List.range 4).all (fun c => (((List.range 125).filter (isB c)).map (mIx 0)).isPerm (List.range (5 ^ c))) = true := by decide +kernel
  exact List.all_eq_true.mp h c (List.mem_range.mpr hc)
def lsum : List Nat → Nat
  | [] => 0
  | x :: t => x + lsum t
theorem lsum_app (a b : List Nat) : lsum (a ++ b) = lsum a + lsum b := by
  induction a with
  | nil => show lsum b = 0 + lsum b; omega
  | cons x t ih => show x + lsum (t ++ b) = x + lsum t + lsum b; rw [ih]; omega
theorem lsum_perm {a b : List Nat} (h : a.Perm b) : lsum a = lsum b := by
  induction h with
  | nil => rfl
  | cons x _ ih => show x + lsum _ = x + lsum _; rw [ih]
  | swap x y t => show y + (x + lsum t) = x + (y + lsum t); omega
  | trans _ _ ih1 ih2 => exact ih1.trans ih2
theorem sm_lsum {f : Nat → Nat} : ∀ n, sm f n = lsum ((List.range n).map f)
  | 0 => rfl
  | n + 1 => by
    rw [sm_succ, sm_lsum n, List.range_succ, List.map_append, lsum_app]
    show _ = _ + (f n + 0)
    omega
theorem lsum_filter {p : Nat → Bool} {f g : Nat → Nat} : ∀ L : List Nat, (∀ q, q ∈ L → p q = true → f q = g q) → (∀ q, q ∈ L → p q = false → f q = 0) → lsum (L.map f) = lsum ((L.filter p).map g)
  | [], _, _ => rfl
  | x :: t, h1, h2 => by
    have ih := lsum_filter (p := p) (f := f) (g := g) t (fun q hq => h1 q (List.mem_cons_of_mem _ hq)) (fun q hq => h2 q (List.mem_cons_of_mem _ hq))
    cases hp : p x with
    | true =>
      rw [List.filter_cons_of_pos hp]
      show f x + lsum (t.map f) = g x + lsum _
      rw [ih, h1 x List.mem_cons_self hp]
    | false =>
      rw [List.filter_cons_of_neg (by rw [hp]; decide)]
      show f x + lsum (t.map f) = lsum _
      rw [ih, h2 x List.mem_cons_self hp]; omega
theorem rows_come {M : PRG} {K f : Nat} (hP : PV M) (hf : f < pN M) : sm (fun q => vRow M K f q) 125 = sm (fun r_ => if mTab 0 M K f r_ = mN 0 then 0 else 1) (mRw 0 M f) := by
  have h3 := (hP.2.2 f hf).1
  have hp := List.isPerm_iff.mp (ix_perm (pA M f) (by omega))
  rw [sm_lsum, sm_lsum]
  have e : mRw 0 M f = 5 ^ pA M f := rfl
  rw [e, ← lsum_perm (hp.map (fun r_ => if mTab 0 M K f r_ = mN 0 then 0 else 1)), List.map_map]
  refine lsum_filter (p := isB (pA M f)) _ (fun q _ h => ?_) (fun q _ h => ?_)
  · have hI := isB_iff.mp h
    show vRow M K f q = (if mTab 0 M K f (mIx 0 q) = mN 0 then 0 else 1)
    by_cases z : mTab 0 M K f (mIx 0 q) = mN 0
    · rw [if_pos z]; exact vRow_0 (fun y => y.2 z)
    · rw [if_neg z]; exact vRow_1 ⟨hI, z⟩
  · exact vRow_0 (fun y => by rw [isB_iff.mpr y.1] at h; exact absurd h (by decide))
noncomputable def rCome (M : PRG) (K f : Nat) : Nat := sm (fun r_ => if mTab 0 M K f r_ = mN 0 then 0 else 1) (mRw 0 M f)
theorem rAll {M : PRG} {K : Nat} (hP : PV M) : vAll M K = sm (rCome M K) (pN M) := by
  unfold vAll
  have : ∀ n, n ≤ pN M → sm (fun f => sm (fun q => vRow M K f q) 125) n = sm (rCome M K) n := by
    intro n
    induction n with
    | zero => intro _; rfl
    | succ n ih =>
      intro hn
      show sm (fun f => sm (fun q => vRow M K f q) 125) n + sm (fun q => vRow M K n q) 125 = sm (rCome M K) n + rCome M K n
      rw [ih (by omega), rows_come hP (show n < pN M by omega)]; rfl
  exact this _ (Nat.le_refl _)
theorem rCome_le {M : PRG} {K f : Nat} (hP : PV M) (hf : f < pN M) : rCome M K f ≤ 125 := by
  have h1 := sm_ub1 (mTab 0 M K f) (mN 0) (mRw 0 M f)
  have h2 : mRw 0 M f ≤ 125 := mRw_le (u := 0) (by omega) hP hf
  unfold rCome
  omega
/-- together: strict arguments (w < 2), rows that come to something (w = 2) -/
noncomputable def dOne (M : PRG) (K w f : Nat) : Nat := if w = 2 then rCome M K f else dSt M w f
theorem dOne_le {M : PRG} {K w f : Nat} (hP : PV M) (hf : f < pN M) : dOne M K w f ≤ 125 := by
  unfold dOne
  split
  · exact rCome_le hP hf
  · unfold dSt
    have := pop_le (mBits (mStrictF (wU (w + 1)) M f) (pA M f))
    omega
theorem dOne_2 {M : PRG} {K f : Nat} : dOne M K 2 f = rCome M K f := if_pos rfl
theorem dOne_w {M : PRG} {K w u f : Nat} (hw : w < 2) (hu : u = wU (w + 1)) (hK : IsK u M K) : dOne M K w f = pop (mBits (mStrict u M (mTab u M K) f) (pA M f)) := by
  unfold dOne
  rw [if_neg (by omega), mBits_F hK, hu]; rfl
theorem sm_cg {f g : Nat → Nat} : ∀ n, (∀ i, i < n → f i = g i) → sm f n = sm g n
  | 0, _ => rfl
  | n + 1, h => by rw [sm_succ, sm_succ, sm_cg n (fun i hi => h i (by omega)), h n (by omega)]
theorem dayN_fin {M : PRG} {K w u : Nat} {x : Int} (hP : PV M) (hw : w ≤ 2) (hu : u = (if w = 0 then 2 else 0)) (hK : IsK u M K) (hx : x = ((sm (dOne M K w) (pN M) : Nat) : Int)) : DayN M w x := by
  by_cases q : w = 2
  · refine Or.inr ⟨q, K, ?_, ?_⟩
    · rw [hu, q] at hK; exact hK
    · rw [hx, rAll hP, q]
      exact congrArg (fun n : Nat => (n : Int)) (sm_cg _ (fun i _ => dOne_2))
  · refine Or.inl ⟨by omega, ?_⟩
    rw [hx]
    exact congrArg (fun n : Nat => (n : Int)) (sm_cg _ (fun i _ => if_neg q))
theorem inX8_makes_X3 : ∀ w ∈ wsX30, w ∈ wsX8_makes := by decide +kernel
theorem inX8_makes_X8 : ∀ w ∈ wsX80, w ∈ wsX8_makes := by decide +kernel
abbrev rm_X8_makes : Room := { frames := 7, cells := 0, slots := 0, locals := 157 }
set_option maxHeartbeats 4000000 in
set_option maxRecDepth 100000 in
theorem c_X8_makes (l : Launch) {g : GE} {h : Nat → va_E} {x : Nat} {st0 : ST} (C : ClsA g h x st0) (p0 : Int32) (p1 : Int32) : MI l yX8_makes wsX8_makes rm_X8_makes [.ref (g.2.2.1 x), .int p0, .int p1] g h (fun r_ h2 => (∀ k, ¬ (x ≤ k ∧ k < x + 143) → h2 k = h k) ∧ ClsA g h2 x st0 ∧ AnMakes st0 p0 p1 r_) := by
  refine Met.ofW (cc := cX8_makes) (maxL := 5) (ret := (some .int)) (by decide) rfl ?_
  intro p e s m args below meth c s₁ B hml hv
  obtain ⟨rfl, w0⟩ := hv
  have hx := B.exec
  have hb := B.bytes
  have hr := B.returns
  have hts := atoms_spec (ws := wsX8_makes) B.pre
  have hown : s.vm.findClass RX8 = some m.cls := findClass_of_methodNamed B.named
  have hlocks := B.notSynchronized
  have w := w0.start
  clear w0
  have hl := lv_entry ([.ref (g.2.2.1 x), .int p0, .int p1]) (n := 5) (Nat.le_of_ble_eq_true rfl)
  rw [lg_entry_eq]
  generalize (lg_sl ([.ref (g.2.2.1 x), .int p0, .int p1]) ++ List.replicate (5 - (lg_sl ([.ref (g.2.2.1 x), .int p0, .int p1])).length) Slot.unset).toArray = ls at hl ⊢
  have hl : lv_has ls 5 [(0, .ref (g.2.2.1 x)), (1, .int p0), (2, .int p1)] := hl
  obtain ⟨hSV, ⟨kn, E, hkn⟩, T0, Q1, P0, Q2, Q3, Q4, H0_, W0, W1, W2, W3, W4⟩ := C
  have hSV0 := hSV
  obtain ⟨hP, hu8, hUP, hv2, hVP, hl200, hlt⟩ := hSV
  have hn4 := hP.2.1
  have hNe := E.1
  obtain ⟨n, ga, gk, gl, gb, P, S⟩ := P0
  have hnS := S.1
  obtain ⟨rn, ra, rk, rl, rb, Pr⟩ := Q2
  obtain ⟨u2, hu2, W2⟩ : ∃ u_ : Nat, u_ = 2 ∧ VwE g h (x + 89) u_ (sM st0) := ⟨_, rfl, W2⟩
  obtain ⟨kk2, kc2, tk2, fz2, dp2, gp2, gg2, gs2, gd2, gt2, gc2, V2, hz2⟩ := W2
  have hNv2 := V2.hN
  obtain ⟨u4, hu4, W4⟩ : ∃ u_ : Nat, u_ = 2 ∧ VwX g h (x + 125) u_ := ⟨_, rfl, W4⟩
  obtain ⟨kk4, kc4, tk4, fz4, dp4, gp4, gg4, gs4, gd4, gt4, gc4, V4⟩ := W4
  have hNv4 := V4.hN
  obtain ⟨f, hfd⟩ : ∃ f_ : Nat, f_ = p0.toInt.toNat := ⟨_, rfl⟩
  obtain ⟨a9, had⟩ : ∃ f_ : Nat, f_ = p1.toInt.toNat := ⟨_, rfl⟩
  have hfr : ∀ k_, ¬ ((x + 21 ≤ k_ ∧ k_ < x + 30) ∨ (x + 89 ≤ k_ ∧ k_ < x + 107) ∨ (x + 125 ≤ k_ ∧ k_ < x + 143)) → h k_ = h k_ := fun _ _ => rfl
  have cuts : ∀ N : Nat, (∀ (i : Nat) (x3 : Int32) (ra1 : Nat → Int32) (rk1 : Nat → Int32) (rl1 : Nat → Int32) (rb1 : Nat → Nat → Int32) (hc : Nat → va_E) (H : Heap) (locs : List Loc) (ls : Array Slot), WD g (inW g) s hc H locs → lv_has ls 5 [(0, .ref (g.2.2.1 x)), (1, .int p0), (2, .int p1), (3, .int x3)] → (p0.toInt = ((f : Nat) : Int)) → (f < pN (sM st0)) → (p1.toInt = ((a9 : Nat) : Int)) → (a9 < pA (sM st0) f) → (¬ mStrictF 2 (sM st0) f a9) → (i ≤ pL (sM st0) f) → (x3.toInt = ((i : Nat) : Int)) → (NoC (sM st0) f a9 i 0) → (PrS (sM st0) n ra1 rk1 rl1 rb1) → (EvA g hc x kn) → (PrA g hc (x + 12) n ga gk gl gb) → (PrA g hc (x + 21) n ra1 rk1 rl1 rb1) → (VwE g hc (x + 89) 2 (sM st0)) → (VwX g hc (x + 125) u4) → (∀ k, ¬ ((x + 21 ≤ k ∧ k < x + 30) ∨ (x + 89 ≤ k ∧ k < x + 107) ∨ (x + 125 ≤ k ∧ k < x + 143)) → hc k = h k) → (pL (sM st0) f - i) * 20 + 16 < N → W p l e (headSpec wsX8_makes rm_X8_makes).room s m ([.ref (g.2.2.1 x), .int p0, .int p1] : List Value).toArray below meth c H locs 0 0 (MQ below (va_Qi (fun r_ h2 => (∀ k, ¬ (x ≤ k ∧ k < x + 143) → h2 k = h k) ∧ ClsA g h2 x st0 ∧ AnMakes st0 p0 p1 r_) (Wd g) (inW g)) ([.ref (g.2.2.1 x), .int p0, .int p1] : List Value).toArray s 0 0 (inW g)) (F0 m 66 ls [])) ∧ (∀ (i : Nat) (k9 : Nat) (kq : Nat) (x3 : Int32) (x4 : Int32) (ra1 : Nat → Int32) (rk1 : Nat → Int32) (rl1 : Nat → Int32) (rb1 : Nat → Nat → Int32) (hc : Nat → va_E) (H : Heap) (locs : List Loc) (ls : Array Slot), WD g (inW g) s hc H locs → lv_has ls 5 [(0, .ref (g.2.2.1 x)), (1, .int p0), (2, .int p1), (3, .int x3), (4, .int x4)] → (p0.toInt = ((f : Nat) : Int)) → (f < pN (sM st0)) → (p1.toInt = ((a9 : Nat) : Int)) → (a9 < pA (sM st0) f) → (¬ mStrictF 2 (sM st0) f a9) → (i < pL (sM st0) f) → (k9 ≤ 14) → (x3.toInt = ((i : Nat) : Int)) → (x4.toInt = ((k9 : Nat) : Int)) → (NoC (sM st0) f a9 i k9) → (PrS (mSet (sM st0) f i kq) n ra1 rk1 rl1 rb1) → (EvA g hc x kn) → (PrA g hc (x + 12) n ga gk gl gb) → (PrA g hc (x + 21) n ra1 rk1 rl1 rb1) → (VwE g hc (x + 89) 2 (sM st0)) → (VwX g hc (x + 125) u4) → (∀ k, ¬ ((x + 21 ≤ k ∧ k < x + 30) ∨ (x + 89 ≤ k ∧ k < x + 107) ∨ (x + 125 ≤ k ∧ k < x + 143)) → hc k = h k) → (pL (sM st0) f - i) * 20 + (15 - k9) < N → W p l e (headSpec wsX8_makes rm_X8_makes).room s m ([.ref (g.2.2.1 x), .int p0, .int p1] : List Value).toArray below meth c H locs 0 0 (MQ below (va_Qi (fun r_ h2 => (∀ k, ¬ (x ≤ k ∧ k < x + 143) → h2 k = h k) ∧ ClsA g h2 x st0 ∧ AnMakes st0 p0 p1 r_) (Wd g) (inW g)) ([.ref (g.2.2.1 x), .int p0, .int p1] : List Value).toArray s 0 0 (inW g)) (F0 m 82 ls [])) := by
    intro N
    induction N with
    | zero => exact ⟨by intros; omega, by intros; omega⟩
    | succ N ih =>
      obtain ⟨ih66, ih82⟩ := ih
      refine ⟨?_, ?_⟩
      · intro i x3 ra1 rk1 rl1 rb1 hc H locs ls w hl hf0 hf ha0 ha9 hns hi hx3 hno Str E P Pr W2 W4 hfr hN_
        obtain ⟨kk4, kc4, tk4, fz4, dp4, gp4, gg4, gs4, gd4, gt4, gc4, V4⟩ := W4
        have hNv4 := V4.hN
        have hNe := E.1
        obtain ⟨ha3, -, -, hl24, hpl, -⟩ := hP.2.2 f hf
        refine lv_iload_n hx hb dX8_makes_66 rfl (lv_at hl 3 rfl) ?_
        refine lv_aload_n hx hb dX8_makes_67 rfl (lv_at hl 0 rfl) ?_
        refine r_get (C := RX8) (T := TX8) (N := 11) (ci := 6) hx hb hts inX8_makes_X8 hown w (by have := E.1; omega) E.2.1 rfl 1 (by decide) (hts (Cond.fieldLink RX8 19 "EarlyValues" "now" "LEarlyValues$Program;") (List.mem_of_getElem? (i := 1) (by decide +kernel))) rfl rfl dX8_makes_68 ?_
        refine r_get (C := RX3) (T := TX3) (N := 5) (ci := 2) hx hb hts inX8_makes_X3 hown w (by have := P.1; omega) P.c0 rfl 3 (by decide) (hts (Cond.fieldLink RX8 122 "EarlyValues$Program" "lengths" "[I") (List.mem_of_getElem? (i := 5) (by decide +kernel))) rfl rfl dX8_makes_71 ?_
        refine lv_iload_n hx hb dX8_makes_74 rfl (lv_at hl 1 rfl) ?_
        refine r_iald (j := f) hx hb w (by have := P.1; omega) P.c3 hf0 (by omega) dX8_makes_75 ?_
        refine lv_icmp_ge (tgt := 194) hx hb dX8_makes_76 (by decide) (fun c1 => ?_) (fun c1 => ?_)
        · have c1 : (((pL (sM st0) f) : Nat) : Int) ≤ ((i : Nat) : Int) := (i_le (S.2.2.2.1 f (by omega)) hx3).mp c1
          refine lv_bipush (v := (-4)) hx hb dX8_makes_194 (by decide) ?_
          refine r_iret (v := (-4)) hx hb hr hlocks w dX8_makes_196 ?_
          subst hu4
          exact ⟨(fun k_ hk_ => hfr k_ (by omega)), ⟨hSV0, ⟨_, E, hkn⟩, (T0.fr (fun k_ a_ b_ => hfr k_ (by omega))), (Q1.fr (fun k_ a_ b_ => hfr k_ (by omega))), ⟨_, _, _, _, _, P, S⟩, ⟨_, _, _, _, _, Pr⟩, (fun i_ hi_ => (Q3 i_ hi_).fr (fun k_ a_ b_ => hfr k_ (by omega))), (fun i_ (hi_ : i_ < sV st0) => (Q4 i_ hi_).fr (fun k_ a_ b_ => hfr k_ (by omega))), (H0_.fr (fun k_ a_ b_ => hfr k_ (by omega))), (W0.fr (fun k_ a_ b_ => hfr k_ (by omega))), (W1.fr (fun k_ a_ b_ => hfr k_ (by omega))), W2, (W3.fr (fun k_ a_ b_ => hfr k_ (by omega))), ⟨_, _, _, _, _, _, _, _, _, _, _, V4⟩⟩, Or.inl ⟨f, a9, hf0, ha0, hf, ha9, Or.inr ⟨hns, Or.inr ⟨fun i_ k_ h1_ h2_ => hno i_ k_ h1_ h2_ (by omega), rfl⟩⟩⟩⟩
        · have c1 : ¬ ((((pL (sM st0) f) : Nat) : Int) ≤ ((i : Nat) : Int)) := fun q => c1 ((i_le (S.2.2.2.1 f (by omega)) hx3).mpr q)
          have hi : i < pL (sM st0) f := by omega
          refine lv_iconst (v := 0) hx hb dX8_makes_79 (by decide) ?_
          refine lv_istore (lv' := [(4, .int 0), (0, .ref (g.2.2.1 x)), (1, .int p0), (2, .int p1), (3, .int x3)]) hx hb dX8_makes_80 hl (by decide) rfl (fun ls hl => ?_)
          exact ih82 i 0 (pB (sM st0) f i) x3 0 ra1 rk1 rl1 rb1 hc _ _ _ w (lv_sub hl [1, 2, 3, 4, 0] rfl) hf0 hf ha0 ha9 hns (by omega) (by omega) hx3 ((by decide : (0 : Int32).toInt = ((0 : Nat) : Int))) hno ((Str.self f i)) E P Pr W2 (⟨_, _, _, _, _, _, _, _, _, _, _, V4⟩) hfr (by omega)
      · intro i k9 kq x3 x4 ra1 rk1 rl1 rb1 hc H locs ls w hl hf0 hf ha0 ha9 hns hi hk hx3 hx4 hno Str E P Pr W2 W4 hfr hN_
        obtain ⟨kk4, kc4, tk4, fz4, dp4, gp4, gg4, gs4, gd4, gt4, gc4, V4⟩ := W4
        have hNv4 := V4.hN
        have hNe := E.1
        obtain ⟨ha3, -, -, hl24, hpl, -⟩ := hP.2.2 f hf
        refine lv_iload hx hb dX8_makes_82 (lv_at hl 4 rfl) ?_
        refine lv_bipush (v := 14) hx hb dX8_makes_84 (by decide) ?_
        refine lv_icmp_ge (tgt := 166) hx hb dX8_makes_86 (by decide) (fun c2 => ?_) (fun c2 => ?_)
        · have c2 : ((14 : Nat) : Int) ≤ ((k9 : Nat) : Int) := (i_le (by decide : (14 : Int32).toInt = ((14 : Nat) : Int)) hx4).mp c2
          refine lv_aload_n hx hb dX8_makes_166 rfl (lv_at hl 0 rfl) ?_
          refine r_get (C := RX8) (T := TX8) (N := 11) (ci := 6) hx hb hts inX8_makes_X8 hown w (by have := E.1; omega) E.2.1 rfl 2 (by decide) (hts (Cond.fieldLink RX8 23 "EarlyValues" "trial" "LEarlyValues$Program;") (List.mem_of_getElem? (i := 4) (by decide +kernel))) rfl rfl dX8_makes_167 ?_
          refine r_get (C := RX3) (T := TX3) (N := 5) (ci := 2) hx hb hts inX8_makes_X3 hown w (by have := Pr.1; omega) Pr.c0 rfl 4 (by decide) (hts (Cond.fieldLink RX8 129 "EarlyValues$Program" "bodies" "[[I") (List.mem_of_getElem? (i := 6) (by decide +kernel))) rfl rfl dX8_makes_170 ?_
          refine lv_iload_n hx hb dX8_makes_173 rfl (lv_at hl 1 rfl) ?_
          refine r_aald (t := 4) (j := f) hx hb w (by decide) (by have := Pr.1; omega) Pr.c4 hf0 (by omega) (rowsF_in (by omega)) dX8_makes_174 ?_
          refine lv_iload_n hx hb dX8_makes_175 rfl (lv_at hl 3 rfl) ?_
          refine lv_aload_n hx hb dX8_makes_176 rfl (lv_at hl 0 rfl) ?_
          refine r_get (C := RX8) (T := TX8) (N := 11) (ci := 6) hx hb hts inX8_makes_X8 hown w (by have := E.1; omega) E.2.1 rfl 1 (by decide) (hts (Cond.fieldLink RX8 19 "EarlyValues" "now" "LEarlyValues$Program;") (List.mem_of_getElem? (i := 1) (by decide +kernel))) rfl rfl dX8_makes_177 ?_
          refine r_get (C := RX3) (T := TX3) (N := 5) (ci := 2) hx hb hts inX8_makes_X3 hown w (by have := P.1; omega) P.c0 rfl 4 (by decide) (hts (Cond.fieldLink RX8 129 "EarlyValues$Program" "bodies" "[[I") (List.mem_of_getElem? (i := 6) (by decide +kernel))) rfl rfl dX8_makes_180 ?_
          refine lv_iload_n hx hb dX8_makes_183 rfl (lv_at hl 1 rfl) ?_
          refine r_aald (t := 4) (j := f) hx hb w (by decide) (by have := P.1; omega) P.c4 hf0 (by omega) (rowsF_in (by omega)) dX8_makes_184 ?_
          refine lv_iload_n hx hb dX8_makes_185 rfl (lv_at hl 3 rfl) ?_
          refine r_iald (j := i) hx hb w (by have := P.1; omega) (P.c5 (i := f) (by omega)) hx3 (by omega) dX8_makes_186 ?_
          have hpB_ := S.2.2.2.2 f hf i hi
          refine r_iast (j := i) hx hb w (by have := Pr.1; omega) (Pr.c5 (i := f) (by omega)) hx3 (by omega) dX8_makes_187 (fun h3 H locs eh3 w => ?_)
          have Pr := Pr.s5 (i := f) (by omega) eh3
          generalize egb4 : va_up rb1 f (upd (rb1 f) i (gb f i)) = gb4 at Pr
          have hfr : ∀ k_, ¬ ((x + 21 ≤ k_ ∧ k_ < x + 30) ∨ (x + 89 ≤ k_ ∧ k_ < x + 107) ∨ (x + 125 ≤ k_ ∧ k_ < x + 143)) → h3 k_ = h k_ := fun k_ hk_ => by rw [eh3, va_up_ne _ _ (by omega)]; exact hfr k_ hk_
          have E := E.fr (h' := h3) (fun k_ h1_ h2_ h3_ => by rw [eh3, va_up_ne _ _ (by omega)])
          have P := P.fr (h' := h3) (fun k_ h1_ h2_ => by rw [eh3, va_up_ne _ _ (by omega)])
          have W2 := W2.fr (h' := h3) (fun k_ h1_ h2_ => by rw [eh3, va_up_ne _ _ (by omega)])
          have V4 := V4.fr (h' := h3) (fun k_ h1_ h2_ => by rw [eh3, va_up_ne _ _ (by omega)])
          obtain ⟨y5, ey5⟩ : ∃ y : Int32, y = x3 + (1) := ⟨_, rfl⟩
          have ty5 : y5.toInt = (((i + 1) : Nat) : Int) := i_addN ey5 hx3 (by decide : (1 : Int32).toInt = ((1 : Nat) : Int)) (by omega)
          refine lv_iinc (v := y5) (lv' := [(3, .int y5), (0, .ref (g.2.2.1 x)), (1, .int p0), (2, .int p1), (4, .int x4)]) hx hb dX8_makes_188 hl (k := 3) rfl (by rw [ey5]; rfl) (by decide) rfl (fun ls hl => ?_)
          refine lv_goto (tgt := 66) hx hb dX8_makes_191 (by decide) ?_
          exact ih66 (i + 1) y5 ra1 rk1 rl1 gb4 h3 _ _ _ w (lv_sub hl [1, 2, 3, 0] rfl) hf0 hf ha0 ha9 hns (by omega) ty5 ((show NoC (sM st0) f a9 (i + 1) 0 from by rw [show k9 = 14 by omega] at hno; exact hno.n)) ((by have q_ := Str.put_e (hpB_ : _ = ((pB (sM st0) f i : Nat) : Int)) egb4; rw [mSet_mSet, mSet_self] at q_; exact q_)) E P Pr W2 (⟨_, _, _, _, _, _, _, _, _, _, _, V4⟩) hfr (by omega)
        · have c2 : ¬ (((14 : Nat) : Int) ≤ ((k9 : Nat) : Int)) := fun q => c2 ((i_le (by decide : (14 : Int32).toInt = ((14 : Nat) : Int)) hx4).mpr q)
          refine lv_aload_n hx hb dX8_makes_89 rfl (lv_at hl 0 rfl) ?_
          refine r_get (C := RX8) (T := TX8) (N := 11) (ci := 6) hx hb hts inX8_makes_X8 hown w (by have := E.1; omega) E.2.1 rfl 1 (by decide) (hts (Cond.fieldLink RX8 19 "EarlyValues" "now" "LEarlyValues$Program;") (List.mem_of_getElem? (i := 1) (by decide +kernel))) rfl rfl dX8_makes_90 ?_
          refine r_get (C := RX3) (T := TX3) (N := 5) (ci := 2) hx hb hts inX8_makes_X3 hown w (by have := P.1; omega) P.c0 rfl 4 (by decide) (hts (Cond.fieldLink RX8 129 "EarlyValues$Program" "bodies" "[[I") (List.mem_of_getElem? (i := 6) (by decide +kernel))) rfl rfl dX8_makes_93 ?_
          refine lv_iload_n hx hb dX8_makes_96 rfl (lv_at hl 1 rfl) ?_
          refine r_aald (t := 4) (j := f) hx hb w (by decide) (by have := P.1; omega) P.c4 hf0 (by omega) (rowsF_in (by omega)) dX8_makes_97 ?_
          refine lv_iload_n hx hb dX8_makes_98 rfl (lv_at hl 3 rfl) ?_
          refine r_iald (j := i) hx hb w (by have := P.1; omega) (P.c5 (i := f) (by omega)) hx3 (by omega) dX8_makes_99 ?_
          refine lv_iload hx hb dX8_makes_100 (lv_at hl 4 rfl) ?_
          refine lv_icmp_eq (tgt := 160) hx hb dX8_makes_102 (by decide) (fun c6 => ?_) (fun c6 => ?_)
          · have c6 : (((pB (sM st0) f i) : Nat) : Int) = ((k9 : Nat) : Int) := (i_eq (S.2.2.2.2 f (by omega) i (by omega)) hx4).mp c6
            obtain ⟨y7, ey7⟩ : ∃ y : Int32, y = x4 + (1) := ⟨_, rfl⟩
            have ty7 : y7.toInt = (((k9 + 1) : Nat) : Int) := i_addN ey7 hx4 (by decide : (1 : Int32).toInt = ((1 : Nat) : Int)) (by omega)
            refine lv_iinc (v := y7) (lv' := [(4, .int y7), (0, .ref (g.2.2.1 x)), (1, .int p0), (2, .int p1), (3, .int x3)]) hx hb dX8_makes_160 hl (k := 4) rfl (by rw [ey7]; rfl) (by decide) rfl (fun ls hl => ?_)
            refine lv_goto (tgt := 82) hx hb dX8_makes_163 (by decide) ?_
            exact ih82 i (k9 + 1) kq x3 y7 ra1 rk1 rl1 rb1 hc _ _ _ w (lv_sub hl [1, 2, 3, 4, 0] rfl) hf0 hf ha0 ha9 hns hi (by omega) hx3 ty7 (hno.s (fun q_ => q_.1 (by omega))) Str E P Pr W2 (⟨_, _, _, _, _, _, _, _, _, _, _, V4⟩) hfr (by omega)
          · have c6 : ¬ ((((pB (sM st0) f i) : Nat) : Int) = ((k9 : Nat) : Int)) := fun q => c6 ((i_eq (S.2.2.2.2 f (by omega) i (by omega)) hx4).mpr q)
            refine lv_aload_n hx hb dX8_makes_105 rfl (lv_at hl 0 rfl) ?_
            refine r_get (C := RX8) (T := TX8) (N := 11) (ci := 6) hx hb hts inX8_makes_X8 hown w (by have := E.1; omega) E.2.1 rfl 1 (by decide) (hts (Cond.fieldLink RX8 19 "EarlyValues" "now" "LEarlyValues$Program;") (List.mem_of_getElem? (i := 1) (by decide +kernel))) rfl rfl dX8_makes_106 ?_
            refine lv_iload_n hx hb dX8_makes_109 rfl (lv_at hl 1 rfl) ?_
            refine lv_iload_n hx hb dX8_makes_110 rfl (lv_at hl 3 rfl) ?_
            refine lv_iload hx hb dX8_makes_111 (lv_at hl 4 rfl) ?_
            refine r_callI w (va_runV (As := [.int p0, .int x3, .int x4]) (rest := []) ⟨hx, hb, hml, hown, hts⟩ (c_X3_fits l P S hP p0 x3 x4 hf0 hx3 (by omega) (by omega) (by omega)) (cwV 3 hts gX8_makes_X3_fits rfl rfl rfl (by decide +kernel) ⟨Nat.le_of_ble_eq_true rfl, Nat.le_of_ble_eq_true rfl⟩) (r_preV w (by have := P.1; omega) P.c0 rfl) rfl rfl hl.1 rfl (lv_room (Nat.le_of_ble_eq_true rfl)) dX8_makes_113 ⟨Nat.zero_le _, Nat.zero_le _⟩) (fun r9 h8 H locs hp w => ?_)
            obtain ⟨eh_, qq10⟩ := hp
            have eh_ := eh_.symm
            subst eh_
            refine lv_if_eq (tgt := 160) hx hb dX8_makes_116 (by decide) (fun c11 => ?_) (fun c11 => ?_)
            · have c11 := qq10.eq c11
              obtain ⟨y12, ey12⟩ : ∃ y : Int32, y = x4 + (1) := ⟨_, rfl⟩
              have ty12 : y12.toInt = (((k9 + 1) : Nat) : Int) := i_addN ey12 hx4 (by decide : (1 : Int32).toInt = ((1 : Nat) : Int)) (by omega)
              refine lv_iinc (v := y12) (lv' := [(4, .int y12), (0, .ref (g.2.2.1 x)), (1, .int p0), (2, .int p1), (3, .int x3)]) hx hb dX8_makes_160 hl (k := 4) rfl (by rw [ey12]; rfl) (by decide) rfl (fun ls hl => ?_)
              refine lv_goto (tgt := 82) hx hb dX8_makes_163 (by decide) ?_
              exact ih82 i (k9 + 1) kq x3 y12 ra1 rk1 rl1 rb1 hc _ _ _ w (lv_sub hl [1, 2, 3, 4, 0] rfl) hf0 hf ha0 ha9 hns hi (by omega) hx3 ty12 (hno.s (fun q_ => c11 ⟨by omega, by rw [show x4.toInt.toNat = k9 by omega]; exact q_.2.1⟩)) Str E P Pr W2 (⟨_, _, _, _, _, _, _, _, _, _, _, V4⟩) hfr (by omega)
            · have c11 := qq10.ne c11
              have hft_ := c11.2
              rw [show x4.toInt.toNat = k9 by omega] at hft_
              refine lv_aload_n hx hb dX8_makes_119 rfl (lv_at hl 0 rfl) ?_
              refine r_get (C := RX8) (T := TX8) (N := 11) (ci := 6) hx hb hts inX8_makes_X8 hown w (by have := E.1; omega) E.2.1 rfl 2 (by decide) (hts (Cond.fieldLink RX8 23 "EarlyValues" "trial" "LEarlyValues$Program;") (List.mem_of_getElem? (i := 4) (by decide +kernel))) rfl rfl dX8_makes_120 ?_
              refine r_get (C := RX3) (T := TX3) (N := 5) (ci := 2) hx hb hts inX8_makes_X3 hown w (by have := Pr.1; omega) Pr.c0 rfl 4 (by decide) (hts (Cond.fieldLink RX8 129 "EarlyValues$Program" "bodies" "[[I") (List.mem_of_getElem? (i := 6) (by decide +kernel))) rfl rfl dX8_makes_123 ?_
              refine lv_iload_n hx hb dX8_makes_126 rfl (lv_at hl 1 rfl) ?_
              refine r_aald (t := 4) (j := f) hx hb w (by decide) (by have := Pr.1; omega) Pr.c4 hf0 (by omega) (rowsF_in (by omega)) dX8_makes_127 ?_
              refine lv_iload_n hx hb dX8_makes_128 rfl (lv_at hl 3 rfl) ?_
              refine lv_iload hx hb dX8_makes_129 (lv_at hl 4 rfl) ?_
              refine r_iast (j := i) hx hb w (by have := Pr.1; omega) (Pr.c5 (i := f) (by omega)) hx3 (by omega) dX8_makes_131 (fun h13 H locs eh13 w => ?_)
              have Pr := Pr.s5 (i := f) (by omega) eh13
              generalize egb14 : va_up rb1 f (upd (rb1 f) i x4) = gb14 at Pr
              have hfr : ∀ k_, ¬ ((x + 21 ≤ k_ ∧ k_ < x + 30) ∨ (x + 89 ≤ k_ ∧ k_ < x + 107) ∨ (x + 125 ≤ k_ ∧ k_ < x + 143)) → h13 k_ = h k_ := fun k_ hk_ => by rw [eh13, va_up_ne _ _ (by omega)]; exact hfr k_ hk_
              have E := E.fr (h' := h13) (fun k_ h1_ h2_ h3_ => by rw [eh13, va_up_ne _ _ (by omega)])
              have P := P.fr (h' := h13) (fun k_ h1_ h2_ => by rw [eh13, va_up_ne _ _ (by omega)])
              have W2 := W2.fr (h' := h13) (fun k_ h1_ h2_ => by rw [eh13, va_up_ne _ _ (by omega)])
              have V4 := V4.fr (h' := h13) (fun k_ h1_ h2_ => by rw [eh13, va_up_ne _ _ (by omega)])
              have hPs_ := mSet_ok hP hft_ (show k9 < 14 by omega)
              have Str2 : PrS (mSet (sM st0) f i k9) n ra1 rk1 rl1 gb14 := by have q_ := Str.put_e hx4 egb14; rw [mSet_mSet] at q_; exact q_
              refine lv_aload_n hx hb dX8_makes_132 rfl (lv_at hl 0 rfl) ?_
              refine r_get (C := RX8) (T := TX8) (N := 11) (ci := 6) hx hb hts inX8_makes_X8 hown w (by have := E.1; omega) E.2.1 rfl 10 (by decide) (hts (Cond.fieldLink RX8 59 "EarlyValues" "trialFinely" "LEarlyValues$View;") (List.mem_of_getElem? (i := 7) (by decide +kernel))) rfl rfl dX8_makes_133 ?_
              refine lv_aload_n hx hb dX8_makes_136 rfl (lv_at hl 0 rfl) ?_
              refine r_get (C := RX8) (T := TX8) (N := 11) (ci := 6) hx hb hts inX8_makes_X8 hown w (by have := E.1; omega) E.2.1 rfl 2 (by decide) (hts (Cond.fieldLink RX8 23 "EarlyValues" "trial" "LEarlyValues$Program;") (List.mem_of_getElem? (i := 4) (by decide +kernel))) rfl rfl dX8_makes_137 ?_
              refine lv_iload_n hx hb dX8_makes_140 rfl (lv_at hl 1 rfl) ?_
              refine lv_iload_n hx hb dX8_makes_141 rfl (lv_at hl 2 rfl) ?_
              refine r_callI w (va_3 V4.hu (fun q_ => va_runU (As := [.ref (g.2.2.1 (x + 21)), .int p0, .int p1]) (rest := []) ⟨hx, hb, hml, hown, hts⟩ (c_X7_staysStrict l V4 Pr Str2 hPs_ p0 p1 hf0 ha0 hf (by omega) (by omega)) (va_cwU 3 hts gX8_makes_X7_staysStrict_u199X6 rfl rfl rfl rfl (by decide +kernel) ⟨Nat.le_of_ble_eq_true rfl, Nat.le_of_ble_eq_true rfl⟩) (r_preV w (by have := V4.hN; omega) (V4.ob (by subst q_; rfl)) rfl) rfl rfl hl.1 rfl (lv_room (Nat.le_of_ble_eq_true rfl)) dX8_makes_142 ⟨Nat.zero_le _, Nat.zero_le _⟩) (fun q_ => va_runU (As := [.ref (g.2.2.1 (x + 21)), .int p0, .int p1]) (rest := []) ⟨hx, hb, hml, hown, hts⟩ (c_X7_staysStrict l V4 Pr Str2 hPs_ p0 p1 hf0 ha0 hf (by omega) (by omega)) (va_cwU 3 hts gX8_makes_X7_staysStrict_u199X4 rfl rfl rfl rfl (by decide +kernel) ⟨Nat.le_of_ble_eq_true rfl, Nat.le_of_ble_eq_true rfl⟩) (r_preV w (by have := V4.hN; omega) (V4.ob (by subst q_; rfl)) rfl) rfl rfl hl.1 rfl (lv_room (Nat.le_of_ble_eq_true rfl)) dX8_makes_142 ⟨Nat.zero_le _, Nat.zero_le _⟩) (fun q_ => va_runU (As := [.ref (g.2.2.1 (x + 21)), .int p0, .int p1]) (rest := []) ⟨hx, hb, hml, hown, hts⟩ (c_X7_staysStrict l V4 Pr Str2 hPs_ p0 p1 hf0 ha0 hf (by omega) (by omega)) (va_cwU 3 hts gX8_makes_X7_staysStrict_u199X0 rfl rfl rfl rfl (by decide +kernel) ⟨Nat.le_of_ble_eq_true rfl, Nat.le_of_ble_eq_true rfl⟩) (r_preV w (by have := V4.hN; omega) (V4.ob (by subst q_; rfl)) rfl) rfl rfl hl.1 rfl (lv_room (Nat.le_of_ble_eq_true rfl)) dX8_makes_142 ⟨Nat.zero_le _, Nat.zero_le _⟩)) (fun r16 h15 H locs hp w => ?_)
              obtain ⟨hfk17, hbk17, kkk17, kck17, dpk17, ggk17, gsk17, gtk17, gck17, V4⟩ := hp
              have E := E.fr (h' := h15) (fun k_ h1_ h2_ h3_ => hfk17 k_ (by omega))
              have P := P.fr (h' := h15) (fun k_ h1_ h2_ => hfk17 k_ (by omega))
              have Pr := Pr.fr (h' := h15) (fun k_ h1_ h2_ => hfk17 k_ (by omega))
              have W2 := W2.fr (h' := h15) (fun k_ h1_ h2_ => hfk17 k_ (by omega))
              have hfr : ∀ k_, ¬ ((x + 21 ≤ k_ ∧ k_ < x + 30) ∨ (x + 89 ≤ k_ ∧ k_ < x + 107) ∨ (x + 125 ≤ k_ ∧ k_ < x + 143)) → h15 k_ = h k_ := fun k_ hk_ => (hfk17 k_ (by omega)).trans (hfr k_ hk_)
              refine lv_if_eq (tgt := 160) hx hb dX8_makes_145 (by decide) (fun c18 => ?_) (fun c18 => ?_)
              · have c18 := hbk17.eq c18
                obtain ⟨y19, ey19⟩ : ∃ y : Int32, y = x4 + (1) := ⟨_, rfl⟩
                have ty19 : y19.toInt = (((k9 + 1) : Nat) : Int) := i_addN ey19 hx4 (by decide : (1 : Int32).toInt = ((1 : Nat) : Int)) (by omega)
                refine lv_iinc (v := y19) (lv' := [(4, .int y19), (0, .ref (g.2.2.1 x)), (1, .int p0), (2, .int p1), (3, .int x3)]) hx hb dX8_makes_160 hl (k := 4) rfl (by rw [ey19]; rfl) (by decide) rfl (fun ls hl => ?_)
                refine lv_goto (tgt := 82) hx hb dX8_makes_163 (by decide) ?_
                exact ih82 i (k9 + 1) k9 x3 y19 ra1 rk1 rl1 gb14 h15 _ _ _ w (lv_sub hl [1, 2, 3, 4, 0] rfl) hf0 hf ha0 ha9 hns hi (by omega) hx3 ty19 (hno.s (fun q_ => c18 (by rw [hu4]; exact q_.2.2))) Str2 E P Pr W2 (⟨_, _, _, _, _, _, _, _, _, _, _, V4⟩) hfr (by omega)
              · have c18 := hbk17.ne c18
                refine lv_sipush (v := 200) hx hb dX8_makes_148 (by decide) ?_
                refine lv_iload_n hx hb dX8_makes_151 rfl (lv_at hl 3 rfl) ?_
                refine lv_imul hx hb dX8_makes_152 ?_
                refine lv_topi (fun y20 ey20 => ?_)
                have ty20 : y20.toInt = (((200 * i) : Nat) : Int) := i_mulN ey20 (by decide : (200 : Int32).toInt = ((200 : Nat) : Int)) hx3 (by omega)
                refine lv_iload hx hb dX8_makes_153 (lv_at hl 4 rfl) ?_
                refine r_callI w (va_runS (As := [.int x4]) (rest := [.int y20]) ⟨hx, hb, hml, hown, hts⟩ (c_X2_signOf l x4 hx4 (by omega)) (va_cwS 1 hts gX8_makes_X2_signOf rfl rfl rfl (by decide +kernel) ⟨Nat.le_of_ble_eq_true rfl, Nat.le_of_ble_eq_true rfl⟩) (r_preS w) rfl rfl hl.1 rfl (lv_room (Nat.le_of_ble_eq_true rfl)) dX8_makes_155 ⟨Nat.zero_le _, Nat.zero_le _⟩) (fun r22 h21 H locs hp w => ?_)
                obtain ⟨eh_, qq23⟩ := hp
                have eh_ := eh_.symm
                subst eh_
                have hmc_ := mCode_le (j := k9) (by omega)
                refine lv_iadd hx hb dX8_makes_158 ?_
                refine lv_topi (fun y24 ey24 => ?_)
                have ty24 : y24.toInt = ((((200 * i) + (mCode k9)) : Nat) : Int) := i_addN ey24 ty20 qq23 (by omega)
                refine r_iret (v := y24) hx hb hr hlocks w dX8_makes_159 ?_
                have hs_ : mStrictF 2 (mSet (sM st0) f i k9) f a9 := by rw [← hu4]; exact c18
                subst hu4
                exact ⟨(fun k_ hk_ => hfr k_ (by omega)), ⟨hSV0, ⟨_, E, hkn⟩, (T0.fr (fun k_ a_ b_ => hfr k_ (by omega))), (Q1.fr (fun k_ a_ b_ => hfr k_ (by omega))), ⟨_, _, _, _, _, P, S⟩, ⟨_, _, _, _, _, Pr⟩, (fun i_ hi_ => (Q3 i_ hi_).fr (fun k_ a_ b_ => hfr k_ (by omega))), (fun i_ (hi_ : i_ < sV st0) => (Q4 i_ hi_).fr (fun k_ a_ b_ => hfr k_ (by omega))), (H0_.fr (fun k_ a_ b_ => hfr k_ (by omega))), (W0.fr (fun k_ a_ b_ => hfr k_ (by omega))), (W1.fr (fun k_ a_ b_ => hfr k_ (by omega))), W2, (W3.fr (fun k_ a_ b_ => hfr k_ (by omega))), ⟨_, _, _, _, _, _, _, _, _, _, _, V4⟩⟩, Or.inl ⟨f, a9, hf0, ha0, hf, ha9, Or.inr ⟨hns, Or.inl ⟨i, k9, hi, by omega, ⟨by omega, hft_, hs_⟩, hno, ty24⟩⟩⟩⟩
  have cut0 := cuts (2000)
  obtain ⟨ih66, ih82⟩ := cut0
  refine lv_aload_n hx hb dX8_makes_0 rfl (lv_at hl 0 rfl) ?_
  refine r_get (C := RX8) (T := TX8) (N := 11) (ci := 6) hx hb hts inX8_makes_X8 hown w (by have := E.1; omega) E.2.1 rfl 1 (by decide) (hts (Cond.fieldLink RX8 19 "EarlyValues" "now" "LEarlyValues$Program;") (List.mem_of_getElem? (i := 1) (by decide +kernel))) rfl rfl dX8_makes_1 ?_
  refine lv_iload_n hx hb dX8_makes_4 rfl (lv_at hl 1 rfl) ?_
  refine r_callI w (va_runV (As := [.int p0]) (rest := []) ⟨hx, hb, hml, hown, hts⟩ (c_X3_has l P p0) (cwV 1 hts gX8_makes_X3_has rfl rfl rfl (by decide +kernel) ⟨Nat.le_of_ble_eq_true rfl, Nat.le_of_ble_eq_true rfl⟩) (r_preV w (by have := P.1; omega) P.c0 rfl) rfl rfl hl.1 rfl (lv_room (Nat.le_of_ble_eq_true rfl)) dX8_makes_5 ⟨Nat.zero_le _, Nat.zero_le _⟩) (fun r26 h25 H locs hp w => ?_)
  obtain ⟨eh_, qq27⟩ := hp
  have eh_ := eh_.symm
  subst eh_
  have b28 : Bq r26 (0 ≤ p0.toInt ∧ p0.toInt < (((pN (sM st0)) : Nat) : Int)) := qq27.iff (by rw [((rfl : p0.toInt = p0.toInt) : p0.toInt = _), (S.1 : n.toInt = _)])
  refine lv_if_eq (tgt := 28) hx hb dX8_makes_8 (by decide) (fun c29 => ?_) (fun c29 => ?_)
  · have c29 := b28.eq c29
    refine lv_iconst (v := (-1)) hx hb dX8_makes_28 (by decide) ?_
    refine r_iret (v := (-1)) hx hb hr hlocks w dX8_makes_29 ?_
    subst hu2 hu4
    exact ⟨(fun k_ hk_ => hfr k_ (by omega)), ⟨hSV0, ⟨_, E, hkn⟩, (T0.fr (fun k_ a_ b_ => hfr k_ (by omega))), (Q1.fr (fun k_ a_ b_ => hfr k_ (by omega))), ⟨_, _, _, _, _, P, S⟩, ⟨_, _, _, _, _, Pr⟩, (fun i_ hi_ => (Q3 i_ hi_).fr (fun k_ a_ b_ => hfr k_ (by omega))), (fun i_ (hi_ : i_ < sV st0) => (Q4 i_ hi_).fr (fun k_ a_ b_ => hfr k_ (by omega))), (H0_.fr (fun k_ a_ b_ => hfr k_ (by omega))), (W0.fr (fun k_ a_ b_ => hfr k_ (by omega))), (W1.fr (fun k_ a_ b_ => hfr k_ (by omega))), ⟨_, _, _, _, _, _, _, _, _, _, _, V2, hz2⟩, (W3.fr (fun k_ a_ b_ => hfr k_ (by omega))), ⟨_, _, _, _, _, _, _, _, _, _, _, V4⟩⟩, Or.inr ⟨by rintro ⟨f_, a_, e1_, e2_, e3_, e4_⟩; first | omega | (obtain rfl : f_ = f := (by omega); omega), rfl⟩⟩
  · have c29 := b28.ne c29
    have hf0 : p0.toInt = ((f : Nat) : Int) := by omega
    have hf : f < pN (sM st0) := by omega
    obtain ⟨ha3, hk3, hl1, hl24, hpl, hd0⟩ := hP.2.2 f hf
    refine lv_iload_n hx hb dX8_makes_11 rfl (lv_at hl 2 rfl) ?_
    refine lv_if_lt (tgt := 28) hx hb dX8_makes_12 (by decide) (fun c30 => ?_) (fun c30 => ?_)
    · have c30 : p1.toInt < (0 : Int) := (i_lt (rfl : p1.toInt = p1.toInt) (rfl : (0 : Int32).toInt = 0)).mp c30
      refine lv_iconst (v := (-1)) hx hb dX8_makes_28 (by decide) ?_
      refine r_iret (v := (-1)) hx hb hr hlocks w dX8_makes_29 ?_
      subst hu2 hu4
      exact ⟨(fun k_ hk_ => hfr k_ (by omega)), ⟨hSV0, ⟨_, E, hkn⟩, (T0.fr (fun k_ a_ b_ => hfr k_ (by omega))), (Q1.fr (fun k_ a_ b_ => hfr k_ (by omega))), ⟨_, _, _, _, _, P, S⟩, ⟨_, _, _, _, _, Pr⟩, (fun i_ hi_ => (Q3 i_ hi_).fr (fun k_ a_ b_ => hfr k_ (by omega))), (fun i_ (hi_ : i_ < sV st0) => (Q4 i_ hi_).fr (fun k_ a_ b_ => hfr k_ (by omega))), (H0_.fr (fun k_ a_ b_ => hfr k_ (by omega))), (W0.fr (fun k_ a_ b_ => hfr k_ (by omega))), (W1.fr (fun k_ a_ b_ => hfr k_ (by omega))), ⟨_, _, _, _, _, _, _, _, _, _, _, V2, hz2⟩, (W3.fr (fun k_ a_ b_ => hfr k_ (by omega))), ⟨_, _, _, _, _, _, _, _, _, _, _, V4⟩⟩, Or.inr ⟨by rintro ⟨f_, a_, e1_, e2_, e3_, e4_⟩; first | omega | (obtain rfl : f_ = f := (by omega); omega), rfl⟩⟩
    · have c30 : ¬ (p1.toInt < (0 : Int)) := fun q => c30 ((i_lt (rfl : p1.toInt = p1.toInt) (rfl : (0 : Int32).toInt = 0)).mpr q)
      refine lv_iload_n hx hb dX8_makes_15 rfl (lv_at hl 2 rfl) ?_
      refine lv_aload_n hx hb dX8_makes_16 rfl (lv_at hl 0 rfl) ?_
      refine r_get (C := RX8) (T := TX8) (N := 11) (ci := 6) hx hb hts inX8_makes_X8 hown w (by have := E.1; omega) E.2.1 rfl 1 (by decide) (hts (Cond.fieldLink RX8 19 "EarlyValues" "now" "LEarlyValues$Program;") (List.mem_of_getElem? (i := 1) (by decide +kernel))) rfl rfl dX8_makes_17 ?_
      refine r_get (C := RX3) (T := TX3) (N := 5) (ci := 2) hx hb hts inX8_makes_X3 hown w (by have := P.1; omega) P.c0 rfl 1 (by decide) (hts (Cond.fieldLink RX8 119 "EarlyValues$Program" "arguments" "[I") (List.mem_of_getElem? (i := 2) (by decide +kernel))) rfl rfl dX8_makes_20 ?_
      refine lv_iload_n hx hb dX8_makes_23 rfl (lv_at hl 1 rfl) ?_
      refine r_iald (j := f) hx hb w (by have := P.1; omega) P.c1 hf0 (by omega) dX8_makes_24 ?_
      refine lv_icmp_lt (tgt := 30) hx hb dX8_makes_25 (by decide) (fun c31 => ?_) (fun c31 => ?_)
      · have c31 : p1.toInt < (((pA (sM st0) f) : Nat) : Int) := (i_lt (rfl : p1.toInt = p1.toInt) (S.2.1 f (by omega))).mp c31
        have ha0 : p1.toInt = ((a9 : Nat) : Int) := by omega
        have ha9 : a9 < pA (sM st0) f := by omega
        refine lv_aload_n hx hb dX8_makes_30 rfl (lv_at hl 0 rfl) ?_
        refine lv_aload_n hx hb dX8_makes_31 rfl (lv_at hl 0 rfl) ?_
        refine r_get (C := RX8) (T := TX8) (N := 11) (ci := 6) hx hb hts inX8_makes_X8 hown w (by have := E.1; omega) E.2.1 rfl 8 (by decide) (hts (Cond.fieldLink RX8 53 "EarlyValues" "finely" "LEarlyValues$View;") (List.mem_of_getElem? (i := 3) (by decide +kernel))) rfl rfl dX8_makes_32 ?_
        refine r_callQ w (va_runV (As := [.ref (g.2.2.1 (x + 89))]) (rest := []) ⟨hx, hb, hml, hown, hts⟩ (c_X8_solved l E ⟨_, _, _, _, _, _, _, _, _, _, _, V2, hz2⟩ P S hP (by omega)) (cwV 1 hts gX8_makes_X8_solved rfl rfl rfl (by decide +kernel) ⟨Nat.le_of_ble_eq_true rfl, Nat.le_of_ble_eq_true rfl⟩) (r_preV w (by have := E.1; omega) E.2.1 rfl) rfl rfl hl.1 rfl (lv_room (Nat.le_of_ble_eq_true rfl)) dX8_makes_35 ⟨Nat.zero_le _, Nat.zero_le _⟩) (fun r33 h32 H locs hp w => ?_)
        obtain ⟨hfk34, hrk34, kkk34, kck34, tkk34, dpk34, gpk34, ggk34, gsk34, gdk34, gtk34, gck34, V2, K2, hK2, htk2, hT2⟩ := hp
        subst hrk34
        have E := E.fr (h' := h32) (fun k_ h1_ h2_ h3_ => hfk34 k_ (by omega))
        have P := P.fr (h' := h32) (fun k_ h1_ h2_ => hfk34 k_ (by omega))
        have Pr := Pr.fr (h' := h32) (fun k_ h1_ h2_ => hfk34 k_ (by omega))
        have V4 := V4.fr (h' := h32) (fun k_ h1_ h2_ => hfk34 k_ (by omega))
        have hfr : ∀ k_, ¬ ((x + 21 ≤ k_ ∧ k_ < x + 30) ∨ (x + 89 ≤ k_ ∧ k_ < x + 107) ∨ (x + 125 ≤ k_ ∧ k_ < x + 143)) → h32 k_ = h k_ := fun k_ hk_ => (hfk34 k_ (by omega))
        have hz2 : (1 : Int32) = 0 ∨ ((1 : Int32) = 1 ∧ KnK u2 (sM st0) tkk34 gtk34) := Or.inr ⟨rfl, K2, hK2, htk2, hT2⟩
        refine lv_aload_n hx hb dX8_makes_38 rfl (lv_at hl 0 rfl) ?_
        refine r_get (C := RX8) (T := TX8) (N := 11) (ci := 6) hx hb hts inX8_makes_X8 hown w (by have := E.1; omega) E.2.1 rfl 1 (by decide) (hts (Cond.fieldLink RX8 19 "EarlyValues" "now" "LEarlyValues$Program;") (List.mem_of_getElem? (i := 1) (by decide +kernel))) rfl rfl dX8_makes_39 ?_
        refine lv_iload_n hx hb dX8_makes_42 rfl (lv_at hl 1 rfl) ?_
        refine lv_iload_n hx hb dX8_makes_43 rfl (lv_at hl 2 rfl) ?_
        refine r_callI w (va_3 V2.hu (fun q_ => va_runU (As := [.ref (g.2.2.1 (x + 12)), .int p0, .int p1]) (rest := []) ⟨hx, hb, hml, hown, hts⟩ (c_X7_isStrict l V2 P S hP hT2 p0 p1 hf0 ha0 hf (by omega)) (va_cwU 3 hts gX8_makes_X7_isStrict_u195X6 rfl rfl rfl rfl (by decide +kernel) ⟨Nat.le_of_ble_eq_true rfl, Nat.le_of_ble_eq_true rfl⟩) (r_preV w (by have := V2.hN; omega) (V2.ob (by subst q_; rfl)) rfl) rfl rfl hl.1 rfl (lv_room (Nat.le_of_ble_eq_true rfl)) dX8_makes_44 ⟨Nat.zero_le _, Nat.zero_le _⟩) (fun q_ => va_runU (As := [.ref (g.2.2.1 (x + 12)), .int p0, .int p1]) (rest := []) ⟨hx, hb, hml, hown, hts⟩ (c_X7_isStrict l V2 P S hP hT2 p0 p1 hf0 ha0 hf (by omega)) (va_cwU 3 hts gX8_makes_X7_isStrict_u195X4 rfl rfl rfl rfl (by decide +kernel) ⟨Nat.le_of_ble_eq_true rfl, Nat.le_of_ble_eq_true rfl⟩) (r_preV w (by have := V2.hN; omega) (V2.ob (by subst q_; rfl)) rfl) rfl rfl hl.1 rfl (lv_room (Nat.le_of_ble_eq_true rfl)) dX8_makes_44 ⟨Nat.zero_le _, Nat.zero_le _⟩) (fun q_ => va_runU (As := [.ref (g.2.2.1 (x + 12)), .int p0, .int p1]) (rest := []) ⟨hx, hb, hml, hown, hts⟩ (c_X7_isStrict l V2 P S hP hT2 p0 p1 hf0 ha0 hf (by omega)) (va_cwU 3 hts gX8_makes_X7_isStrict_u195X0 rfl rfl rfl rfl (by decide +kernel) ⟨Nat.le_of_ble_eq_true rfl, Nat.le_of_ble_eq_true rfl⟩) (r_preV w (by have := V2.hN; omega) (V2.ob (by subst q_; rfl)) rfl) rfl rfl hl.1 rfl (lv_room (Nat.le_of_ble_eq_true rfl)) dX8_makes_44 ⟨Nat.zero_le _, Nat.zero_le _⟩)) (fun r36 h35 H locs hp w => ?_)
        obtain ⟨eh_, qq37⟩ := hp
        have eh_ := eh_.symm
        subst eh_
        refine lv_if_eq (tgt := 53) hx hb dX8_makes_47 (by decide) (fun c38 => ?_) (fun c38 => ?_)
        · have c38 := qq37.eq c38
          have hns2_ : ¬ mStrictF 2 (sM st0) f a9 := fun q_ => c38 ((mStrictF_iff hK2).mp (by rw [hu2]; exact q_))
          have W2 : VwE g h32 (x + 89) 2 (sM st0) := by rw [← hu2]; exact ⟨_, _, _, _, _, _, _, _, _, _, _, V2, hz2⟩
          refine lv_aload_n hx hb dX8_makes_53 rfl (lv_at hl 0 rfl) ?_
          refine r_get (C := RX8) (T := TX8) (N := 11) (ci := 6) hx hb hts inX8_makes_X8 hown w (by have := E.1; omega) E.2.1 rfl 2 (by decide) (hts (Cond.fieldLink RX8 23 "EarlyValues" "trial" "LEarlyValues$Program;") (List.mem_of_getElem? (i := 4) (by decide +kernel))) rfl rfl dX8_makes_54 ?_
          refine lv_aload_n hx hb dX8_makes_57 rfl (lv_at hl 0 rfl) ?_
          refine r_get (C := RX8) (T := TX8) (N := 11) (ci := 6) hx hb hts inX8_makes_X8 hown w (by have := E.1; omega) E.2.1 rfl 1 (by decide) (hts (Cond.fieldLink RX8 19 "EarlyValues" "now" "LEarlyValues$Program;") (List.mem_of_getElem? (i := 1) (by decide +kernel))) rfl rfl dX8_makes_58 ?_
          refine r_callV w (va_runV (As := [.ref (g.2.2.1 (x + 12))]) (rest := []) ⟨hx, hb, hml, hown, hts⟩ (c_X3_takeFrom l Pr P (by omega)) (cwV 1 hts gX8_makes_X3_takeFrom rfl rfl rfl (by decide +kernel) ⟨Nat.le_of_ble_eq_true rfl, Nat.le_of_ble_eq_true rfl⟩) (r_preV w (by have := Pr.1; omega) Pr.c0 rfl) rfl rfl hl.1 rfl (lv_room (Nat.le_of_ble_eq_true rfl)) dX8_makes_61 ⟨Nat.zero_le _, Nat.zero_le _⟩) (fun h39 H locs hp w => ?_)
          obtain ⟨hfk40, gak40, gkk40, glk40, gbk40, Pr, hcpk40⟩ := hp
          have E := E.fr (h' := h39) (fun k_ h1_ h2_ h3_ => hfk40 k_ (by omega))
          have P := P.fr (h' := h39) (fun k_ h1_ h2_ => hfk40 k_ (by omega))
          have V4 := V4.fr (h' := h39) (fun k_ h1_ h2_ => hfk40 k_ (by omega))
          have W2 := W2.fr (h' := h39) (fun k_ h1_ h2_ => hfk40 k_ (by omega))
          have hfr : ∀ k_, ¬ ((x + 21 ≤ k_ ∧ k_ < x + 30) ∨ (x + 89 ≤ k_ ∧ k_ < x + 107) ∨ (x + 125 ≤ k_ ∧ k_ < x + 143)) → h39 k_ = h k_ := fun k_ hk_ => (hfk40 k_ (by omega)).trans (hfr k_ hk_)
          refine lv_iconst (v := 0) hx hb dX8_makes_64 (by decide) ?_
          refine lv_istore_n (lv' := [(3, .int 0), (0, .ref (g.2.2.1 x)), (1, .int p0), (2, .int p1)]) hx hb dX8_makes_65 rfl hl (by decide) rfl (fun ls hl => ?_)
          exact ih66 0 0 gak40 gkk40 glk40 gbk40 h39 _ _ _ w (lv_sub hl [1, 2, 3, 0] rfl) hf0 hf ha0 ha9 hns2_ (Nat.zero_le _) ((by decide : (0 : Int32).toInt = ((0 : Nat) : Int))) NoC.z ((S.cp hP hcpk40)) E P Pr W2 (⟨_, _, _, _, _, _, _, _, _, _, _, V4⟩) hfr (by omega)
        · have c38 := qq37.ne c38
          refine lv_bipush (v := (-2)) hx hb dX8_makes_50 (by decide) ?_
          refine r_iret (v := (-2)) hx hb hr hlocks w dX8_makes_52 ?_
          have hs_ := (mStrictF_iff hK2).mpr c38
          subst hu2 hu4
          exact ⟨(fun k_ hk_ => hfr k_ (by omega)), ⟨hSV0, ⟨_, E, hkn⟩, (T0.fr (fun k_ a_ b_ => hfr k_ (by omega))), (Q1.fr (fun k_ a_ b_ => hfr k_ (by omega))), ⟨_, _, _, _, _, P, S⟩, ⟨_, _, _, _, _, Pr⟩, (fun i_ hi_ => (Q3 i_ hi_).fr (fun k_ a_ b_ => hfr k_ (by omega))), (fun i_ (hi_ : i_ < sV st0) => (Q4 i_ hi_).fr (fun k_ a_ b_ => hfr k_ (by omega))), (H0_.fr (fun k_ a_ b_ => hfr k_ (by omega))), (W0.fr (fun k_ a_ b_ => hfr k_ (by omega))), (W1.fr (fun k_ a_ b_ => hfr k_ (by omega))), ⟨_, _, _, _, _, _, _, _, _, _, _, V2, hz2⟩, (W3.fr (fun k_ a_ b_ => hfr k_ (by omega))), ⟨_, _, _, _, _, _, _, _, _, _, _, V4⟩⟩, Or.inl ⟨f, a9, hf0, ha0, hf, ha9, Or.inl ⟨hs_, rfl⟩⟩⟩
      · have c31 : ¬ (p1.toInt < (((pA (sM st0) f) : Nat) : Int)) := fun q => c31 ((i_lt (rfl : p1.toInt = p1.toInt) (S.2.1 f (by omega))).mpr q)
        refine lv_iconst (v := (-1)) hx hb dX8_makes_28 (by decide) ?_
        refine r_iret (v := (-1)) hx hb hr hlocks w dX8_makes_29 ?_
        subst hu2 hu4
        exact ⟨(fun k_ hk_ => hfr k_ (by omega)), ⟨hSV0, ⟨_, E, hkn⟩, (T0.fr (fun k_ a_ b_ => hfr k_ (by omega))), (Q1.fr (fun k_ a_ b_ => hfr k_ (by omega))), ⟨_, _, _, _, _, P, S⟩, ⟨_, _, _, _, _, Pr⟩, (fun i_ hi_ => (Q3 i_ hi_).fr (fun k_ a_ b_ => hfr k_ (by omega))), (fun i_ (hi_ : i_ < sV st0) => (Q4 i_ hi_).fr (fun k_ a_ b_ => hfr k_ (by omega))), (H0_.fr (fun k_ a_ b_ => hfr k_ (by omega))), (W0.fr (fun k_ a_ b_ => hfr k_ (by omega))), (W1.fr (fun k_ a_ b_ => hfr k_ (by omega))), ⟨_, _, _, _, _, _, _, _, _, _, _, V2, hz2⟩, (W3.fr (fun k_ a_ b_ => hfr k_ (by omega))), ⟨_, _, _, _, _, _, _, _, _, _, _, V4⟩⟩, Or.inr ⟨by rintro ⟨f_, a_, e1_, e2_, e3_, e4_⟩; first | omega | (obtain rfl : f_ = f := (by omega); omega), rfl⟩⟩

theorem inX8_day_X3 : ∀ w ∈ wsX30, w ∈ wsX8_day := by decide +kernel
theorem inX8_day_X8 : ∀ w ∈ wsX80, w ∈ wsX8_day := by decide +kernel
abbrev rm_X8_day : Room := { frames := 6, cells := 0, slots := 0, locals := 136 }
set_option maxHeartbeats 4000000 in
set_option maxRecDepth 100000 in
theorem c_X8_day_0 (l : Launch) {g : GE} {h : Nat → va_E} {x : Nat} {st0 : ST} (C : ClsA g h x st0) (p0 : Int32) (p1 : Int32) (p2 : Int32) (hw : p2.toInt = 0) : MI l yX8_day wsX8_day rm_X8_day [.ref (g.2.2.1 x), .int p0, .int p1, .int p2] g h (fun r_ h2 => (∀ k, ¬ (x ≤ k ∧ k < x + 143) → h2 k = h k) ∧ ClsA g h2 x st0 ∧ AnDay st0 p0 p1 p2 r_) := by
  refine Met.ofW (cc := cX8_day) (maxL := 7) (ret := (some .int)) (by decide) rfl ?_
  intro p e s m args below meth c s₁ B hml hv
  obtain ⟨rfl, w0⟩ := hv
  have hx := B.exec
  have hb := B.bytes
  have hr := B.returns
  have hts := atoms_spec (ws := wsX8_day) B.pre
  have hown : s.vm.findClass RX8 = some m.cls := findClass_of_methodNamed B.named
  have hlocks := B.notSynchronized
  have w := w0.start
  clear w0
  have hl := lv_entry ([.ref (g.2.2.1 x), .int p0, .int p1, .int p2]) (n := 7) (Nat.le_of_ble_eq_true rfl)
  rw [lg_entry_eq]
  generalize (lg_sl ([.ref (g.2.2.1 x), .int p0, .int p1, .int p2]) ++ List.replicate (7 - (lg_sl ([.ref (g.2.2.1 x), .int p0, .int p1, .int p2])).length) Slot.unset).toArray = ls at hl ⊢
  have hl : lv_has ls 7 [(0, .ref (g.2.2.1 x)), (1, .int p0), (2, .int p1), (3, .int p2)] := hl
  obtain ⟨hSV, ⟨kn, E, hkn⟩, T0, Q1, P0, Q2, Q3, Q4, H0_, W0, W1, W2, W3, W4⟩ := C
  have hSV0 := hSV
  obtain ⟨hP, hu8, hUP, hv2, hVP, hl200, hlt⟩ := hSV
  have hn4 := hP.2.1
  have hNe := E.1
  obtain ⟨n, ga, gk, gl, gb, P, S⟩ := P0
  have hnS := S.1
  obtain ⟨rn, ra, rk, rl, rb, Pr⟩ := Q2
  obtain ⟨u4, hu4, W4⟩ : ∃ u_ : Nat, u_ = 2 ∧ VwX g h (x + 125) u_ := ⟨_, rfl, W4⟩
  obtain ⟨kk4, kc4, tk4, fz4, dp4, gp4, gg4, gs4, gd4, gt4, gc4, V4⟩ := W4
  have hNv4 := V4.hN
  obtain ⟨z, hzd⟩ : ∃ f_ : Nat, f_ = p0.toInt.toNat := ⟨_, rfl⟩
  obtain ⟨nn, hnd⟩ : ∃ f_ : Nat, f_ = p1.toInt.toNat := ⟨_, rfl⟩
  have hfr : ∀ k_, ¬ ((x + 21 ≤ k_ ∧ k_ < x + 30) ∨ ((x + 125) ≤ k_ ∧ k_ < (x + 125) + 18)) → h k_ = h k_ := fun _ _ => rfl
  have cuts : ∀ N : Nat, (∀ (k : Nat) (M1 : PRG) (x4 : Int32) (ra1 : Nat → Int32) (rk1 : Nat → Int32) (rl1 : Nat → Int32) (rb1 : Nat → Nat → Int32) (hc : Nat → va_E) (H : Heap) (locs : List Loc) (ls : Array Slot), WD g (inW g) s hc H locs → lv_has ls 7 [(0, .ref (g.2.2.1 x)), (1, .int p0), (2, .int p1), (3, .int p2), (4, .int x4)] → (p0.toInt = ((z : Nat) : Int)) → (p1.toInt = ((nn : Nat) : Int)) → (z ≤ 9999) → (1 ≤ nn ∧ nn ≤ 20) → (k ≤ nn) → (x4.toInt = ((k : Nat) : Int)) → (DayR (sM st0) z k M1) → (PV M1) → (PrS M1 n ra1 rk1 rl1 rb1) → (EvA g hc x kn) → (PrA g hc (x + 12) n ga gk gl gb) → (PrA g hc (x + 21) n ra1 rk1 rl1 rb1) → (VwX g hc (x + 125) u4) → (∀ k, ¬ ((x + 21 ≤ k ∧ k < x + 30) ∨ ((x + 125) ≤ k ∧ k < (x + 125) + 18)) → hc k = h k) → 30 - k + 10 < N → W p l e (headSpec wsX8_day rm_X8_day).room s m ([.ref (g.2.2.1 x), .int p0, .int p1, .int p2] : List Value).toArray below meth c H locs 0 0 (MQ below (va_Qi (fun r_ h2 => (∀ k, ¬ (x ≤ k ∧ k < x + 143) → h2 k = h k) ∧ ClsA g h2 x st0 ∧ AnDay st0 p0 p1 p2 r_) (Wd g) (inW g)) ([.ref (g.2.2.1 x), .int p0, .int p1, .int p2] : List Value).toArray s 0 0 (inW g)) (F0 m 47 ls [])) ∧ (∀ (M1 : PRG) (K : Nat) (f : Nat) (x5 : Int32) (x6 : Int32) (ra1 : Nat → Int32) (rk1 : Nat → Int32) (rl1 : Nat → Int32) (rb1 : Nat → Nat → Int32) (hc : Nat → va_E) (H : Heap) (locs : List Loc) (ls : Array Slot), WD g (inW g) s hc H locs → lv_has ls 7 [(0, .ref (g.2.2.1 x)), (1, .int p0), (2, .int p1), (3, .int p2), (4, .ref (g.2.2.1 (x + 125))), (5, .int x5), (6, .int x6)] → (p0.toInt = ((z : Nat) : Int)) → (p1.toInt = ((nn : Nat) : Int)) → (z ≤ 9999) → (1 ≤ nn ∧ nn ≤ 20) → (DayR (sM st0) z nn M1) → (PV M1) → (IsK u4 M1 K) → (f ≤ pN M1) → (x5.toInt = ((sm (dOne M1 K 0) f : Nat) : Int)) → (x6.toInt = ((f : Nat) : Int)) → (PrS M1 n ra1 rk1 rl1 rb1) → (EvA g hc x kn) → (PrA g hc (x + 12) n ga gk gl gb) → (PrA g hc (x + 21) n ra1 rk1 rl1 rb1) → (∃ (kk kc : Nat) (tk fz dp : Int32) (gp gg gs : Nat → Int32) (gd gt gc : Nat → Nat → Int32), VwA g hc (x + 125) u4 kk kc tk fz dp gp gg gs gd gt gc ∧ TbS u4 M1 gt (mTab u4 M1 K)) → (∀ k, ¬ ((x + 21 ≤ k ∧ k < x + 30) ∨ ((x + 125) ≤ k ∧ k < (x + 125) + 18)) → hc k = h k) → 6 - f < N → W p l e (headSpec wsX8_day rm_X8_day).room s m ([.ref (g.2.2.1 x), .int p0, .int p1, .int p2] : List Value).toArray below meth c H locs 0 0 (MQ below (va_Qi (fun r_ h2 => (∀ k, ¬ (x ≤ k ∧ k < x + 143) → h2 k = h k) ∧ ClsA g h2 x st0 ∧ AnDay st0 p0 p1 p2 r_) (Wd g) (inW g)) ([.ref (g.2.2.1 x), .int p0, .int p1, .int p2] : List Value).toArray s 0 0 (inW g)) (F0 m 126 ls [])) := by
    intro N
    induction N with
    | zero => exact ⟨by intros; omega, by intros; omega⟩
    | succ N ih =>
      obtain ⟨ih47, ih126⟩ := ih
      refine ⟨?_, ?_⟩
      · intro k M1 x4 ra1 rk1 rl1 rb1 hc H locs ls w hl hz0 hn0 hz9 hn9 hk hx4 hdr hPM Str E P Pr W4 hfr hN_
        obtain ⟨kk4, kc4, tk4, fz4, dp4, gp4, gg4, gs4, gd4, gt4, gc4, V4⟩ := W4
        have hNv4 := V4.hN
        have hNe := E.1
        have hn4_ := hPM.2.1
        have hn1_ := hPM.1
        refine lv_iload hx hb dX8_day_47 (lv_at hl 4 rfl) ?_
        refine lv_iload_n hx hb dX8_day_49 rfl (lv_at hl 2 rfl) ?_
        refine lv_icmp_ge (tgt := 94) hx hb dX8_day_50 (by decide) (fun c1 => ?_) (fun c1 => ?_)
        · have c1 : ((nn : Nat) : Int) ≤ ((k : Nat) : Int) := (i_le hn0 hx4).mp c1
          refine lv_iload_n hx hb dX8_day_94 rfl (lv_at hl 3 rfl) ?_
          refine lv_if_ne (tgt := 105) hx hb dX8_day_95 (by decide) (fun c2 => ?_) (fun c2 => ?_)
          · have c2 : ¬ (p2.toInt = (0 : Int)) := fun q => c2 ((i_eq (rfl : p2.toInt = p2.toInt) (rfl : (0 : Int32).toInt = 0)).mpr q)
            exfalso; omega
          · have c2 : p2.toInt = (0 : Int) := (i_eq (rfl : p2.toInt = p2.toInt) (rfl : (0 : Int32).toInt = 0)).mp c2
            refine lv_aload_n hx hb dX8_day_98 rfl (lv_at hl 0 rfl) ?_
            refine r_get (C := RX8) (T := TX8) (N := 11) (ci := 6) hx hb hts inX8_day_X8 hown w (by have := E.1; omega) E.2.1 rfl 10 (by decide) (hts (Cond.fieldLink RX8 59 "EarlyValues" "trialFinely" "LEarlyValues$View;") (List.mem_of_getElem? (i := 6) (by decide +kernel))) rfl rfl dX8_day_99 ?_
            refine lv_goto (tgt := 109) hx hb dX8_day_102 (by decide) ?_
            refine lv_astore (lv' := [(4, .ref (g.2.2.1 (x + 125))), (0, .ref (g.2.2.1 x)), (1, .int p0), (2, .int p1), (3, .int p2)]) hx hb dX8_day_109 hl (by decide) rfl (fun ls hl => ?_)
            refine lv_aload hx hb dX8_day_111 (lv_at hl 0 rfl) ?_
            refine lv_aload_n hx hb dX8_day_113 rfl (lv_at hl 1 rfl) ?_
            refine r_get (C := RX8) (T := TX8) (N := 11) (ci := 6) hx hb hts inX8_day_X8 hown w (by have := E.1; omega) E.2.1 rfl 2 (by decide) (hts (Cond.fieldLink RX8 23 "EarlyValues" "trial" "LEarlyValues$Program;") (List.mem_of_getElem? (i := 1) (by decide +kernel))) rfl rfl dX8_day_114 ?_
            refine r_callV w (va_3 V4.hu (fun q_ => va_runU (As := [.ref (g.2.2.1 (x + 21))]) (rest := []) ⟨hx, hb, hml, hown, hts⟩ (c_X7_solve l V4 Pr Str hPM (by omega)) (va_cwU 1 hts gX8_day_X7_solve_u212X6 rfl rfl rfl rfl (by decide +kernel) ⟨Nat.le_of_ble_eq_true rfl, Nat.le_of_ble_eq_true rfl⟩) (r_preV w (by have := V4.hN; omega) (V4.ob (by subst q_; rfl)) rfl) rfl rfl hl.1 rfl (lv_room (Nat.le_of_ble_eq_true rfl)) dX8_day_117 ⟨Nat.zero_le _, Nat.zero_le _⟩) (fun q_ => va_runU (As := [.ref (g.2.2.1 (x + 21))]) (rest := []) ⟨hx, hb, hml, hown, hts⟩ (c_X7_solve l V4 Pr Str hPM (by omega)) (va_cwU 1 hts gX8_day_X7_solve_u212X4 rfl rfl rfl rfl (by decide +kernel) ⟨Nat.le_of_ble_eq_true rfl, Nat.le_of_ble_eq_true rfl⟩) (r_preV w (by have := V4.hN; omega) (V4.ob (by subst q_; rfl)) rfl) rfl rfl hl.1 rfl (lv_room (Nat.le_of_ble_eq_true rfl)) dX8_day_117 ⟨Nat.zero_le _, Nat.zero_le _⟩) (fun q_ => va_runU (As := [.ref (g.2.2.1 (x + 21))]) (rest := []) ⟨hx, hb, hml, hown, hts⟩ (c_X7_solve l V4 Pr Str hPM (by omega)) (va_cwU 1 hts gX8_day_X7_solve_u212X0 rfl rfl rfl rfl (by decide +kernel) ⟨Nat.le_of_ble_eq_true rfl, Nat.le_of_ble_eq_true rfl⟩) (r_preV w (by have := V4.hN; omega) (V4.ob (by subst q_; rfl)) rfl) rfl rfl hl.1 rfl (lv_room (Nat.le_of_ble_eq_true rfl)) dX8_day_117 ⟨Nat.zero_le _, Nat.zero_le _⟩)) (fun h3 H locs hp w => ?_)
            obtain ⟨hfk4, kkk4, kck4, tkk4, dpk4, ggk4, gsk4, gtk4, gck4, K9, V4, hK9, htk9, hT9⟩ := hp
            have E := E.fr (h' := h3) (fun k_ h1_ h2_ h3_ => hfk4 k_ (by omega))
            have P := P.fr (h' := h3) (fun k_ h1_ h2_ => hfk4 k_ (by omega))
            have Pr := Pr.fr (h' := h3) (fun k_ h1_ h2_ => hfk4 k_ (by omega))
            have hfr : ∀ k_, ¬ ((x + 21 ≤ k_ ∧ k_ < x + 30) ∨ ((x + 125) ≤ k_ ∧ k_ < (x + 125) + 18)) → h3 k_ = h k_ := fun k_ hk_ => (hfk4 k_ (by omega)).trans (hfr k_ hk_)
            refine lv_iconst (v := 0) hx hb dX8_day_120 (by decide) ?_
            refine lv_istore (lv' := [(5, .int 0), (4, .ref (g.2.2.1 (x + 125))), (0, .ref (g.2.2.1 x)), (1, .int p0), (2, .int p1), (3, .int p2)]) hx hb dX8_day_121 hl (by decide) rfl (fun ls hl => ?_)
            refine lv_iconst (v := 0) hx hb dX8_day_123 (by decide) ?_
            refine lv_istore (lv' := [(6, .int 0), (5, .int 0), (4, .ref (g.2.2.1 (x + 125))), (0, .ref (g.2.2.1 x)), (1, .int p0), (2, .int p1), (3, .int p2)]) hx hb dX8_day_124 hl (by decide) rfl (fun ls hl => ?_)
            exact ih126 M1 K9 0 0 0 ra1 rk1 rl1 rb1 h3 _ _ _ w (lv_sub hl [3, 4, 5, 6, 2, 1, 0] rfl) hz0 hn0 hz9 hn9 (by rw [show nn = k by omega]; exact hdr) hPM hK9 (Nat.zero_le _) rfl ((by decide : (0 : Int32).toInt = ((0 : Nat) : Int))) Str E P Pr (⟨_, _, _, _, _, _, _, _, _, _, _, V4, hT9⟩) hfr (by omega)
        · have c1 : ¬ (((nn : Nat) : Int) ≤ ((k : Nat) : Int)) := fun q => c1 ((i_le hn0 hx4).mpr q)
          have hxk_ : (7919 * z + 6151 * k + 1) ≤ 79298951 := by omega
          have hxx_ : (7919 * z + 6151 * k + 1) * (7919 * z + 6151 * k + 1) ≤ 79298951 * 79298951 := Nat.mul_le_mul hxk_ hxk_
          refine lv_ldc2 (v := 7919) hx hb hown (hts (Cond.constantLong RX8 202 (7919)) (List.mem_of_getElem? (i := 3) (by decide +kernel))) dX8_day_53 ?_
          refine lv_topl (fun y5 ey5 => ?_)
          have ty5 : y5.toInt = ((7919 : Nat) : Int) := l_of (ey5.trans (by decide)) (by decide)
          refine lv_iload_n hx hb dX8_day_56 rfl (lv_at hl 1 rfl) ?_
          refine lv_i2l hx hb dX8_day_57 rfl ?_
          refine lv_topl (fun y6 ey6 => ?_)
          have ty6 : y6.toInt = ((z : Nat) : Int) := l_i2l ey6 hz0
          refine lv_lmul hx hb dX8_day_58 ?_
          refine lv_topl (fun y7 ey7 => ?_)
          have ty7 : y7.toInt = (((7919 * z) : Nat) : Int) := l_mul ey7 ty5 ty6 (by omega)
          refine lv_ldc2 (v := 6151) hx hb hown (hts (Cond.constantLong RX8 204 (6151)) (List.mem_of_getElem? (i := 4) (by decide +kernel))) dX8_day_59 ?_
          refine lv_topl (fun y8 ey8 => ?_)
          have ty8 : y8.toInt = ((6151 : Nat) : Int) := l_of (ey8.trans (by decide)) (by decide)
          refine lv_iload hx hb dX8_day_62 (lv_at hl 4 rfl) ?_
          refine lv_i2l hx hb dX8_day_64 rfl ?_
          refine lv_topl (fun y9 ey9 => ?_)
          have ty9 : y9.toInt = ((k : Nat) : Int) := l_i2l ey9 hx4
          refine lv_lmul hx hb dX8_day_65 ?_
          refine lv_topl (fun y10 ey10 => ?_)
          have ty10 : y10.toInt = (((6151 * k) : Nat) : Int) := l_mul ey10 ty8 ty9 (by omega)
          refine lv_ladd hx hb dX8_day_66 ?_
          refine lv_topl (fun y11 ey11 => ?_)
          have ty11 : y11.toInt = ((((7919 * z) + (6151 * k)) : Nat) : Int) := l_add ey11 ty7 ty10 (by omega)
          refine lv_lconst (v := 1) hx hb dX8_day_67 (by decide) ?_
          refine lv_topl (fun y12 ey12 => ?_)
          have ty12 : y12.toInt = ((1 : Nat) : Int) := l_of (ey12.trans (by decide)) (by decide)
          refine lv_ladd hx hb dX8_day_68 ?_
          refine lv_topl (fun y13 ey13 => ?_)
          have ty13 : y13.toInt = (((((7919 * z) + (6151 * k)) + 1) : Nat) : Int) := l_add ey13 ty11 ty12 (by omega)
          refine lv_lstore (lv' := [(5, .long y13), (0, .ref (g.2.2.1 x)), (1, .int p0), (2, .int p1), (3, .int p2), (4, .int x4)]) hx hb dX8_day_69 hl (by decide) rfl (fun ls hl => ?_)
          refine lv_aload_n hx hb dX8_day_71 rfl (lv_at hl 1 rfl) ?_
          refine r_get (C := RX8) (T := TX8) (N := 11) (ci := 6) hx hb hts inX8_day_X8 hown w (by have := E.1; omega) E.2.1 rfl 2 (by decide) (hts (Cond.fieldLink RX8 23 "EarlyValues" "trial" "LEarlyValues$Program;") (List.mem_of_getElem? (i := 1) (by decide +kernel))) rfl rfl dX8_day_72 ?_
          refine lv_lload hx hb dX8_day_75 (lv_at hl 0 rfl) ?_
          refine lv_lload hx hb dX8_day_77 (lv_at hl 0 rfl) ?_
          refine lv_lmul hx hb dX8_day_79 ?_
          refine lv_topl (fun y14 ey14 => ?_)
          have ty14 : y14.toInt = ((((((7919 * z) + (6151 * k)) + 1) * (((7919 * z) + (6151 * k)) + 1)) : Nat) : Int) := l_mul ey14 ty13 ty13 (Nat.le_trans hxx_ (by decide))
          refine lv_ldc2 (v := 65521) hx hb hown (hts (Cond.constantLong RX8 206 (65521)) (List.mem_of_getElem? (i := 5) (by decide +kernel))) dX8_day_80 ?_
          refine lv_topl (fun y15 ey15 => ?_)
          have ty15 : y15.toInt = ((65521 : Nat) : Int) := l_of (ey15.trans (by decide)) (by decide)
          refine lv_lrem hx hb dX8_day_83 (l_nz ty15 (by decide)) ?_
          refine lv_topl (fun y16 ey16 => ?_)
          have ty16 : y16.toInt = (((((((7919 * z) + (6151 * k)) + 1) * (((7919 * z) + (6151 * k)) + 1)) % 65521) : Nat) : Int) := l_rem ey16 ty14 ty15 (by omega)
          obtain ⟨y17, ey17⟩ : ∃ y_ : Int32, y16.toInt32 = y_ := ⟨_, rfl⟩
          refine lv_l2i (v := y17) hx hb dX8_day_84 ey17 ?_
          have ty17 : y17.toInt = (((((((7919 * z) + (6151 * k)) + 1) * (((7919 * z) + (6151 * k)) + 1)) % 65521) : Nat) : Int) := l_l2i ey17 ty16 (by omega)
          refine r_callV w (va_runV (As := [.int y17]) (rest := []) ⟨hx, hb, hml, hown, hts⟩ (c_X3_turnLetter l Pr Str hPM y17 (d := dDraw z k) ty17) (cwV 1 hts gX8_day_X3_turnLetter rfl rfl rfl (by decide +kernel) ⟨Nat.le_of_ble_eq_true rfl, Nat.le_of_ble_eq_true rfl⟩) (r_preV w (by have := Pr.1; omega) Pr.c0 rfl) rfl rfl hl.1 rfl (lv_room (Nat.le_of_ble_eq_true rfl)) dX8_day_85 ⟨Nat.zero_le _, Nat.zero_le _⟩) (fun h18 H locs hp w => ?_)
          obtain ⟨hfk19, gbk19, kk19, hNk19, Pr, S2k19⟩ := hp
          have E := E.fr (h' := h18) (fun k_ h1_ h2_ h3_ => hfk19 k_ (by omega))
          have P := P.fr (h' := h18) (fun k_ h1_ h2_ => hfk19 k_ (by omega))
          have V4 := V4.fr (h' := h18) (fun k_ h1_ h2_ => hfk19 k_ (by omega))
          have hfr : ∀ k_, ¬ ((x + 21 ≤ k_ ∧ k_ < x + 30) ∨ ((x + 125) ≤ k_ ∧ k_ < (x + 125) + 18)) → h18 k_ = h k_ := fun k_ hk_ => (hfk19 k_ (by omega)).trans (hfr k_ hk_)
          obtain ⟨y20, ey20⟩ : ∃ y : Int32, y = x4 + (1) := ⟨_, rfl⟩
          have ty20 : y20.toInt = (((k + 1) : Nat) : Int) := i_addN ey20 hx4 (by decide : (1 : Int32).toInt = ((1 : Nat) : Int)) (by omega)
          refine lv_iinc (v := y20) (lv' := [(4, .int y20), (5, .long y13), (0, .ref (g.2.2.1 x)), (1, .int p0), (2, .int p1), (3, .int p2)]) hx hb dX8_day_88 hl (k := 5) rfl (by rw [ey20]; rfl) (by decide) rfl (fun ls hl => ?_)
          refine lv_goto (tgt := 47) hx hb dX8_day_91 (by decide) ?_
          exact ih47 (k + 1) ((mSet M1 (dDraw z k % pN M1) (dDraw z k / 8 % pL M1 (dDraw z k % pN M1)) kk19)) y20 ra1 rk1 rl1 gbk19 h18 _ _ _ w (lv_sub hl [2, 3, 4, 5, 0] rfl) hz0 hn0 hz9 hn9 (by omega) ty20 (⟨M1, kk19, hdr, hNk19, rfl⟩) (hNk19.ok hPM) S2k19 E P Pr (⟨_, _, _, _, _, _, _, _, _, _, _, V4⟩) hfr (by omega)
      · intro M1 K f x5 x6 ra1 rk1 rl1 rb1 hc H locs ls w hl hz0 hn0 hz9 hn9 hdr hPM hK hfl hx5 hx6 Str E P Pr W4 hfr hN_
        obtain ⟨kk4, kc4, tk4, fz4, dp4, gp4, gg4, gs4, gd4, gt4, gc4, V4, hT⟩ := W4
        have hNv4 := V4.hN
        have hNe := E.1
        have hn4_ := hPM.2.1
        have hn1_ := hPM.1
        refine lv_iload hx hb dX8_day_126 (lv_at hl 6 rfl) ?_
        refine lv_aload_n hx hb dX8_day_128 rfl (lv_at hl 0 rfl) ?_
        refine r_get (C := RX8) (T := TX8) (N := 11) (ci := 6) hx hb hts inX8_day_X8 hown w (by have := E.1; omega) E.2.1 rfl 2 (by decide) (hts (Cond.fieldLink RX8 23 "EarlyValues" "trial" "LEarlyValues$Program;") (List.mem_of_getElem? (i := 1) (by decide +kernel))) rfl rfl dX8_day_129 ?_
        refine r_get (C := RX3) (T := TX3) (N := 5) (ci := 2) hx hb hts inX8_day_X3 hown w (by have := Pr.1; omega) Pr.c0 rfl 0 (by decide) (hts (Cond.fieldLink RX8 108 "EarlyValues$Program" "functions" "I") (List.mem_of_getElem? (i := 8) (by decide +kernel))) rfl rfl dX8_day_132 ?_
        refine lv_icmp_ge (tgt := 182) hx hb dX8_day_135 (by decide) (fun c21 => ?_) (fun c21 => ?_)
        · have c21 : (((pN M1) : Nat) : Int) ≤ ((f : Nat) : Int) := (i_le Str.1 hx6).mp c21
          refine lv_iload hx hb dX8_day_182 (lv_at hl 5 rfl) ?_
          refine r_iret (v := x5) hx hb hr hlocks w dX8_day_184 ?_
          have hd_ := dayN_fin (w := 0) (u := u4) hPM (by omega) (by rw [hu4]; rfl) hK (hx5.trans (by rw [show f = pN M1 by omega]))
          subst hu4
          exact ⟨(fun k_ hk_ => hfr k_ (by omega)), ⟨hSV0, ⟨_, E, hkn⟩, (T0.fr (fun k_ a_ b_ => hfr k_ (by omega))), (Q1.fr (fun k_ a_ b_ => hfr k_ (by omega))), ⟨_, _, _, _, _, P, S⟩, ⟨_, _, _, _, _, Pr⟩, (fun i_ hi_ => (Q3 i_ hi_).fr (fun k_ a_ b_ => hfr k_ (by omega))), (fun i_ (hi_ : i_ < sV st0) => (Q4 i_ hi_).fr (fun k_ a_ b_ => hfr k_ (by omega))), (H0_.fr (fun k_ a_ b_ => hfr k_ (by omega))), (W0.fr (fun k_ a_ b_ => hfr k_ (by omega))), (W1.fr (fun k_ a_ b_ => hfr k_ (by omega))), (W2.fr (fun k_ a_ b_ => hfr k_ (by omega))), (W3.fr (fun k_ a_ b_ => hfr k_ (by omega))), ⟨_, _, _, _, _, _, _, _, _, _, _, V4⟩⟩, Or.inl ⟨z, nn, 0, M1, hz0, hn0, by omega, hz9, hn9.1, hn9.2, by omega, hdr, hd_⟩⟩
        · have c21 : ¬ ((((pN M1) : Nat) : Int) ≤ ((f : Nat) : Int)) := fun q => c21 ((i_le Str.1 hx6).mpr q)
          have hf : f < pN M1 := by omega
          have hsm_ := sm_ub (f := dOne M1 K 0) (c := 125) f (fun j_ hj_ => dOne_le hPM (by omega))
          refine lv_iload hx hb dX8_day_138 (lv_at hl 5 rfl) ?_
          refine lv_iload_n hx hb dX8_day_140 rfl (lv_at hl 3 rfl) ?_
          refine lv_iconst (v := 2) hx hb dX8_day_141 (by decide) ?_
          refine lv_icmp_ne (tgt := 159) hx hb dX8_day_142 (by decide) (fun c22 => ?_) (fun c22 => ?_)
          · have c22 : ¬ (p2.toInt = ((2 : Nat) : Int)) := fun q => c22 ((i_eq (rfl : p2.toInt = p2.toInt) (by decide : (2 : Int32).toInt = ((2 : Nat) : Int))).mpr q)
            refine lv_aload hx hb dX8_day_159 (lv_at hl 4 rfl) ?_
            refine lv_aload_n hx hb dX8_day_161 rfl (lv_at hl 0 rfl) ?_
            refine r_get (C := RX8) (T := TX8) (N := 11) (ci := 6) hx hb hts inX8_day_X8 hown w (by have := E.1; omega) E.2.1 rfl 2 (by decide) (hts (Cond.fieldLink RX8 23 "EarlyValues" "trial" "LEarlyValues$Program;") (List.mem_of_getElem? (i := 1) (by decide +kernel))) rfl rfl dX8_day_162 ?_
            refine lv_iload hx hb dX8_day_165 (lv_at hl 6 rfl) ?_
            refine r_callI w (va_3 V4.hu (fun q_ => va_runU (As := [.ref (g.2.2.1 (x + 21)), .int x6]) (rest := [.int x5]) ⟨hx, hb, hml, hown, hts⟩ (c_X7_strictBits l V4 Pr Str hPM hT x6 hx6 hf) (va_cwU 2 hts gX8_day_X7_strictBits_u184X6 rfl rfl rfl rfl (by decide +kernel) ⟨Nat.le_of_ble_eq_true rfl, Nat.le_of_ble_eq_true rfl⟩) (r_preV w (by have := V4.hN; omega) (V4.ob (by subst q_; rfl)) rfl) rfl rfl hl.1 rfl (lv_room (Nat.le_of_ble_eq_true rfl)) dX8_day_167 ⟨Nat.zero_le _, Nat.zero_le _⟩) (fun q_ => va_runU (As := [.ref (g.2.2.1 (x + 21)), .int x6]) (rest := [.int x5]) ⟨hx, hb, hml, hown, hts⟩ (c_X7_strictBits l V4 Pr Str hPM hT x6 hx6 hf) (va_cwU 2 hts gX8_day_X7_strictBits_u184X4 rfl rfl rfl rfl (by decide +kernel) ⟨Nat.le_of_ble_eq_true rfl, Nat.le_of_ble_eq_true rfl⟩) (r_preV w (by have := V4.hN; omega) (V4.ob (by subst q_; rfl)) rfl) rfl rfl hl.1 rfl (lv_room (Nat.le_of_ble_eq_true rfl)) dX8_day_167 ⟨Nat.zero_le _, Nat.zero_le _⟩) (fun q_ => va_runU (As := [.ref (g.2.2.1 (x + 21)), .int x6]) (rest := [.int x5]) ⟨hx, hb, hml, hown, hts⟩ (c_X7_strictBits l V4 Pr Str hPM hT x6 hx6 hf) (va_cwU 2 hts gX8_day_X7_strictBits_u184X0 rfl rfl rfl rfl (by decide +kernel) ⟨Nat.le_of_ble_eq_true rfl, Nat.le_of_ble_eq_true rfl⟩) (r_preV w (by have := V4.hN; omega) (V4.ob (by subst q_; rfl)) rfl) rfl rfl hl.1 rfl (lv_room (Nat.le_of_ble_eq_true rfl)) dX8_day_167 ⟨Nat.zero_le _, Nat.zero_le _⟩)) (fun r24 h23 H locs hp w => ?_)
            obtain ⟨eh_, qq25⟩ := hp
            have eh_ := eh_.symm
            subst eh_
            refine r_callI w (va_runS (As := [.int r24]) (rest := [.int x5]) ⟨hx, hb, hml, hown, hts⟩ (c_J6_bitCount_0f7a4 l r24 qq25 (mB3_le (u := 0) _ _ (hPM.2.2 f hf).1)) (va_cwS 1 hts gX8_day_J6_bitCount_0f7a4 rfl rfl rfl (by decide +kernel) ⟨Nat.le_of_ble_eq_true rfl, Nat.le_of_ble_eq_true rfl⟩) (r_preS w) rfl rfl hl.1 rfl (lv_room (Nat.le_of_ble_eq_true rfl)) dX8_day_170 ⟨Nat.zero_le _, Nat.zero_le _⟩) (fun r27 h26 H locs hp w => ?_)
            obtain ⟨eh_, qq28⟩ := hp
            have eh_ := eh_.symm
            subst eh_
            have hpo_ := pop_le (mBits (mStrict u4 M1 (mTab u4 M1 K) f) (pA M1 f))
            refine lv_iadd hx hb dX8_day_173 ?_
            refine lv_topi (fun y29 ey29 => ?_)
            have ty29 : y29.toInt = ((((sm (dOne M1 K 0) f) + (pop (mBits (mStrict u4 M1 (mTab u4 M1 K) f) (pA M1 f)))) : Nat) : Int) := i_addN ey29 hx5 qq28 (by omega)
            refine lv_istore (lv' := [(5, .int y29), (0, .ref (g.2.2.1 x)), (1, .int p0), (2, .int p1), (3, .int p2), (4, .ref (g.2.2.1 (x + 125))), (6, .int x6)]) hx hb dX8_day_174 hl (by decide) rfl (fun ls hl => ?_)
            obtain ⟨y30, ey30⟩ : ∃ y : Int32, y = x6 + (1) := ⟨_, rfl⟩
            have ty30 : y30.toInt = (((f + 1) : Nat) : Int) := i_addN ey30 hx6 (by decide : (1 : Int32).toInt = ((1 : Nat) : Int)) (by omega)
            refine lv_iinc (v := y30) (lv' := [(6, .int y30), (5, .int y29), (0, .ref (g.2.2.1 x)), (1, .int p0), (2, .int p1), (3, .int p2), (4, .ref (g.2.2.1 (x + 125)))]) hx hb dX8_day_176 hl (k := 6) rfl (by rw [ey30]; rfl) (by decide) rfl (fun ls hl => ?_)
            refine lv_goto (tgt := 126) hx hb dX8_day_179 (by decide) ?_
            exact ih126 M1 K (f + 1) y29 y30 ra1 rk1 rl1 rb1 hc _ _ _ w (lv_sub hl [2, 3, 4, 5, 6, 1, 0] rfl) hz0 hn0 hz9 hn9 hdr hPM hK (by omega) (ty29.trans (by rw [sm_succ, dOne_w (by omega) (by rw [hu4]; rfl) hK])) ty30 Str E P Pr (⟨_, _, _, _, _, _, _, _, _, _, _, V4, hT⟩) hfr (by omega)
          · have c22 : p2.toInt = ((2 : Nat) : Int) := (i_eq (rfl : p2.toInt = p2.toInt) (by decide : (2 : Int32).toInt = ((2 : Nat) : Int))).mp c22
            exfalso; omega
  have cut0 := cuts (60)
  obtain ⟨ih47, ih126⟩ := cut0
  refine lv_iload_n hx hb dX8_day_0 rfl (lv_at hl 1 rfl) ?_
  refine lv_if_lt (tgt := 31) hx hb dX8_day_1 (by decide) (fun c31 => ?_) (fun c31 => ?_)
  · have c31 : p0.toInt < (0 : Int) := (i_lt (rfl : p0.toInt = p0.toInt) (rfl : (0 : Int32).toInt = 0)).mp c31
    refine lv_iconst (v := (-1)) hx hb dX8_day_31 (by decide) ?_
    refine r_iret (v := (-1)) hx hb hr hlocks w dX8_day_32 ?_
    subst hu4
    exact ⟨(fun k_ hk_ => hfr k_ (by omega)), ⟨hSV0, ⟨_, E, hkn⟩, (T0.fr (fun k_ a_ b_ => hfr k_ (by omega))), (Q1.fr (fun k_ a_ b_ => hfr k_ (by omega))), ⟨_, _, _, _, _, P, S⟩, ⟨_, _, _, _, _, Pr⟩, (fun i_ hi_ => (Q3 i_ hi_).fr (fun k_ a_ b_ => hfr k_ (by omega))), (fun i_ (hi_ : i_ < sV st0) => (Q4 i_ hi_).fr (fun k_ a_ b_ => hfr k_ (by omega))), (H0_.fr (fun k_ a_ b_ => hfr k_ (by omega))), (W0.fr (fun k_ a_ b_ => hfr k_ (by omega))), (W1.fr (fun k_ a_ b_ => hfr k_ (by omega))), (W2.fr (fun k_ a_ b_ => hfr k_ (by omega))), (W3.fr (fun k_ a_ b_ => hfr k_ (by omega))), ⟨_, _, _, _, _, _, _, _, _, _, _, V4⟩⟩, Or.inr ⟨by omega, rfl⟩⟩
  · have c31 : ¬ (p0.toInt < (0 : Int)) := fun q => c31 ((i_lt (rfl : p0.toInt = p0.toInt) (rfl : (0 : Int32).toInt = 0)).mpr q)
    refine lv_iload_n hx hb dX8_day_4 rfl (lv_at hl 1 rfl) ?_
    refine lv_sipush (v := 9999) hx hb dX8_day_5 (by decide) ?_
    refine lv_icmp_gt (tgt := 31) hx hb dX8_day_8 (by decide) (fun c32 => ?_) (fun c32 => ?_)
    · have c32 : ((9999 : Nat) : Int) < p0.toInt := (i_lt (by decide : (9999 : Int32).toInt = ((9999 : Nat) : Int)) (rfl : p0.toInt = p0.toInt)).mp c32
      refine lv_iconst (v := (-1)) hx hb dX8_day_31 (by decide) ?_
      refine r_iret (v := (-1)) hx hb hr hlocks w dX8_day_32 ?_
      subst hu4
      exact ⟨(fun k_ hk_ => hfr k_ (by omega)), ⟨hSV0, ⟨_, E, hkn⟩, (T0.fr (fun k_ a_ b_ => hfr k_ (by omega))), (Q1.fr (fun k_ a_ b_ => hfr k_ (by omega))), ⟨_, _, _, _, _, P, S⟩, ⟨_, _, _, _, _, Pr⟩, (fun i_ hi_ => (Q3 i_ hi_).fr (fun k_ a_ b_ => hfr k_ (by omega))), (fun i_ (hi_ : i_ < sV st0) => (Q4 i_ hi_).fr (fun k_ a_ b_ => hfr k_ (by omega))), (H0_.fr (fun k_ a_ b_ => hfr k_ (by omega))), (W0.fr (fun k_ a_ b_ => hfr k_ (by omega))), (W1.fr (fun k_ a_ b_ => hfr k_ (by omega))), (W2.fr (fun k_ a_ b_ => hfr k_ (by omega))), (W3.fr (fun k_ a_ b_ => hfr k_ (by omega))), ⟨_, _, _, _, _, _, _, _, _, _, _, V4⟩⟩, Or.inr ⟨by omega, rfl⟩⟩
    · have c32 : ¬ (((9999 : Nat) : Int) < p0.toInt) := fun q => c32 ((i_lt (by decide : (9999 : Int32).toInt = ((9999 : Nat) : Int)) (rfl : p0.toInt = p0.toInt)).mpr q)
      have hz0 : p0.toInt = ((z : Nat) : Int) := by omega
      have hz9 : z ≤ 9999 := by omega
      refine lv_iload_n hx hb dX8_day_11 rfl (lv_at hl 2 rfl) ?_
      refine lv_iconst (v := 1) hx hb dX8_day_12 (by decide) ?_
      refine lv_icmp_lt (tgt := 31) hx hb dX8_day_13 (by decide) (fun c33 => ?_) (fun c33 => ?_)
      · have c33 : p1.toInt < ((1 : Nat) : Int) := (i_lt (rfl : p1.toInt = p1.toInt) (by decide : (1 : Int32).toInt = ((1 : Nat) : Int))).mp c33
        refine lv_iconst (v := (-1)) hx hb dX8_day_31 (by decide) ?_
        refine r_iret (v := (-1)) hx hb hr hlocks w dX8_day_32 ?_
        subst hu4
        exact ⟨(fun k_ hk_ => hfr k_ (by omega)), ⟨hSV0, ⟨_, E, hkn⟩, (T0.fr (fun k_ a_ b_ => hfr k_ (by omega))), (Q1.fr (fun k_ a_ b_ => hfr k_ (by omega))), ⟨_, _, _, _, _, P, S⟩, ⟨_, _, _, _, _, Pr⟩, (fun i_ hi_ => (Q3 i_ hi_).fr (fun k_ a_ b_ => hfr k_ (by omega))), (fun i_ (hi_ : i_ < sV st0) => (Q4 i_ hi_).fr (fun k_ a_ b_ => hfr k_ (by omega))), (H0_.fr (fun k_ a_ b_ => hfr k_ (by omega))), (W0.fr (fun k_ a_ b_ => hfr k_ (by omega))), (W1.fr (fun k_ a_ b_ => hfr k_ (by omega))), (W2.fr (fun k_ a_ b_ => hfr k_ (by omega))), (W3.fr (fun k_ a_ b_ => hfr k_ (by omega))), ⟨_, _, _, _, _, _, _, _, _, _, _, V4⟩⟩, Or.inr ⟨by omega, rfl⟩⟩
      · have c33 : ¬ (p1.toInt < ((1 : Nat) : Int)) := fun q => c33 ((i_lt (rfl : p1.toInt = p1.toInt) (by decide : (1 : Int32).toInt = ((1 : Nat) : Int))).mpr q)
        refine lv_iload_n hx hb dX8_day_16 rfl (lv_at hl 2 rfl) ?_
        refine lv_bipush (v := 20) hx hb dX8_day_17 (by decide) ?_
        refine lv_icmp_gt (tgt := 31) hx hb dX8_day_19 (by decide) (fun c34 => ?_) (fun c34 => ?_)
        · have c34 : ((20 : Nat) : Int) < p1.toInt := (i_lt (by decide : (20 : Int32).toInt = ((20 : Nat) : Int)) (rfl : p1.toInt = p1.toInt)).mp c34
          refine lv_iconst (v := (-1)) hx hb dX8_day_31 (by decide) ?_
          refine r_iret (v := (-1)) hx hb hr hlocks w dX8_day_32 ?_
          subst hu4
          exact ⟨(fun k_ hk_ => hfr k_ (by omega)), ⟨hSV0, ⟨_, E, hkn⟩, (T0.fr (fun k_ a_ b_ => hfr k_ (by omega))), (Q1.fr (fun k_ a_ b_ => hfr k_ (by omega))), ⟨_, _, _, _, _, P, S⟩, ⟨_, _, _, _, _, Pr⟩, (fun i_ hi_ => (Q3 i_ hi_).fr (fun k_ a_ b_ => hfr k_ (by omega))), (fun i_ (hi_ : i_ < sV st0) => (Q4 i_ hi_).fr (fun k_ a_ b_ => hfr k_ (by omega))), (H0_.fr (fun k_ a_ b_ => hfr k_ (by omega))), (W0.fr (fun k_ a_ b_ => hfr k_ (by omega))), (W1.fr (fun k_ a_ b_ => hfr k_ (by omega))), (W2.fr (fun k_ a_ b_ => hfr k_ (by omega))), (W3.fr (fun k_ a_ b_ => hfr k_ (by omega))), ⟨_, _, _, _, _, _, _, _, _, _, _, V4⟩⟩, Or.inr ⟨by omega, rfl⟩⟩
        · have c34 : ¬ (((20 : Nat) : Int) < p1.toInt) := fun q => c34 ((i_lt (by decide : (20 : Int32).toInt = ((20 : Nat) : Int)) (rfl : p1.toInt = p1.toInt)).mpr q)
          have hn0 : p1.toInt = ((nn : Nat) : Int) := by omega
          have hn9 : 1 ≤ nn ∧ nn ≤ 20 := by omega
          refine lv_iload_n hx hb dX8_day_22 rfl (lv_at hl 3 rfl) ?_
          refine lv_if_lt (tgt := 31) hx hb dX8_day_23 (by decide) (fun c35 => ?_) (fun c35 => ?_)
          · have c35 : p2.toInt < (0 : Int) := (i_lt (rfl : p2.toInt = p2.toInt) (rfl : (0 : Int32).toInt = 0)).mp c35
            exfalso; omega
          · have c35 : ¬ (p2.toInt < (0 : Int)) := fun q => c35 ((i_lt (rfl : p2.toInt = p2.toInt) (rfl : (0 : Int32).toInt = 0)).mpr q)
            refine lv_iload_n hx hb dX8_day_26 rfl (lv_at hl 3 rfl) ?_
            refine lv_iconst (v := 2) hx hb dX8_day_27 (by decide) ?_
            refine lv_icmp_le (tgt := 33) hx hb dX8_day_28 (by decide) (fun c36 => ?_) (fun c36 => ?_)
            · have c36 : p2.toInt ≤ ((2 : Nat) : Int) := (i_le (rfl : p2.toInt = p2.toInt) (by decide : (2 : Int32).toInt = ((2 : Nat) : Int))).mp c36
              refine lv_aload_n hx hb dX8_day_33 rfl (lv_at hl 0 rfl) ?_
              refine r_get (C := RX8) (T := TX8) (N := 11) (ci := 6) hx hb hts inX8_day_X8 hown w (by have := E.1; omega) E.2.1 rfl 2 (by decide) (hts (Cond.fieldLink RX8 23 "EarlyValues" "trial" "LEarlyValues$Program;") (List.mem_of_getElem? (i := 1) (by decide +kernel))) rfl rfl dX8_day_34 ?_
              refine lv_aload_n hx hb dX8_day_37 rfl (lv_at hl 0 rfl) ?_
              refine r_get (C := RX8) (T := TX8) (N := 11) (ci := 6) hx hb hts inX8_day_X8 hown w (by have := E.1; omega) E.2.1 rfl 1 (by decide) (hts (Cond.fieldLink RX8 19 "EarlyValues" "now" "LEarlyValues$Program;") (List.mem_of_getElem? (i := 2) (by decide +kernel))) rfl rfl dX8_day_38 ?_
              refine r_callV w (va_runV (As := [.ref (g.2.2.1 (x + 12))]) (rest := []) ⟨hx, hb, hml, hown, hts⟩ (c_X3_takeFrom l Pr P (by omega)) (cwV 1 hts gX8_day_X3_takeFrom rfl rfl rfl (by decide +kernel) ⟨Nat.le_of_ble_eq_true rfl, Nat.le_of_ble_eq_true rfl⟩) (r_preV w (by have := Pr.1; omega) Pr.c0 rfl) rfl rfl hl.1 rfl (lv_room (Nat.le_of_ble_eq_true rfl)) dX8_day_41 ⟨Nat.zero_le _, Nat.zero_le _⟩) (fun h37 H locs hp w => ?_)
              obtain ⟨hfk38, gak38, gkk38, glk38, gbk38, Pr, hcpk38⟩ := hp
              have E := E.fr (h' := h37) (fun k_ h1_ h2_ h3_ => hfk38 k_ (by omega))
              have P := P.fr (h' := h37) (fun k_ h1_ h2_ => hfk38 k_ (by omega))
              have V4 := V4.fr (h' := h37) (fun k_ h1_ h2_ => hfk38 k_ (by omega))
              have hfr : ∀ k_, ¬ ((x + 21 ≤ k_ ∧ k_ < x + 30) ∨ ((x + 125) ≤ k_ ∧ k_ < (x + 125) + 18)) → h37 k_ = h k_ := fun k_ hk_ => (hfk38 k_ (by omega))
              refine lv_iconst (v := 0) hx hb dX8_day_44 (by decide) ?_
              refine lv_istore (lv' := [(4, .int 0), (0, .ref (g.2.2.1 x)), (1, .int p0), (2, .int p1), (3, .int p2)]) hx hb dX8_day_45 hl (by decide) rfl (fun ls hl => ?_)
              exact ih47 0 ((sM st0)) 0 gak38 gkk38 glk38 gbk38 h37 _ _ _ w (lv_sub hl [1, 2, 3, 4, 0] rfl) hz0 hn0 hz9 hn9 (by omega) ((by decide : (0 : Int32).toInt = ((0 : Nat) : Int))) rfl hP ((S.cp hP hcpk38)) E P Pr (⟨_, _, _, _, _, _, _, _, _, _, _, V4⟩) hfr (by omega)
            · have c36 : ¬ (p2.toInt ≤ ((2 : Nat) : Int)) := fun q => c36 ((i_le (rfl : p2.toInt = p2.toInt) (by decide : (2 : Int32).toInt = ((2 : Nat) : Int))).mpr q)
              exfalso; omega

set_option maxHeartbeats 4000000 in
set_option maxRecDepth 100000 in
theorem c_X8_day_1 (l : Launch) {g : GE} {h : Nat → va_E} {x : Nat} {st0 : ST} (C : ClsA g h x st0) (p0 : Int32) (p1 : Int32) (p2 : Int32) (hw : p2.toInt = 1) : MI l yX8_day wsX8_day rm_X8_day [.ref (g.2.2.1 x), .int p0, .int p1, .int p2] g h (fun r_ h2 => (∀ k, ¬ (x ≤ k ∧ k < x + 143) → h2 k = h k) ∧ ClsA g h2 x st0 ∧ AnDay st0 p0 p1 p2 r_) := by
  refine Met.ofW (cc := cX8_day) (maxL := 7) (ret := (some .int)) (by decide) rfl ?_
  intro p e s m args below meth c s₁ B hml hv
  obtain ⟨rfl, w0⟩ := hv
  have hx := B.exec
  have hb := B.bytes
  have hr := B.returns
  have hts := atoms_spec (ws := wsX8_day) B.pre
  have hown : s.vm.findClass RX8 = some m.cls := findClass_of_methodNamed B.named
  have hlocks := B.notSynchronized
  have w := w0.start
  clear w0
  have hl := lv_entry ([.ref (g.2.2.1 x), .int p0, .int p1, .int p2]) (n := 7) (Nat.le_of_ble_eq_true rfl)
  rw [lg_entry_eq]
  generalize (lg_sl ([.ref (g.2.2.1 x), .int p0, .int p1, .int p2]) ++ List.replicate (7 - (lg_sl ([.ref (g.2.2.1 x), .int p0, .int p1, .int p2])).length) Slot.unset).toArray = ls at hl ⊢
  have hl : lv_has ls 7 [(0, .ref (g.2.2.1 x)), (1, .int p0), (2, .int p1), (3, .int p2)] := hl
  obtain ⟨hSV, ⟨kn, E, hkn⟩, T0, Q1, P0, Q2, Q3, Q4, H0_, W0, W1, W2, W3, W4⟩ := C
  have hSV0 := hSV
  obtain ⟨hP, hu8, hUP, hv2, hVP, hl200, hlt⟩ := hSV
  have hn4 := hP.2.1
  have hNe := E.1
  obtain ⟨n, ga, gk, gl, gb, P, S⟩ := P0
  have hnS := S.1
  obtain ⟨rn, ra, rk, rl, rb, Pr⟩ := Q2
  obtain ⟨u3, hu3, W3⟩ : ∃ u_ : Nat, u_ = 0 ∧ VwX g h (x + 107) u_ := ⟨_, rfl, W3⟩
  obtain ⟨kk3, kc3, tk3, fz3, dp3, gp3, gg3, gs3, gd3, gt3, gc3, V3⟩ := W3
  have hNv3 := V3.hN
  obtain ⟨z, hzd⟩ : ∃ f_ : Nat, f_ = p0.toInt.toNat := ⟨_, rfl⟩
  obtain ⟨nn, hnd⟩ : ∃ f_ : Nat, f_ = p1.toInt.toNat := ⟨_, rfl⟩
  have hfr : ∀ k_, ¬ ((x + 21 ≤ k_ ∧ k_ < x + 30) ∨ ((x + 107) ≤ k_ ∧ k_ < (x + 107) + 18)) → h k_ = h k_ := fun _ _ => rfl
  have cuts : ∀ N : Nat, (∀ (k : Nat) (M1 : PRG) (x4 : Int32) (ra1 : Nat → Int32) (rk1 : Nat → Int32) (rl1 : Nat → Int32) (rb1 : Nat → Nat → Int32) (hc : Nat → va_E) (H : Heap) (locs : List Loc) (ls : Array Slot), WD g (inW g) s hc H locs → lv_has ls 7 [(0, .ref (g.2.2.1 x)), (1, .int p0), (2, .int p1), (3, .int p2), (4, .int x4)] → (p0.toInt = ((z : Nat) : Int)) → (p1.toInt = ((nn : Nat) : Int)) → (z ≤ 9999) → (1 ≤ nn ∧ nn ≤ 20) → (k ≤ nn) → (x4.toInt = ((k : Nat) : Int)) → (DayR (sM st0) z k M1) → (PV M1) → (PrS M1 n ra1 rk1 rl1 rb1) → (EvA g hc x kn) → (PrA g hc (x + 12) n ga gk gl gb) → (PrA g hc (x + 21) n ra1 rk1 rl1 rb1) → (VwX g hc (x + 107) u3) → (∀ k, ¬ ((x + 21 ≤ k ∧ k < x + 30) ∨ ((x + 107) ≤ k ∧ k < (x + 107) + 18)) → hc k = h k) → 30 - k + 10 < N → W p l e (headSpec wsX8_day rm_X8_day).room s m ([.ref (g.2.2.1 x), .int p0, .int p1, .int p2] : List Value).toArray below meth c H locs 0 0 (MQ below (va_Qi (fun r_ h2 => (∀ k, ¬ (x ≤ k ∧ k < x + 143) → h2 k = h k) ∧ ClsA g h2 x st0 ∧ AnDay st0 p0 p1 p2 r_) (Wd g) (inW g)) ([.ref (g.2.2.1 x), .int p0, .int p1, .int p2] : List Value).toArray s 0 0 (inW g)) (F0 m 47 ls [])) ∧ (∀ (M1 : PRG) (K : Nat) (f : Nat) (x5 : Int32) (x6 : Int32) (ra1 : Nat → Int32) (rk1 : Nat → Int32) (rl1 : Nat → Int32) (rb1 : Nat → Nat → Int32) (hc : Nat → va_E) (H : Heap) (locs : List Loc) (ls : Array Slot), WD g (inW g) s hc H locs → lv_has ls 7 [(0, .ref (g.2.2.1 x)), (1, .int p0), (2, .int p1), (3, .int p2), (4, .ref (g.2.2.1 (x + 107))), (5, .int x5), (6, .int x6)] → (p0.toInt = ((z : Nat) : Int)) → (p1.toInt = ((nn : Nat) : Int)) → (z ≤ 9999) → (1 ≤ nn ∧ nn ≤ 20) → (DayR (sM st0) z nn M1) → (PV M1) → (IsK u3 M1 K) → (f ≤ pN M1) → (x5.toInt = ((sm (dOne M1 K 1) f : Nat) : Int)) → (x6.toInt = ((f : Nat) : Int)) → (PrS M1 n ra1 rk1 rl1 rb1) → (EvA g hc x kn) → (PrA g hc (x + 12) n ga gk gl gb) → (PrA g hc (x + 21) n ra1 rk1 rl1 rb1) → (∃ (kk kc : Nat) (tk fz dp : Int32) (gp gg gs : Nat → Int32) (gd gt gc : Nat → Nat → Int32), VwA g hc (x + 107) u3 kk kc tk fz dp gp gg gs gd gt gc ∧ TbS u3 M1 gt (mTab u3 M1 K)) → (∀ k, ¬ ((x + 21 ≤ k ∧ k < x + 30) ∨ ((x + 107) ≤ k ∧ k < (x + 107) + 18)) → hc k = h k) → 6 - f < N → W p l e (headSpec wsX8_day rm_X8_day).room s m ([.ref (g.2.2.1 x), .int p0, .int p1, .int p2] : List Value).toArray below meth c H locs 0 0 (MQ below (va_Qi (fun r_ h2 => (∀ k, ¬ (x ≤ k ∧ k < x + 143) → h2 k = h k) ∧ ClsA g h2 x st0 ∧ AnDay st0 p0 p1 p2 r_) (Wd g) (inW g)) ([.ref (g.2.2.1 x), .int p0, .int p1, .int p2] : List Value).toArray s 0 0 (inW g)) (F0 m 126 ls [])) := by
    intro N
    induction N with
    | zero => exact ⟨by intros; omega, by intros; omega⟩
    | succ N ih =>
      obtain ⟨ih47, ih126⟩ := ih
      refine ⟨?_, ?_⟩
      · intro k M1 x4 ra1 rk1 rl1 rb1 hc H locs ls w hl hz0 hn0 hz9 hn9 hk hx4 hdr hPM Str E P Pr W3 hfr hN_
        obtain ⟨kk3, kc3, tk3, fz3, dp3, gp3, gg3, gs3, gd3, gt3, gc3, V3⟩ := W3
        have hNv3 := V3.hN
        have hNe := E.1
        have hn4_ := hPM.2.1
        have hn1_ := hPM.1
        refine lv_iload hx hb dX8_day_47 (lv_at hl 4 rfl) ?_
        refine lv_iload_n hx hb dX8_day_49 rfl (lv_at hl 2 rfl) ?_
        refine lv_icmp_ge (tgt := 94) hx hb dX8_day_50 (by decide) (fun c1 => ?_) (fun c1 => ?_)
        · have c1 : ((nn : Nat) : Int) ≤ ((k : Nat) : Int) := (i_le hn0 hx4).mp c1
          refine lv_iload_n hx hb dX8_day_94 rfl (lv_at hl 3 rfl) ?_
          refine lv_if_ne (tgt := 105) hx hb dX8_day_95 (by decide) (fun c2 => ?_) (fun c2 => ?_)
          · have c2 : ¬ (p2.toInt = (0 : Int)) := fun q => c2 ((i_eq (rfl : p2.toInt = p2.toInt) (rfl : (0 : Int32).toInt = 0)).mpr q)
            refine lv_aload_n hx hb dX8_day_105 rfl (lv_at hl 0 rfl) ?_
            refine r_get (C := RX8) (T := TX8) (N := 11) (ci := 6) hx hb hts inX8_day_X8 hown w (by have := E.1; omega) E.2.1 rfl 9 (by decide) (hts (Cond.fieldLink RX8 56 "EarlyValues" "trialValues" "LEarlyValues$View;") (List.mem_of_getElem? (i := 7) (by decide +kernel))) rfl rfl dX8_day_106 ?_
            refine lv_astore (lv' := [(4, .ref (g.2.2.1 (x + 107))), (0, .ref (g.2.2.1 x)), (1, .int p0), (2, .int p1), (3, .int p2)]) hx hb dX8_day_109 hl (by decide) rfl (fun ls hl => ?_)
            refine lv_aload hx hb dX8_day_111 (lv_at hl 0 rfl) ?_
            refine lv_aload_n hx hb dX8_day_113 rfl (lv_at hl 1 rfl) ?_
            refine r_get (C := RX8) (T := TX8) (N := 11) (ci := 6) hx hb hts inX8_day_X8 hown w (by have := E.1; omega) E.2.1 rfl 2 (by decide) (hts (Cond.fieldLink RX8 23 "EarlyValues" "trial" "LEarlyValues$Program;") (List.mem_of_getElem? (i := 1) (by decide +kernel))) rfl rfl dX8_day_114 ?_
            refine r_callV w (va_3 V3.hu (fun q_ => va_runU (As := [.ref (g.2.2.1 (x + 21))]) (rest := []) ⟨hx, hb, hml, hown, hts⟩ (c_X7_solve l V3 Pr Str hPM (by omega)) (va_cwU 1 hts gX8_day_X7_solve_u212X6 rfl rfl rfl rfl (by decide +kernel) ⟨Nat.le_of_ble_eq_true rfl, Nat.le_of_ble_eq_true rfl⟩) (r_preV w (by have := V3.hN; omega) (V3.ob (by subst q_; rfl)) rfl) rfl rfl hl.1 rfl (lv_room (Nat.le_of_ble_eq_true rfl)) dX8_day_117 ⟨Nat.zero_le _, Nat.zero_le _⟩) (fun q_ => va_runU (As := [.ref (g.2.2.1 (x + 21))]) (rest := []) ⟨hx, hb, hml, hown, hts⟩ (c_X7_solve l V3 Pr Str hPM (by omega)) (va_cwU 1 hts gX8_day_X7_solve_u212X4 rfl rfl rfl rfl (by decide +kernel) ⟨Nat.le_of_ble_eq_true rfl, Nat.le_of_ble_eq_true rfl⟩) (r_preV w (by have := V3.hN; omega) (V3.ob (by subst q_; rfl)) rfl) rfl rfl hl.1 rfl (lv_room (Nat.le_of_ble_eq_true rfl)) dX8_day_117 ⟨Nat.zero_le _, Nat.zero_le _⟩) (fun q_ => va_runU (As := [.ref (g.2.2.1 (x + 21))]) (rest := []) ⟨hx, hb, hml, hown, hts⟩ (c_X7_solve l V3 Pr Str hPM (by omega)) (va_cwU 1 hts gX8_day_X7_solve_u212X0 rfl rfl rfl rfl (by decide +kernel) ⟨Nat.le_of_ble_eq_true rfl, Nat.le_of_ble_eq_true rfl⟩) (r_preV w (by have := V3.hN; omega) (V3.ob (by subst q_; rfl)) rfl) rfl rfl hl.1 rfl (lv_room (Nat.le_of_ble_eq_true rfl)) dX8_day_117 ⟨Nat.zero_le _, Nat.zero_le _⟩)) (fun h3 H locs hp w => ?_)
            obtain ⟨hfk4, kkk4, kck4, tkk4, dpk4, ggk4, gsk4, gtk4, gck4, K9, V3, hK9, htk9, hT9⟩ := hp
            have E := E.fr (h' := h3) (fun k_ h1_ h2_ h3_ => hfk4 k_ (by omega))
            have P := P.fr (h' := h3) (fun k_ h1_ h2_ => hfk4 k_ (by omega))
            have Pr := Pr.fr (h' := h3) (fun k_ h1_ h2_ => hfk4 k_ (by omega))
            have hfr : ∀ k_, ¬ ((x + 21 ≤ k_ ∧ k_ < x + 30) ∨ ((x + 107) ≤ k_ ∧ k_ < (x + 107) + 18)) → h3 k_ = h k_ := fun k_ hk_ => (hfk4 k_ (by omega)).trans (hfr k_ hk_)
            refine lv_iconst (v := 0) hx hb dX8_day_120 (by decide) ?_
            refine lv_istore (lv' := [(5, .int 0), (4, .ref (g.2.2.1 (x + 107))), (0, .ref (g.2.2.1 x)), (1, .int p0), (2, .int p1), (3, .int p2)]) hx hb dX8_day_121 hl (by decide) rfl (fun ls hl => ?_)
            refine lv_iconst (v := 0) hx hb dX8_day_123 (by decide) ?_
            refine lv_istore (lv' := [(6, .int 0), (5, .int 0), (4, .ref (g.2.2.1 (x + 107))), (0, .ref (g.2.2.1 x)), (1, .int p0), (2, .int p1), (3, .int p2)]) hx hb dX8_day_124 hl (by decide) rfl (fun ls hl => ?_)
            exact ih126 M1 K9 0 0 0 ra1 rk1 rl1 rb1 h3 _ _ _ w (lv_sub hl [3, 4, 5, 6, 2, 1, 0] rfl) hz0 hn0 hz9 hn9 (by rw [show nn = k by omega]; exact hdr) hPM hK9 (Nat.zero_le _) rfl ((by decide : (0 : Int32).toInt = ((0 : Nat) : Int))) Str E P Pr (⟨_, _, _, _, _, _, _, _, _, _, _, V3, hT9⟩) hfr (by omega)
          · have c2 : p2.toInt = (0 : Int) := (i_eq (rfl : p2.toInt = p2.toInt) (rfl : (0 : Int32).toInt = 0)).mp c2
            exfalso; omega
        · have c1 : ¬ (((nn : Nat) : Int) ≤ ((k : Nat) : Int)) := fun q => c1 ((i_le hn0 hx4).mpr q)
          have hxk_ : (7919 * z + 6151 * k + 1) ≤ 79298951 := by omega
          have hxx_ : (7919 * z + 6151 * k + 1) * (7919 * z + 6151 * k + 1) ≤ 79298951 * 79298951 := Nat.mul_le_mul hxk_ hxk_
          refine lv_ldc2 (v := 7919) hx hb hown (hts (Cond.constantLong RX8 202 (7919)) (List.mem_of_getElem? (i := 3) (by decide +kernel))) dX8_day_53 ?_
          refine lv_topl (fun y5 ey5 => ?_)
          have ty5 : y5.toInt = ((7919 : Nat) : Int) := l_of (ey5.trans (by decide)) (by decide)
          refine lv_iload_n hx hb dX8_day_56 rfl (lv_at hl 1 rfl) ?_
          refine lv_i2l hx hb dX8_day_57 rfl ?_
          refine lv_topl (fun y6 ey6 => ?_)
          have ty6 : y6.toInt = ((z : Nat) : Int) := l_i2l ey6 hz0
          refine lv_lmul hx hb dX8_day_58 ?_
          refine lv_topl (fun y7 ey7 => ?_)
          have ty7 : y7.toInt = (((7919 * z) : Nat) : Int) := l_mul ey7 ty5 ty6 (by omega)
          refine lv_ldc2 (v := 6151) hx hb hown (hts (Cond.constantLong RX8 204 (6151)) (List.mem_of_getElem? (i := 4) (by decide +kernel))) dX8_day_59 ?_
          refine lv_topl (fun y8 ey8 => ?_)
          have ty8 : y8.toInt = ((6151 : Nat) : Int) := l_of (ey8.trans (by decide)) (by decide)
          refine lv_iload hx hb dX8_day_62 (lv_at hl 4 rfl) ?_
          refine lv_i2l hx hb dX8_day_64 rfl ?_
          refine lv_topl (fun y9 ey9 => ?_)
          have ty9 : y9.toInt = ((k : Nat) : Int) := l_i2l ey9 hx4
          refine lv_lmul hx hb dX8_day_65 ?_
          refine lv_topl (fun y10 ey10 => ?_)
          have ty10 : y10.toInt = (((6151 * k) : Nat) : Int) := l_mul ey10 ty8 ty9 (by omega)
          refine lv_ladd hx hb dX8_day_66 ?_
          refine lv_topl (fun y11 ey11 => ?_)
          have ty11 : y11.toInt = ((((7919 * z) + (6151 * k)) : Nat) : Int) := l_add ey11 ty7 ty10 (by omega)
          refine lv_lconst (v := 1) hx hb dX8_day_67 (by decide) ?_
          refine lv_topl (fun y12 ey12 => ?_)
          have ty12 : y12.toInt = ((1 : Nat) : Int) := l_of (ey12.trans (by decide)) (by decide)
          refine lv_ladd hx hb dX8_day_68 ?_
          refine lv_topl (fun y13 ey13 => ?_)
          have ty13 : y13.toInt = (((((7919 * z) + (6151 * k)) + 1) : Nat) : Int) := l_add ey13 ty11 ty12 (by omega)
          refine lv_lstore (lv' := [(5, .long y13), (0, .ref (g.2.2.1 x)), (1, .int p0), (2, .int p1), (3, .int p2), (4, .int x4)]) hx hb dX8_day_69 hl (by decide) rfl (fun ls hl => ?_)
          refine lv_aload_n hx hb dX8_day_71 rfl (lv_at hl 1 rfl) ?_
          refine r_get (C := RX8) (T := TX8) (N := 11) (ci := 6) hx hb hts inX8_day_X8 hown w (by have := E.1; omega) E.2.1 rfl 2 (by decide) (hts (Cond.fieldLink RX8 23 "EarlyValues" "trial" "LEarlyValues$Program;") (List.mem_of_getElem? (i := 1) (by decide +kernel))) rfl rfl dX8_day_72 ?_
          refine lv_lload hx hb dX8_day_75 (lv_at hl 0 rfl) ?_
          refine lv_lload hx hb dX8_day_77 (lv_at hl 0 rfl) ?_
          refine lv_lmul hx hb dX8_day_79 ?_
          refine lv_topl (fun y14 ey14 => ?_)
          have ty14 : y14.toInt = ((((((7919 * z) + (6151 * k)) + 1) * (((7919 * z) + (6151 * k)) + 1)) : Nat) : Int) := l_mul ey14 ty13 ty13 (Nat.le_trans hxx_ (by decide))
          refine lv_ldc2 (v := 65521) hx hb hown (hts (Cond.constantLong RX8 206 (65521)) (List.mem_of_getElem? (i := 5) (by decide +kernel))) dX8_day_80 ?_
          refine lv_topl (fun y15 ey15 => ?_)
          have ty15 : y15.toInt = ((65521 : Nat) : Int) := l_of (ey15.trans (by decide)) (by decide)
          refine lv_lrem hx hb dX8_day_83 (l_nz ty15 (by decide)) ?_
          refine lv_topl (fun y16 ey16 => ?_)
          have ty16 : y16.toInt = (((((((7919 * z) + (6151 * k)) + 1) * (((7919 * z) + (6151 * k)) + 1)) % 65521) : Nat) : Int) := l_rem ey16 ty14 ty15 (by omega)
          obtain ⟨y17, ey17⟩ : ∃ y_ : Int32, y16.toInt32 = y_ := ⟨_, rfl⟩
          refine lv_l2i (v := y17) hx hb dX8_day_84 ey17 ?_
          have ty17 : y17.toInt = (((((((7919 * z) + (6151 * k)) + 1) * (((7919 * z) + (6151 * k)) + 1)) % 65521) : Nat) : Int) := l_l2i ey17 ty16 (by omega)
          refine r_callV w (va_runV (As := [.int y17]) (rest := []) ⟨hx, hb, hml, hown, hts⟩ (c_X3_turnLetter l Pr Str hPM y17 (d := dDraw z k) ty17) (cwV 1 hts gX8_day_X3_turnLetter rfl rfl rfl (by decide +kernel) ⟨Nat.le_of_ble_eq_true rfl, Nat.le_of_ble_eq_true rfl⟩) (r_preV w (by have := Pr.1; omega) Pr.c0 rfl) rfl rfl hl.1 rfl (lv_room (Nat.le_of_ble_eq_true rfl)) dX8_day_85 ⟨Nat.zero_le _, Nat.zero_le _⟩) (fun h18 H locs hp w => ?_)
          obtain ⟨hfk19, gbk19, kk19, hNk19, Pr, S2k19⟩ := hp
          have E := E.fr (h' := h18) (fun k_ h1_ h2_ h3_ => hfk19 k_ (by omega))
          have P := P.fr (h' := h18) (fun k_ h1_ h2_ => hfk19 k_ (by omega))
          have V3 := V3.fr (h' := h18) (fun k_ h1_ h2_ => hfk19 k_ (by omega))
          have hfr : ∀ k_, ¬ ((x + 21 ≤ k_ ∧ k_ < x + 30) ∨ ((x + 107) ≤ k_ ∧ k_ < (x + 107) + 18)) → h18 k_ = h k_ := fun k_ hk_ => (hfk19 k_ (by omega)).trans (hfr k_ hk_)
          obtain ⟨y20, ey20⟩ : ∃ y : Int32, y = x4 + (1) := ⟨_, rfl⟩
          have ty20 : y20.toInt = (((k + 1) : Nat) : Int) := i_addN ey20 hx4 (by decide : (1 : Int32).toInt = ((1 : Nat) : Int)) (by omega)
          refine lv_iinc (v := y20) (lv' := [(4, .int y20), (5, .long y13), (0, .ref (g.2.2.1 x)), (1, .int p0), (2, .int p1), (3, .int p2)]) hx hb dX8_day_88 hl (k := 5) rfl (by rw [ey20]; rfl) (by decide) rfl (fun ls hl => ?_)
          refine lv_goto (tgt := 47) hx hb dX8_day_91 (by decide) ?_
          exact ih47 (k + 1) ((mSet M1 (dDraw z k % pN M1) (dDraw z k / 8 % pL M1 (dDraw z k % pN M1)) kk19)) y20 ra1 rk1 rl1 gbk19 h18 _ _ _ w (lv_sub hl [2, 3, 4, 5, 0] rfl) hz0 hn0 hz9 hn9 (by omega) ty20 (⟨M1, kk19, hdr, hNk19, rfl⟩) (hNk19.ok hPM) S2k19 E P Pr (⟨_, _, _, _, _, _, _, _, _, _, _, V3⟩) hfr (by omega)
      · intro M1 K f x5 x6 ra1 rk1 rl1 rb1 hc H locs ls w hl hz0 hn0 hz9 hn9 hdr hPM hK hfl hx5 hx6 Str E P Pr W3 hfr hN_
        obtain ⟨kk3, kc3, tk3, fz3, dp3, gp3, gg3, gs3, gd3, gt3, gc3, V3, hT⟩ := W3
        have hNv3 := V3.hN
        have hNe := E.1
        have hn4_ := hPM.2.1
        have hn1_ := hPM.1
        refine lv_iload hx hb dX8_day_126 (lv_at hl 6 rfl) ?_
        refine lv_aload_n hx hb dX8_day_128 rfl (lv_at hl 0 rfl) ?_
        refine r_get (C := RX8) (T := TX8) (N := 11) (ci := 6) hx hb hts inX8_day_X8 hown w (by have := E.1; omega) E.2.1 rfl 2 (by decide) (hts (Cond.fieldLink RX8 23 "EarlyValues" "trial" "LEarlyValues$Program;") (List.mem_of_getElem? (i := 1) (by decide +kernel))) rfl rfl dX8_day_129 ?_
        refine r_get (C := RX3) (T := TX3) (N := 5) (ci := 2) hx hb hts inX8_day_X3 hown w (by have := Pr.1; omega) Pr.c0 rfl 0 (by decide) (hts (Cond.fieldLink RX8 108 "EarlyValues$Program" "functions" "I") (List.mem_of_getElem? (i := 8) (by decide +kernel))) rfl rfl dX8_day_132 ?_
        refine lv_icmp_ge (tgt := 182) hx hb dX8_day_135 (by decide) (fun c21 => ?_) (fun c21 => ?_)
        · have c21 : (((pN M1) : Nat) : Int) ≤ ((f : Nat) : Int) := (i_le Str.1 hx6).mp c21
          refine lv_iload hx hb dX8_day_182 (lv_at hl 5 rfl) ?_
          refine r_iret (v := x5) hx hb hr hlocks w dX8_day_184 ?_
          have hd_ := dayN_fin (w := 1) (u := u3) hPM (by omega) (by rw [hu3]; rfl) hK (hx5.trans (by rw [show f = pN M1 by omega]))
          subst hu3
          exact ⟨(fun k_ hk_ => hfr k_ (by omega)), ⟨hSV0, ⟨_, E, hkn⟩, (T0.fr (fun k_ a_ b_ => hfr k_ (by omega))), (Q1.fr (fun k_ a_ b_ => hfr k_ (by omega))), ⟨_, _, _, _, _, P, S⟩, ⟨_, _, _, _, _, Pr⟩, (fun i_ hi_ => (Q3 i_ hi_).fr (fun k_ a_ b_ => hfr k_ (by omega))), (fun i_ (hi_ : i_ < sV st0) => (Q4 i_ hi_).fr (fun k_ a_ b_ => hfr k_ (by omega))), (H0_.fr (fun k_ a_ b_ => hfr k_ (by omega))), (W0.fr (fun k_ a_ b_ => hfr k_ (by omega))), (W1.fr (fun k_ a_ b_ => hfr k_ (by omega))), (W2.fr (fun k_ a_ b_ => hfr k_ (by omega))), ⟨_, _, _, _, _, _, _, _, _, _, _, V3⟩, (W4.fr (fun k_ a_ b_ => hfr k_ (by omega)))⟩, Or.inl ⟨z, nn, 1, M1, hz0, hn0, by omega, hz9, hn9.1, hn9.2, by omega, hdr, hd_⟩⟩
        · have c21 : ¬ ((((pN M1) : Nat) : Int) ≤ ((f : Nat) : Int)) := fun q => c21 ((i_le Str.1 hx6).mpr q)
          have hf : f < pN M1 := by omega
          have hsm_ := sm_ub (f := dOne M1 K 1) (c := 125) f (fun j_ hj_ => dOne_le hPM (by omega))
          refine lv_iload hx hb dX8_day_138 (lv_at hl 5 rfl) ?_
          refine lv_iload_n hx hb dX8_day_140 rfl (lv_at hl 3 rfl) ?_
          refine lv_iconst (v := 2) hx hb dX8_day_141 (by decide) ?_
          refine lv_icmp_ne (tgt := 159) hx hb dX8_day_142 (by decide) (fun c22 => ?_) (fun c22 => ?_)
          · have c22 : ¬ (p2.toInt = ((2 : Nat) : Int)) := fun q => c22 ((i_eq (rfl : p2.toInt = p2.toInt) (by decide : (2 : Int32).toInt = ((2 : Nat) : Int))).mpr q)
            refine lv_aload hx hb dX8_day_159 (lv_at hl 4 rfl) ?_
            refine lv_aload_n hx hb dX8_day_161 rfl (lv_at hl 0 rfl) ?_
            refine r_get (C := RX8) (T := TX8) (N := 11) (ci := 6) hx hb hts inX8_day_X8 hown w (by have := E.1; omega) E.2.1 rfl 2 (by decide) (hts (Cond.fieldLink RX8 23 "EarlyValues" "trial" "LEarlyValues$Program;") (List.mem_of_getElem? (i := 1) (by decide +kernel))) rfl rfl dX8_day_162 ?_
            refine lv_iload hx hb dX8_day_165 (lv_at hl 6 rfl) ?_
            refine r_callI w (va_3 V3.hu (fun q_ => va_runU (As := [.ref (g.2.2.1 (x + 21)), .int x6]) (rest := [.int x5]) ⟨hx, hb, hml, hown, hts⟩ (c_X7_strictBits l V3 Pr Str hPM hT x6 hx6 hf) (va_cwU 2 hts gX8_day_X7_strictBits_u184X6 rfl rfl rfl rfl (by decide +kernel) ⟨Nat.le_of_ble_eq_true rfl, Nat.le_of_ble_eq_true rfl⟩) (r_preV w (by have := V3.hN; omega) (V3.ob (by subst q_; rfl)) rfl) rfl rfl hl.1 rfl (lv_room (Nat.le_of_ble_eq_true rfl)) dX8_day_167 ⟨Nat.zero_le _, Nat.zero_le _⟩) (fun q_ => va_runU (As := [.ref (g.2.2.1 (x + 21)), .int x6]) (rest := [.int x5]) ⟨hx, hb, hml, hown, hts⟩ (c_X7_strictBits l V3 Pr Str hPM hT x6 hx6 hf) (va_cwU 2 hts gX8_day_X7_strictBits_u184X4 rfl rfl rfl rfl (by decide +kernel) ⟨Nat.le_of_ble_eq_true rfl, Nat.le_of_ble_eq_true rfl⟩) (r_preV w (by have := V3.hN; omega) (V3.ob (by subst q_; rfl)) rfl) rfl rfl hl.1 rfl (lv_room (Nat.le_of_ble_eq_true rfl)) dX8_day_167 ⟨Nat.zero_le _, Nat.zero_le _⟩) (fun q_ => va_runU (As := [.ref (g.2.2.1 (x + 21)), .int x6]) (rest := [.int x5]) ⟨hx, hb, hml, hown, hts⟩ (c_X7_strictBits l V3 Pr Str hPM hT x6 hx6 hf) (va_cwU 2 hts gX8_day_X7_strictBits_u184X0 rfl rfl rfl rfl (by decide +kernel) ⟨Nat.le_of_ble_eq_true rfl, Nat.le_of_ble_eq_true rfl⟩) (r_preV w (by have := V3.hN; omega) (V3.ob (by subst q_; rfl)) rfl) rfl rfl hl.1 rfl (lv_room (Nat.le_of_ble_eq_true rfl)) dX8_day_167 ⟨Nat.zero_le _, Nat.zero_le _⟩)) (fun r24 h23 H locs hp w => ?_)
            obtain ⟨eh_, qq25⟩ := hp
            have eh_ := eh_.symm
            subst eh_
            refine r_callI w (va_runS (As := [.int r24]) (rest := [.int x5]) ⟨hx, hb, hml, hown, hts⟩ (c_J6_bitCount_0f7a4 l r24 qq25 (mB3_le (u := 0) _ _ (hPM.2.2 f hf).1)) (va_cwS 1 hts gX8_day_J6_bitCount_0f7a4 rfl rfl rfl (by decide +kernel) ⟨Nat.le_of_ble_eq_true rfl, Nat.le_of_ble_eq_true rfl⟩) (r_preS w) rfl rfl hl.1 rfl (lv_room (Nat.le_of_ble_eq_true rfl)) dX8_day_170 ⟨Nat.zero_le _, Nat.zero_le _⟩) (fun r27 h26 H locs hp w => ?_)
            obtain ⟨eh_, qq28⟩ := hp
            have eh_ := eh_.symm
            subst eh_
            have hpo_ := pop_le (mBits (mStrict u3 M1 (mTab u3 M1 K) f) (pA M1 f))
            refine lv_iadd hx hb dX8_day_173 ?_
            refine lv_topi (fun y29 ey29 => ?_)
            have ty29 : y29.toInt = ((((sm (dOne M1 K 1) f) + (pop (mBits (mStrict u3 M1 (mTab u3 M1 K) f) (pA M1 f)))) : Nat) : Int) := i_addN ey29 hx5 qq28 (by omega)
            refine lv_istore (lv' := [(5, .int y29), (0, .ref (g.2.2.1 x)), (1, .int p0), (2, .int p1), (3, .int p2), (4, .ref (g.2.2.1 (x + 107))), (6, .int x6)]) hx hb dX8_day_174 hl (by decide) rfl (fun ls hl => ?_)
            obtain ⟨y30, ey30⟩ : ∃ y : Int32, y = x6 + (1) := ⟨_, rfl⟩
            have ty30 : y30.toInt = (((f + 1) : Nat) : Int) := i_addN ey30 hx6 (by decide : (1 : Int32).toInt = ((1 : Nat) : Int)) (by omega)
            refine lv_iinc (v := y30) (lv' := [(6, .int y30), (5, .int y29), (0, .ref (g.2.2.1 x)), (1, .int p0), (2, .int p1), (3, .int p2), (4, .ref (g.2.2.1 (x + 107)))]) hx hb dX8_day_176 hl (k := 6) rfl (by rw [ey30]; rfl) (by decide) rfl (fun ls hl => ?_)
            refine lv_goto (tgt := 126) hx hb dX8_day_179 (by decide) ?_
            exact ih126 M1 K (f + 1) y29 y30 ra1 rk1 rl1 rb1 hc _ _ _ w (lv_sub hl [2, 3, 4, 5, 6, 1, 0] rfl) hz0 hn0 hz9 hn9 hdr hPM hK (by omega) (ty29.trans (by rw [sm_succ, dOne_w (by omega) (by rw [hu3]; rfl) hK])) ty30 Str E P Pr (⟨_, _, _, _, _, _, _, _, _, _, _, V3, hT⟩) hfr (by omega)
          · have c22 : p2.toInt = ((2 : Nat) : Int) := (i_eq (rfl : p2.toInt = p2.toInt) (by decide : (2 : Int32).toInt = ((2 : Nat) : Int))).mp c22
            exfalso; omega
  have cut0 := cuts (60)
  obtain ⟨ih47, ih126⟩ := cut0
  refine lv_iload_n hx hb dX8_day_0 rfl (lv_at hl 1 rfl) ?_
  refine lv_if_lt (tgt := 31) hx hb dX8_day_1 (by decide) (fun c31 => ?_) (fun c31 => ?_)
  · have c31 : p0.toInt < (0 : Int) := (i_lt (rfl : p0.toInt = p0.toInt) (rfl : (0 : Int32).toInt = 0)).mp c31
    refine lv_iconst (v := (-1)) hx hb dX8_day_31 (by decide) ?_
    refine r_iret (v := (-1)) hx hb hr hlocks w dX8_day_32 ?_
    subst hu3
    exact ⟨(fun k_ hk_ => hfr k_ (by omega)), ⟨hSV0, ⟨_, E, hkn⟩, (T0.fr (fun k_ a_ b_ => hfr k_ (by omega))), (Q1.fr (fun k_ a_ b_ => hfr k_ (by omega))), ⟨_, _, _, _, _, P, S⟩, ⟨_, _, _, _, _, Pr⟩, (fun i_ hi_ => (Q3 i_ hi_).fr (fun k_ a_ b_ => hfr k_ (by omega))), (fun i_ (hi_ : i_ < sV st0) => (Q4 i_ hi_).fr (fun k_ a_ b_ => hfr k_ (by omega))), (H0_.fr (fun k_ a_ b_ => hfr k_ (by omega))), (W0.fr (fun k_ a_ b_ => hfr k_ (by omega))), (W1.fr (fun k_ a_ b_ => hfr k_ (by omega))), (W2.fr (fun k_ a_ b_ => hfr k_ (by omega))), ⟨_, _, _, _, _, _, _, _, _, _, _, V3⟩, (W4.fr (fun k_ a_ b_ => hfr k_ (by omega)))⟩, Or.inr ⟨by omega, rfl⟩⟩
  · have c31 : ¬ (p0.toInt < (0 : Int)) := fun q => c31 ((i_lt (rfl : p0.toInt = p0.toInt) (rfl : (0 : Int32).toInt = 0)).mpr q)
    refine lv_iload_n hx hb dX8_day_4 rfl (lv_at hl 1 rfl) ?_
    refine lv_sipush (v := 9999) hx hb dX8_day_5 (by decide) ?_
    refine lv_icmp_gt (tgt := 31) hx hb dX8_day_8 (by decide) (fun c32 => ?_) (fun c32 => ?_)
    · have c32 : ((9999 : Nat) : Int) < p0.toInt := (i_lt (by decide : (9999 : Int32).toInt = ((9999 : Nat) : Int)) (rfl : p0.toInt = p0.toInt)).mp c32
      refine lv_iconst (v := (-1)) hx hb dX8_day_31 (by decide) ?_
      refine r_iret (v := (-1)) hx hb hr hlocks w dX8_day_32 ?_
      subst hu3
      exact ⟨(fun k_ hk_ => hfr k_ (by omega)), ⟨hSV0, ⟨_, E, hkn⟩, (T0.fr (fun k_ a_ b_ => hfr k_ (by omega))), (Q1.fr (fun k_ a_ b_ => hfr k_ (by omega))), ⟨_, _, _, _, _, P, S⟩, ⟨_, _, _, _, _, Pr⟩, (fun i_ hi_ => (Q3 i_ hi_).fr (fun k_ a_ b_ => hfr k_ (by omega))), (fun i_ (hi_ : i_ < sV st0) => (Q4 i_ hi_).fr (fun k_ a_ b_ => hfr k_ (by omega))), (H0_.fr (fun k_ a_ b_ => hfr k_ (by omega))), (W0.fr (fun k_ a_ b_ => hfr k_ (by omega))), (W1.fr (fun k_ a_ b_ => hfr k_ (by omega))), (W2.fr (fun k_ a_ b_ => hfr k_ (by omega))), ⟨_, _, _, _, _, _, _, _, _, _, _, V3⟩, (W4.fr (fun k_ a_ b_ => hfr k_ (by omega)))⟩, Or.inr ⟨by omega, rfl⟩⟩
    · have c32 : ¬ (((9999 : Nat) : Int) < p0.toInt) := fun q => c32 ((i_lt (by decide : (9999 : Int32).toInt = ((9999 : Nat) : Int)) (rfl : p0.toInt = p0.toInt)).mpr q)
      have hz0 : p0.toInt = ((z : Nat) : Int) := by omega
      have hz9 : z ≤ 9999 := by omega
      refine lv_iload_n hx hb dX8_day_11 rfl (lv_at hl 2 rfl) ?_
      refine lv_iconst (v := 1) hx hb dX8_day_12 (by decide) ?_
      refine lv_icmp_lt (tgt := 31) hx hb dX8_day_13 (by decide) (fun c33 => ?_) (fun c33 => ?_)
      · have c33 : p1.toInt < ((1 : Nat) : Int) := (i_lt (rfl : p1.toInt = p1.toInt) (by decide : (1 : Int32).toInt = ((1 : Nat) : Int))).mp c33
        refine lv_iconst (v := (-1)) hx hb dX8_day_31 (by decide) ?_
        refine r_iret (v := (-1)) hx hb hr hlocks w dX8_day_32 ?_
        subst hu3
        exact ⟨(fun k_ hk_ => hfr k_ (by omega)), ⟨hSV0, ⟨_, E, hkn⟩, (T0.fr (fun k_ a_ b_ => hfr k_ (by omega))), (Q1.fr (fun k_ a_ b_ => hfr k_ (by omega))), ⟨_, _, _, _, _, P, S⟩, ⟨_, _, _, _, _, Pr⟩, (fun i_ hi_ => (Q3 i_ hi_).fr (fun k_ a_ b_ => hfr k_ (by omega))), (fun i_ (hi_ : i_ < sV st0) => (Q4 i_ hi_).fr (fun k_ a_ b_ => hfr k_ (by omega))), (H0_.fr (fun k_ a_ b_ => hfr k_ (by omega))), (W0.fr (fun k_ a_ b_ => hfr k_ (by omega))), (W1.fr (fun k_ a_ b_ => hfr k_ (by omega))), (W2.fr (fun k_ a_ b_ => hfr k_ (by omega))), ⟨_, _, _, _, _, _, _, _, _, _, _, V3⟩, (W4.fr (fun k_ a_ b_ => hfr k_ (by omega)))⟩, Or.inr ⟨by omega, rfl⟩⟩
      · have c33 : ¬ (p1.toInt < ((1 : Nat) : Int)) := fun q => c33 ((i_lt (rfl : p1.toInt = p1.toInt) (by decide : (1 : Int32).toInt = ((1 : Nat) : Int))).mpr q)
        refine lv_iload_n hx hb dX8_day_16 rfl (lv_at hl 2 rfl) ?_
        refine lv_bipush (v := 20) hx hb dX8_day_17 (by decide) ?_
        refine lv_icmp_gt (tgt := 31) hx hb dX8_day_19 (by decide) (fun c34 => ?_) (fun c34 => ?_)
        · have c34 : ((20 : Nat) : Int) < p1.toInt := (i_lt (by decide : (20 : Int32).toInt = ((20 : Nat) : Int)) (rfl : p1.toInt = p1.toInt)).mp c34
          refine lv_iconst (v := (-1)) hx hb dX8_day_31 (by decide) ?_
          refine r_iret (v := (-1)) hx hb hr hlocks w dX8_day_32 ?_
          subst hu3
          exact ⟨(fun k_ hk_ => hfr k_ (by omega)), ⟨hSV0, ⟨_, E, hkn⟩, (T0.fr (fun k_ a_ b_ => hfr k_ (by omega))), (Q1.fr (fun k_ a_ b_ => hfr k_ (by omega))), ⟨_, _, _, _, _, P, S⟩, ⟨_, _, _, _, _, Pr⟩, (fun i_ hi_ => (Q3 i_ hi_).fr (fun k_ a_ b_ => hfr k_ (by omega))), (fun i_ (hi_ : i_ < sV st0) => (Q4 i_ hi_).fr (fun k_ a_ b_ => hfr k_ (by omega))), (H0_.fr (fun k_ a_ b_ => hfr k_ (by omega))), (W0.fr (fun k_ a_ b_ => hfr k_ (by omega))), (W1.fr (fun k_ a_ b_ => hfr k_ (by omega))), (W2.fr (fun k_ a_ b_ => hfr k_ (by omega))), ⟨_, _, _, _, _, _, _, _, _, _, _, V3⟩, (W4.fr (fun k_ a_ b_ => hfr k_ (by omega)))⟩, Or.inr ⟨by omega, rfl⟩⟩
        · have c34 : ¬ (((20 : Nat) : Int) < p1.toInt) := fun q => c34 ((i_lt (by decide : (20 : Int32).toInt = ((20 : Nat) : Int)) (rfl : p1.toInt = p1.toInt)).mpr q)
          have hn0 : p1.toInt = ((nn : Nat) : Int) := by omega
          have hn9 : 1 ≤ nn ∧ nn ≤ 20 := by omega
          refine lv_iload_n hx hb dX8_day_22 rfl (lv_at hl 3 rfl) ?_
          refine lv_if_lt (tgt := 31) hx hb dX8_day_23 (by decide) (fun c35 => ?_) (fun c35 => ?_)
          · have c35 : p2.toInt < (0 : Int) := (i_lt (rfl : p2.toInt = p2.toInt) (rfl : (0 : Int32).toInt = 0)).mp c35
            exfalso; omega
          · have c35 : ¬ (p2.toInt < (0 : Int)) := fun q => c35 ((i_lt (rfl : p2.toInt = p2.toInt) (rfl : (0 : Int32).toInt = 0)).mpr q)
            refine lv_iload_n hx hb dX8_day_26 rfl (lv_at hl 3 rfl) ?_
            refine lv_iconst (v := 2) hx hb dX8_day_27 (by decide) ?_
            refine lv_icmp_le (tgt := 33) hx hb dX8_day_28 (by decide) (fun c36 => ?_) (fun c36 => ?_)
            · have c36 : p2.toInt ≤ ((2 : Nat) : Int) := (i_le (rfl : p2.toInt = p2.toInt) (by decide : (2 : Int32).toInt = ((2 : Nat) : Int))).mp c36
              refine lv_aload_n hx hb dX8_day_33 rfl (lv_at hl 0 rfl) ?_
              refine r_get (C := RX8) (T := TX8) (N := 11) (ci := 6) hx hb hts inX8_day_X8 hown w (by have := E.1; omega) E.2.1 rfl 2 (by decide) (hts (Cond.fieldLink RX8 23 "EarlyValues" "trial" "LEarlyValues$Program;") (List.mem_of_getElem? (i := 1) (by decide +kernel))) rfl rfl dX8_day_34 ?_
              refine lv_aload_n hx hb dX8_day_37 rfl (lv_at hl 0 rfl) ?_
              refine r_get (C := RX8) (T := TX8) (N := 11) (ci := 6) hx hb hts inX8_day_X8 hown w (by have := E.1; omega) E.2.1 rfl 1 (by decide) (hts (Cond.fieldLink RX8 19 "EarlyValues" "now" "LEarlyValues$Program;") (List.mem_of_getElem? (i := 2) (by decide +kernel))) rfl rfl dX8_day_38 ?_
              refine r_callV w (va_runV (As := [.ref (g.2.2.1 (x + 12))]) (rest := []) ⟨hx, hb, hml, hown, hts⟩ (c_X3_takeFrom l Pr P (by omega)) (cwV 1 hts gX8_day_X3_takeFrom rfl rfl rfl (by decide +kernel) ⟨Nat.le_of_ble_eq_true rfl, Nat.le_of_ble_eq_true rfl⟩) (r_preV w (by have := Pr.1; omega) Pr.c0 rfl) rfl rfl hl.1 rfl (lv_room (Nat.le_of_ble_eq_true rfl)) dX8_day_41 ⟨Nat.zero_le _, Nat.zero_le _⟩) (fun h37 H locs hp w => ?_)
              obtain ⟨hfk38, gak38, gkk38, glk38, gbk38, Pr, hcpk38⟩ := hp
              have E := E.fr (h' := h37) (fun k_ h1_ h2_ h3_ => hfk38 k_ (by omega))
              have P := P.fr (h' := h37) (fun k_ h1_ h2_ => hfk38 k_ (by omega))
              have V3 := V3.fr (h' := h37) (fun k_ h1_ h2_ => hfk38 k_ (by omega))
              have hfr : ∀ k_, ¬ ((x + 21 ≤ k_ ∧ k_ < x + 30) ∨ ((x + 107) ≤ k_ ∧ k_ < (x + 107) + 18)) → h37 k_ = h k_ := fun k_ hk_ => (hfk38 k_ (by omega))
              refine lv_iconst (v := 0) hx hb dX8_day_44 (by decide) ?_
              refine lv_istore (lv' := [(4, .int 0), (0, .ref (g.2.2.1 x)), (1, .int p0), (2, .int p1), (3, .int p2)]) hx hb dX8_day_45 hl (by decide) rfl (fun ls hl => ?_)
              exact ih47 0 ((sM st0)) 0 gak38 gkk38 glk38 gbk38 h37 _ _ _ w (lv_sub hl [1, 2, 3, 4, 0] rfl) hz0 hn0 hz9 hn9 (by omega) ((by decide : (0 : Int32).toInt = ((0 : Nat) : Int))) rfl hP ((S.cp hP hcpk38)) E P Pr (⟨_, _, _, _, _, _, _, _, _, _, _, V3⟩) hfr (by omega)
            · have c36 : ¬ (p2.toInt ≤ ((2 : Nat) : Int)) := fun q => c36 ((i_le (rfl : p2.toInt = p2.toInt) (by decide : (2 : Int32).toInt = ((2 : Nat) : Int))).mpr q)
              exfalso; omega

set_option maxHeartbeats 4000000 in
set_option maxRecDepth 100000 in
theorem c_X8_day_2 (l : Launch) {g : GE} {h : Nat → va_E} {x : Nat} {st0 : ST} (C : ClsA g h x st0) (p0 : Int32) (p1 : Int32) (p2 : Int32) (hw : p2.toInt = 2) : MI l yX8_day wsX8_day rm_X8_day [.ref (g.2.2.1 x), .int p0, .int p1, .int p2] g h (fun r_ h2 => (∀ k, ¬ (x ≤ k ∧ k < x + 143) → h2 k = h k) ∧ ClsA g h2 x st0 ∧ AnDay st0 p0 p1 p2 r_) := by
  refine Met.ofW (cc := cX8_day) (maxL := 7) (ret := (some .int)) (by decide) rfl ?_
  intro p e s m args below meth c s₁ B hml hv
  obtain ⟨rfl, w0⟩ := hv
  have hx := B.exec
  have hb := B.bytes
  have hr := B.returns
  have hts := atoms_spec (ws := wsX8_day) B.pre
  have hown : s.vm.findClass RX8 = some m.cls := findClass_of_methodNamed B.named
  have hlocks := B.notSynchronized
  have w := w0.start
  clear w0
  have hl := lv_entry ([.ref (g.2.2.1 x), .int p0, .int p1, .int p2]) (n := 7) (Nat.le_of_ble_eq_true rfl)
  rw [lg_entry_eq]
  generalize (lg_sl ([.ref (g.2.2.1 x), .int p0, .int p1, .int p2]) ++ List.replicate (7 - (lg_sl ([.ref (g.2.2.1 x), .int p0, .int p1, .int p2])).length) Slot.unset).toArray = ls at hl ⊢
  have hl : lv_has ls 7 [(0, .ref (g.2.2.1 x)), (1, .int p0), (2, .int p1), (3, .int p2)] := hl
  obtain ⟨hSV, ⟨kn, E, hkn⟩, T0, Q1, P0, Q2, Q3, Q4, H0_, W0, W1, W2, W3, W4⟩ := C
  have hSV0 := hSV
  obtain ⟨hP, hu8, hUP, hv2, hVP, hl200, hlt⟩ := hSV
  have hn4 := hP.2.1
  have hNe := E.1
  obtain ⟨n, ga, gk, gl, gb, P, S⟩ := P0
  have hnS := S.1
  obtain ⟨rn, ra, rk, rl, rb, Pr⟩ := Q2
  obtain ⟨u3, hu3, W3⟩ : ∃ u_ : Nat, u_ = 0 ∧ VwX g h (x + 107) u_ := ⟨_, rfl, W3⟩
  obtain ⟨kk3, kc3, tk3, fz3, dp3, gp3, gg3, gs3, gd3, gt3, gc3, V3⟩ := W3
  have hNv3 := V3.hN
  obtain ⟨z, hzd⟩ : ∃ f_ : Nat, f_ = p0.toInt.toNat := ⟨_, rfl⟩
  obtain ⟨nn, hnd⟩ : ∃ f_ : Nat, f_ = p1.toInt.toNat := ⟨_, rfl⟩
  have hfr : ∀ k_, ¬ ((x + 21 ≤ k_ ∧ k_ < x + 30) ∨ ((x + 107) ≤ k_ ∧ k_ < (x + 107) + 18)) → h k_ = h k_ := fun _ _ => rfl
  have cuts : ∀ N : Nat, (∀ (k : Nat) (M1 : PRG) (x4 : Int32) (ra1 : Nat → Int32) (rk1 : Nat → Int32) (rl1 : Nat → Int32) (rb1 : Nat → Nat → Int32) (hc : Nat → va_E) (H : Heap) (locs : List Loc) (ls : Array Slot), WD g (inW g) s hc H locs → lv_has ls 7 [(0, .ref (g.2.2.1 x)), (1, .int p0), (2, .int p1), (3, .int p2), (4, .int x4)] → (p0.toInt = ((z : Nat) : Int)) → (p1.toInt = ((nn : Nat) : Int)) → (z ≤ 9999) → (1 ≤ nn ∧ nn ≤ 20) → (k ≤ nn) → (x4.toInt = ((k : Nat) : Int)) → (DayR (sM st0) z k M1) → (PV M1) → (PrS M1 n ra1 rk1 rl1 rb1) → (EvA g hc x kn) → (PrA g hc (x + 12) n ga gk gl gb) → (PrA g hc (x + 21) n ra1 rk1 rl1 rb1) → (VwX g hc (x + 107) u3) → (∀ k, ¬ ((x + 21 ≤ k ∧ k < x + 30) ∨ ((x + 107) ≤ k ∧ k < (x + 107) + 18)) → hc k = h k) → 30 - k + 10 < N → W p l e (headSpec wsX8_day rm_X8_day).room s m ([.ref (g.2.2.1 x), .int p0, .int p1, .int p2] : List Value).toArray below meth c H locs 0 0 (MQ below (va_Qi (fun r_ h2 => (∀ k, ¬ (x ≤ k ∧ k < x + 143) → h2 k = h k) ∧ ClsA g h2 x st0 ∧ AnDay st0 p0 p1 p2 r_) (Wd g) (inW g)) ([.ref (g.2.2.1 x), .int p0, .int p1, .int p2] : List Value).toArray s 0 0 (inW g)) (F0 m 47 ls [])) ∧ (∀ (M1 : PRG) (K : Nat) (f : Nat) (x5 : Int32) (x6 : Int32) (ra1 : Nat → Int32) (rk1 : Nat → Int32) (rl1 : Nat → Int32) (rb1 : Nat → Nat → Int32) (hc : Nat → va_E) (H : Heap) (locs : List Loc) (ls : Array Slot), WD g (inW g) s hc H locs → lv_has ls 7 [(0, .ref (g.2.2.1 x)), (1, .int p0), (2, .int p1), (3, .int p2), (4, .ref (g.2.2.1 (x + 107))), (5, .int x5), (6, .int x6)] → (p0.toInt = ((z : Nat) : Int)) → (p1.toInt = ((nn : Nat) : Int)) → (z ≤ 9999) → (1 ≤ nn ∧ nn ≤ 20) → (DayR (sM st0) z nn M1) → (PV M1) → (IsK u3 M1 K) → (f ≤ pN M1) → (x5.toInt = ((sm (dOne M1 K 2) f : Nat) : Int)) → (x6.toInt = ((f : Nat) : Int)) → (PrS M1 n ra1 rk1 rl1 rb1) → (EvA g hc x kn) → (PrA g hc (x + 12) n ga gk gl gb) → (PrA g hc (x + 21) n ra1 rk1 rl1 rb1) → (∃ (kk kc : Nat) (tk fz dp : Int32) (gp gg gs : Nat → Int32) (gd gt gc : Nat → Nat → Int32), VwA g hc (x + 107) u3 kk kc tk fz dp gp gg gs gd gt gc ∧ TbS u3 M1 gt (mTab u3 M1 K)) → (∀ k, ¬ ((x + 21 ≤ k ∧ k < x + 30) ∨ ((x + 107) ≤ k ∧ k < (x + 107) + 18)) → hc k = h k) → 6 - f < N → W p l e (headSpec wsX8_day rm_X8_day).room s m ([.ref (g.2.2.1 x), .int p0, .int p1, .int p2] : List Value).toArray below meth c H locs 0 0 (MQ below (va_Qi (fun r_ h2 => (∀ k, ¬ (x ≤ k ∧ k < x + 143) → h2 k = h k) ∧ ClsA g h2 x st0 ∧ AnDay st0 p0 p1 p2 r_) (Wd g) (inW g)) ([.ref (g.2.2.1 x), .int p0, .int p1, .int p2] : List Value).toArray s 0 0 (inW g)) (F0 m 126 ls [])) := by
    intro N
    induction N with
    | zero => exact ⟨by intros; omega, by intros; omega⟩
    | succ N ih =>
      obtain ⟨ih47, ih126⟩ := ih
      refine ⟨?_, ?_⟩
      · intro k M1 x4 ra1 rk1 rl1 rb1 hc H locs ls w hl hz0 hn0 hz9 hn9 hk hx4 hdr hPM Str E P Pr W3 hfr hN_
        obtain ⟨kk3, kc3, tk3, fz3, dp3, gp3, gg3, gs3, gd3, gt3, gc3, V3⟩ := W3
        have hNv3 := V3.hN
        have hNe := E.1
        have hn4_ := hPM.2.1
        have hn1_ := hPM.1
        refine lv_iload hx hb dX8_day_47 (lv_at hl 4 rfl) ?_
        refine lv_iload_n hx hb dX8_day_49 rfl (lv_at hl 2 rfl) ?_
        refine lv_icmp_ge (tgt := 94) hx hb dX8_day_50 (by decide) (fun c1 => ?_) (fun c1 => ?_)
        · have c1 : ((nn : Nat) : Int) ≤ ((k : Nat) : Int) := (i_le hn0 hx4).mp c1
          refine lv_iload_n hx hb dX8_day_94 rfl (lv_at hl 3 rfl) ?_
          refine lv_if_ne (tgt := 105) hx hb dX8_day_95 (by decide) (fun c2 => ?_) (fun c2 => ?_)
          · have c2 : ¬ (p2.toInt = (0 : Int)) := fun q => c2 ((i_eq (rfl : p2.toInt = p2.toInt) (rfl : (0 : Int32).toInt = 0)).mpr q)
            refine lv_aload_n hx hb dX8_day_105 rfl (lv_at hl 0 rfl) ?_
            refine r_get (C := RX8) (T := TX8) (N := 11) (ci := 6) hx hb hts inX8_day_X8 hown w (by have := E.1; omega) E.2.1 rfl 9 (by decide) (hts (Cond.fieldLink RX8 56 "EarlyValues" "trialValues" "LEarlyValues$View;") (List.mem_of_getElem? (i := 7) (by decide +kernel))) rfl rfl dX8_day_106 ?_
            refine lv_astore (lv' := [(4, .ref (g.2.2.1 (x + 107))), (0, .ref (g.2.2.1 x)), (1, .int p0), (2, .int p1), (3, .int p2)]) hx hb dX8_day_109 hl (by decide) rfl (fun ls hl => ?_)
            refine lv_aload hx hb dX8_day_111 (lv_at hl 0 rfl) ?_
            refine lv_aload_n hx hb dX8_day_113 rfl (lv_at hl 1 rfl) ?_
            refine r_get (C := RX8) (T := TX8) (N := 11) (ci := 6) hx hb hts inX8_day_X8 hown w (by have := E.1; omega) E.2.1 rfl 2 (by decide) (hts (Cond.fieldLink RX8 23 "EarlyValues" "trial" "LEarlyValues$Program;") (List.mem_of_getElem? (i := 1) (by decide +kernel))) rfl rfl dX8_day_114 ?_
            refine r_callV w (va_3 V3.hu (fun q_ => va_runU (As := [.ref (g.2.2.1 (x + 21))]) (rest := []) ⟨hx, hb, hml, hown, hts⟩ (c_X7_solve l V3 Pr Str hPM (by omega)) (va_cwU 1 hts gX8_day_X7_solve_u212X6 rfl rfl rfl rfl (by decide +kernel) ⟨Nat.le_of_ble_eq_true rfl, Nat.le_of_ble_eq_true rfl⟩) (r_preV w (by have := V3.hN; omega) (V3.ob (by subst q_; rfl)) rfl) rfl rfl hl.1 rfl (lv_room (Nat.le_of_ble_eq_true rfl)) dX8_day_117 ⟨Nat.zero_le _, Nat.zero_le _⟩) (fun q_ => va_runU (As := [.ref (g.2.2.1 (x + 21))]) (rest := []) ⟨hx, hb, hml, hown, hts⟩ (c_X7_solve l V3 Pr Str hPM (by omega)) (va_cwU 1 hts gX8_day_X7_solve_u212X4 rfl rfl rfl rfl (by decide +kernel) ⟨Nat.le_of_ble_eq_true rfl, Nat.le_of_ble_eq_true rfl⟩) (r_preV w (by have := V3.hN; omega) (V3.ob (by subst q_; rfl)) rfl) rfl rfl hl.1 rfl (lv_room (Nat.le_of_ble_eq_true rfl)) dX8_day_117 ⟨Nat.zero_le _, Nat.zero_le _⟩) (fun q_ => va_runU (As := [.ref (g.2.2.1 (x + 21))]) (rest := []) ⟨hx, hb, hml, hown, hts⟩ (c_X7_solve l V3 Pr Str hPM (by omega)) (va_cwU 1 hts gX8_day_X7_solve_u212X0 rfl rfl rfl rfl (by decide +kernel) ⟨Nat.le_of_ble_eq_true rfl, Nat.le_of_ble_eq_true rfl⟩) (r_preV w (by have := V3.hN; omega) (V3.ob (by subst q_; rfl)) rfl) rfl rfl hl.1 rfl (lv_room (Nat.le_of_ble_eq_true rfl)) dX8_day_117 ⟨Nat.zero_le _, Nat.zero_le _⟩)) (fun h3 H locs hp w => ?_)
            obtain ⟨hfk4, kkk4, kck4, tkk4, dpk4, ggk4, gsk4, gtk4, gck4, K9, V3, hK9, htk9, hT9⟩ := hp
            have E := E.fr (h' := h3) (fun k_ h1_ h2_ h3_ => hfk4 k_ (by omega))
            have P := P.fr (h' := h3) (fun k_ h1_ h2_ => hfk4 k_ (by omega))
            have Pr := Pr.fr (h' := h3) (fun k_ h1_ h2_ => hfk4 k_ (by omega))
            have hfr : ∀ k_, ¬ ((x + 21 ≤ k_ ∧ k_ < x + 30) ∨ ((x + 107) ≤ k_ ∧ k_ < (x + 107) + 18)) → h3 k_ = h k_ := fun k_ hk_ => (hfk4 k_ (by omega)).trans (hfr k_ hk_)
            refine lv_iconst (v := 0) hx hb dX8_day_120 (by decide) ?_
            refine lv_istore (lv' := [(5, .int 0), (4, .ref (g.2.2.1 (x + 107))), (0, .ref (g.2.2.1 x)), (1, .int p0), (2, .int p1), (3, .int p2)]) hx hb dX8_day_121 hl (by decide) rfl (fun ls hl => ?_)
            refine lv_iconst (v := 0) hx hb dX8_day_123 (by decide) ?_
            refine lv_istore (lv' := [(6, .int 0), (5, .int 0), (4, .ref (g.2.2.1 (x + 107))), (0, .ref (g.2.2.1 x)), (1, .int p0), (2, .int p1), (3, .int p2)]) hx hb dX8_day_124 hl (by decide) rfl (fun ls hl => ?_)
            exact ih126 M1 K9 0 0 0 ra1 rk1 rl1 rb1 h3 _ _ _ w (lv_sub hl [3, 4, 5, 6, 2, 1, 0] rfl) hz0 hn0 hz9 hn9 (by rw [show nn = k by omega]; exact hdr) hPM hK9 (Nat.zero_le _) rfl ((by decide : (0 : Int32).toInt = ((0 : Nat) : Int))) Str E P Pr (⟨_, _, _, _, _, _, _, _, _, _, _, V3, hT9⟩) hfr (by omega)
          · have c2 : p2.toInt = (0 : Int) := (i_eq (rfl : p2.toInt = p2.toInt) (rfl : (0 : Int32).toInt = 0)).mp c2
            exfalso; omega
        · have c1 : ¬ (((nn : Nat) : Int) ≤ ((k : Nat) : Int)) := fun q => c1 ((i_le hn0 hx4).mpr q)
          have hxk_ : (7919 * z + 6151 * k + 1) ≤ 79298951 := by omega
          have hxx_ : (7919 * z + 6151 * k + 1) * (7919 * z + 6151 * k + 1) ≤ 79298951 * 79298951 := Nat.mul_le_mul hxk_ hxk_
          refine lv_ldc2 (v := 7919) hx hb hown (hts (Cond.constantLong RX8 202 (7919)) (List.mem_of_getElem? (i := 3) (by decide +kernel))) dX8_day_53 ?_
          refine lv_topl (fun y5 ey5 => ?_)
          have ty5 : y5.toInt = ((7919 : Nat) : Int) := l_of (ey5.trans (by decide)) (by decide)
          refine lv_iload_n hx hb dX8_day_56 rfl (lv_at hl 1 rfl) ?_
          refine lv_i2l hx hb dX8_day_57 rfl ?_
          refine lv_topl (fun y6 ey6 => ?_)
          have ty6 : y6.toInt = ((z : Nat) : Int) := l_i2l ey6 hz0
          refine lv_lmul hx hb dX8_day_58 ?_
          refine lv_topl (fun y7 ey7 => ?_)
          have ty7 : y7.toInt = (((7919 * z) : Nat) : Int) := l_mul ey7 ty5 ty6 (by omega)
          refine lv_ldc2 (v := 6151) hx hb hown (hts (Cond.constantLong RX8 204 (6151)) (List.mem_of_getElem? (i := 4) (by decide +kernel))) dX8_day_59 ?_
          refine lv_topl (fun y8 ey8 => ?_)
          have ty8 : y8.toInt = ((6151 : Nat) : Int) := l_of (ey8.trans (by decide)) (by decide)
          refine lv_iload hx hb dX8_day_62 (lv_at hl 4 rfl) ?_
          refine lv_i2l hx hb dX8_day_64 rfl ?_
          refine lv_topl (fun y9 ey9 => ?_)
          have ty9 : y9.toInt = ((k : Nat) : Int) := l_i2l ey9 hx4
          refine lv_lmul hx hb dX8_day_65 ?_
          refine lv_topl (fun y10 ey10 => ?_)
          have ty10 : y10.toInt = (((6151 * k) : Nat) : Int) := l_mul ey10 ty8 ty9 (by omega)
          refine lv_ladd hx hb dX8_day_66 ?_
          refine lv_topl (fun y11 ey11 => ?_)
          have ty11 : y11.toInt = ((((7919 * z) + (6151 * k)) : Nat) : Int) := l_add ey11 ty7 ty10 (by omega)
          refine lv_lconst (v := 1) hx hb dX8_day_67 (by decide) ?_
          refine lv_topl (fun y12 ey12 => ?_)
          have ty12 : y12.toInt = ((1 : Nat) : Int) := l_of (ey12.trans (by decide)) (by decide)
          refine lv_ladd hx hb dX8_day_68 ?_
          refine lv_topl (fun y13 ey13 => ?_)
          have ty13 : y13.toInt = (((((7919 * z) + (6151 * k)) + 1) : Nat) : Int) := l_add ey13 ty11 ty12 (by omega)
          refine lv_lstore (lv' := [(5, .long y13), (0, .ref (g.2.2.1 x)), (1, .int p0), (2, .int p1), (3, .int p2), (4, .int x4)]) hx hb dX8_day_69 hl (by decide) rfl (fun ls hl => ?_)
          refine lv_aload_n hx hb dX8_day_71 rfl (lv_at hl 1 rfl) ?_
          refine r_get (C := RX8) (T := TX8) (N := 11) (ci := 6) hx hb hts inX8_day_X8 hown w (by have := E.1; omega) E.2.1 rfl 2 (by decide) (hts (Cond.fieldLink RX8 23 "EarlyValues" "trial" "LEarlyValues$Program;") (List.mem_of_getElem? (i := 1) (by decide +kernel))) rfl rfl dX8_day_72 ?_
          refine lv_lload hx hb dX8_day_75 (lv_at hl 0 rfl) ?_
          refine lv_lload hx hb dX8_day_77 (lv_at hl 0 rfl) ?_
          refine lv_lmul hx hb dX8_day_79 ?_
          refine lv_topl (fun y14 ey14 => ?_)
          have ty14 : y14.toInt = ((((((7919 * z) + (6151 * k)) + 1) * (((7919 * z) + (6151 * k)) + 1)) : Nat) : Int) := l_mul ey14 ty13 ty13 (Nat.le_trans hxx_ (by decide))
          refine lv_ldc2 (v := 65521) hx hb hown (hts (Cond.constantLong RX8 206 (65521)) (List.mem_of_getElem? (i := 5) (by decide +kernel))) dX8_day_80 ?_
          refine lv_topl (fun y15 ey15 => ?_)
          have ty15 : y15.toInt = ((65521 : Nat) : Int) := l_of (ey15.trans (by decide)) (by decide)
          refine lv_lrem hx hb dX8_day_83 (l_nz ty15 (by decide)) ?_
          refine lv_topl (fun y16 ey16 => ?_)
          have ty16 : y16.toInt = (((((((7919 * z) + (6151 * k)) + 1) * (((7919 * z) + (6151 * k)) + 1)) % 65521) : Nat) : Int) := l_rem ey16 ty14 ty15 (by omega)
          obtain ⟨y17, ey17⟩ : ∃ y_ : Int32, y16.toInt32 = y_ := ⟨_, rfl⟩
          refine lv_l2i (v := y17) hx hb dX8_day_84 ey17 ?_
          have ty17 : y17.toInt = (((((((7919 * z) + (6151 * k)) + 1) * (((7919 * z) + (6151 * k)) + 1)) % 65521) : Nat) : Int) := l_l2i ey17 ty16 (by omega)
          refine r_callV w (va_runV (As := [.int y17]) (rest := []) ⟨hx, hb, hml, hown, hts⟩ (c_X3_turnLetter l Pr Str hPM y17 (d := dDraw z k) ty17) (cwV 1 hts gX8_day_X3_turnLetter rfl rfl rfl (by decide +kernel) ⟨Nat.le_of_ble_eq_true rfl, Nat.le_of_ble_eq_true rfl⟩) (r_preV w (by have := Pr.1; omega) Pr.c0 rfl) rfl rfl hl.1 rfl (lv_room (Nat.le_of_ble_eq_true rfl)) dX8_day_85 ⟨Nat.zero_le _, Nat.zero_le _⟩) (fun h18 H locs hp w => ?_)
          obtain ⟨hfk19, gbk19, kk19, hNk19, Pr, S2k19⟩ := hp
          have E := E.fr (h' := h18) (fun k_ h1_ h2_ h3_ => hfk19 k_ (by omega))
          have P := P.fr (h' := h18) (fun k_ h1_ h2_ => hfk19 k_ (by omega))
          have V3 := V3.fr (h' := h18) (fun k_ h1_ h2_ => hfk19 k_ (by omega))
          have hfr : ∀ k_, ¬ ((x + 21 ≤ k_ ∧ k_ < x + 30) ∨ ((x + 107) ≤ k_ ∧ k_ < (x + 107) + 18)) → h18 k_ = h k_ := fun k_ hk_ => (hfk19 k_ (by omega)).trans (hfr k_ hk_)
          obtain ⟨y20, ey20⟩ : ∃ y : Int32, y = x4 + (1) := ⟨_, rfl⟩
          have ty20 : y20.toInt = (((k + 1) : Nat) : Int) := i_addN ey20 hx4 (by decide : (1 : Int32).toInt = ((1 : Nat) : Int)) (by omega)
          refine lv_iinc (v := y20) (lv' := [(4, .int y20), (5, .long y13), (0, .ref (g.2.2.1 x)), (1, .int p0), (2, .int p1), (3, .int p2)]) hx hb dX8_day_88 hl (k := 5) rfl (by rw [ey20]; rfl) (by decide) rfl (fun ls hl => ?_)
          refine lv_goto (tgt := 47) hx hb dX8_day_91 (by decide) ?_
          exact ih47 (k + 1) ((mSet M1 (dDraw z k % pN M1) (dDraw z k / 8 % pL M1 (dDraw z k % pN M1)) kk19)) y20 ra1 rk1 rl1 gbk19 h18 _ _ _ w (lv_sub hl [2, 3, 4, 5, 0] rfl) hz0 hn0 hz9 hn9 (by omega) ty20 (⟨M1, kk19, hdr, hNk19, rfl⟩) (hNk19.ok hPM) S2k19 E P Pr (⟨_, _, _, _, _, _, _, _, _, _, _, V3⟩) hfr (by omega)
      · intro M1 K f x5 x6 ra1 rk1 rl1 rb1 hc H locs ls w hl hz0 hn0 hz9 hn9 hdr hPM hK hfl hx5 hx6 Str E P Pr W3 hfr hN_
        obtain ⟨kk3, kc3, tk3, fz3, dp3, gp3, gg3, gs3, gd3, gt3, gc3, V3, hT⟩ := W3
        have hNv3 := V3.hN
        have hNe := E.1
        have hn4_ := hPM.2.1
        have hn1_ := hPM.1
        refine lv_iload hx hb dX8_day_126 (lv_at hl 6 rfl) ?_
        refine lv_aload_n hx hb dX8_day_128 rfl (lv_at hl 0 rfl) ?_
        refine r_get (C := RX8) (T := TX8) (N := 11) (ci := 6) hx hb hts inX8_day_X8 hown w (by have := E.1; omega) E.2.1 rfl 2 (by decide) (hts (Cond.fieldLink RX8 23 "EarlyValues" "trial" "LEarlyValues$Program;") (List.mem_of_getElem? (i := 1) (by decide +kernel))) rfl rfl dX8_day_129 ?_
        refine r_get (C := RX3) (T := TX3) (N := 5) (ci := 2) hx hb hts inX8_day_X3 hown w (by have := Pr.1; omega) Pr.c0 rfl 0 (by decide) (hts (Cond.fieldLink RX8 108 "EarlyValues$Program" "functions" "I") (List.mem_of_getElem? (i := 8) (by decide +kernel))) rfl rfl dX8_day_132 ?_
        refine lv_icmp_ge (tgt := 182) hx hb dX8_day_135 (by decide) (fun c21 => ?_) (fun c21 => ?_)
        · have c21 : (((pN M1) : Nat) : Int) ≤ ((f : Nat) : Int) := (i_le Str.1 hx6).mp c21
          refine lv_iload hx hb dX8_day_182 (lv_at hl 5 rfl) ?_
          refine r_iret (v := x5) hx hb hr hlocks w dX8_day_184 ?_
          have hd_ := dayN_fin (w := 2) (u := u3) hPM (by omega) (by rw [hu3]; rfl) hK (hx5.trans (by rw [show f = pN M1 by omega]))
          subst hu3
          exact ⟨(fun k_ hk_ => hfr k_ (by omega)), ⟨hSV0, ⟨_, E, hkn⟩, (T0.fr (fun k_ a_ b_ => hfr k_ (by omega))), (Q1.fr (fun k_ a_ b_ => hfr k_ (by omega))), ⟨_, _, _, _, _, P, S⟩, ⟨_, _, _, _, _, Pr⟩, (fun i_ hi_ => (Q3 i_ hi_).fr (fun k_ a_ b_ => hfr k_ (by omega))), (fun i_ (hi_ : i_ < sV st0) => (Q4 i_ hi_).fr (fun k_ a_ b_ => hfr k_ (by omega))), (H0_.fr (fun k_ a_ b_ => hfr k_ (by omega))), (W0.fr (fun k_ a_ b_ => hfr k_ (by omega))), (W1.fr (fun k_ a_ b_ => hfr k_ (by omega))), (W2.fr (fun k_ a_ b_ => hfr k_ (by omega))), ⟨_, _, _, _, _, _, _, _, _, _, _, V3⟩, (W4.fr (fun k_ a_ b_ => hfr k_ (by omega)))⟩, Or.inl ⟨z, nn, 2, M1, hz0, hn0, by omega, hz9, hn9.1, hn9.2, by omega, hdr, hd_⟩⟩
        · have c21 : ¬ ((((pN M1) : Nat) : Int) ≤ ((f : Nat) : Int)) := fun q => c21 ((i_le Str.1 hx6).mpr q)
          have hf : f < pN M1 := by omega
          have hsm_ := sm_ub (f := dOne M1 K 2) (c := 125) f (fun j_ hj_ => dOne_le hPM (by omega))
          refine lv_iload hx hb dX8_day_138 (lv_at hl 5 rfl) ?_
          refine lv_iload_n hx hb dX8_day_140 rfl (lv_at hl 3 rfl) ?_
          refine lv_iconst (v := 2) hx hb dX8_day_141 (by decide) ?_
          refine lv_icmp_ne (tgt := 159) hx hb dX8_day_142 (by decide) (fun c22 => ?_) (fun c22 => ?_)
          · have c22 : ¬ (p2.toInt = ((2 : Nat) : Int)) := fun q => c22 ((i_eq (rfl : p2.toInt = p2.toInt) (by decide : (2 : Int32).toInt = ((2 : Nat) : Int))).mpr q)
            exfalso; omega
          · have c22 : p2.toInt = ((2 : Nat) : Int) := (i_eq (rfl : p2.toInt = p2.toInt) (by decide : (2 : Int32).toInt = ((2 : Nat) : Int))).mp c22
            refine lv_aload hx hb dX8_day_145 (lv_at hl 4 rfl) ?_
            refine lv_aload_n hx hb dX8_day_147 rfl (lv_at hl 0 rfl) ?_
            refine r_get (C := RX8) (T := TX8) (N := 11) (ci := 6) hx hb hts inX8_day_X8 hown w (by have := E.1; omega) E.2.1 rfl 2 (by decide) (hts (Cond.fieldLink RX8 23 "EarlyValues" "trial" "LEarlyValues$Program;") (List.mem_of_getElem? (i := 1) (by decide +kernel))) rfl rfl dX8_day_148 ?_
            refine lv_iload hx hb dX8_day_151 (lv_at hl 6 rfl) ?_
            refine r_callI w (va_3 V3.hu (fun q_ => va_runU (As := [.ref (g.2.2.1 (x + 21)), .int x6]) (rest := [.int x5]) ⟨hx, hb, hml, hown, hts⟩ (c_X7_rowsThatCome l V3 Pr Str hPM hT x6 hx6 hf) (va_cwU 2 hts gX8_day_X7_rowsThatCome_u215X6 rfl rfl rfl rfl (by decide +kernel) ⟨Nat.le_of_ble_eq_true rfl, Nat.le_of_ble_eq_true rfl⟩) (r_preV w (by have := V3.hN; omega) (V3.ob (by subst q_; rfl)) rfl) rfl rfl hl.1 rfl (lv_room (Nat.le_of_ble_eq_true rfl)) dX8_day_153 ⟨Nat.zero_le _, Nat.zero_le _⟩) (fun q_ => va_runU (As := [.ref (g.2.2.1 (x + 21)), .int x6]) (rest := [.int x5]) ⟨hx, hb, hml, hown, hts⟩ (c_X7_rowsThatCome l V3 Pr Str hPM hT x6 hx6 hf) (va_cwU 2 hts gX8_day_X7_rowsThatCome_u215X4 rfl rfl rfl rfl (by decide +kernel) ⟨Nat.le_of_ble_eq_true rfl, Nat.le_of_ble_eq_true rfl⟩) (r_preV w (by have := V3.hN; omega) (V3.ob (by subst q_; rfl)) rfl) rfl rfl hl.1 rfl (lv_room (Nat.le_of_ble_eq_true rfl)) dX8_day_153 ⟨Nat.zero_le _, Nat.zero_le _⟩) (fun q_ => va_runU (As := [.ref (g.2.2.1 (x + 21)), .int x6]) (rest := [.int x5]) ⟨hx, hb, hml, hown, hts⟩ (c_X7_rowsThatCome l V3 Pr Str hPM hT x6 hx6 hf) (va_cwU 2 hts gX8_day_X7_rowsThatCome_u215X0 rfl rfl rfl rfl (by decide +kernel) ⟨Nat.le_of_ble_eq_true rfl, Nat.le_of_ble_eq_true rfl⟩) (r_preV w (by have := V3.hN; omega) (V3.ob (by subst q_; rfl)) rfl) rfl rfl hl.1 rfl (lv_room (Nat.le_of_ble_eq_true rfl)) dX8_day_153 ⟨Nat.zero_le _, Nat.zero_le _⟩)) (fun r24 h23 H locs hp w => ?_)
            obtain ⟨eh_, qq25⟩ := hp
            have eh_ := eh_.symm
            subst eh_
            rw [hu3] at qq25
            refine lv_goto (tgt := 173) hx hb dX8_day_156 (by decide) ?_
            have hpo_ := rCome_le (K := K) hPM hf
            refine lv_iadd hx hb dX8_day_173 ?_
            refine lv_topi (fun y26 ey26 => ?_)
            have ty26 : y26.toInt = ((((sm (dOne M1 K 2) f) + (rCome M1 K f)) : Nat) : Int) := i_addN ey26 hx5 qq25 (by omega)
            refine lv_istore (lv' := [(5, .int y26), (0, .ref (g.2.2.1 x)), (1, .int p0), (2, .int p1), (3, .int p2), (4, .ref (g.2.2.1 (x + 107))), (6, .int x6)]) hx hb dX8_day_174 hl (by decide) rfl (fun ls hl => ?_)
            obtain ⟨y27, ey27⟩ : ∃ y : Int32, y = x6 + (1) := ⟨_, rfl⟩
            have ty27 : y27.toInt = (((f + 1) : Nat) : Int) := i_addN ey27 hx6 (by decide : (1 : Int32).toInt = ((1 : Nat) : Int)) (by omega)
            refine lv_iinc (v := y27) (lv' := [(6, .int y27), (5, .int y26), (0, .ref (g.2.2.1 x)), (1, .int p0), (2, .int p1), (3, .int p2), (4, .ref (g.2.2.1 (x + 107)))]) hx hb dX8_day_176 hl (k := 6) rfl (by rw [ey27]; rfl) (by decide) rfl (fun ls hl => ?_)
            refine lv_goto (tgt := 126) hx hb dX8_day_179 (by decide) ?_
            exact ih126 M1 K (f + 1) y26 y27 ra1 rk1 rl1 rb1 hc _ _ _ w (lv_sub hl [2, 3, 4, 5, 6, 1, 0] rfl) hz0 hn0 hz9 hn9 hdr hPM hK (by omega) (ty26.trans (by rw [sm_succ, dOne_2])) ty27 Str E P Pr (⟨_, _, _, _, _, _, _, _, _, _, _, V3, hT⟩) hfr (by omega)
  have cut0 := cuts (60)
  obtain ⟨ih47, ih126⟩ := cut0
  refine lv_iload_n hx hb dX8_day_0 rfl (lv_at hl 1 rfl) ?_
  refine lv_if_lt (tgt := 31) hx hb dX8_day_1 (by decide) (fun c28 => ?_) (fun c28 => ?_)
  · have c28 : p0.toInt < (0 : Int) := (i_lt (rfl : p0.toInt = p0.toInt) (rfl : (0 : Int32).toInt = 0)).mp c28
    refine lv_iconst (v := (-1)) hx hb dX8_day_31 (by decide) ?_
    refine r_iret (v := (-1)) hx hb hr hlocks w dX8_day_32 ?_
    subst hu3
    exact ⟨(fun k_ hk_ => hfr k_ (by omega)), ⟨hSV0, ⟨_, E, hkn⟩, (T0.fr (fun k_ a_ b_ => hfr k_ (by omega))), (Q1.fr (fun k_ a_ b_ => hfr k_ (by omega))), ⟨_, _, _, _, _, P, S⟩, ⟨_, _, _, _, _, Pr⟩, (fun i_ hi_ => (Q3 i_ hi_).fr (fun k_ a_ b_ => hfr k_ (by omega))), (fun i_ (hi_ : i_ < sV st0) => (Q4 i_ hi_).fr (fun k_ a_ b_ => hfr k_ (by omega))), (H0_.fr (fun k_ a_ b_ => hfr k_ (by omega))), (W0.fr (fun k_ a_ b_ => hfr k_ (by omega))), (W1.fr (fun k_ a_ b_ => hfr k_ (by omega))), (W2.fr (fun k_ a_ b_ => hfr k_ (by omega))), ⟨_, _, _, _, _, _, _, _, _, _, _, V3⟩, (W4.fr (fun k_ a_ b_ => hfr k_ (by omega)))⟩, Or.inr ⟨by omega, rfl⟩⟩
  · have c28 : ¬ (p0.toInt < (0 : Int)) := fun q => c28 ((i_lt (rfl : p0.toInt = p0.toInt) (rfl : (0 : Int32).toInt = 0)).mpr q)
    refine lv_iload_n hx hb dX8_day_4 rfl (lv_at hl 1 rfl) ?_
    refine lv_sipush (v := 9999) hx hb dX8_day_5 (by decide) ?_
    refine lv_icmp_gt (tgt := 31) hx hb dX8_day_8 (by decide) (fun c29 => ?_) (fun c29 => ?_)
    · have c29 : ((9999 : Nat) : Int) < p0.toInt := (i_lt (by decide : (9999 : Int32).toInt = ((9999 : Nat) : Int)) (rfl : p0.toInt = p0.toInt)).mp c29
      refine lv_iconst (v := (-1)) hx hb dX8_day_31 (by decide) ?_
      refine r_iret (v := (-1)) hx hb hr hlocks w dX8_day_32 ?_
      subst hu3
      exact ⟨(fun k_ hk_ => hfr k_ (by omega)), ⟨hSV0, ⟨_, E, hkn⟩, (T0.fr (fun k_ a_ b_ => hfr k_ (by omega))), (Q1.fr (fun k_ a_ b_ => hfr k_ (by omega))), ⟨_, _, _, _, _, P, S⟩, ⟨_, _, _, _, _, Pr⟩, (fun i_ hi_ => (Q3 i_ hi_).fr (fun k_ a_ b_ => hfr k_ (by omega))), (fun i_ (hi_ : i_ < sV st0) => (Q4 i_ hi_).fr (fun k_ a_ b_ => hfr k_ (by omega))), (H0_.fr (fun k_ a_ b_ => hfr k_ (by omega))), (W0.fr (fun k_ a_ b_ => hfr k_ (by omega))), (W1.fr (fun k_ a_ b_ => hfr k_ (by omega))), (W2.fr (fun k_ a_ b_ => hfr k_ (by omega))), ⟨_, _, _, _, _, _, _, _, _, _, _, V3⟩, (W4.fr (fun k_ a_ b_ => hfr k_ (by omega)))⟩, Or.inr ⟨by omega, rfl⟩⟩
    · have c29 : ¬ (((9999 : Nat) : Int) < p0.toInt) := fun q => c29 ((i_lt (by decide : (9999 : Int32).toInt = ((9999 : Nat) : Int)) (rfl : p0.toInt = p0.toInt)).mpr q)
      have hz0 : p0.toInt = ((z : Nat) : Int) := by omega
      have hz9 : z ≤ 9999 := by omega
      refine lv_iload_n hx hb dX8_day_11 rfl (lv_at hl 2 rfl) ?_
      refine lv_iconst (v := 1) hx hb dX8_day_12 (by decide) ?_
      refine lv_icmp_lt (tgt := 31) hx hb dX8_day_13 (by decide) (fun c30 => ?_) (fun c30 => ?_)
      · have c30 : p1.toInt < ((1 : Nat) : Int) := (i_lt (rfl : p1.toInt = p1.toInt) (by decide : (1 : Int32).toInt = ((1 : Nat) : Int))).mp c30
        refine lv_iconst (v := (-1)) hx hb dX8_day_31 (by decide) ?_
        refine r_iret (v := (-1)) hx hb hr hlocks w dX8_day_32 ?_
        subst hu3
        exact ⟨(fun k_ hk_ => hfr k_ (by omega)), ⟨hSV0, ⟨_, E, hkn⟩, (T0.fr (fun k_ a_ b_ => hfr k_ (by omega))), (Q1.fr (fun k_ a_ b_ => hfr k_ (by omega))), ⟨_, _, _, _, _, P, S⟩, ⟨_, _, _, _, _, Pr⟩, (fun i_ hi_ => (Q3 i_ hi_).fr (fun k_ a_ b_ => hfr k_ (by omega))), (fun i_ (hi_ : i_ < sV st0) => (Q4 i_ hi_).fr (fun k_ a_ b_ => hfr k_ (by omega))), (H0_.fr (fun k_ a_ b_ => hfr k_ (by omega))), (W0.fr (fun k_ a_ b_ => hfr k_ (by omega))), (W1.fr (fun k_ a_ b_ => hfr k_ (by omega))), (W2.fr (fun k_ a_ b_ => hfr k_ (by omega))), ⟨_, _, _, _, _, _, _, _, _, _, _, V3⟩, (W4.fr (fun k_ a_ b_ => hfr k_ (by omega)))⟩, Or.inr ⟨by omega, rfl⟩⟩
      · have c30 : ¬ (p1.toInt < ((1 : Nat) : Int)) := fun q => c30 ((i_lt (rfl : p1.toInt = p1.toInt) (by decide : (1 : Int32).toInt = ((1 : Nat) : Int))).mpr q)
        refine lv_iload_n hx hb dX8_day_16 rfl (lv_at hl 2 rfl) ?_
        refine lv_bipush (v := 20) hx hb dX8_day_17 (by decide) ?_
        refine lv_icmp_gt (tgt := 31) hx hb dX8_day_19 (by decide) (fun c31 => ?_) (fun c31 => ?_)
        · have c31 : ((20 : Nat) : Int) < p1.toInt := (i_lt (by decide : (20 : Int32).toInt = ((20 : Nat) : Int)) (rfl : p1.toInt = p1.toInt)).mp c31
          refine lv_iconst (v := (-1)) hx hb dX8_day_31 (by decide) ?_
          refine r_iret (v := (-1)) hx hb hr hlocks w dX8_day_32 ?_
          subst hu3
          exact ⟨(fun k_ hk_ => hfr k_ (by omega)), ⟨hSV0, ⟨_, E, hkn⟩, (T0.fr (fun k_ a_ b_ => hfr k_ (by omega))), (Q1.fr (fun k_ a_ b_ => hfr k_ (by omega))), ⟨_, _, _, _, _, P, S⟩, ⟨_, _, _, _, _, Pr⟩, (fun i_ hi_ => (Q3 i_ hi_).fr (fun k_ a_ b_ => hfr k_ (by omega))), (fun i_ (hi_ : i_ < sV st0) => (Q4 i_ hi_).fr (fun k_ a_ b_ => hfr k_ (by omega))), (H0_.fr (fun k_ a_ b_ => hfr k_ (by omega))), (W0.fr (fun k_ a_ b_ => hfr k_ (by omega))), (W1.fr (fun k_ a_ b_ => hfr k_ (by omega))), (W2.fr (fun k_ a_ b_ => hfr k_ (by omega))), ⟨_, _, _, _, _, _, _, _, _, _, _, V3⟩, (W4.fr (fun k_ a_ b_ => hfr k_ (by omega)))⟩, Or.inr ⟨by omega, rfl⟩⟩
        · have c31 : ¬ (((20 : Nat) : Int) < p1.toInt) := fun q => c31 ((i_lt (by decide : (20 : Int32).toInt = ((20 : Nat) : Int)) (rfl : p1.toInt = p1.toInt)).mpr q)
          have hn0 : p1.toInt = ((nn : Nat) : Int) := by omega
          have hn9 : 1 ≤ nn ∧ nn ≤ 20 := by omega
          refine lv_iload_n hx hb dX8_day_22 rfl (lv_at hl 3 rfl) ?_
          refine lv_if_lt (tgt := 31) hx hb dX8_day_23 (by decide) (fun c32 => ?_) (fun c32 => ?_)
          · have c32 : p2.toInt < (0 : Int) := (i_lt (rfl : p2.toInt = p2.toInt) (rfl : (0 : Int32).toInt = 0)).mp c32
            exfalso; omega
          · have c32 : ¬ (p2.toInt < (0 : Int)) := fun q => c32 ((i_lt (rfl : p2.toInt = p2.toInt) (rfl : (0 : Int32).toInt = 0)).mpr q)
            refine lv_iload_n hx hb dX8_day_26 rfl (lv_at hl 3 rfl) ?_
            refine lv_iconst (v := 2) hx hb dX8_day_27 (by decide) ?_
            refine lv_icmp_le (tgt := 33) hx hb dX8_day_28 (by decide) (fun c33 => ?_) (fun c33 => ?_)
            · have c33 : p2.toInt ≤ ((2 : Nat) : Int) := (i_le (rfl : p2.toInt = p2.toInt) (by decide : (2 : Int32).toInt = ((2 : Nat) : Int))).mp c33
              refine lv_aload_n hx hb dX8_day_33 rfl (lv_at hl 0 rfl) ?_
              refine r_get (C := RX8) (T := TX8) (N := 11) (ci := 6) hx hb hts inX8_day_X8 hown w (by have := E.1; omega) E.2.1 rfl 2 (by decide) (hts (Cond.fieldLink RX8 23 "EarlyValues" "trial" "LEarlyValues$Program;") (List.mem_of_getElem? (i := 1) (by decide +kernel))) rfl rfl dX8_day_34 ?_
              refine lv_aload_n hx hb dX8_day_37 rfl (lv_at hl 0 rfl) ?_
              refine r_get (C := RX8) (T := TX8) (N := 11) (ci := 6) hx hb hts inX8_day_X8 hown w (by have := E.1; omega) E.2.1 rfl 1 (by decide) (hts (Cond.fieldLink RX8 19 "EarlyValues" "now" "LEarlyValues$Program;") (List.mem_of_getElem? (i := 2) (by decide +kernel))) rfl rfl dX8_day_38 ?_
              refine r_callV w (va_runV (As := [.ref (g.2.2.1 (x + 12))]) (rest := []) ⟨hx, hb, hml, hown, hts⟩ (c_X3_takeFrom l Pr P (by omega)) (cwV 1 hts gX8_day_X3_takeFrom rfl rfl rfl (by decide +kernel) ⟨Nat.le_of_ble_eq_true rfl, Nat.le_of_ble_eq_true rfl⟩) (r_preV w (by have := Pr.1; omega) Pr.c0 rfl) rfl rfl hl.1 rfl (lv_room (Nat.le_of_ble_eq_true rfl)) dX8_day_41 ⟨Nat.zero_le _, Nat.zero_le _⟩) (fun h34 H locs hp w => ?_)
              obtain ⟨hfk35, gak35, gkk35, glk35, gbk35, Pr, hcpk35⟩ := hp
              have E := E.fr (h' := h34) (fun k_ h1_ h2_ h3_ => hfk35 k_ (by omega))
              have P := P.fr (h' := h34) (fun k_ h1_ h2_ => hfk35 k_ (by omega))
              have V3 := V3.fr (h' := h34) (fun k_ h1_ h2_ => hfk35 k_ (by omega))
              have hfr : ∀ k_, ¬ ((x + 21 ≤ k_ ∧ k_ < x + 30) ∨ ((x + 107) ≤ k_ ∧ k_ < (x + 107) + 18)) → h34 k_ = h k_ := fun k_ hk_ => (hfk35 k_ (by omega))
              refine lv_iconst (v := 0) hx hb dX8_day_44 (by decide) ?_
              refine lv_istore (lv' := [(4, .int 0), (0, .ref (g.2.2.1 x)), (1, .int p0), (2, .int p1), (3, .int p2)]) hx hb dX8_day_45 hl (by decide) rfl (fun ls hl => ?_)
              exact ih47 0 ((sM st0)) 0 gak35 gkk35 glk35 gbk35 h34 _ _ _ w (lv_sub hl [1, 2, 3, 4, 0] rfl) hz0 hn0 hz9 hn9 (by omega) ((by decide : (0 : Int32).toInt = ((0 : Nat) : Int))) rfl hP ((S.cp hP hcpk35)) E P Pr (⟨_, _, _, _, _, _, _, _, _, _, _, V3⟩) hfr (by omega)
            · have c33 : ¬ (p2.toInt ≤ ((2 : Nat) : Int)) := fun q => c33 ((i_le (rfl : p2.toInt = p2.toInt) (by decide : (2 : Int32).toInt = ((2 : Nat) : Int))).mpr q)
              exfalso; omega

set_option maxHeartbeats 4000000 in
set_option maxRecDepth 100000 in
theorem c_X8_day_3 (l : Launch) {g : GE} {h : Nat → va_E} {x : Nat} {st0 : ST} (C : ClsA g h x st0) (p0 : Int32) (p1 : Int32) (p2 : Int32) (hw : ¬ (0 ≤ p2.toInt ∧ p2.toInt ≤ 2)) : MI l yX8_day wsX8_day rm_X8_day [.ref (g.2.2.1 x), .int p0, .int p1, .int p2] g h (fun r_ h2 => (∀ k, ¬ (x ≤ k ∧ k < x + 143) → h2 k = h k) ∧ ClsA g h2 x st0 ∧ AnDay st0 p0 p1 p2 r_) := by
  refine Met.ofW (cc := cX8_day) (maxL := 7) (ret := (some .int)) (by decide) rfl ?_
  intro p e s m args below meth c s₁ B hml hv
  obtain ⟨rfl, w0⟩ := hv
  have hx := B.exec
  have hb := B.bytes
  have hr := B.returns
  have hts := atoms_spec (ws := wsX8_day) B.pre
  have hown : s.vm.findClass RX8 = some m.cls := findClass_of_methodNamed B.named
  have hlocks := B.notSynchronized
  have w := w0.start
  clear w0
  have hl := lv_entry ([.ref (g.2.2.1 x), .int p0, .int p1, .int p2]) (n := 7) (Nat.le_of_ble_eq_true rfl)
  rw [lg_entry_eq]
  generalize (lg_sl ([.ref (g.2.2.1 x), .int p0, .int p1, .int p2]) ++ List.replicate (7 - (lg_sl ([.ref (g.2.2.1 x), .int p0, .int p1, .int p2])).length) Slot.unset).toArray = ls at hl ⊢
  have hl : lv_has ls 7 [(0, .ref (g.2.2.1 x)), (1, .int p0), (2, .int p1), (3, .int p2)] := hl
  obtain ⟨hSV, ⟨kn, E, hkn⟩, T0, Q1, P0, Q2, Q3, Q4, H0_, W0, W1, W2, W3, W4⟩ := C
  have hSV0 := hSV
  obtain ⟨hP, hu8, hUP, hv2, hVP, hl200, hlt⟩ := hSV
  have hn4 := hP.2.1
  have hNe := E.1
  obtain ⟨n, ga, gk, gl, gb, P, S⟩ := P0
  have hnS := S.1
  obtain ⟨rn, ra, rk, rl, rb, Pr⟩ := Q2
  obtain ⟨u3, hu3, W3⟩ : ∃ u_ : Nat, u_ = 0 ∧ VwX g h (x + 107) u_ := ⟨_, rfl, W3⟩
  obtain ⟨kk3, kc3, tk3, fz3, dp3, gp3, gg3, gs3, gd3, gt3, gc3, V3⟩ := W3
  have hNv3 := V3.hN
  obtain ⟨z, hzd⟩ : ∃ f_ : Nat, f_ = p0.toInt.toNat := ⟨_, rfl⟩
  obtain ⟨nn, hnd⟩ : ∃ f_ : Nat, f_ = p1.toInt.toNat := ⟨_, rfl⟩
  have hfr : ∀ k_, ¬ ((x + 21 ≤ k_ ∧ k_ < x + 30) ∨ ((x + 107) ≤ k_ ∧ k_ < (x + 107) + 18)) → h k_ = h k_ := fun _ _ => rfl
  refine lv_iload_n hx hb dX8_day_0 rfl (lv_at hl 1 rfl) ?_
  refine lv_if_lt (tgt := 31) hx hb dX8_day_1 (by decide) (fun c1 => ?_) (fun c1 => ?_)
  · have c1 : p0.toInt < (0 : Int) := (i_lt (rfl : p0.toInt = p0.toInt) (rfl : (0 : Int32).toInt = 0)).mp c1
    refine lv_iconst (v := (-1)) hx hb dX8_day_31 (by decide) ?_
    refine r_iret (v := (-1)) hx hb hr hlocks w dX8_day_32 ?_
    subst hu3
    exact ⟨(fun k_ hk_ => hfr k_ (by omega)), ⟨hSV0, ⟨_, E, hkn⟩, (T0.fr (fun k_ a_ b_ => hfr k_ (by omega))), (Q1.fr (fun k_ a_ b_ => hfr k_ (by omega))), ⟨_, _, _, _, _, P, S⟩, ⟨_, _, _, _, _, Pr⟩, (fun i_ hi_ => (Q3 i_ hi_).fr (fun k_ a_ b_ => hfr k_ (by omega))), (fun i_ (hi_ : i_ < sV st0) => (Q4 i_ hi_).fr (fun k_ a_ b_ => hfr k_ (by omega))), (H0_.fr (fun k_ a_ b_ => hfr k_ (by omega))), (W0.fr (fun k_ a_ b_ => hfr k_ (by omega))), (W1.fr (fun k_ a_ b_ => hfr k_ (by omega))), (W2.fr (fun k_ a_ b_ => hfr k_ (by omega))), ⟨_, _, _, _, _, _, _, _, _, _, _, V3⟩, (W4.fr (fun k_ a_ b_ => hfr k_ (by omega)))⟩, Or.inr ⟨by omega, rfl⟩⟩
  · have c1 : ¬ (p0.toInt < (0 : Int)) := fun q => c1 ((i_lt (rfl : p0.toInt = p0.toInt) (rfl : (0 : Int32).toInt = 0)).mpr q)
    refine lv_iload_n hx hb dX8_day_4 rfl (lv_at hl 1 rfl) ?_
    refine lv_sipush (v := 9999) hx hb dX8_day_5 (by decide) ?_
    refine lv_icmp_gt (tgt := 31) hx hb dX8_day_8 (by decide) (fun c2 => ?_) (fun c2 => ?_)
    · have c2 : ((9999 : Nat) : Int) < p0.toInt := (i_lt (by decide : (9999 : Int32).toInt = ((9999 : Nat) : Int)) (rfl : p0.toInt = p0.toInt)).mp c2
      refine lv_iconst (v := (-1)) hx hb dX8_day_31 (by decide) ?_
      refine r_iret (v := (-1)) hx hb hr hlocks w dX8_day_32 ?_
      subst hu3
      exact ⟨(fun k_ hk_ => hfr k_ (by omega)), ⟨hSV0, ⟨_, E, hkn⟩, (T0.fr (fun k_ a_ b_ => hfr k_ (by omega))), (Q1.fr (fun k_ a_ b_ => hfr k_ (by omega))), ⟨_, _, _, _, _, P, S⟩, ⟨_, _, _, _, _, Pr⟩, (fun i_ hi_ => (Q3 i_ hi_).fr (fun k_ a_ b_ => hfr k_ (by omega))), (fun i_ (hi_ : i_ < sV st0) => (Q4 i_ hi_).fr (fun k_ a_ b_ => hfr k_ (by omega))), (H0_.fr (fun k_ a_ b_ => hfr k_ (by omega))), (W0.fr (fun k_ a_ b_ => hfr k_ (by omega))), (W1.fr (fun k_ a_ b_ => hfr k_ (by omega))), (W2.fr (fun k_ a_ b_ => hfr k_ (by omega))), ⟨_, _, _, _, _, _, _, _, _, _, _, V3⟩, (W4.fr (fun k_ a_ b_ => hfr k_ (by omega)))⟩, Or.inr ⟨by omega, rfl⟩⟩
    · have c2 : ¬ (((9999 : Nat) : Int) < p0.toInt) := fun q => c2 ((i_lt (by decide : (9999 : Int32).toInt = ((9999 : Nat) : Int)) (rfl : p0.toInt = p0.toInt)).mpr q)
      have hz0 : p0.toInt = ((z : Nat) : Int) := by omega
      have hz9 : z ≤ 9999 := by omega
      refine lv_iload_n hx hb dX8_day_11 rfl (lv_at hl 2 rfl) ?_
      refine lv_iconst (v := 1) hx hb dX8_day_12 (by decide) ?_
      refine lv_icmp_lt (tgt := 31) hx hb dX8_day_13 (by decide) (fun c3 => ?_) (fun c3 => ?_)
      · have c3 : p1.toInt < ((1 : Nat) : Int) := (i_lt (rfl : p1.toInt = p1.toInt) (by decide : (1 : Int32).toInt = ((1 : Nat) : Int))).mp c3
        refine lv_iconst (v := (-1)) hx hb dX8_day_31 (by decide) ?_
        refine r_iret (v := (-1)) hx hb hr hlocks w dX8_day_32 ?_
        subst hu3
        exact ⟨(fun k_ hk_ => hfr k_ (by omega)), ⟨hSV0, ⟨_, E, hkn⟩, (T0.fr (fun k_ a_ b_ => hfr k_ (by omega))), (Q1.fr (fun k_ a_ b_ => hfr k_ (by omega))), ⟨_, _, _, _, _, P, S⟩, ⟨_, _, _, _, _, Pr⟩, (fun i_ hi_ => (Q3 i_ hi_).fr (fun k_ a_ b_ => hfr k_ (by omega))), (fun i_ (hi_ : i_ < sV st0) => (Q4 i_ hi_).fr (fun k_ a_ b_ => hfr k_ (by omega))), (H0_.fr (fun k_ a_ b_ => hfr k_ (by omega))), (W0.fr (fun k_ a_ b_ => hfr k_ (by omega))), (W1.fr (fun k_ a_ b_ => hfr k_ (by omega))), (W2.fr (fun k_ a_ b_ => hfr k_ (by omega))), ⟨_, _, _, _, _, _, _, _, _, _, _, V3⟩, (W4.fr (fun k_ a_ b_ => hfr k_ (by omega)))⟩, Or.inr ⟨by omega, rfl⟩⟩
      · have c3 : ¬ (p1.toInt < ((1 : Nat) : Int)) := fun q => c3 ((i_lt (rfl : p1.toInt = p1.toInt) (by decide : (1 : Int32).toInt = ((1 : Nat) : Int))).mpr q)
        refine lv_iload_n hx hb dX8_day_16 rfl (lv_at hl 2 rfl) ?_
        refine lv_bipush (v := 20) hx hb dX8_day_17 (by decide) ?_
        refine lv_icmp_gt (tgt := 31) hx hb dX8_day_19 (by decide) (fun c4 => ?_) (fun c4 => ?_)
        · have c4 : ((20 : Nat) : Int) < p1.toInt := (i_lt (by decide : (20 : Int32).toInt = ((20 : Nat) : Int)) (rfl : p1.toInt = p1.toInt)).mp c4
          refine lv_iconst (v := (-1)) hx hb dX8_day_31 (by decide) ?_
          refine r_iret (v := (-1)) hx hb hr hlocks w dX8_day_32 ?_
          subst hu3
          exact ⟨(fun k_ hk_ => hfr k_ (by omega)), ⟨hSV0, ⟨_, E, hkn⟩, (T0.fr (fun k_ a_ b_ => hfr k_ (by omega))), (Q1.fr (fun k_ a_ b_ => hfr k_ (by omega))), ⟨_, _, _, _, _, P, S⟩, ⟨_, _, _, _, _, Pr⟩, (fun i_ hi_ => (Q3 i_ hi_).fr (fun k_ a_ b_ => hfr k_ (by omega))), (fun i_ (hi_ : i_ < sV st0) => (Q4 i_ hi_).fr (fun k_ a_ b_ => hfr k_ (by omega))), (H0_.fr (fun k_ a_ b_ => hfr k_ (by omega))), (W0.fr (fun k_ a_ b_ => hfr k_ (by omega))), (W1.fr (fun k_ a_ b_ => hfr k_ (by omega))), (W2.fr (fun k_ a_ b_ => hfr k_ (by omega))), ⟨_, _, _, _, _, _, _, _, _, _, _, V3⟩, (W4.fr (fun k_ a_ b_ => hfr k_ (by omega)))⟩, Or.inr ⟨by omega, rfl⟩⟩
        · have c4 : ¬ (((20 : Nat) : Int) < p1.toInt) := fun q => c4 ((i_lt (by decide : (20 : Int32).toInt = ((20 : Nat) : Int)) (rfl : p1.toInt = p1.toInt)).mpr q)
          have hn0 : p1.toInt = ((nn : Nat) : Int) := by omega
          have hn9 : 1 ≤ nn ∧ nn ≤ 20 := by omega
          refine lv_iload_n hx hb dX8_day_22 rfl (lv_at hl 3 rfl) ?_
          refine lv_if_lt (tgt := 31) hx hb dX8_day_23 (by decide) (fun c5 => ?_) (fun c5 => ?_)
          · have c5 : p2.toInt < (0 : Int) := (i_lt (rfl : p2.toInt = p2.toInt) (rfl : (0 : Int32).toInt = 0)).mp c5
            refine lv_iconst (v := (-1)) hx hb dX8_day_31 (by decide) ?_
            refine r_iret (v := (-1)) hx hb hr hlocks w dX8_day_32 ?_
            subst hu3
            exact ⟨(fun k_ hk_ => hfr k_ (by omega)), ⟨hSV0, ⟨_, E, hkn⟩, (T0.fr (fun k_ a_ b_ => hfr k_ (by omega))), (Q1.fr (fun k_ a_ b_ => hfr k_ (by omega))), ⟨_, _, _, _, _, P, S⟩, ⟨_, _, _, _, _, Pr⟩, (fun i_ hi_ => (Q3 i_ hi_).fr (fun k_ a_ b_ => hfr k_ (by omega))), (fun i_ (hi_ : i_ < sV st0) => (Q4 i_ hi_).fr (fun k_ a_ b_ => hfr k_ (by omega))), (H0_.fr (fun k_ a_ b_ => hfr k_ (by omega))), (W0.fr (fun k_ a_ b_ => hfr k_ (by omega))), (W1.fr (fun k_ a_ b_ => hfr k_ (by omega))), (W2.fr (fun k_ a_ b_ => hfr k_ (by omega))), ⟨_, _, _, _, _, _, _, _, _, _, _, V3⟩, (W4.fr (fun k_ a_ b_ => hfr k_ (by omega)))⟩, Or.inr ⟨by omega, rfl⟩⟩
          · have c5 : ¬ (p2.toInt < (0 : Int)) := fun q => c5 ((i_lt (rfl : p2.toInt = p2.toInt) (rfl : (0 : Int32).toInt = 0)).mpr q)
            refine lv_iload_n hx hb dX8_day_26 rfl (lv_at hl 3 rfl) ?_
            refine lv_iconst (v := 2) hx hb dX8_day_27 (by decide) ?_
            refine lv_icmp_le (tgt := 33) hx hb dX8_day_28 (by decide) (fun c6 => ?_) (fun c6 => ?_)
            · have c6 : p2.toInt ≤ ((2 : Nat) : Int) := (i_le (rfl : p2.toInt = p2.toInt) (by decide : (2 : Int32).toInt = ((2 : Nat) : Int))).mp c6
              exfalso; omega
            · have c6 : ¬ (p2.toInt ≤ ((2 : Nat) : Int)) := fun q => c6 ((i_le (rfl : p2.toInt = p2.toInt) (by decide : (2 : Int32).toInt = ((2 : Nat) : Int))).mpr q)
              refine lv_iconst (v := (-1)) hx hb dX8_day_31 (by decide) ?_
              refine r_iret (v := (-1)) hx hb hr hlocks w dX8_day_32 ?_
              subst hu3
              exact ⟨(fun k_ hk_ => hfr k_ (by omega)), ⟨hSV0, ⟨_, E, hkn⟩, (T0.fr (fun k_ a_ b_ => hfr k_ (by omega))), (Q1.fr (fun k_ a_ b_ => hfr k_ (by omega))), ⟨_, _, _, _, _, P, S⟩, ⟨_, _, _, _, _, Pr⟩, (fun i_ hi_ => (Q3 i_ hi_).fr (fun k_ a_ b_ => hfr k_ (by omega))), (fun i_ (hi_ : i_ < sV st0) => (Q4 i_ hi_).fr (fun k_ a_ b_ => hfr k_ (by omega))), (H0_.fr (fun k_ a_ b_ => hfr k_ (by omega))), (W0.fr (fun k_ a_ b_ => hfr k_ (by omega))), (W1.fr (fun k_ a_ b_ => hfr k_ (by omega))), (W2.fr (fun k_ a_ b_ => hfr k_ (by omega))), ⟨_, _, _, _, _, _, _, _, _, _, _, V3⟩, (W4.fr (fun k_ a_ b_ => hfr k_ (by omega)))⟩, Or.inr ⟨by omega, rfl⟩⟩
theorem c_X8_day (l : Launch) {g : GE} {h : Nat → va_E} {x : Nat} {st0 : ST} (C : ClsA g h x st0) (p0 : Int32) (p1 : Int32) (p2 : Int32) : MI l yX8_day wsX8_day rm_X8_day [.ref (g.2.2.1 x), .int p0, .int p1, .int p2] g h (fun r_ h2 => (∀ k, ¬ (x ≤ k ∧ k < x + 143) → h2 k = h k) ∧ ClsA g h2 x st0 ∧ AnDay st0 p0 p1 p2 r_) := by
  rcases (show p2.toInt = 0 ∨ p2.toInt = 1 ∨ p2.toInt = 2 ∨ ¬ (0 ≤ p2.toInt ∧ p2.toInt ≤ 2) by omega) with q | q | q | q
  · exact c_X8_day_0 l C p0 p1 p2 q
  · exact c_X8_day_1 l C p0 p1 p2 q
  · exact c_X8_day_2 l C p0 p1 p2 q
  · exact c_X8_day_3 l C p0 p1 p2 q

