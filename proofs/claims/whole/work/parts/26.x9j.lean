/-- the k-th of the frontier, so far -/
def FdQ (T : Nat → Nat → Nat) (f i : Nat) (k x : Int) : Prop := (∃ b, b < i ∧ fF T f b = 1 ∧ ((sm (fF T f) b : Nat) : Int) = k ∧ x = ((b : Nat) : Int)) ∨ ((∀ b, b < i → fF T f b = 1 → ((sm (fF T f) b : Nat) : Int) ≠ k) ∧ x = -4)
theorem FdQ.no {T : Nat → Nat → Nat} {f i : Nat} {k x : Int} (h : FdQ T f i k x) (q : fF T f i = 1 → ((sm (fF T f) i : Nat) : Int) ≠ k) : FdQ T f (i + 1) k x := by
  rcases h with ⟨b, b1, b2⟩ | ⟨a, b⟩
  · exact Or.inl ⟨b, by omega, b2⟩
  · refine Or.inr ⟨fun c hc h1 => ?_, b⟩
    rcases Nat.lt_succ_iff_lt_or_eq.mp hc with z | z
    · exact a c z h1
    · rw [z] at h1 ⊢; exact q h1
theorem FdQ.yes {T : Nat → Nat → Nat} {f i : Nat} {k : Int} (h1 : fF T f i = 1) (h2 : ((sm (fF T f) i : Nat) : Int) = k) : FdQ T f (i + 1) k ((i : Nat) : Int) := Or.inl ⟨i, by omega, h1, h2, rfl⟩
theorem sm_1 {f : Nat → Nat} {n : Nat} (h : f n = 1) : sm f (n + 1) = sm f n + 1 := by rw [sm_succ, h]
theorem sm_0 {f : Nat → Nat} {n : Nat} (h : f n = 0) : sm f (n + 1) = sm f n := by rw [sm_succ, h, Nat.add_zero]
/-- a letter elsewhere that makes it strict -/
def Cand (M : PRG) (f a i k : Nat) : Prop := pB M f i ≠ k ∧ mFit M f i k ∧ mStrictF 2 (mSet M f i k) f a
def FmQ (M : PRG) (f a i k : Nat) (x : Int) : Prop := ((∀ i' k', i' < pL M f → k' < 14 → (i' < i ∨ (i' = i ∧ k' < k)) → ¬ Cand M f a i' k') ∧ x = -4) ∨ (∃ i' k', i' < pL M f ∧ k' < 14 ∧ Cand M f a i' k' ∧ (∀ i2 k2, i2 < pL M f → k2 < 14 → (i2 < i' ∨ (i2 = i' ∧ k2 < k')) → ¬ Cand M f a i2 k2) ∧ x = ((200 * i' + mCode k' : Nat) : Int))
theorem FmQ.no {M : PRG} {f a i k : Nat} {x : Int} (h : FmQ M f a i k x) (q : ¬ Cand M f a i k) : FmQ M f a i (k + 1) x := by
  rcases h with ⟨b, c⟩ | b
  · refine Or.inl ⟨fun i' k' h1 h2 h3 => ?_, c⟩
    by_cases z : i' = i ∧ k' = k
    · rw [z.1, z.2]; exact q
    · exact b i' k' h1 h2 (by omega)
  · exact Or.inr b
theorem FmQ.yes {M : PRG} {f a i k : Nat} {x : Int} (h : FmQ M f a i k x) (hx : x = -4) (hi : i < pL M f) (hk : k < 14) (q : Cand M f a i k) : FmQ M f a i (k + 1) ((200 * i + mCode k : Nat) : Int) := by
  rcases h with ⟨b, c⟩ | ⟨i', k', h1, h2, h3, h4, h5⟩
  · exact Or.inr ⟨i, k, hi, hk, q, b, rfl⟩
  · omega
theorem FmQ.nx {M : PRG} {f a i : Nat} {x : Int} {k : Nat} (h : FmQ M f a i k x) (hk : x = -4 → 14 ≤ k) : FmQ M f a (i + 1) 0 x := by
  rcases h with ⟨b, c⟩ | b
  · exact Or.inl ⟨fun i' k' h1 h2 h3 => b i' k' h1 h2 (by have := hk c; omega), c⟩
  · exact Or.inr b
theorem FmQ.some_lt {M : PRG} {f a i k : Nat} {x : Int} (h : FmQ M f a i k x) : x = -4 ∨ 0 ≤ x := by
  rcases h with ⟨b, c⟩ | ⟨i', k', h1, h2, h3, h4, h5⟩
  · exact Or.inl c
  · exact Or.inr (by omega)
theorem mSet_back {M : PRG} {f i k : Nat} : mSet (mSet M f i k) f i (pB M f i) = M := by
  unfold mSet
  show (pN M, pA M, pK M, pL M, fun a b => if a = f ∧ b = i then pB M f i else if a = f ∧ b = i then k else pB M a b) = M
  have e : (fun a b => if a = f ∧ b = i then pB M f i else if a = f ∧ b = i then k else pB M a b) = pB M := by
    funext a b
    by_cases q : a = f ∧ b = i
    · rw [if_pos q, q.1, q.2]
    · rw [if_neg q, if_neg q]
  rw [e]
def AnMakes (s : ST) (p q : Int32) (r : Int32) : Prop :=
  (∃ f a, p.toInt = ((f : Nat) : Int) ∧ q.toInt = ((a : Nat) : Int) ∧ f < pN (sM s) ∧ a < pA (sM s) f ∧ ((mStrictF 2 (sM s) f a ∧ r.toInt = -2) ∨ (¬ mStrictF 2 (sM s) f a ∧ ((∃ i k, i < pL (sM s) f ∧ k < 14 ∧ Cand (sM s) f a i k ∧ (∀ i2 k2, i2 < pL (sM s) f → k2 < 14 → (i2 < i ∨ (i2 = i ∧ k2 < k)) → ¬ Cand (sM s) f a i2 k2) ∧ r.toInt = ((200 * i + mCode k : Nat) : Int)) ∨ ((∀ i k, i < pL (sM s) f → k < 14 → ¬ Cand (sM s) f a i k) ∧ r.toInt = -4))))) ∨
  ((¬ ∃ f a, p.toInt = ((f : Nat) : Int) ∧ q.toInt = ((a : Nat) : Int) ∧ f < pN (sM s) ∧ a < pA (sM s) f) ∧ r.toInt = -1)
theorem FmQ.fin {M : PRG} {f a i k : Nat} {x : Int} (h : FmQ M f a i k x) (hi : x = -4 → pL M f ≤ i) : (∃ i k, i < pL M f ∧ k < 14 ∧ Cand M f a i k ∧ (∀ i2 k2, i2 < pL M f → k2 < 14 → (i2 < i ∨ (i2 = i ∧ k2 < k)) → ¬ Cand M f a i2 k2) ∧ x = ((200 * i + mCode k : Nat) : Int)) ∨ ((∀ i k, i < pL M f → k < 14 → ¬ Cand M f a i k) ∧ x = -4) := by
  rcases h with ⟨b, c⟩ | b
  · exact Or.inr ⟨fun i' k' h1 h2 => b i' k' h1 h2 (by have := hi c; omega), c⟩
  · exact Or.inl b
abbrev rm_X9_frontier : Room := { frames := 7, cells := 0, slots := 0, locals := 179 }
set_option maxHeartbeats 4000000 in
set_option maxRecDepth 100000 in
theorem c_X9_frontier (l : Launch) {g : GE} {h : Nat → va_E} {r : Nat} {st0 : ST} (R : RefA g h r st0) (p0 : Int32) (p1 : Int32) : MI l yX9_frontier wsX9_frontier rm_X9_frontier [.ref (g.2.2.1 r), .int p0, .int p1] g h (fun r_ h2 => (∀ k, ¬ (r ≤ k ∧ k < r + 14) → h2 k = h k) ∧ RefA g h2 r st0 ∧ AnFrontier st0 p0 p1 r_) := by
  refine Met.ofW (cc := cX9_frontier) (maxL := 6) (ret := (some .int)) (by decide) rfl ?_
  intro p e s m args below meth c s₁ B hml hv
  obtain ⟨rfl, w0⟩ := hv
  have hx := B.exec
  have hb := B.bytes
  have hr := B.returns
  have hts := atoms_spec (ws := wsX9_frontier) B.pre
  have hown : s.vm.findClass RX9 = some m.cls := findClass_of_methodNamed B.named
  have hlocks := B.notSynchronized
  have w := w0.start
  clear w0
  have hl := lv_entry ([.ref (g.2.2.1 r), .int p0, .int p1]) (n := 6) (Nat.le_of_ble_eq_true rfl)
  rw [lg_entry_eq]
  generalize (lg_sl ([.ref (g.2.2.1 r), .int p0, .int p1]) ++ List.replicate (6 - (lg_sl ([.ref (g.2.2.1 r), .int p0, .int p1])).length) Slot.unset).toArray = ls at hl ⊢
  have hl : lv_has ls 6 [(0, .ref (g.2.2.1 r)), (1, .int p0), (2, .int p1)] := hl
  obtain ⟨nm, kn, um, sv, sz, ra, rm, ga, gk, gl, gB, gt, gn, gr, gp, gh, gv, gs, gx, gf, D, hRS⟩ := R
  obtain ⟨hSV, S, hkn, hum, hUs, hsv, hVs, hsz, hgx⟩ := hRS
  have hSV0 := hSV
  obtain ⟨hP, hu8, hUP, hv2, hVP, hl200, hlt⟩ := hSV
  have hn4 := hP.2.1
  have hfr : ∀ k_, ¬ (r ≤ k_ ∧ k_ < r + 14) → h k_ = h k_ := fun _ _ => rfl
  have cuts : ∀ N : Nat, (∀ (f : Nat) (i : Nat) (x3 : Int32) (x4 : Int32) (x5 : Int32) (gtA : Nat → Int32) (gnA : Nat → Int32) (gpA : Nat → Int32) (grA : Nat → Int32) (hc : Nat → va_E) (H : Heap) (locs : List Loc) (ls : Array Slot), WD g (inW g) s hc H locs → lv_has ls 6 [(0, .ref (g.2.2.1 r)), (1, .int p0), (2, .int p1), (3, .int x3), (4, .int x4), (5, .int x5)] → (p0.toInt = ((f : Nat) : Int)) → (f < pN (sM st0)) → (-1 ≤ p1.toInt) → (i ≤ mRw 1 (sM st0) f) → (∀ K, IsK 1 (sM st0) K → x3.toInt = ((sm (fF (mTab 1 (sM st0) K) f) i : Nat) : Int)) → (∀ K, IsK 1 (sM st0) K → FdQ (mTab 1 (sM st0) K) f i p1.toInt x4.toInt) → (x5.toInt = ((i : Nat) : Int)) → (RAll (sM st0) gtA grA) → (MdA g hc r nm 1 um sv sz ra rm ga gk gl gB gtA gnA grA gpA gh gv gs gx gf) → (∀ k, ¬ (r ≤ k ∧ k < r + 14) → hc k = h k) → mRw 1 (sM st0) f - i < N → W p l e (headSpec wsX9_frontier rm_X9_frontier).room s m ([.ref (g.2.2.1 r), .int p0, .int p1] : List Value).toArray below meth c H locs 0 0 (MQ below (va_Qi (fun r_ h2 => (∀ k, ¬ (r ≤ k ∧ k < r + 14) → h2 k = h k) ∧ RefA g h2 r st0 ∧ AnFrontier st0 p0 p1 r_) (Wd g) (inW g)) ([.ref (g.2.2.1 r), .int p0, .int p1] : List Value).toArray s 0 0 (inW g)) (F0 m 28 ls [])) := by
    intro N
    induction N with
    | zero => exact by intros; omega
    | succ N ih =>
      have ih28 := ih
      · intro f i x3 x4 x5 gtA gnA gpA grA hc H locs ls w hl hf0 hf hk1 hi hx3 hx4 hx5 hAll D hfr hN_
        obtain ⟨K0, hK0, hT0, hg0⟩ := hAll 0 (by omega)
        obtain ⟨K1, hK1, hT1, hg1⟩ := hAll 1 (by omega)
        obtain ⟨K2, hK2, hT2, hg2⟩ := hAll 2 (by omega)
        obtain ⟨ha3, hk3, hl1, hl24, hpl, hd0⟩ := hP.2.2 f hf
        have h2c_ := pow2_c ha3
        have hrw_ : mRw 1 (sM st0) f = mB 1 ^ pA (sM st0) f := rfl
        refine lv_iload hx hb dX9_frontier_28 (lv_at hl 5 rfl) ?_
        refine lv_aload_n hx hb dX9_frontier_30 rfl (lv_at hl 0 rfl) ?_
        refine lv_iload_n hx hb dX9_frontier_31 rfl (lv_at hl 1 rfl) ?_
        refine r_callI w (va_runV (As := [.int p0]) (rest := [.int x5]) ⟨hx, hb, hml, hown, hts⟩ (c_X9_rowsOf l D S hP p0 hf0 (by omega)) (cwV 1 hts gX9_frontier_X9_rowsOf rfl rfl rfl (by decide +kernel) ⟨Nat.le_of_ble_eq_true rfl, Nat.le_of_ble_eq_true rfl⟩) (r_preV w (by have := D.1; omega) D.c0 rfl) rfl rfl hl.1 rfl (lv_room (Nat.le_of_ble_eq_true rfl)) dX9_frontier_32 ⟨Nat.zero_le _, Nat.zero_le _⟩) (fun r2 h1 H locs hp w => ?_)
        obtain ⟨eh_, qq3⟩ := hp
        have eh_ := eh_.symm
        subst eh_
        refine lv_icmp_ge (tgt := 71) hx hb dX9_frontier_35 (by decide) (fun c4 => ?_) (fun c4 => ?_)
        · have c4 : (((mRw 1 (sM st0) f) : Nat) : Int) ≤ ((i : Nat) : Int) := (i_le qq3 hx5).mp c4
          refine lv_iload_n hx hb dX9_frontier_71 rfl (lv_at hl 2 rfl) ?_
          refine lv_iconst (v := (-1)) hx hb dX9_frontier_72 (by decide) ?_
          refine lv_icmp_ne (tgt := 80) hx hb dX9_frontier_73 (by decide) (fun c5 => ?_) (fun c5 => ?_)
          · have c5 : ¬ (p1.toInt = (-1 : Int)) := fun q => c5 ((i_eq (rfl : p1.toInt = p1.toInt) (by decide : (-1 : Int32).toInt = (-1 : Int))).mpr q)
            refine lv_iload hx hb dX9_frontier_80 (lv_at hl 4 rfl) ?_
            refine r_iret (v := x4) hx hb hr hlocks w dX9_frontier_82 ?_
            have hi_ : i = mRw 1 (sM st0) f := by omega
            subst hi_
            exact ⟨hfr, ⟨_, _, _, _, _, _, _, _, _, _, _, _, _, _, _, _, _, _, _, _, D, hSV0, S, (Or.inr ⟨rfl, hAll⟩), hum, hUs, hsv, hVs, hsz, hgx⟩, Or.inl ⟨f, K1, hf0, hf, hK1, Or.inr ⟨by omega, hx4 K1 hK1⟩⟩⟩
          · have c5 : p1.toInt = (-1 : Int) := (i_eq (rfl : p1.toInt = p1.toInt) (by decide : (-1 : Int32).toInt = (-1 : Int))).mp c5
            refine lv_iload_n hx hb dX9_frontier_76 rfl (lv_at hl 3 rfl) ?_
            refine lv_goto (tgt := 82) hx hb dX9_frontier_77 (by decide) ?_
            refine r_iret (v := x3) hx hb hr hlocks w dX9_frontier_82 ?_
            have hi_ : i = mRw 1 (sM st0) f := by omega
            subst hi_
            exact ⟨hfr, ⟨_, _, _, _, _, _, _, _, _, _, _, _, _, _, _, _, _, _, _, _, D, hSV0, S, (Or.inr ⟨rfl, hAll⟩), hum, hUs, hsv, hVs, hsz, hgx⟩, Or.inl ⟨f, K1, hf0, hf, hK1, Or.inl ⟨by omega, hx3 K1 hK1⟩⟩⟩
        · have c4 : ¬ ((((mRw 1 (sM st0) f) : Nat) : Int) ≤ ((i : Nat) : Int)) := fun q => c4 ((i_le qq3 hx5).mpr q)
          have hsmb_ := sm_ub (f := (fF (mTab 1 (sM st0) K1) f)) (c := 1) i (fun j_ _ => fF_le)
          refine lv_aload_n hx hb dX9_frontier_38 rfl (lv_at hl 0 rfl) ?_
          refine lv_iload_n hx hb dX9_frontier_39 rfl (lv_at hl 1 rfl) ?_
          refine lv_iload hx hb dX9_frontier_40 (lv_at hl 5 rfl) ?_
          refine r_callI w (va_runV (As := [.int p0, .int x5]) (rest := []) ⟨hx, hb, hml, hown, hts⟩ (c_X9_isFrontier l D hP hT1 p0 x5 hf0 hx5 (by omega) (by omega)) (cwV 2 hts gX9_frontier_X9_isFrontier rfl rfl rfl (by decide +kernel) ⟨Nat.le_of_ble_eq_true rfl, Nat.le_of_ble_eq_true rfl⟩) (r_preV w (by have := D.1; omega) D.c0 rfl) rfl rfl hl.1 rfl (lv_room (Nat.le_of_ble_eq_true rfl)) dX9_frontier_42 ⟨Nat.zero_le _, Nat.zero_le _⟩) (fun r7 h6 H locs hp w => ?_)
          obtain ⟨eh_, qq8⟩ := hp
          have eh_ := eh_.symm
          subst eh_
          refine lv_if_eq (tgt := 65) hx hb dX9_frontier_45 (by decide) (fun c9 => ?_) (fun c9 => ?_)
          · have c9 := qq8.eq c9
            obtain ⟨y10, ey10⟩ : ∃ y : Int32, y = x5 + (1) := ⟨_, rfl⟩
            have ty10 : y10.toInt = (((i + 1) : Nat) : Int) := i_addN ey10 hx5 (by decide : (1 : Int32).toInt = ((1 : Nat) : Int)) (by omega)
            refine lv_iinc (v := y10) (lv' := [(5, .int y10), (0, .ref (g.2.2.1 r)), (1, .int p0), (2, .int p1), (3, .int x3), (4, .int x4)]) hx hb dX9_frontier_65 hl (k := 5) rfl (by rw [ey10]; rfl) (by decide) rfl (fun ls hl => ?_)
            refine lv_goto (tgt := 28) hx hb dX9_frontier_68 (by decide) ?_
            exact ih28 f (i + 1) x3 x4 y10 gtA gnA gpA grA hc _ _ _ w (lv_sub hl [1, 2, 3, 4, 5, 0] rfl) hf0 hf (by omega) (by omega) (fun K_ hK_ => by obtain rfl := hK_.inj hK1; exact ((hx3 K_ hK_).trans (by rw [sm_0 (fF_0 c9)]))) (fun K_ hK_ => by obtain rfl := hK_.inj hK1; exact ((hx4 K_ hK_).no (fun q_ => absurd q_ (by rw [fF_0 c9]; omega)))) ty10 hAll D hfr (by omega)
          · have c9 := qq8.ne c9
            refine lv_iload_n hx hb dX9_frontier_48 rfl (lv_at hl 3 rfl) ?_
            refine lv_iload_n hx hb dX9_frontier_49 rfl (lv_at hl 2 rfl) ?_
            refine lv_icmp_ne (tgt := 58) hx hb dX9_frontier_50 (by decide) (fun c11 => ?_) (fun c11 => ?_)
            · have c11 : ¬ ((((sm (fF (mTab 1 (sM st0) K1) f) i) : Nat) : Int) = p1.toInt) := fun q => c11 ((i_eq (hx3 K1 hK1) (rfl : p1.toInt = p1.toInt)).mpr q)
              refine lv_iload hx hb dX9_frontier_58 (lv_at hl 4 rfl) ?_
              refine lv_istore (lv' := [(4, .int x4), (0, .ref (g.2.2.1 r)), (1, .int p0), (2, .int p1), (3, .int x3), (5, .int x5)]) hx hb dX9_frontier_60 hl (by decide) rfl (fun ls hl => ?_)
              obtain ⟨y12, ey12⟩ : ∃ y : Int32, y = x3 + (1) := ⟨_, rfl⟩
              have ty12 : y12.toInt = ((((sm (fF (mTab 1 (sM st0) K1) f) i) + 1) : Nat) : Int) := i_addN ey12 (hx3 K1 hK1) (by decide : (1 : Int32).toInt = ((1 : Nat) : Int)) (by omega)
              refine lv_iinc (v := y12) (lv' := [(3, .int y12), (4, .int x4), (0, .ref (g.2.2.1 r)), (1, .int p0), (2, .int p1), (5, .int x5)]) hx hb dX9_frontier_62 hl (k := 4) rfl (by rw [ey12]; rfl) (by decide) rfl (fun ls hl => ?_)
              obtain ⟨y13, ey13⟩ : ∃ y : Int32, y = x5 + (1) := ⟨_, rfl⟩
              have ty13 : y13.toInt = (((i + 1) : Nat) : Int) := i_addN ey13 hx5 (by decide : (1 : Int32).toInt = ((1 : Nat) : Int)) (by omega)
              refine lv_iinc (v := y13) (lv' := [(5, .int y13), (3, .int y12), (4, .int x4), (0, .ref (g.2.2.1 r)), (1, .int p0), (2, .int p1)]) hx hb dX9_frontier_65 hl (k := 5) rfl (by rw [ey13]; rfl) (by decide) rfl (fun ls hl => ?_)
              refine lv_goto (tgt := 28) hx hb dX9_frontier_68 (by decide) ?_
              exact ih28 f (i + 1) y12 x4 y13 gtA gnA gpA grA hc _ _ _ w (lv_sub hl [3, 4, 5, 1, 2, 0] rfl) hf0 hf (by omega) (by omega) (fun K_ hK_ => by obtain rfl := hK_.inj hK1; exact (ty12.trans (by rw [sm_1 (fF_1 c9)]))) (fun K_ hK_ => by obtain rfl := hK_.inj hK1; exact ((hx4 K_ hK_).no (fun _ => c11))) ty13 hAll D hfr (by omega)
            · have c11 : (((sm (fF (mTab 1 (sM st0) K1) f) i) : Nat) : Int) = p1.toInt := (i_eq (hx3 K1 hK1) (rfl : p1.toInt = p1.toInt)).mp c11
              refine lv_iload hx hb dX9_frontier_53 (lv_at hl 5 rfl) ?_
              refine lv_goto (tgt := 60) hx hb dX9_frontier_55 (by decide) ?_
              refine lv_istore (lv' := [(4, .int x5), (0, .ref (g.2.2.1 r)), (1, .int p0), (2, .int p1), (3, .int x3), (5, .int x5)]) hx hb dX9_frontier_60 hl (by decide) rfl (fun ls hl => ?_)
              obtain ⟨y14, ey14⟩ : ∃ y : Int32, y = x3 + (1) := ⟨_, rfl⟩
              have ty14 : y14.toInt = ((((sm (fF (mTab 1 (sM st0) K1) f) i) + 1) : Nat) : Int) := i_addN ey14 (hx3 K1 hK1) (by decide : (1 : Int32).toInt = ((1 : Nat) : Int)) (by omega)
              refine lv_iinc (v := y14) (lv' := [(3, .int y14), (4, .int x5), (0, .ref (g.2.2.1 r)), (1, .int p0), (2, .int p1), (5, .int x5)]) hx hb dX9_frontier_62 hl (k := 4) rfl (by rw [ey14]; rfl) (by decide) rfl (fun ls hl => ?_)
              obtain ⟨y15, ey15⟩ : ∃ y : Int32, y = x5 + (1) := ⟨_, rfl⟩
              have ty15 : y15.toInt = (((i + 1) : Nat) : Int) := i_addN ey15 hx5 (by decide : (1 : Int32).toInt = ((1 : Nat) : Int)) (by omega)
              refine lv_iinc (v := y15) (lv' := [(5, .int y15), (3, .int y14), (4, .int x5), (0, .ref (g.2.2.1 r)), (1, .int p0), (2, .int p1)]) hx hb dX9_frontier_65 hl (k := 5) rfl (by rw [ey15]; rfl) (by decide) rfl (fun ls hl => ?_)
              refine lv_goto (tgt := 28) hx hb dX9_frontier_68 (by decide) ?_
              exact ih28 f (i + 1) y14 x5 y15 gtA gnA gpA grA hc _ _ _ w (lv_sub hl [3, 4, 5, 1, 2, 0] rfl) hf0 hf (by omega) (by omega) (fun K_ hK_ => by obtain rfl := hK_.inj hK1; exact (ty14.trans (by rw [sm_1 (fF_1 c9)]))) (fun K_ hK_ => by obtain rfl := hK_.inj hK1; exact (by rw [(hx5 : x5.toInt = _)]; exact FdQ.yes (fF_1 c9) c11)) ty15 hAll D hfr (by omega)
  have ih28 := cuts (10)
  refine lv_aload_n hx hb dX9_frontier_0 rfl (lv_at hl 0 rfl) ?_
  refine lv_iload_n hx hb dX9_frontier_1 rfl (lv_at hl 1 rfl) ?_
  refine r_callI w (va_runV (As := [.int p0]) (rest := []) ⟨hx, hb, hml, hown, hts⟩ (c_X9_isFunction l D S.1 p0) (cwV 1 hts gX9_frontier_X9_isFunction rfl rfl rfl (by decide +kernel) ⟨Nat.le_of_ble_eq_true rfl, Nat.le_of_ble_eq_true rfl⟩) (r_preV w (by have := D.1; omega) D.c0 rfl) rfl rfl hl.1 rfl (lv_room (Nat.le_of_ble_eq_true rfl)) dX9_frontier_2 ⟨Nat.zero_le _, Nat.zero_le _⟩) (fun r17 h16 H locs hp w => ?_)
  obtain ⟨eh_, qq18⟩ := hp
  have eh_ := eh_.symm
  subst eh_
  have b19 : Bq r17 (0 ≤ p0.toInt ∧ p0.toInt < ((pN (sM st0)) : Int)) := qq18.iff (by rw [((rfl : p0.toInt = p0.toInt) : p0.toInt = _)])
  refine lv_if_eq (tgt := 13) hx hb dX9_frontier_5 (by decide) (fun c20 => ?_) (fun c20 => ?_)
  · have c20 := b19.eq c20
    refine lv_iconst (v := (-1)) hx hb dX9_frontier_13 (by decide) ?_
    refine r_iret (v := (-1)) hx hb hr hlocks w dX9_frontier_14 ?_
    exact ⟨hfr, ⟨_, _, _, _, _, _, _, _, _, _, _, _, _, _, _, _, _, _, _, _, D, hSV0, S, hkn, hum, hUs, hsv, hVs, hsz, hgx⟩, Or.inr ⟨by omega, rfl⟩⟩
  · have c20 := b19.ne c20
    obtain ⟨f, hf0⟩ : ∃ q_ : Nat, p0.toInt = (q_ : Int) := ⟨p0.toInt.toNat, by omega⟩
    have hf : f < pN (sM st0) := by omega
    obtain ⟨ha3, hk3, hl1, hl24, hpl, hd0⟩ := hP.2.2 f hf
    have h2c_ := pow2_c ha3
    have hrw_ : mRw 1 (sM st0) f = mB 1 ^ pA (sM st0) f := rfl
    refine lv_iload_n hx hb dX9_frontier_8 rfl (lv_at hl 2 rfl) ?_
    refine lv_iconst (v := (-1)) hx hb dX9_frontier_9 (by decide) ?_
    refine lv_icmp_ge (tgt := 15) hx hb dX9_frontier_10 (by decide) (fun c21 => ?_) (fun c21 => ?_)
    · have c21 : (-1 : Int) ≤ p1.toInt := (i_le (by decide : (-1 : Int32).toInt = (-1 : Int)) (rfl : p1.toInt = p1.toInt)).mp c21
      refine lv_aload_n hx hb dX9_frontier_15 rfl (lv_at hl 0 rfl) ?_
      refine r_callV w (va_runV (As := []) (rest := []) ⟨hx, hb, hml, hown, hts⟩ (c_X9_setAll l D S hP hkn) (cwV 0 hts gX9_frontier_X9_setAll rfl rfl rfl (by decide +kernel) ⟨Nat.le_of_ble_eq_true rfl, Nat.le_of_ble_eq_true rfl⟩) (r_preV w (by have := D.1; omega) D.c0 rfl) rfl rfl hl.1 rfl (lv_room (Nat.le_of_ble_eq_true rfl)) dX9_frontier_16 ⟨Nat.zero_le _, Nat.zero_le _⟩) (fun h22 H locs hp w => ?_)
      obtain ⟨hfk23, gtk23, gnk23, gpk23, grk23, D, hAll⟩ := hp
      have hfr : ∀ k_, ¬ (r ≤ k_ ∧ k_ < r + 14) → h22 k_ = h k_ := fun k_ hk_ => (hfk23 k_ (by omega))
      obtain ⟨K0, hK0, hT0, hg0⟩ := hAll 0 (by omega)
      obtain ⟨K1, hK1, hT1, hg1⟩ := hAll 1 (by omega)
      obtain ⟨K2, hK2, hT2, hg2⟩ := hAll 2 (by omega)
      refine lv_iconst (v := 0) hx hb dX9_frontier_19 (by decide) ?_
      refine lv_istore_n (lv' := [(3, .int 0), (0, .ref (g.2.2.1 r)), (1, .int p0), (2, .int p1)]) hx hb dX9_frontier_20 rfl hl (by decide) rfl (fun ls hl => ?_)
      refine lv_bipush (v := (-4)) hx hb dX9_frontier_21 (by decide) ?_
      refine lv_istore (lv' := [(4, .int ((-4))), (3, .int 0), (0, .ref (g.2.2.1 r)), (1, .int p0), (2, .int p1)]) hx hb dX9_frontier_23 hl (by decide) rfl (fun ls hl => ?_)
      refine lv_iconst (v := 0) hx hb dX9_frontier_25 (by decide) ?_
      refine lv_istore (lv' := [(5, .int 0), (4, .int ((-4))), (3, .int 0), (0, .ref (g.2.2.1 r)), (1, .int p0), (2, .int p1)]) hx hb dX9_frontier_26 hl (by decide) rfl (fun ls hl => ?_)
      exact ih28 f 0 0 ((-4)) 0 gtk23 gnk23 gpk23 grk23 h22 _ _ _ w (lv_sub hl [3, 4, 5, 2, 1, 0] rfl) hf0 hf (by omega) (Nat.zero_le _) (fun K_ hK_ => by obtain rfl := hK_.inj hK1; exact (rfl)) (fun K_ hK_ => by obtain rfl := hK_.inj hK1; exact (Or.inr ⟨fun b_ hb_ => absurd hb_ (Nat.not_lt_zero _), by decide⟩)) ((by decide : (0 : Int32).toInt = ((0 : Nat) : Int))) hAll D hfr (by omega)
    · have c21 : ¬ ((-1 : Int) ≤ p1.toInt) := fun q => c21 ((i_le (by decide : (-1 : Int32).toInt = (-1 : Int)) (rfl : p1.toInt = p1.toInt)).mpr q)
      refine lv_iconst (v := (-1)) hx hb dX9_frontier_13 (by decide) ?_
      refine r_iret (v := (-1)) hx hb hr hlocks w dX9_frontier_14 ?_
      exact ⟨hfr, ⟨_, _, _, _, _, _, _, _, _, _, _, _, _, _, _, _, _, _, _, _, D, hSV0, S, hkn, hum, hUs, hsv, hVs, hsz, hgx⟩, Or.inr ⟨by omega, rfl⟩⟩

theorem inX9_turns_X9 : ∀ w ∈ wsX90, w ∈ wsX9_turns := by decide +kernel
abbrev rm_X9_turns : Room := { frames := 3, cells := 0, slots := 0, locals := 68 }
set_option maxHeartbeats 4000000 in
set_option maxRecDepth 100000 in
theorem c_X9_turns (l : Launch) {g : GE} {h : Nat → va_E} {r : Nat} {nm kn um sv sz ra rm : Int32} {ga gk gl gB gt gn gr gp gh gv gs gx gf : Nat → Int32} (D : MdA g h r nm kn um sv sz ra rm ga gk gl gB gt gn gr gp gh gv gs gx gf) {M : PRG} (S : RS M nm ga gk gl gB) (hP : PV M) (p0 : Int32) {d : Nat} (hp0 : p0.toInt = (d : Int)) : MV l yX9_turns wsX9_turns rm_X9_turns [.ref (g.2.2.1 r), .int p0] g h (fun h2 => (∀ k, ¬ (r ≤ k ∧ k < r + 14) → h2 k = h k) ∧ ∃ (gB2 : Nat → Int32) (k : Nat), mNext M (d % pN M) (d / 8 % pL M (d % pN M)) k ∧ MdA g h2 r nm kn um sv sz ra rm ga gk gl gB2 gt gn gr gp gh gv gs gx gf ∧ RS (mSet M (d % pN M) (d / 8 % pL M (d % pN M)) k) nm ga gk gl gB2) := by
  refine Met.ofW (cc := cX9_turns) (maxL := 6) (ret := none) (by decide) rfl ?_
  intro p e s m args below meth c s₁ B hml hv
  obtain ⟨rfl, w0⟩ := hv
  have hx := B.exec
  have hb := B.bytes
  have hr := B.returns
  have hts := atoms_spec (ws := wsX9_turns) B.pre
  have hown : s.vm.findClass RX9 = some m.cls := findClass_of_methodNamed B.named
  have hlocks := B.notSynchronized
  have w := w0.start
  clear w0
  have hl := lv_entry ([.ref (g.2.2.1 r), .int p0]) (n := 6) (Nat.le_of_ble_eq_true rfl)
  rw [lg_entry_eq]
  generalize (lg_sl ([.ref (g.2.2.1 r), .int p0]) ++ List.replicate (6 - (lg_sl ([.ref (g.2.2.1 r), .int p0])).length) Slot.unset).toArray = ls at hl ⊢
  have hl : lv_has ls 6 [(0, .ref (g.2.2.1 r)), (1, .int p0)] := hl
  have hn4 := hP.2.1
  have hn1 := hP.1
  have hdl := Nat.mod_lt d (show 0 < pN M by omega)
  obtain ⟨f, hfd⟩ : ∃ f, f = d % pN M := ⟨_, rfl⟩
  have hf : f < pN M := by omega
  obtain ⟨ha3, hk3, hl1, hl24, hpb, -⟩ := hP.2.2 f hf
  have hdp := Nat.mod_lt (d / 8) (show 0 < pL M f by omega)
  obtain ⟨pl, hpd⟩ : ∃ pl, pl = d / 8 % pL M f := ⟨_, rfl⟩
  have hpl : pl < pL M f := by omega
  have hb_ := hpb pl hpl
  have cuts : ∀ N : Nat, (∀ (sn : Nat) (x5 : Int32) (x2 : Int32) (x3 : Int32) (hc : Nat → va_E) (H : Heap) (locs : List Loc) (ls : Array Slot), WD g (inW g) s hc H locs → lv_has ls 6 [(0, .ref (g.2.2.1 r)), (2, .int x2), (3, .int x3), (5, .int x5)] → (x2.toInt = ((f : Nat) : Int)) → (x3.toInt = ((pl : Nat) : Int)) → (1 ≤ sn) → (sn ≤ 14) → (x5.toInt = (((pB M f pl + sn) % 14 : Nat) : Int)) → (∀ s_ : Nat, 1 ≤ s_ → s_ < sn → ¬ mFit M f pl ((pB M f pl + s_) % 14)) → (MdA g hc r nm kn um sv sz ra rm ga gk gl gB gt gn gr gp gh gv gs gx gf) → (hc = h) → 15 - sn < N → W p l e (headSpec wsX9_turns rm_X9_turns).room s m ([.ref (g.2.2.1 r), .int p0] : List Value).toArray below meth c H locs 0 0 (MQ below (va_Qv (fun h2 => (∀ k, ¬ (r ≤ k ∧ k < r + 14) → h2 k = h k) ∧ ∃ (gB2 : Nat → Int32) (k : Nat), mNext M (d % pN M) (d / 8 % pL M (d % pN M)) k ∧ MdA g h2 r nm kn um sv sz ra rm ga gk gl gB2 gt gn gr gp gh gv gs gx gf ∧ RS (mSet M (d % pN M) (d / 8 % pL M (d % pN M)) k) nm ga gk gl gB2) (Wd g) (inW g)) ([.ref (g.2.2.1 r), .int p0] : List Value).toArray s 0 0 (inW g)) (F0 m 44 ls [])) := by
    intro N
    induction N with
    | zero => exact by intros; omega
    | succ N ih =>
      have ih44 := ih
      · intro sn x5 x2 x3 hc H locs ls w hl hx2 hx3 hs1 hs14 hx5 hno D hh hN_
        refine lv_aload_n hx hb dX9_turns_44 rfl (lv_at hl 0 rfl) ?_
        refine lv_iload_n hx hb dX9_turns_45 rfl (lv_at hl 1 rfl) ?_
        refine lv_iload_n hx hb dX9_turns_46 rfl (lv_at hl 2 rfl) ?_
        refine lv_iload hx hb dX9_turns_47 (lv_at hl 3 rfl) ?_
        refine r_callI w (va_runS (As := [.int x5]) (rest := [.int x3, .int x2, .ref (g.2.2.1 r)]) ⟨hx, hb, hml, hown, hts⟩ (c_X9_letterBy l x5 hx5 (by omega)) (va_cwS 1 hts gX9_turns_X9_letterBy rfl rfl rfl (by decide +kernel) ⟨Nat.le_of_ble_eq_true rfl, Nat.le_of_ble_eq_true rfl⟩) (r_preS w) rfl rfl hl.1 rfl (lv_room (Nat.le_of_ble_eq_true rfl)) dX9_turns_49 ⟨Nat.zero_le _, Nat.zero_le _⟩) (fun r2 h1 H locs hp w => ?_)
        obtain ⟨eh_, qq3⟩ := hp
        have eh_ := eh_.symm
        subst eh_
        refine r_callI w (va_runV (As := [.int x2, .int x3, .int r2]) (rest := []) ⟨hx, hb, hml, hown, hts⟩ (c_X9_mayStand l D S hP x2 x3 r2 hx2 hx3 (by omega) (by omega)) (cwV 3 hts gX9_turns_X9_mayStand rfl rfl rfl (by decide +kernel) ⟨Nat.le_of_ble_eq_true rfl, Nat.le_of_ble_eq_true rfl⟩) (r_preV w (by have := D.1; omega) D.c0 rfl) rfl rfl hl.1 rfl (lv_room (Nat.le_of_ble_eq_true rfl)) dX9_turns_52 ⟨Nat.zero_le _, Nat.zero_le _⟩) (fun r5 h4 H locs hp w => ?_)
        obtain ⟨eh_, qq6⟩ := hp
        have eh_ := eh_.symm
        subst eh_
        refine lv_if_ne (tgt := 70) hx hb dX9_turns_55 (by decide) (fun c7 => ?_) (fun c7 => ?_)
        · have c7 := qq6.ne c7
          rw [(qq3 : r2.toInt = _), mNum_code (Nat.mod_lt _ (by omega))] at c7
          have c7 := c7.2
          refine lv_aload_n hx hb dX9_turns_70 rfl (lv_at hl 0 rfl) ?_
          refine r_get (C := RX9) (T := TX9) (N := 20) (ci := 7) hx hb hts inX9_turns_X9 hown w (by have := D.1; omega) D.c0 rfl 4 (by decide) (hts (Cond.fieldLink RX9 19 "EarlyValuesModel" "body" "[I") (List.mem_of_getElem? (i := 3) (by decide +kernel))) rfl rfl dX9_turns_71 ?_
          refine lv_bipush (v := 24) hx hb dX9_turns_74 (by decide) ?_
          refine lv_iload_n hx hb dX9_turns_76 rfl (lv_at hl 1 rfl) ?_
          refine lv_imul hx hb dX9_turns_77 ?_
          refine lv_topi (fun y8 ey8 => ?_)
          have ty8 : y8.toInt = (((24 * f) : Nat) : Int) := i_mulN ey8 (by decide : (24 : Int32).toInt = ((24 : Nat) : Int)) hx2 (by omega)
          refine lv_iload_n hx hb dX9_turns_78 rfl (lv_at hl 2 rfl) ?_
          refine lv_iadd hx hb dX9_turns_79 ?_
          refine lv_topi (fun y9 ey9 => ?_)
          have ty9 : y9.toInt = ((((24 * f) + pl) : Nat) : Int) := i_addN ey9 ty8 hx3 (by omega)
          refine lv_iload hx hb dX9_turns_80 (lv_at hl 3 rfl) ?_
          refine r_callI w (va_runS (As := [.int x5]) (rest := [.int y9, .ref (g.2.2.1 (r + 4))]) ⟨hx, hb, hml, hown, hts⟩ (c_X9_letterBy l x5 hx5 (by omega)) (va_cwS 1 hts gX9_turns_X9_letterBy rfl rfl rfl (by decide +kernel) ⟨Nat.le_of_ble_eq_true rfl, Nat.le_of_ble_eq_true rfl⟩) (r_preS w) rfl rfl hl.1 rfl (lv_room (Nat.le_of_ble_eq_true rfl)) dX9_turns_82 ⟨Nat.zero_le _, Nat.zero_le _⟩) (fun r11 h10 H locs hp w => ?_)
          obtain ⟨eh_, qq12⟩ := hp
          have eh_ := eh_.symm
          subst eh_
          refine r_iast (j := ((24 * f) + pl)) hx hb w (by have := D.1; omega) D.c4 ty9 (by omega) dX9_turns_85 (fun h13 H locs eh13 w => ?_)
          have D := D.s4 eh13
          generalize egz14 : upd gB (((24 * f) + pl)) r11 = gz14 at D
          refine r_vret hx hb hr hlocks w dX9_turns_86 ?_
          refine ⟨fun k_ hk_ => by rw [eh13, va_up_ne _ _ (by intro q_; exact hk_ (by omega)), hh], _, (pB M f pl + sn) % 14, ?_, D, ?_⟩
          · rw [← hfd, ← hpd]; exact ⟨sn, hs1, hs14, rfl, c7, hno⟩
          · rw [← hfd, ← hpd]; exact S.put hP hf hpl qq12 egz14
        · have c7 := qq6.eq c7
          rw [(qq3 : r2.toInt = _), mNum_code (Nat.mod_lt _ (by omega))] at c7
          have c7 : ¬ mFit M f pl ((pB M f pl + sn) % 14) := fun q_ => c7 ⟨Nat.mod_lt _ (by omega), q_⟩
          refine lv_iload hx hb dX9_turns_58 (lv_at hl 3 rfl) ?_
          refine lv_iconst (v := 1) hx hb dX9_turns_60 (by decide) ?_
          refine lv_iadd hx hb dX9_turns_61 ?_
          refine lv_topi (fun y15 ey15 => ?_)
          have ty15 : y15.toInt = (((((pB M f pl + sn) % 14) + 1) : Nat) : Int) := i_addN ey15 hx5 (by decide : (1 : Int32).toInt = ((1 : Nat) : Int)) (by omega)
          refine lv_bipush (v := 14) hx hb dX9_turns_62 (by decide) ?_
          refine lv_irem hx hb dX9_turns_64 (fun q => absurd ((i_eq (by decide : (14 : Int32).toInt = ((14 : Nat) : Int)) (by decide : (0 : Int32).toInt = (0 : Int))).mp q) (by omega)) ?_
          refine lv_topi (fun y16 ey16 => ?_)
          have ty16 : y16.toInt = ((((((pB M f pl + sn) % 14) + 1) % 14) : Nat) : Int) := i_remN ey16 ty15 (by decide : (14 : Int32).toInt = ((14 : Nat) : Int)) (by omega)
          refine lv_istore (lv' := [(5, .int y16), (0, .ref (g.2.2.1 r)), (2, .int x2), (3, .int x3)]) hx hb dX9_turns_65 hl (by decide) rfl (fun ls hl => ?_)
          refine lv_goto (tgt := 44) hx hb dX9_turns_67 (by decide) ?_
          exact ih44 (sn + 1) y16 x2 x3 hc _ _ _ w (lv_sub hl [1, 2, 3, 0] rfl) hx2 hx3 (by omega) (by rcases Nat.lt_or_eq_of_le hs14 with q_ | q_; omega; exfalso; rw [show (pB M f pl + sn) % 14 = pB M f pl by omega] at c7; exact c7 ⟨hb_.2.1, rfl⟩) (ty16.trans (by omega)) (fun s_ a_ b_ => by rcases Nat.lt_succ_iff_lt_or_eq.mp b_ with z_ | z_; exact hno s_ a_ z_; rw [z_]; exact c7) D hh (by omega)
  have ih44 := cuts (20)
  refine lv_iload_n hx hb dX9_turns_0 rfl (lv_at hl 1 rfl) ?_
  refine lv_aload_n hx hb dX9_turns_1 rfl (lv_at hl 0 rfl) ?_
  refine r_get (C := RX9) (T := TX9) (N := 20) (ci := 7) hx hb hts inX9_turns_X9 hown w (by have := D.1; omega) D.c0 rfl 0 (by decide) (hts (Cond.fieldLink RX9 49 "EarlyValuesModel" "many" "I") (List.mem_of_getElem? (i := 1) (by decide +kernel))) rfl rfl dX9_turns_2 ?_
  refine lv_irem hx hb dX9_turns_5 (fun q => absurd ((i_eq S.1 (by decide : (0 : Int32).toInt = (0 : Int))).mp q) (by omega)) ?_
  refine lv_topi (fun y17 ey17 => ?_)
  have ty17 : y17.toInt = (((d % (pN M)) : Nat) : Int) := i_remN ey17 hp0 S.1 (by omega)
  refine lv_istore_n (lv' := [(2, .int y17), (0, .ref (g.2.2.1 r)), (1, .int p0)]) hx hb dX9_turns_6 rfl hl (by decide) rfl (fun ls hl => ?_)
  have hx2_ := ty17
  rw [← hfd] at hx2_
  refine lv_iload_n hx hb dX9_turns_7 rfl (lv_at hl 2 rfl) ?_
  refine lv_bipush (v := 8) hx hb dX9_turns_8 (by decide) ?_
  refine lv_idiv hx hb dX9_turns_10 (fun q => absurd ((i_eq (by decide : (8 : Int32).toInt = ((8 : Nat) : Int)) (by decide : (0 : Int32).toInt = (0 : Int))).mp q) (by omega)) ?_
  refine lv_topi (fun y18 ey18 => ?_)
  have ty18 : y18.toInt = (((d / 8) : Nat) : Int) := i_divN ey18 hp0 (by decide : (8 : Int32).toInt = ((8 : Nat) : Int)) (by omega)
  refine lv_aload_n hx hb dX9_turns_11 rfl (lv_at hl 1 rfl) ?_
  refine r_get (C := RX9) (T := TX9) (N := 20) (ci := 7) hx hb hts inX9_turns_X9 hown w (by have := D.1; omega) D.c0 rfl 3 (by decide) (hts (Cond.fieldLink RX9 16 "EarlyValuesModel" "longOf" "[I") (List.mem_of_getElem? (i := 2) (by decide +kernel))) rfl rfl dX9_turns_12 ?_
  refine lv_iload_n hx hb dX9_turns_15 rfl (lv_at hl 0 rfl) ?_
  refine r_iald (j := f) hx hb w (by have := D.1; omega) D.c3 hx2_ (by omega) dX9_turns_16 ?_
  refine lv_irem hx hb dX9_turns_17 (fun q => absurd ((i_eq (S.2.2.2.1 f (by omega)) (by decide : (0 : Int32).toInt = (0 : Int))).mp q) (by omega)) ?_
  refine lv_topi (fun y19 ey19 => ?_)
  have ty19 : y19.toInt = ((((d / 8) % (pL M f)) : Nat) : Int) := i_remN ey19 ty18 (S.2.2.2.1 f (by omega)) (by omega)
  refine lv_istore_n (lv' := [(3, .int y19), (2, .int y17), (0, .ref (g.2.2.1 r)), (1, .int p0)]) hx hb dX9_turns_18 rfl hl (by decide) rfl (fun ls hl => ?_)
  have hx3_ := ty19
  rw [← hpd] at hx3_
  refine lv_aload_n hx hb dX9_turns_19 rfl (lv_at hl 2 rfl) ?_
  refine r_get (C := RX9) (T := TX9) (N := 20) (ci := 7) hx hb hts inX9_turns_X9 hown w (by have := D.1; omega) D.c0 rfl 4 (by decide) (hts (Cond.fieldLink RX9 19 "EarlyValuesModel" "body" "[I") (List.mem_of_getElem? (i := 3) (by decide +kernel))) rfl rfl dX9_turns_20 ?_
  refine lv_bipush (v := 24) hx hb dX9_turns_23 (by decide) ?_
  refine lv_iload_n hx hb dX9_turns_25 rfl (lv_at hl 1 rfl) ?_
  refine lv_imul hx hb dX9_turns_26 ?_
  refine lv_topi (fun y20 ey20 => ?_)
  have ty20 : y20.toInt = (((24 * f) : Nat) : Int) := i_mulN ey20 (by decide : (24 : Int32).toInt = ((24 : Nat) : Int)) hx2_ (by omega)
  refine lv_iload_n hx hb dX9_turns_27 rfl (lv_at hl 0 rfl) ?_
  refine lv_iadd hx hb dX9_turns_28 ?_
  refine lv_topi (fun y21 ey21 => ?_)
  have ty21 : y21.toInt = ((((24 * f) + pl) : Nat) : Int) := i_addN ey21 ty20 hx3_ (by omega)
  refine r_iald (j := ((24 * f) + pl)) hx hb w (by have := D.1; omega) D.c4 ty21 (by omega) dX9_turns_29 ?_
  refine r_callI w (va_runS (As := [.int (gB (((24 * f) + pl)))]) (rest := []) ⟨hx, hb, hml, hown, hts⟩ (c_X9_placeOf l (gB (((24 * f) + pl))) (S.2.2.2.2 f hf pl hpl) (by omega)) (va_cwS 1 hts gX9_turns_X9_placeOf rfl rfl rfl (by decide +kernel) ⟨Nat.le_of_ble_eq_true rfl, Nat.le_of_ble_eq_true rfl⟩) (r_preS w) rfl rfl hl.1 rfl (lv_room (Nat.le_of_ble_eq_true rfl)) dX9_turns_30 ⟨Nat.zero_le _, Nat.zero_le _⟩) (fun r23 h22 H locs hp w => ?_)
  obtain ⟨eh_, qq24⟩ := hp
  have eh_ := eh_.symm
  subst eh_
  refine lv_istore (lv' := [(4, .int r23), (3, .int y19), (2, .int y17), (0, .ref (g.2.2.1 r)), (1, .int p0)]) hx hb dX9_turns_33 hl (by decide) rfl (fun ls hl => ?_)
  refine lv_iload hx hb dX9_turns_35 (lv_at hl 0 rfl) ?_
  refine lv_iconst (v := 1) hx hb dX9_turns_37 (by decide) ?_
  refine lv_iadd hx hb dX9_turns_38 ?_
  refine lv_topi (fun y25 ey25 => ?_)
  have ty25 : y25.toInt = ((((pB M f pl) + 1) : Nat) : Int) := i_addN ey25 qq24 (by decide : (1 : Int32).toInt = ((1 : Nat) : Int)) (by omega)
  refine lv_bipush (v := 14) hx hb dX9_turns_39 (by decide) ?_
  refine lv_irem hx hb dX9_turns_41 (fun q => absurd ((i_eq (by decide : (14 : Int32).toInt = ((14 : Nat) : Int)) (by decide : (0 : Int32).toInt = (0 : Int))).mp q) (by omega)) ?_
  refine lv_topi (fun y26 ey26 => ?_)
  have ty26 : y26.toInt = (((((pB M f pl) + 1) % 14) : Nat) : Int) := i_remN ey26 ty25 (by decide : (14 : Int32).toInt = ((14 : Nat) : Int)) (by omega)
  refine lv_istore (lv' := [(5, .int y26), (4, .int r23), (3, .int y19), (2, .int y17), (0, .ref (g.2.2.1 r)), (1, .int p0)]) hx hb dX9_turns_42 hl (by decide) rfl (fun ls hl => ?_)
  exact ih44 1 y26 y17 y19 h _ _ _ w (lv_sub hl [4, 3, 2, 0] rfl) (hx2_.trans (by rw [hfd])) (hx3_.trans (by rw [hpd, hfd])) (by omega) (by omega) ty26 (fun s_ a_ b_ => by omega) D rfl (by omega)

theorem inX9_makes_X9 : ∀ w ∈ wsX90, w ∈ wsX9_makes := by decide +kernel
abbrev rm_X9_makes : Room := { frames := 7, cells := 0, slots := 0, locals := 179 }
set_option maxHeartbeats 4000000 in
set_option maxRecDepth 100000 in
theorem c_X9_makes (l : Launch) {g : GE} {h : Nat → va_E} {r : Nat} {st0 : ST} (R : RefA g h r st0) (p0 : Int32) (p1 : Int32) : MI l yX9_makes wsX9_makes rm_X9_makes [.ref (g.2.2.1 r), .int p0, .int p1] g h (fun r_ h2 => (∀ k, ¬ (r ≤ k ∧ k < r + 14) → h2 k = h k) ∧ RefA g h2 r st0 ∧ AnMakes st0 p0 p1 r_) := by
  refine Met.ofW (cc := cX9_makes) (maxL := 8) (ret := (some .int)) (by decide) rfl ?_
  intro p e s m args below meth c s₁ B hml hv
  obtain ⟨rfl, w0⟩ := hv
  have hx := B.exec
  have hb := B.bytes
  have hr := B.returns
  have hts := atoms_spec (ws := wsX9_makes) B.pre
  have hown : s.vm.findClass RX9 = some m.cls := findClass_of_methodNamed B.named
  have hlocks := B.notSynchronized
  have w := w0.start
  clear w0
  have hl := lv_entry ([.ref (g.2.2.1 r), .int p0, .int p1]) (n := 8) (Nat.le_of_ble_eq_true rfl)
  rw [lg_entry_eq]
  generalize (lg_sl ([.ref (g.2.2.1 r), .int p0, .int p1]) ++ List.replicate (8 - (lg_sl ([.ref (g.2.2.1 r), .int p0, .int p1])).length) Slot.unset).toArray = ls at hl ⊢
  have hl : lv_has ls 8 [(0, .ref (g.2.2.1 r)), (1, .int p0), (2, .int p1)] := hl
  obtain ⟨nm, kn, um, sv, sz, ra, rm, ga, gk, gl, gB, gt, gn, gr, gp, gh, gv, gs, gx, gf, D, hRS⟩ := R
  obtain ⟨hSV, S, hkn, hum, hUs, hsv, hVs, hsz, hgx⟩ := hRS
  have hSV0 := hSV
  obtain ⟨hP, hu8, hUP, hv2, hVP, hl200, hlt⟩ := hSV
  have hn4 := hP.2.1
  have hfr : ∀ k_, ¬ (r ≤ k_ ∧ k_ < r + 14) → h k_ = h k_ := fun _ _ => rfl
  have cuts : ∀ N : Nat, (∀ (f : Nat) (a_ : Nat) (i : Nat) (x3 : Int32) (x4 : Int32) (gtA : Nat → Int32) (gnA : Nat → Int32) (gpA : Nat → Int32) (grA : Nat → Int32) (gB1 : Nat → Int32) (hc : Nat → va_E) (H : Heap) (locs : List Loc) (ls : Array Slot), WD g (inW g) s hc H locs → lv_has ls 8 [(0, .ref (g.2.2.1 r)), (1, .int p0), (2, .int p1), (3, .int x3), (4, .int x4)] → (p0.toInt = ((f : Nat) : Int)) → (f < pN (sM st0)) → (p1.toInt = ((a_ : Nat) : Int)) → (a_ < pA (sM st0) f) → (¬ mStrictF 2 (sM st0) f a_) → (i ≤ pL (sM st0) f) → (x4.toInt = ((i : Nat) : Int)) → (FmQ (sM st0) f a_ i 0 x3.toInt) → (RS (sM st0) nm ga gk gl gB1) → (MdA g hc r nm 1 um sv sz ra rm ga gk gl gB1 gtA gnA grA gpA gh gv gs gx gf) → (∀ k, ¬ (r ≤ k ∧ k < r + 14) → hc k = h k) → (25 - i) * 20 + 19 < N → W p l e (headSpec wsX9_makes rm_X9_makes).room s m ([.ref (g.2.2.1 r), .int p0, .int p1] : List Value).toArray below meth c H locs 0 0 (MQ below (va_Qi (fun r_ h2 => (∀ k, ¬ (r ≤ k ∧ k < r + 14) → h2 k = h k) ∧ RefA g h2 r st0 ∧ AnMakes st0 p0 p1 r_) (Wd g) (inW g)) ([.ref (g.2.2.1 r), .int p0, .int p1] : List Value).toArray s 0 0 (inW g)) (F0 m 49 ls [])) ∧ (∀ (f : Nat) (a_ : Nat) (i : Nat) (x3 : Int32) (x4 : Int32) (j : Nat) (x5 : Int32) (x6 : Int32) (gtA : Nat → Int32) (gnA : Nat → Int32) (gpA : Nat → Int32) (grA : Nat → Int32) (gB1 : Nat → Int32) (hc : Nat → va_E) (H : Heap) (locs : List Loc) (ls : Array Slot), WD g (inW g) s hc H locs → lv_has ls 8 [(0, .ref (g.2.2.1 r)), (1, .int p0), (2, .int p1), (3, .int x3), (4, .int x4), (5, .int x5), (6, .int x6)] → (p0.toInt = ((f : Nat) : Int)) → (f < pN (sM st0)) → (p1.toInt = ((a_ : Nat) : Int)) → (a_ < pA (sM st0) f) → (¬ mStrictF 2 (sM st0) f a_) → (i < pL (sM st0) f) → (j ≤ 14) → (x4.toInt = ((i : Nat) : Int)) → (x5.toInt = ((mCode (pB (sM st0) f i) : Nat) : Int)) → (x6.toInt = ((j : Nat) : Int)) → (FmQ (sM st0) f a_ i j x3.toInt) → (RS (sM st0) nm ga gk gl gB1) → (MdA g hc r nm 1 um sv sz ra rm ga gk gl gB1 gtA gnA grA gpA gh gv gs gx gf) → (∀ k, ¬ (r ≤ k ∧ k < r + 14) → hc k = h k) → (25 - i) * 20 + (15 - j) < N → W p l e (headSpec wsX9_makes rm_X9_makes).room s m ([.ref (g.2.2.1 r), .int p0, .int p1] : List Value).toArray below meth c H locs 0 0 (MQ below (va_Qi (fun r_ h2 => (∀ k, ¬ (r ≤ k ∧ k < r + 14) → h2 k = h k) ∧ RefA g h2 r st0 ∧ AnMakes st0 p0 p1 r_) (Wd g) (inW g)) ([.ref (g.2.2.1 r), .int p0, .int p1] : List Value).toArray s 0 0 (inW g)) (F0 m 83 ls [])) := by
    intro N
    induction N with
    | zero => exact ⟨by intros; omega, by intros; omega⟩
    | succ N ih =>
      obtain ⟨ih49, ih83⟩ := ih
      refine ⟨?_, ?_⟩
      · intro f a_ i x3 x4 gtA gnA gpA grA gB1 hc H locs ls w hl hf0 hf ha0 haa hns hi hx4 hfm S D hfr hN_
        obtain ⟨ha3, hk3, hl1, hl24, hpl, hd0⟩ := hP.2.2 f hf
        refine lv_iload hx hb dX9_makes_49 (lv_at hl 4 rfl) ?_
        refine lv_aload_n hx hb dX9_makes_51 rfl (lv_at hl 0 rfl) ?_
        refine r_get (C := RX9) (T := TX9) (N := 20) (ci := 7) hx hb hts inX9_makes_X9 hown w (by have := D.1; omega) D.c0 rfl 3 (by decide) (hts (Cond.fieldLink RX9 16 "EarlyValuesModel" "longOf" "[I") (List.mem_of_getElem? (i := 2) (by decide +kernel))) rfl rfl dX9_makes_52 ?_
        refine lv_iload_n hx hb dX9_makes_55 rfl (lv_at hl 1 rfl) ?_
        refine r_iald (j := f) hx hb w (by have := D.1; omega) D.c3 hf0 (by omega) dX9_makes_56 ?_
        refine lv_icmp_ge (tgt := 192) hx hb dX9_makes_57 (by decide) (fun c1 => ?_) (fun c1 => ?_)
        · have c1 : (((pL (sM st0) f) : Nat) : Int) ≤ ((i : Nat) : Int) := (i_le (S.2.2.2.1 f (by omega)) hx4).mp c1
          refine lv_aload_n hx hb dX9_makes_192 rfl (lv_at hl 0 rfl) ?_
          refine lv_iconst (v := 0) hx hb dX9_makes_193 (by decide) ?_
          refine r_put (ty := .boolean) (C := RX9) (T := TX9) (N := 20) (ci := 7) hx hb hts inX9_makes_X9 tyX9 tyX9_ok nmX9 hown w (by have := D.1; omega) D.c0 rfl 8 (by decide) (hts (Cond.fieldLink RX9 121 "EarlyValuesModel" "isKnown" "Z") (List.mem_of_getElem? (i := 4) (by decide +kernel))) rfl rfl (by decide +kernel) (by first | rfl | exact rfl) (by first | rfl | exact Bq.fit rfl) (Nat.le_of_ble_eq_true rfl) dX9_makes_194 (fun h2 H locs eh2 w => ?_)
          have D := D.s0 eh2
          have hfr : ∀ k_, ¬ (r ≤ k_ ∧ k_ < r + 14) → h2 k_ = h k_ := fun k_ hk_ => by rw [eh2, va_up_ne _ _ (by omega)]; exact hfr k_ hk_
          refine lv_iload_n hx hb dX9_makes_197 rfl (lv_at hl 3 rfl) ?_
          refine r_iret (v := x3) hx hb hr hlocks w dX9_makes_198 ?_
          exact ⟨hfr, ⟨_, _, _, _, _, _, _, _, _, _, _, _, _, _, _, _, _, _, _, _, D, hSV0, S, (Or.inl rfl), hum, hUs, hsv, hVs, hsz, hgx⟩, Or.inl ⟨f, a_, hf0, ha0, hf, haa, Or.inr ⟨hns, hfm.fin (fun q_ => by omega)⟩⟩⟩
        · have c1 : ¬ ((((pL (sM st0) f) : Nat) : Int) ≤ ((i : Nat) : Int)) := fun q => c1 ((i_le (S.2.2.2.1 f (by omega)) hx4).mpr q)
          have hi_ : i < pL (sM st0) f := by omega
          have hb_ := hpl i hi_
          refine lv_iload_n hx hb dX9_makes_60 rfl (lv_at hl 3 rfl) ?_
          refine lv_bipush (v := (-4)) hx hb dX9_makes_61 (by decide) ?_
          refine lv_icmp_ne (tgt := 192) hx hb dX9_makes_63 (by decide) (fun c3 => ?_) (fun c3 => ?_)
          · have c3 : ¬ (x3.toInt = (-4 : Int)) := fun q => c3 ((i_eq (rfl : x3.toInt = x3.toInt) (by decide : (-4 : Int32).toInt = (-4 : Int))).mpr q)
            refine lv_aload_n hx hb dX9_makes_192 rfl (lv_at hl 0 rfl) ?_
            refine lv_iconst (v := 0) hx hb dX9_makes_193 (by decide) ?_
            refine r_put (ty := .boolean) (C := RX9) (T := TX9) (N := 20) (ci := 7) hx hb hts inX9_makes_X9 tyX9 tyX9_ok nmX9 hown w (by have := D.1; omega) D.c0 rfl 8 (by decide) (hts (Cond.fieldLink RX9 121 "EarlyValuesModel" "isKnown" "Z") (List.mem_of_getElem? (i := 4) (by decide +kernel))) rfl rfl (by decide +kernel) (by first | rfl | exact rfl) (by first | rfl | exact Bq.fit rfl) (Nat.le_of_ble_eq_true rfl) dX9_makes_194 (fun h4 H locs eh4 w => ?_)
            have D := D.s0 eh4
            have hfr : ∀ k_, ¬ (r ≤ k_ ∧ k_ < r + 14) → h4 k_ = h k_ := fun k_ hk_ => by rw [eh4, va_up_ne _ _ (by omega)]; exact hfr k_ hk_
            refine lv_iload_n hx hb dX9_makes_197 rfl (lv_at hl 3 rfl) ?_
            refine r_iret (v := x3) hx hb hr hlocks w dX9_makes_198 ?_
            exact ⟨hfr, ⟨_, _, _, _, _, _, _, _, _, _, _, _, _, _, _, _, _, _, _, _, D, hSV0, S, (Or.inl rfl), hum, hUs, hsv, hVs, hsz, hgx⟩, Or.inl ⟨f, a_, hf0, ha0, hf, haa, Or.inr ⟨hns, hfm.fin (fun q_ => by omega)⟩⟩⟩
          · have c3 : x3.toInt = (-4 : Int) := (i_eq (rfl : x3.toInt = x3.toInt) (by decide : (-4 : Int32).toInt = (-4 : Int))).mp c3
            refine lv_aload_n hx hb dX9_makes_66 rfl (lv_at hl 0 rfl) ?_
            refine r_get (C := RX9) (T := TX9) (N := 20) (ci := 7) hx hb hts inX9_makes_X9 hown w (by have := D.1; omega) D.c0 rfl 4 (by decide) (hts (Cond.fieldLink RX9 19 "EarlyValuesModel" "body" "[I") (List.mem_of_getElem? (i := 3) (by decide +kernel))) rfl rfl dX9_makes_67 ?_
            refine lv_bipush (v := 24) hx hb dX9_makes_70 (by decide) ?_
            refine lv_iload_n hx hb dX9_makes_72 rfl (lv_at hl 1 rfl) ?_
            refine lv_imul hx hb dX9_makes_73 ?_
            refine lv_topi (fun y5 ey5 => ?_)
            have ty5 : y5.toInt = (((24 * f) : Nat) : Int) := i_mulN ey5 (by decide : (24 : Int32).toInt = ((24 : Nat) : Int)) hf0 (by omega)
            refine lv_iload hx hb dX9_makes_74 (lv_at hl 4 rfl) ?_
            refine lv_iadd hx hb dX9_makes_76 ?_
            refine lv_topi (fun y6 ey6 => ?_)
            have ty6 : y6.toInt = ((((24 * f) + i) : Nat) : Int) := i_addN ey6 ty5 hx4 (by omega)
            refine r_iald (j := ((24 * f) + i)) hx hb w (by have := D.1; omega) D.c4 ty6 (by omega) dX9_makes_77 ?_
            refine lv_istore (lv' := [(5, .int (gB1 (((24 * f) + i)))), (0, .ref (g.2.2.1 r)), (1, .int p0), (2, .int p1), (3, .int x3), (4, .int x4)]) hx hb dX9_makes_78 hl (by decide) rfl (fun ls hl => ?_)
            refine lv_iconst (v := 0) hx hb dX9_makes_80 (by decide) ?_
            refine lv_istore (lv' := [(6, .int 0), (5, .int (gB1 (((24 * f) + i)))), (0, .ref (g.2.2.1 r)), (1, .int p0), (2, .int p1), (3, .int x3), (4, .int x4)]) hx hb dX9_makes_81 hl (by decide) rfl (fun ls hl => ?_)
            exact ih83 f a_ i x3 x4 0 (gB1 (((24 * f) + i))) 0 gtA gnA gpA grA gB1 hc _ _ _ w (lv_sub hl [2, 3, 4, 5, 6, 1, 0] rfl) hf0 hf ha0 haa hns (by omega) (by omega) hx4 ((S.2.2.2.2 f hf i (by omega))) ((by decide : (0 : Int32).toInt = ((0 : Nat) : Int))) hfm S D hfr (by omega)
      · intro f a_ i x3 x4 j x5 x6 gtA gnA gpA grA gB1 hc H locs ls w hl hf0 hf ha0 haa hns hi hj hx4 hx5 hx6 hfm S D hfr hN_
        obtain ⟨ha3, hk3, hl1, hl24, hpl, hd0⟩ := hP.2.2 f hf
        refine lv_iload hx hb dX9_makes_83 (lv_at hl 6 rfl) ?_
        refine lv_bipush (v := 14) hx hb dX9_makes_85 (by decide) ?_
        refine lv_icmp_ge (tgt := 186) hx hb dX9_makes_87 (by decide) (fun c7 => ?_) (fun c7 => ?_)
        · have c7 : ((14 : Nat) : Int) ≤ ((j : Nat) : Int) := (i_le (by decide : (14 : Int32).toInt = ((14 : Nat) : Int)) hx6).mp c7
          obtain ⟨y8, ey8⟩ : ∃ y : Int32, y = x4 + (1) := ⟨_, rfl⟩
          have ty8 : y8.toInt = (((i + 1) : Nat) : Int) := i_addN ey8 hx4 (by decide : (1 : Int32).toInt = ((1 : Nat) : Int)) (by omega)
          refine lv_iinc (v := y8) (lv' := [(4, .int y8), (0, .ref (g.2.2.1 r)), (1, .int p0), (2, .int p1), (3, .int x3), (5, .int x5), (6, .int x6)]) hx hb dX9_makes_186 hl (k := 4) rfl (by rw [ey8]; rfl) (by decide) rfl (fun ls hl => ?_)
          refine lv_goto (tgt := 49) hx hb dX9_makes_189 (by decide) ?_
          exact ih49 f a_ (i + 1) x3 y8 gtA gnA gpA grA gB1 hc _ _ _ w (lv_sub hl [1, 2, 3, 4, 0] rfl) hf0 hf ha0 haa hns (by omega) ty8 (hfm.nx (fun _ => by omega)) S D hfr (by omega)
        · have c7 : ¬ (((14 : Nat) : Int) ≤ ((j : Nat) : Int)) := fun q => c7 ((i_le (by decide : (14 : Int32).toInt = ((14 : Nat) : Int)) hx6).mpr q)
          refine lv_iload_n hx hb dX9_makes_90 rfl (lv_at hl 3 rfl) ?_
          refine lv_bipush (v := (-4)) hx hb dX9_makes_91 (by decide) ?_
          refine lv_icmp_ne (tgt := 186) hx hb dX9_makes_93 (by decide) (fun c9 => ?_) (fun c9 => ?_)
          · have c9 : ¬ (x3.toInt = (-4 : Int)) := fun q => c9 ((i_eq (rfl : x3.toInt = x3.toInt) (by decide : (-4 : Int32).toInt = (-4 : Int))).mpr q)
            obtain ⟨y10, ey10⟩ : ∃ y : Int32, y = x4 + (1) := ⟨_, rfl⟩
            have ty10 : y10.toInt = (((i + 1) : Nat) : Int) := i_addN ey10 hx4 (by decide : (1 : Int32).toInt = ((1 : Nat) : Int)) (by omega)
            refine lv_iinc (v := y10) (lv' := [(4, .int y10), (0, .ref (g.2.2.1 r)), (1, .int p0), (2, .int p1), (3, .int x3), (5, .int x5), (6, .int x6)]) hx hb dX9_makes_186 hl (k := 4) rfl (by rw [ey10]; rfl) (by decide) rfl (fun ls hl => ?_)
            refine lv_goto (tgt := 49) hx hb dX9_makes_189 (by decide) ?_
            exact ih49 f a_ (i + 1) x3 y10 gtA gnA gpA grA gB1 hc _ _ _ w (lv_sub hl [1, 2, 3, 4, 0] rfl) hf0 hf ha0 haa hns (by omega) ty10 (hfm.nx (fun q_ => absurd q_ (by omega))) S D hfr (by omega)
          · have c9 : x3.toInt = (-4 : Int) := (i_eq (rfl : x3.toInt = x3.toInt) (by decide : (-4 : Int32).toInt = (-4 : Int))).mp c9
            refine lv_iload hx hb dX9_makes_96 (lv_at hl 6 rfl) ?_
            refine r_callI w (va_runS (As := [.int x6]) (rest := []) ⟨hx, hb, hml, hown, hts⟩ (c_X9_letterBy l x6 hx6 (by omega)) (va_cwS 1 hts gX9_makes_X9_letterBy rfl rfl rfl (by decide +kernel) ⟨Nat.le_of_ble_eq_true rfl, Nat.le_of_ble_eq_true rfl⟩) (r_preS w) rfl rfl hl.1 rfl (lv_room (Nat.le_of_ble_eq_true rfl)) dX9_makes_98 ⟨Nat.zero_le _, Nat.zero_le _⟩) (fun r12 h11 H locs hp w => ?_)
            obtain ⟨eh_, qq13⟩ := hp
            have eh_ := eh_.symm
            subst eh_
            refine lv_istore (lv' := [(7, .int r12), (0, .ref (g.2.2.1 r)), (1, .int p0), (2, .int p1), (3, .int x3), (4, .int x4), (5, .int x5), (6, .int x6)]) hx hb dX9_makes_101 hl (by decide) rfl (fun ls hl => ?_)
            refine lv_iload hx hb dX9_makes_103 (lv_at hl 0 rfl) ?_
            refine lv_iload hx hb dX9_makes_105 (lv_at hl 6 rfl) ?_
            refine lv_icmp_eq (tgt := 180) hx hb dX9_makes_107 (by decide) (fun c14 => ?_) (fun c14 => ?_)
            · have c14 : (((mCode j) : Nat) : Int) = (((mCode (pB (sM st0) f i)) : Nat) : Int) := (i_eq qq13 hx5).mp c14
              obtain ⟨y15, ey15⟩ : ∃ y : Int32, y = x6 + (1) := ⟨_, rfl⟩
              have ty15 : y15.toInt = (((j + 1) : Nat) : Int) := i_addN ey15 hx6 (by decide : (1 : Int32).toInt = ((1 : Nat) : Int)) (by omega)
              refine lv_iinc (v := y15) (lv' := [(6, .int y15), (7, .int r12), (0, .ref (g.2.2.1 r)), (1, .int p0), (2, .int p1), (3, .int x3), (4, .int x4), (5, .int x5)]) hx hb dX9_makes_180 hl (k := 7) rfl (by rw [ey15]; rfl) (by decide) rfl (fun ls hl => ?_)
              refine lv_goto (tgt := 83) hx hb dX9_makes_183 (by decide) ?_
              exact ih83 f a_ i x3 x4 (j + 1) x5 y15 gtA gnA gpA grA gB1 hc _ _ _ w (lv_sub hl [2, 3, 4, 5, 6, 7, 0] rfl) hf0 hf ha0 haa hns hi (by omega) hx4 hx5 ty15 (hfm.no (fun q_ => q_.1 (mCode_inj (hpl i hi).1 (by omega) (by omega)))) S D hfr (by omega)
            · have c14 : ¬ ((((mCode j) : Nat) : Int) = (((mCode (pB (sM st0) f i)) : Nat) : Int)) := fun q => c14 ((i_eq qq13 hx5).mpr q)
              refine lv_aload_n hx hb dX9_makes_110 rfl (lv_at hl 1 rfl) ?_
              refine lv_iload_n hx hb dX9_makes_111 rfl (lv_at hl 2 rfl) ?_
              refine lv_iload hx hb dX9_makes_112 (lv_at hl 5 rfl) ?_
              refine lv_iload hx hb dX9_makes_114 (lv_at hl 0 rfl) ?_
              refine r_callI w (va_runV (As := [.int p0, .int x4, .int r12]) (rest := []) ⟨hx, hb, hml, hown, hts⟩ (c_X9_mayStand l D S hP p0 x4 r12 hf0 hx4 (by omega) (by omega)) (cwV 3 hts gX9_makes_X9_mayStand rfl rfl rfl (by decide +kernel) ⟨Nat.le_of_ble_eq_true rfl, Nat.le_of_ble_eq_true rfl⟩) (r_preV w (by have := D.1; omega) D.c0 rfl) rfl rfl hl.1 rfl (lv_room (Nat.le_of_ble_eq_true rfl)) dX9_makes_116 ⟨Nat.zero_le _, Nat.zero_le _⟩) (fun r17 h16 H locs hp w => ?_)
              obtain ⟨eh_, qq18⟩ := hp
              have eh_ := eh_.symm
              subst eh_
              refine lv_if_eq (tgt := 180) hx hb dX9_makes_119 (by decide) (fun c19 => ?_) (fun c19 => ?_)
              · have c19 := qq18.eq c19
                rw [(qq13 : (r12 : Int32).toInt = _), mNum_code (show j < 14 by omega)] at c19
                have c19 : ¬ mFit (sM st0) f i j := fun q_ => c19 ⟨by omega, q_⟩
                obtain ⟨y20, ey20⟩ : ∃ y : Int32, y = x6 + (1) := ⟨_, rfl⟩
                have ty20 : y20.toInt = (((j + 1) : Nat) : Int) := i_addN ey20 hx6 (by decide : (1 : Int32).toInt = ((1 : Nat) : Int)) (by omega)
                refine lv_iinc (v := y20) (lv' := [(6, .int y20), (7, .int r12), (0, .ref (g.2.2.1 r)), (1, .int p0), (2, .int p1), (3, .int x3), (4, .int x4), (5, .int x5)]) hx hb dX9_makes_180 hl (k := 7) rfl (by rw [ey20]; rfl) (by decide) rfl (fun ls hl => ?_)
                refine lv_goto (tgt := 83) hx hb dX9_makes_183 (by decide) ?_
                exact ih83 f a_ i x3 x4 (j + 1) x5 y20 gtA gnA gpA grA gB1 hc _ _ _ w (lv_sub hl [2, 3, 4, 5, 6, 7, 0] rfl) hf0 hf ha0 haa hns hi (by omega) hx4 hx5 ty20 (hfm.no (fun q_ => c19 q_.2.1)) S D hfr (by omega)
              · have c19 := qq18.ne c19
                rw [(qq13 : (r12 : Int32).toInt = _), mNum_code (show j < 14 by omega)] at c19
                have c19 := c19.2
                refine lv_aload_n hx hb dX9_makes_122 rfl (lv_at hl 1 rfl) ?_
                refine r_get (C := RX9) (T := TX9) (N := 20) (ci := 7) hx hb hts inX9_makes_X9 hown w (by have := D.1; omega) D.c0 rfl 4 (by decide) (hts (Cond.fieldLink RX9 19 "EarlyValuesModel" "body" "[I") (List.mem_of_getElem? (i := 3) (by decide +kernel))) rfl rfl dX9_makes_123 ?_
                refine lv_bipush (v := 24) hx hb dX9_makes_126 (by decide) ?_
                refine lv_iload_n hx hb dX9_makes_128 rfl (lv_at hl 2 rfl) ?_
                refine lv_imul hx hb dX9_makes_129 ?_
                refine lv_topi (fun y21 ey21 => ?_)
                have ty21 : y21.toInt = (((24 * f) : Nat) : Int) := i_mulN ey21 (by decide : (24 : Int32).toInt = ((24 : Nat) : Int)) hf0 (by omega)
                refine lv_iload hx hb dX9_makes_130 (lv_at hl 5 rfl) ?_
                refine lv_iadd hx hb dX9_makes_132 ?_
                refine lv_topi (fun y22 ey22 => ?_)
                have ty22 : y22.toInt = ((((24 * f) + i) : Nat) : Int) := i_addN ey22 ty21 hx4 (by omega)
                refine lv_iload hx hb dX9_makes_133 (lv_at hl 0 rfl) ?_
                refine r_iast (j := ((24 * f) + i)) hx hb w (by have := D.1; omega) D.c4 ty22 (by omega) dX9_makes_135 (fun h23 H locs eh23 w => ?_)
                have D := D.s4 eh23
                generalize egz24 : upd gB1 (((24 * f) + i)) r12 = gz24 at D
                have hfr : ∀ k_, ¬ (r ≤ k_ ∧ k_ < r + 14) → h23 k_ = h k_ := fun k_ hk_ => by rw [eh23, va_up_ne _ _ (by omega)]; exact hfr k_ hk_
                have S0_ := S
                have hP0_ := hP
                have S := S0_.put hP0_ hf hi qq13 egz24
                have hP := mSet_ok hP0_ c19 (show j < 14 by omega)
                refine lv_aload_n hx hb dX9_makes_136 rfl (lv_at hl 1 rfl) ?_
                refine lv_iconst (v := 2) hx hb dX9_makes_137 (by decide) ?_
                refine r_callV w (va_runV (As := [.int 2]) (rest := []) ⟨hx, hb, hml, hown, hts⟩ (c_X9_sets l D S hP (u := 2) (by omega) 2 (by decide : (2 : Int32).toInt = ((2 : Nat) : Int))) (cwV 1 hts gX9_makes_X9_sets rfl rfl rfl (by decide +kernel) ⟨Nat.le_of_ble_eq_true rfl, Nat.le_of_ble_eq_true rfl⟩) (r_preV w (by have := D.1; omega) D.c0 rfl) rfl rfl hl.1 rfl (lv_room (Nat.le_of_ble_eq_true rfl)) dX9_makes_138 ⟨Nat.zero_le _, Nat.zero_le _⟩) (fun h25 H locs hp w => ?_)
                obtain ⟨hfk26, gtk26, gnk26, gpk26, grk26, Kk26, D, hKk26, hTk26, hgk26, hek26, hok26⟩ := hp
                have hfr : ∀ k_, ¬ (r ≤ k_ ∧ k_ < r + 14) → h25 k_ = h k_ := fun k_ hk_ => (hfk26 k_ (by omega)).trans (hfr k_ hk_)
                refine lv_aload_n hx hb dX9_makes_141 rfl (lv_at hl 1 rfl) ?_
                refine lv_iload_n hx hb dX9_makes_142 rfl (lv_at hl 2 rfl) ?_
                refine lv_iload_n hx hb dX9_makes_143 rfl (lv_at hl 3 rfl) ?_
                refine r_callI w (va_runV (As := [.int p0, .int p1]) (rest := []) ⟨hx, hb, hml, hown, hts⟩ (c_X9_fineStrict l D S hP hKk26 hTk26 p0 p1 hf0 ha0 hf haa) (cwV 2 hts gX9_makes_X9_fineStrict rfl rfl rfl (by decide +kernel) ⟨Nat.le_of_ble_eq_true rfl, Nat.le_of_ble_eq_true rfl⟩) (r_preV w (by have := D.1; omega) D.c0 rfl) rfl rfl hl.1 rfl (lv_room (Nat.le_of_ble_eq_true rfl)) dX9_makes_144 ⟨Nat.zero_le _, Nat.zero_le _⟩) (fun r28 h27 H locs hp w => ?_)
                obtain ⟨eh_, qq29⟩ := hp
                have eh_ := eh_.symm
                subst eh_
                have b30 : r28.toInt = 1 ∨ r28.toInt = 0 := by rcases qq29 with q_ | q_; exact Or.inl (by rw [q_.1]; rfl); exact Or.inr (by rw [q_.1]; rfl)
                refine lv_iconst (v := 1) hx hb dX9_makes_147 (by decide) ?_
                have hcj_ := mCode_c (k := j) (by omega)
                refine lv_icmp_ne (tgt := 163) hx hb dX9_makes_148 (by decide) (fun c31 => ?_) (fun c31 => ?_)
                · have c31 : ¬ (r28.toInt = ((1 : Nat) : Int)) := fun q => c31 ((i_eq (rfl : r28.toInt = r28.toInt) (by decide : (1 : Int32).toInt = ((1 : Nat) : Int))).mpr q)
                  have hm2_ : ¬ mStrictF 2 (mSet (sM st0) f i j) f a_ := by rcases qq29 with q_ | q_; exfalso; rw [q_.1] at c31; exact absurd rfl c31; exact q_.2
                  refine lv_bipush (v := (-4)) hx hb dX9_makes_163 (by decide) ?_
                  refine lv_istore_n (lv' := [(3, .int ((-4))), (7, .int r12), (0, .ref (g.2.2.1 r)), (1, .int p0), (2, .int p1), (4, .int x4), (5, .int x5), (6, .int x6)]) hx hb dX9_makes_165 rfl hl (by decide) rfl (fun ls hl => ?_)
                  refine lv_aload_n hx hb dX9_makes_166 rfl (lv_at hl 2 rfl) ?_
                  refine r_get (C := RX9) (T := TX9) (N := 20) (ci := 7) hx hb hts inX9_makes_X9 hown w (by have := D.1; omega) D.c0 rfl 4 (by decide) (hts (Cond.fieldLink RX9 19 "EarlyValuesModel" "body" "[I") (List.mem_of_getElem? (i := 3) (by decide +kernel))) rfl rfl dX9_makes_167 ?_
                  refine lv_bipush (v := 24) hx hb dX9_makes_170 (by decide) ?_
                  refine lv_iload_n hx hb dX9_makes_172 rfl (lv_at hl 3 rfl) ?_
                  refine lv_imul hx hb dX9_makes_173 ?_
                  refine lv_topi (fun y32 ey32 => ?_)
                  have ty32 : y32.toInt = (((24 * f) : Nat) : Int) := i_mulN ey32 (by decide : (24 : Int32).toInt = ((24 : Nat) : Int)) hf0 (by omega)
                  refine lv_iload hx hb dX9_makes_174 (lv_at hl 5 rfl) ?_
                  refine lv_iadd hx hb dX9_makes_176 ?_
                  refine lv_topi (fun y33 ey33 => ?_)
                  have ty33 : y33.toInt = ((((24 * f) + i) : Nat) : Int) := i_addN ey33 ty32 hx4 (by omega)
                  refine lv_iload hx hb dX9_makes_177 (lv_at hl 6 rfl) ?_
                  refine r_iast (j := ((24 * f) + i)) hx hb w (by have := D.1; omega) D.c4 ty33 (by omega) dX9_makes_179 (fun h34 H locs eh34 w => ?_)
                  have D := D.s4 eh34
                  generalize egz35 : upd gz24 (((24 * f) + i)) x5 = gz35 at D
                  have hfr : ∀ k_, ¬ (r ≤ k_ ∧ k_ < r + 14) → h34 k_ = h k_ := fun k_ hk_ => by rw [eh34, va_up_ne _ _ (by omega)]; exact hfr k_ hk_
                  have S := S.put hP (f := f) (j := i) hf hi hx5 egz35
                  have hP := hP0_
                  rw [mSet_back] at S
                  obtain ⟨y36, ey36⟩ : ∃ y : Int32, y = x6 + (1) := ⟨_, rfl⟩
                  have ty36 : y36.toInt = (((j + 1) : Nat) : Int) := i_addN ey36 hx6 (by decide : (1 : Int32).toInt = ((1 : Nat) : Int)) (by omega)
                  refine lv_iinc (v := y36) (lv' := [(6, .int y36), (3, .int ((-4))), (7, .int r12), (0, .ref (g.2.2.1 r)), (1, .int p0), (2, .int p1), (4, .int x4), (5, .int x5)]) hx hb dX9_makes_180 hl (k := 7) rfl (by rw [ey36]; rfl) (by decide) rfl (fun ls hl => ?_)
                  refine lv_goto (tgt := 83) hx hb dX9_makes_183 (by decide) ?_
                  exact ih83 f a_ i ((-4)) x4 (j + 1) x5 y36 gtk26 gnk26 gpk26 grk26 gz35 h34 _ _ _ w (lv_sub hl [3, 4, 5, 1, 6, 7, 0] rfl) hf0 hf ha0 haa hns hi (by omega) hx4 hx5 ty36 (by have e_ : x3.toInt = ((-4) : Int32).toInt := (by rw [((by decide : (-4 : Int32).toInt = (-4 : Int)) : ((-4) : Int32).toInt = _)]; omega); rw [← e_]; exact hfm.no (fun q_ => hm2_ q_.2.2)) S D hfr (by omega)
                · have c31 : r28.toInt = ((1 : Nat) : Int) := (i_eq (rfl : r28.toInt = r28.toInt) (by decide : (1 : Int32).toInt = ((1 : Nat) : Int))).mp c31
                  have hm2_ : mStrictF 2 (mSet (sM st0) f i j) f a_ := by rcases qq29 with q_ | q_; exact q_.2; exfalso; rw [q_.1] at c31; exact absurd c31 (by decide)
                  refine lv_sipush (v := 200) hx hb dX9_makes_151 (by decide) ?_
                  refine lv_iload hx hb dX9_makes_154 (lv_at hl 5 rfl) ?_
                  refine lv_imul hx hb dX9_makes_156 ?_
                  refine lv_topi (fun y37 ey37 => ?_)
                  have ty37 : y37.toInt = (((200 * i) : Nat) : Int) := i_mulN ey37 (by decide : (200 : Int32).toInt = ((200 : Nat) : Int)) hx4 (by omega)
                  refine lv_iload hx hb dX9_makes_157 (lv_at hl 0 rfl) ?_
                  refine lv_iadd hx hb dX9_makes_159 ?_
                  refine lv_topi (fun y38 ey38 => ?_)
                  have ty38 : y38.toInt = ((((200 * i) + (mCode j)) : Nat) : Int) := i_addN ey38 ty37 qq13 (by omega)
                  refine lv_goto (tgt := 165) hx hb dX9_makes_160 (by decide) ?_
                  refine lv_istore_n (lv' := [(3, .int y38), (7, .int r12), (0, .ref (g.2.2.1 r)), (1, .int p0), (2, .int p1), (4, .int x4), (5, .int x5), (6, .int x6)]) hx hb dX9_makes_165 rfl hl (by decide) rfl (fun ls hl => ?_)
                  refine lv_aload_n hx hb dX9_makes_166 rfl (lv_at hl 2 rfl) ?_
                  refine r_get (C := RX9) (T := TX9) (N := 20) (ci := 7) hx hb hts inX9_makes_X9 hown w (by have := D.1; omega) D.c0 rfl 4 (by decide) (hts (Cond.fieldLink RX9 19 "EarlyValuesModel" "body" "[I") (List.mem_of_getElem? (i := 3) (by decide +kernel))) rfl rfl dX9_makes_167 ?_
                  refine lv_bipush (v := 24) hx hb dX9_makes_170 (by decide) ?_
                  refine lv_iload_n hx hb dX9_makes_172 rfl (lv_at hl 3 rfl) ?_
                  refine lv_imul hx hb dX9_makes_173 ?_
                  refine lv_topi (fun y39 ey39 => ?_)
                  have ty39 : y39.toInt = (((24 * f) : Nat) : Int) := i_mulN ey39 (by decide : (24 : Int32).toInt = ((24 : Nat) : Int)) hf0 (by omega)
                  refine lv_iload hx hb dX9_makes_174 (lv_at hl 5 rfl) ?_
                  refine lv_iadd hx hb dX9_makes_176 ?_
                  refine lv_topi (fun y40 ey40 => ?_)
                  have ty40 : y40.toInt = ((((24 * f) + i) : Nat) : Int) := i_addN ey40 ty39 hx4 (by omega)
                  refine lv_iload hx hb dX9_makes_177 (lv_at hl 6 rfl) ?_
                  refine r_iast (j := ((24 * f) + i)) hx hb w (by have := D.1; omega) D.c4 ty40 (by omega) dX9_makes_179 (fun h41 H locs eh41 w => ?_)
                  have D := D.s4 eh41
                  generalize egz42 : upd gz24 (((24 * f) + i)) x5 = gz42 at D
                  have hfr : ∀ k_, ¬ (r ≤ k_ ∧ k_ < r + 14) → h41 k_ = h k_ := fun k_ hk_ => by rw [eh41, va_up_ne _ _ (by omega)]; exact hfr k_ hk_
                  have S := S.put hP (f := f) (j := i) hf hi hx5 egz42
                  have hP := hP0_
                  rw [mSet_back] at S
                  obtain ⟨y43, ey43⟩ : ∃ y : Int32, y = x6 + (1) := ⟨_, rfl⟩
                  have ty43 : y43.toInt = (((j + 1) : Nat) : Int) := i_addN ey43 hx6 (by decide : (1 : Int32).toInt = ((1 : Nat) : Int)) (by omega)
                  refine lv_iinc (v := y43) (lv' := [(6, .int y43), (3, .int y38), (7, .int r12), (0, .ref (g.2.2.1 r)), (1, .int p0), (2, .int p1), (4, .int x4), (5, .int x5)]) hx hb dX9_makes_180 hl (k := 7) rfl (by rw [ey43]; rfl) (by decide) rfl (fun ls hl => ?_)
                  refine lv_goto (tgt := 83) hx hb dX9_makes_183 (by decide) ?_
                  exact ih83 f a_ i y38 x4 (j + 1) x5 y43 gtk26 gnk26 gpk26 grk26 gz42 h41 _ _ _ w (lv_sub hl [3, 4, 5, 1, 6, 7, 0] rfl) hf0 hf ha0 haa hns hi (by omega) hx4 hx5 ty43 (by rw [(ty38 : (y38).toInt = _)]; exact hfm.yes (by omega) hi (by omega) ⟨fun q_ => by rw [q_] at c14; exact c14 rfl, c19, hm2_⟩) S D hfr (by omega)
  have cut0 := cuts (100000)
  obtain ⟨ih49, ih83⟩ := cut0
  refine lv_aload_n hx hb dX9_makes_0 rfl (lv_at hl 0 rfl) ?_
  refine lv_iload_n hx hb dX9_makes_1 rfl (lv_at hl 1 rfl) ?_
  refine r_callI w (va_runV (As := [.int p0]) (rest := []) ⟨hx, hb, hml, hown, hts⟩ (c_X9_isFunction l D S.1 p0) (cwV 1 hts gX9_makes_X9_isFunction rfl rfl rfl (by decide +kernel) ⟨Nat.le_of_ble_eq_true rfl, Nat.le_of_ble_eq_true rfl⟩) (r_preV w (by have := D.1; omega) D.c0 rfl) rfl rfl hl.1 rfl (lv_room (Nat.le_of_ble_eq_true rfl)) dX9_makes_2 ⟨Nat.zero_le _, Nat.zero_le _⟩) (fun r45 h44 H locs hp w => ?_)
  obtain ⟨eh_, qq46⟩ := hp
  have eh_ := eh_.symm
  subst eh_
  have b47 : Bq r45 (0 ≤ p0.toInt ∧ p0.toInt < ((pN (sM st0)) : Int)) := qq46.iff (by rw [((rfl : p0.toInt = p0.toInt) : p0.toInt = _)])
  refine lv_if_eq (tgt := 24) hx hb dX9_makes_5 (by decide) (fun c48 => ?_) (fun c48 => ?_)
  · have c48 := b47.eq c48
    refine lv_iconst (v := (-1)) hx hb dX9_makes_24 (by decide) ?_
    refine r_iret (v := (-1)) hx hb hr hlocks w dX9_makes_25 ?_
    exact ⟨hfr, ⟨_, _, _, _, _, _, _, _, _, _, _, _, _, _, _, _, _, _, _, _, D, hSV0, S, hkn, hum, hUs, hsv, hVs, hsz, hgx⟩, Or.inr ⟨by rintro ⟨f_, b_, e1_, e2_, e3_, e4_⟩; first | omega | (obtain rfl : f_ = f := (by omega); omega), rfl⟩⟩
  · have c48 := b47.ne c48
    obtain ⟨f, hf0⟩ : ∃ q_ : Nat, p0.toInt = (q_ : Int) := ⟨p0.toInt.toNat, by omega⟩
    have hf : f < pN (sM st0) := by omega
    obtain ⟨ha3, hk3, hl1, hl24, hpl, hd0⟩ := hP.2.2 f hf
    refine lv_iload_n hx hb dX9_makes_8 rfl (lv_at hl 2 rfl) ?_
    refine lv_iconst (v := 0) hx hb dX9_makes_9 (by decide) ?_
    refine lv_aload_n hx hb dX9_makes_10 rfl (lv_at hl 0 rfl) ?_
    refine r_get (C := RX9) (T := TX9) (N := 20) (ci := 7) hx hb hts inX9_makes_X9 hown w (by have := D.1; omega) D.c0 rfl 1 (by decide) (hts (Cond.fieldLink RX9 7 "EarlyValuesModel" "argsOf" "[I") (List.mem_of_getElem? (i := 1) (by decide +kernel))) rfl rfl dX9_makes_11 ?_
    refine lv_iload_n hx hb dX9_makes_14 rfl (lv_at hl 1 rfl) ?_
    refine r_iald (j := f) hx hb w (by have := D.1; omega) D.c1 hf0 (by omega) dX9_makes_15 ?_
    refine lv_iconst (v := 1) hx hb dX9_makes_16 (by decide) ?_
    refine lv_isub hx hb dX9_makes_17 ?_
    refine lv_topi (fun y49 ey49 => ?_)
    have ty49 : y49.toInt = (((pA (sM st0) f) : Nat) : Int) - ((1 : Nat) : Int) := i_sub ey49 (S.2.1 f (by omega)) (by decide : (1 : Int32).toInt = ((1 : Nat) : Int)) (by omega)
    refine r_callI w (va_runS (As := [.int p1, .int 0, .int y49]) (rest := []) ⟨hx, hb, hml, hown, hts⟩ (c_X9_in l p1 0 y49) (va_cwS 3 hts gX9_makes_X9_in rfl rfl rfl (by decide +kernel) ⟨Nat.le_of_ble_eq_true rfl, Nat.le_of_ble_eq_true rfl⟩) (r_preS w) rfl rfl hl.1 rfl (lv_room (Nat.le_of_ble_eq_true rfl)) dX9_makes_18 ⟨Nat.zero_le _, Nat.zero_le _⟩) (fun r51 h50 H locs hp w => ?_)
    obtain ⟨eh_, qq52⟩ := hp
    have eh_ := eh_.symm
    subst eh_
    have b53 : Bq r51 (((0 : Nat) : Int) ≤ p1.toInt ∧ p1.toInt ≤ ((((pA (sM st0) f) : Nat) : Int) - ((1 : Nat) : Int))) := qq52.iff (by rw [((rfl : p1.toInt = p1.toInt) : (p1 : Int32).toInt = _), ((by decide : (0 : Int32).toInt = ((0 : Nat) : Int)) : (0 : Int32).toInt = _), (ty49 : (y49 : Int32).toInt = _)])
    refine lv_if_ne (tgt := 26) hx hb dX9_makes_21 (by decide) (fun c54 => ?_) (fun c54 => ?_)
    · have c54 := b53.ne c54
      obtain ⟨a_, ha0⟩ : ∃ q_ : Nat, p1.toInt = (q_ : Int) := ⟨p1.toInt.toNat, by omega⟩
      have haa : a_ < pA (sM st0) f := by omega
      refine lv_aload_n hx hb dX9_makes_26 rfl (lv_at hl 0 rfl) ?_
      refine r_callV w (va_runV (As := []) (rest := []) ⟨hx, hb, hml, hown, hts⟩ (c_X9_setAll l D S hP hkn) (cwV 0 hts gX9_makes_X9_setAll rfl rfl rfl (by decide +kernel) ⟨Nat.le_of_ble_eq_true rfl, Nat.le_of_ble_eq_true rfl⟩) (r_preV w (by have := D.1; omega) D.c0 rfl) rfl rfl hl.1 rfl (lv_room (Nat.le_of_ble_eq_true rfl)) dX9_makes_27 ⟨Nat.zero_le _, Nat.zero_le _⟩) (fun h55 H locs hp w => ?_)
      obtain ⟨hfk56, gtk56, gnk56, gpk56, grk56, D, hAll⟩ := hp
      have hfr : ∀ k_, ¬ (r ≤ k_ ∧ k_ < r + 14) → h55 k_ = h k_ := fun k_ hk_ => (hfk56 k_ (by omega))
      obtain ⟨K0, hK0, hT0, hg0⟩ := hAll 0 (by omega)
      obtain ⟨K1, hK1, hT1, hg1⟩ := hAll 1 (by omega)
      obtain ⟨K2, hK2, hT2, hg2⟩ := hAll 2 (by omega)
      refine lv_aload_n hx hb dX9_makes_30 rfl (lv_at hl 0 rfl) ?_
      refine lv_iload_n hx hb dX9_makes_31 rfl (lv_at hl 1 rfl) ?_
      refine lv_iload_n hx hb dX9_makes_32 rfl (lv_at hl 2 rfl) ?_
      refine r_callI w (va_runV (As := [.int p0, .int p1]) (rest := []) ⟨hx, hb, hml, hown, hts⟩ (c_X9_fineStrict l D S hP hK2 hT2 p0 p1 hf0 ha0 hf haa) (cwV 2 hts gX9_makes_X9_fineStrict rfl rfl rfl (by decide +kernel) ⟨Nat.le_of_ble_eq_true rfl, Nat.le_of_ble_eq_true rfl⟩) (r_preV w (by have := D.1; omega) D.c0 rfl) rfl rfl hl.1 rfl (lv_room (Nat.le_of_ble_eq_true rfl)) dX9_makes_33 ⟨Nat.zero_le _, Nat.zero_le _⟩) (fun r58 h57 H locs hp w => ?_)
      obtain ⟨eh_, qq59⟩ := hp
      have eh_ := eh_.symm
      subst eh_
      have b60 : r58.toInt = 1 ∨ r58.toInt = 0 := by rcases qq59 with q_ | q_; exact Or.inl (by rw [q_.1]; rfl); exact Or.inr (by rw [q_.1]; rfl)
      refine lv_iconst (v := 1) hx hb dX9_makes_36 (by decide) ?_
      refine lv_icmp_ne (tgt := 43) hx hb dX9_makes_37 (by decide) (fun c61 => ?_) (fun c61 => ?_)
      · have c61 : ¬ (r58.toInt = ((1 : Nat) : Int)) := fun q => c61 ((i_eq (rfl : r58.toInt = r58.toInt) (by decide : (1 : Int32).toInt = ((1 : Nat) : Int))).mpr q)
        have hm1_ : ¬ mStrictF 2 (sM st0) f a_ := by rcases qq59 with q_ | q_; exfalso; rw [q_.1] at c61; exact absurd rfl c61; exact q_.2
        refine lv_bipush (v := (-4)) hx hb dX9_makes_43 (by decide) ?_
        refine lv_istore_n (lv' := [(3, .int ((-4))), (0, .ref (g.2.2.1 r)), (1, .int p0), (2, .int p1)]) hx hb dX9_makes_45 rfl hl (by decide) rfl (fun ls hl => ?_)
        refine lv_iconst (v := 0) hx hb dX9_makes_46 (by decide) ?_
        refine lv_istore (lv' := [(4, .int 0), (3, .int ((-4))), (0, .ref (g.2.2.1 r)), (1, .int p0), (2, .int p1)]) hx hb dX9_makes_47 hl (by decide) rfl (fun ls hl => ?_)
        exact ih49 f a_ 0 ((-4)) 0 gtk56 gnk56 gpk56 grk56 gB h55 _ _ _ w (lv_sub hl [2, 3, 4, 1, 0] rfl) hf0 hf ha0 haa hm1_ (Nat.zero_le _) ((by decide : (0 : Int32).toInt = ((0 : Nat) : Int))) (Or.inl ⟨fun _ _ _ _ q_ => absurd q_ (by omega), by decide⟩) S D hfr (by omega)
      · have c61 : r58.toInt = ((1 : Nat) : Int) := (i_eq (rfl : r58.toInt = r58.toInt) (by decide : (1 : Int32).toInt = ((1 : Nat) : Int))).mp c61
        have hm1_ : mStrictF 2 (sM st0) f a_ := by rcases qq59 with q_ | q_; exact q_.2; exfalso; rw [q_.1] at c61; exact absurd c61 (by decide)
        refine lv_bipush (v := (-2)) hx hb dX9_makes_40 (by decide) ?_
        refine r_iret (v := (-2)) hx hb hr hlocks w dX9_makes_42 ?_
        exact ⟨hfr, ⟨_, _, _, _, _, _, _, _, _, _, _, _, _, _, _, _, _, _, _, _, D, hSV0, S, (Or.inr ⟨rfl, hAll⟩), hum, hUs, hsv, hVs, hsz, hgx⟩, Or.inl ⟨f, a_, hf0, ha0, hf, haa, Or.inl ⟨hm1_, rfl⟩⟩⟩
    · have c54 := b53.eq c54
      refine lv_iconst (v := (-1)) hx hb dX9_makes_24 (by decide) ?_
      refine r_iret (v := (-1)) hx hb hr hlocks w dX9_makes_25 ?_
      exact ⟨hfr, ⟨_, _, _, _, _, _, _, _, _, _, _, _, _, _, _, _, _, _, _, _, D, hSV0, S, hkn, hum, hUs, hsv, hVs, hsz, hgx⟩, Or.inr ⟨by rintro ⟨f_, b_, e1_, e2_, e3_, e4_⟩; first | omega | (obtain rfl : f_ = f := (by omega); omega), rfl⟩⟩

