theorem mB3_le {u : Nat} (c : Nat) (S : Nat → Prop) (hc : c ≤ 3) : mBits S c < 8 := by
  have := mBits_lt S c
  have h2 : 2 ^ c ≤ 2 ^ 3 := Nat.pow_le_pow_right (by decide) hc
  omega
theorem wU_0 : wU 0 = 1 := rfl
theorem wU_1 : wU 1 = 2 := rfl
theorem wU_2 : wU 2 = 0 := rfl
theorem ePart_no {M : PRG} {w k : Nat} (h : k < 10) : ePart M w k = 0 := by unfold ePart; rw [if_neg (by omega)]
theorem ePart_3 {M : PRG} {k : Nat} (h : 10 ≤ k) : ePart M 3 k = pA M (k - 10) := by unfold ePart; rw [if_pos h, if_pos rfl]
theorem ePart_w {M : PRG} {w k : Nat} (h : 10 ≤ k) (hw : w < 3) : ePart M w k = pop (mBits (mStrictF (wU w) M (k - 10)) (pA M (k - 10))) := by unfold ePart; rw [if_pos h, if_neg (by omega)]
/-- whether two functions come to the same -/
def Same (M : PRG) (K f g2 : Nat) : Prop := pA M f = pA M g2 ∧ ∀ row, row < mRw 0 M f → mTab 0 M K f row = mTab 0 M K g2 row
def SameQ (M : PRG) (K f g2 i : Nat) : Prop := pA M f = pA M g2 ∧ ∀ q, q < i → mIs 0 (pA M f) (q / 25) (q / 5 % 5) (q % 5) → mTab 0 M K f (mIx 0 q) = mTab 0 M K g2 (mIx 0 q)
theorem same_fin {M : PRG} {K f g2 : Nat} (hP : PV M) (hf : f < pN M) : SameQ M K f g2 125 ↔ Same M K f g2 := by
  have h3 := (hP.2.2 f hf).1
  constructor
  · rintro ⟨a, h⟩
    refine ⟨a, fun row hr => ?_⟩
    obtain ⟨q, q1, q2, q3⟩ := mIx_ex (by omega) h3 hr
    have := h q q1 q2
    rw [q3] at this; exact this
  · rintro ⟨a, h⟩
    exact ⟨a, fun q _ q2 => h _ (mIx_in h3 q2)⟩
theorem same_eq {M : PRG} {gt : Nat → Int32} {K f g2 i : Nat} (hT : RT 0 M gt (mTab 0 M K)) (hf : f < pN M) (hg : g2 < pN M) (hi : i < 125) (h : SameQ M K f g2 i) : (gt (500 * 0 + 125 * f + i)).toInt = (gt (500 * 0 + 125 * g2 + i)).toInt ↔ SameQ M K f g2 (i + 1) := by
  by_cases hI : mIs 0 (pA M f) (i / 25) (i / 5 % 5) (i % 5)
  · rw [(hT f i hf hi).1 hI, (hT g2 i hg hi).1 (by rw [← h.1]; exact hI)]
    constructor
    · intro e
      refine ⟨h.1, fun q hq q2 => ?_⟩
      rcases Nat.lt_succ_iff_lt_or_eq.mp hq with z | z
      · exact h.2 q z q2
      · rw [z]; omega
    · intro e
      rw [e.2 i (by omega) hI]
  · rw [(hT f i hf hi).2 hI, (hT g2 i hg hi).2 (by rw [← h.1]; exact hI)]
    refine ⟨fun _ => ⟨h.1, fun q hq q2 => ?_⟩, fun _ => rfl⟩
    rcases Nat.lt_succ_iff_lt_or_eq.mp hq with z | z
    · exact h.2 q z q2
    · rw [z] at q2; exact absurd q2 hI
def AnSame (s : ST) (p q : Int32) (r : Int32) : Prop :=
  (∃ f g2 K, p.toInt = ((f : Nat) : Int) ∧ q.toInt = ((g2 : Nat) : Int) ∧ f < pN (sM s) ∧ g2 < pN (sM s) ∧ IsK 0 (sM s) K ∧ Bq r (Same (sM s) K f g2)) ∨
  (¬ (0 ≤ p.toInt ∧ p.toInt < ((pN (sM s) : Nat) : Int) ∧ 0 ≤ q.toInt ∧ q.toInt < ((pN (sM s) : Nat) : Int)) ∧ r.toInt = -1)
def Hit (M : PRG) (K f v q : Nat) : Prop := mIs 0 (pA M f) (q / 25) (q / 5 % 5) (q % 5) ∧ mTab 0 M K f (mIx 0 q) = v
def AnFirst (s : ST) (p v : Int32) (r : Int32) : Prop :=
  (∃ f k K, p.toInt = ((f : Nat) : Int) ∧ v.toInt = ((k : Nat) : Int) ∧ f < pN (sM s) ∧ k < 5 ∧ IsK 0 (sM s) K ∧ ((∃ q, q < 125 ∧ Hit (sM s) K f k q ∧ (∀ j, j < q → ¬ Hit (sM s) K f k j) ∧ r.toInt = ((100 * (q / 25) + 10 * (q / 5 % 5) + q % 5 : Nat) : Int)) ∨ ((∀ q, q < 125 → ¬ Hit (sM s) K f k q) ∧ r.toInt = -4))) ∨
  (¬ (0 ≤ p.toInt ∧ p.toInt < ((pN (sM s) : Nat) : Int) ∧ 0 ≤ v.toInt ∧ v.toInt ≤ 4) ∧ r.toInt = -1)
/-- a row of the frontier -/
def FrQ (T : Nat → Nat → Nat) (f b i : Nat) : Prop := T f b = 1 ∧ ∀ x, x < i → x &&& b = x → T f x = 0
def frt (T : Nat → Nat → Nat) (f b : Nat) : Bool := T f b == 1 && (List.range b).all fun x => !(x &&& b == x) || T f x == 0
theorem frt_iff {T : Nat → Nat → Nat} {f b : Nat} : frt T f b = true ↔ FrQ T f b b := by
  unfold frt FrQ
  simp only [Bool.and_eq_true, beq_iff_eq, List.all_eq_true, List.mem_range, Bool.or_eq_true, Bool.not_eq_true', beq_eq_false_iff_ne, ne_eq]
  constructor
  · rintro ⟨a, h⟩
    refine ⟨a, fun x hx hs => ?_⟩
    rcases h x hx with q | q
    · exact absurd hs q
    · exact q
  · rintro ⟨a, h⟩
    refine ⟨a, fun x hx => ?_⟩
    by_cases q : x &&& b = x
    · exact Or.inr (h x hx q)
    · exact Or.inl q
theorem FrQ.up {T : Nat → Nat → Nat} {f b i : Nat} (h : FrQ T f b i) (q : i &&& b = i → T f i = 0) : FrQ T f b (i + 1) := by
  refine ⟨h.1, fun x hx hs => ?_⟩
  rcases Nat.lt_succ_iff_lt_or_eq.mp hx with z | z
  · exact h.2 x z hs
  · rw [z] at hs ⊢; exact q hs
theorem sub_all : (List.range 8).all (fun x => (List.range 8).all fun b => ((nI x &&& (nI b ^^^ (-1))) == 0) == (x &&& b == x)) = true := by decide +kernel
theorem sub_iff {x y v w : Int32} {a b : Nat} (hx : x.toInt = ((a : Nat) : Int)) (hy : y.toInt = ((b : Nat) : Int)) (ha : a < 8) (hb : b < 8) (e1 : v = y ^^^ (-1)) (e2 : w = x &&& v) : w = 0 ↔ a &&& b = a := by
  have := all_range (all_range sub_all ha) hb
  simp only [beq_iff_eq] at this
  rw [e2, e1, i_ofN hx, i_ofN hy]
  constructor
  · intro h
    have h2 : (nI a &&& (nI b ^^^ (-1)) == 0) = true := by rw [h]; rfl
    rw [this] at h2; exact beq_iff_eq.mp h2
  · intro h
    have h2 : (a &&& b == a) = true := by rw [h]; exact beq_self_eq_true a
    rw [← this] at h2; exact beq_iff_eq.mp h2
def fF (T : Nat → Nat → Nat) (f b : Nat) : Nat := if frt T f b = true then 1 else 0
theorem fF_1 {T : Nat → Nat → Nat} {f b : Nat} (h : FrQ T f b b) : fF T f b = 1 := if_pos (frt_iff.mpr h)
theorem fF_0 {T : Nat → Nat → Nat} {f b : Nat} (h : ¬ FrQ T f b b) : fF T f b = 0 := if_neg (fun q => h (frt_iff.mp q))
theorem fF_le {T : Nat → Nat → Nat} {f b : Nat} : fF T f b ≤ 1 := by unfold fF; split <;> omega
def AnFrontier (s : ST) (p k : Int32) (r : Int32) : Prop :=
  (∃ f K, p.toInt = ((f : Nat) : Int) ∧ f < pN (sM s) ∧ IsK 1 (sM s) K ∧ ((k.toInt = -1 ∧ r.toInt = ((sm (fF (mTab 1 (sM s) K) f) (mRw 1 (sM s) f) : Nat) : Int)) ∨
    (0 ≤ k.toInt ∧ ((∃ b, b < mRw 1 (sM s) f ∧ fF (mTab 1 (sM s) K) f b = 1 ∧ ((sm (fF (mTab 1 (sM s) K) f) b : Nat) : Int) = k.toInt ∧ r.toInt = ((b : Nat) : Int)) ∨ ((∀ b, b < mRw 1 (sM s) f → fF (mTab 1 (sM s) K) f b = 1 → ((sm (fF (mTab 1 (sM s) K) f) b : Nat) : Int) ≠ k.toInt) ∧ r.toInt = -4))))) ∨
  (¬ (0 ≤ p.toInt ∧ p.toInt < ((pN (sM s) : Nat) : Int) ∧ -1 ≤ k.toInt) ∧ r.toInt = -1)
theorem inX9_strictSet_X9 : ∀ w ∈ wsX90, w ∈ wsX9_strictSet := by decide +kernel
abbrev rm_X9_strictSet : Room := { frames := 3, cells := 0, slots := 0, locals := 73 }
set_option maxHeartbeats 4000000 in
set_option maxRecDepth 100000 in
theorem c_X9_strictSet (l : Launch) {g : GE} {h : Nat → va_E} {r : Nat} {nm kn um sv sz ra rm : Int32} {ga gk gl gB gt gn gr gp gh gv gs gx gf : Nat → Int32} (D : MdA g h r nm kn um sv sz ra rm ga gk gl gB gt gn gr gp gh gv gs gx gf) {M : PRG} (S : RS M nm ga gk gl gB) (hP : PV M) {K0 K1 K2 : Nat} (hK0 : IsK 0 M K0) (hK1 : IsK 1 M K1) (hK2 : IsK 2 M K2) (hT0 : RT 0 M gt (mTab 0 M K0)) (hT1 : RT 1 M gt (mTab 1 M K1)) (hT2 : RT 2 M gt (mTab 2 M K2)) {f wk : Nat} (p0 p1 : Int32) (hp0 : p0.toInt = (f : Int)) (hp1 : p1.toInt = (wk : Int)) (hf : f < pN M) (hw : wk < 3) : MI l yX9_strictSet wsX9_strictSet rm_X9_strictSet [.ref (g.2.2.1 r), .int p0, .int p1] g h (fun r_ h2 => h2 = h ∧ r_.toInt = ((mBits (mStrictF (wU wk) M f) (pA M f) : Nat) : Int)) := by
  refine Met.ofW (cc := cX9_strictSet) (maxL := 6) (ret := (some .int)) (by decide) rfl ?_
  intro p e s m args below meth c s₁ B hml hv
  obtain ⟨rfl, w0⟩ := hv
  have hx := B.exec
  have hb := B.bytes
  have hr := B.returns
  have hts := atoms_spec (ws := wsX9_strictSet) B.pre
  have hown : s.vm.findClass RX9 = some m.cls := findClass_of_methodNamed B.named
  have hlocks := B.notSynchronized
  have w := w0.start
  clear w0
  have hl := lv_entry ([.ref (g.2.2.1 r), .int p0, .int p1]) (n := 6) (Nat.le_of_ble_eq_true rfl)
  rw [lg_entry_eq]
  generalize (lg_sl ([.ref (g.2.2.1 r), .int p0, .int p1]) ++ List.replicate (6 - (lg_sl ([.ref (g.2.2.1 r), .int p0, .int p1])).length) Slot.unset).toArray = ls at hl ⊢
  have hl : lv_has ls 6 [(0, .ref (g.2.2.1 r)), (1, .int p0), (2, .int p1)] := hl
  have hn4 := hP.2.1
  have h3_ := (hP.2.2 f hf).1
  have cuts : ∀ N : Nat, (∀ (i : Nat) (x3 : Int32) (x4 : Int32) (hc : Nat → va_E) (H : Heap) (locs : List Loc) (ls : Array Slot), WD g (inW g) s hc H locs → lv_has ls 6 [(0, .ref (g.2.2.1 r)), (1, .int p0), (2, .int p1), (3, .int x3), (4, .int x4)] → (i ≤ pA M f) → (x3.toInt = ((mBits (mStrictF (wU wk) M f) i : Nat) : Int)) → (x4.toInt = ((i : Nat) : Int)) → (MdA g hc r nm kn um sv sz ra rm ga gk gl gB gt gn gr gp gh gv gs gx gf) → (hc = h) → pA M f - i < N → W p l e (headSpec wsX9_strictSet rm_X9_strictSet).room s m ([.ref (g.2.2.1 r), .int p0, .int p1] : List Value).toArray below meth c H locs 0 0 (MQ below (va_Qi (fun r_ h2 => h2 = h ∧ r_.toInt = ((mBits (mStrictF (wU wk) M f) (pA M f) : Nat) : Int)) (Wd g) (inW g)) ([.ref (g.2.2.1 r), .int p0, .int p1] : List Value).toArray s 0 0 (inW g)) (F0 m 5 ls [])) := by
    intro N
    induction N with
    | zero => exact by intros; omega
    | succ N ih =>
      have ih5 := ih
      · intro i x3 x4 hc H locs ls w hl hi hx3 hx4 D hh hN_
        refine lv_iload hx hb dX9_strictSet_5 (lv_at hl 4 rfl) ?_
        refine lv_aload_n hx hb dX9_strictSet_7 rfl (lv_at hl 0 rfl) ?_
        refine r_get (C := RX9) (T := TX9) (N := 20) (ci := 7) hx hb hts inX9_strictSet_X9 hown w (by have := D.1; omega) D.c0 rfl 1 (by decide) (hts (Cond.fieldLink RX9 7 "EarlyValuesModel" "argsOf" "[I") (List.mem_of_getElem? (i := 1) (by decide +kernel))) rfl rfl dX9_strictSet_8 ?_
        refine lv_iload_n hx hb dX9_strictSet_11 rfl (lv_at hl 1 rfl) ?_
        refine r_iald (j := f) hx hb w (by have := D.1; omega) D.c1 hp0 (by omega) dX9_strictSet_12 ?_
        refine lv_icmp_ge (tgt := 68) hx hb dX9_strictSet_13 (by decide) (fun c1 => ?_) (fun c1 => ?_)
        · have c1 : (((pA M f) : Nat) : Int) ≤ ((i : Nat) : Int) := (i_le (S.2.1 f (by omega)) hx4).mp c1
          refine lv_iload_n hx hb dX9_strictSet_68 rfl (lv_at hl 3 rfl) ?_
          refine r_iret (v := x3) hx hb hr hlocks w dX9_strictSet_69 ?_
          exact ⟨hh, hx3.trans (by rw [show i = pA M f by omega])⟩
        · have c1 : ¬ ((((pA M f) : Nat) : Int) ≤ ((i : Nat) : Int)) := fun q => c1 ((i_le (S.2.1 f (by omega)) hx4).mpr q)
          refine lv_iload_n hx hb dX9_strictSet_16 rfl (lv_at hl 2 rfl) ?_
          refine lv_if_ne (tgt := 30) hx hb dX9_strictSet_17 (by decide) (fun c2 => ?_) (fun c2 => ?_)
          · have c2 : ¬ (((wk : Nat) : Int) = (0 : Int)) := fun q => c2 ((i_eq hp1 (rfl : (0 : Int32).toInt = 0)).mpr q)
            refine lv_iload_n hx hb dX9_strictSet_30 rfl (lv_at hl 2 rfl) ?_
            refine lv_iconst (v := 1) hx hb dX9_strictSet_31 (by decide) ?_
            refine lv_icmp_ne (tgt := 45) hx hb dX9_strictSet_32 (by decide) (fun c3 => ?_) (fun c3 => ?_)
            · have c3 : ¬ (((wk : Nat) : Int) = ((1 : Nat) : Int)) := fun q => c3 ((i_eq hp1 (by decide : (1 : Int32).toInt = ((1 : Nat) : Int))).mpr q)
              refine lv_aload_n hx hb dX9_strictSet_45 rfl (lv_at hl 0 rfl) ?_
              refine lv_iload_n hx hb dX9_strictSet_46 rfl (lv_at hl 1 rfl) ?_
              refine lv_iload hx hb dX9_strictSet_47 (lv_at hl 4 rfl) ?_
              refine r_callI w (va_runV (As := [.int p0, .int x4]) (rest := []) ⟨hx, hb, hml, hown, hts⟩ (c_X9_trulyStrict l D S hP hK0 hT0 p0 x4 hp0 hx4 (by omega) (by omega)) (cwV 2 hts gX9_strictSet_X9_trulyStrict rfl rfl rfl (by decide +kernel) ⟨Nat.le_of_ble_eq_true rfl, Nat.le_of_ble_eq_true rfl⟩) (r_preV w (by have := D.1; omega) D.c0 rfl) rfl rfl hl.1 rfl (lv_room (Nat.le_of_ble_eq_true rfl)) dX9_strictSet_49 ⟨Nat.zero_le _, Nat.zero_le _⟩) (fun r5 h4 H locs hp w => ?_)
              obtain ⟨eh_, qq6⟩ := hp
              have eh_ := eh_.symm
              subst eh_
              have b7 : r5.toInt = 1 ∨ r5.toInt = 0 := by rcases qq6 with q_ | q_; exact Or.inl (by rw [q_.1]; rfl); exact Or.inr (by rw [q_.1]; rfl)
              refine lv_istore (lv' := [(5, .int r5), (0, .ref (g.2.2.1 r)), (1, .int p0), (2, .int p1), (3, .int x3), (4, .int x4)]) hx hb dX9_strictSet_52 hl (by decide) rfl (fun ls hl => ?_)
              refine lv_iload_n hx hb dX9_strictSet_54 rfl (lv_at hl 4 rfl) ?_
              refine lv_iload hx hb dX9_strictSet_55 (lv_at hl 0 rfl) ?_
              refine lv_iload hx hb dX9_strictSet_57 (lv_at hl 5 rfl) ?_
              refine lv_ishl hx hb dX9_strictSet_59 ?_
              refine lv_topi (fun y8 ey8 => ?_)
              refine lv_ior hx hb dX9_strictSet_60 ?_
              refine lv_topi (fun y9 ey9 => ?_)
              have hw_ : wU wk = 0 := by rw [show wk = 2 by omega]; rfl
              have ty9 : y9.toInt = ((mBits (mStrictF (wU wk) M f) (i + 1) : Nat) : Int) := or_bq hx3 (by omega) hx4 (by rw [hw_]; exact qq6) ey8 ey9
              refine lv_istore_n (lv' := [(3, .int y9), (5, .int r5), (0, .ref (g.2.2.1 r)), (1, .int p0), (2, .int p1), (4, .int x4)]) hx hb dX9_strictSet_61 rfl hl (by decide) rfl (fun ls hl => ?_)
              obtain ⟨y10, ey10⟩ : ∃ y : Int32, y = x4 + (1) := ⟨_, rfl⟩
              have ty10 : y10.toInt = (((i + 1) : Nat) : Int) := i_addN ey10 hx4 (by decide : (1 : Int32).toInt = ((1 : Nat) : Int)) (by omega)
              refine lv_iinc (v := y10) (lv' := [(4, .int y10), (3, .int y9), (5, .int r5), (0, .ref (g.2.2.1 r)), (1, .int p0), (2, .int p1)]) hx hb dX9_strictSet_62 hl (k := 5) rfl (by rw [ey10]; rfl) (by decide) rfl (fun ls hl => ?_)
              refine lv_goto (tgt := 5) hx hb dX9_strictSet_65 (by decide) ?_
              exact ih5 (i + 1) y9 y10 hc _ _ _ w (lv_sub hl [3, 4, 5, 1, 0] rfl) (by omega) ty9 ty10 D hh (by omega)
            · have c3 : ((wk : Nat) : Int) = ((1 : Nat) : Int) := (i_eq hp1 (by decide : (1 : Int32).toInt = ((1 : Nat) : Int))).mp c3
              refine lv_aload_n hx hb dX9_strictSet_35 rfl (lv_at hl 0 rfl) ?_
              refine lv_iload_n hx hb dX9_strictSet_36 rfl (lv_at hl 1 rfl) ?_
              refine lv_iload hx hb dX9_strictSet_37 (lv_at hl 4 rfl) ?_
              refine r_callI w (va_runV (As := [.int p0, .int x4]) (rest := []) ⟨hx, hb, hml, hown, hts⟩ (c_X9_fineStrict l D S hP hK2 hT2 p0 x4 hp0 hx4 (by omega) (by omega)) (cwV 2 hts gX9_strictSet_X9_fineStrict rfl rfl rfl (by decide +kernel) ⟨Nat.le_of_ble_eq_true rfl, Nat.le_of_ble_eq_true rfl⟩) (r_preV w (by have := D.1; omega) D.c0 rfl) rfl rfl hl.1 rfl (lv_room (Nat.le_of_ble_eq_true rfl)) dX9_strictSet_39 ⟨Nat.zero_le _, Nat.zero_le _⟩) (fun r12 h11 H locs hp w => ?_)
              obtain ⟨eh_, qq13⟩ := hp
              have eh_ := eh_.symm
              subst eh_
              have b14 : r12.toInt = 1 ∨ r12.toInt = 0 := by rcases qq13 with q_ | q_; exact Or.inl (by rw [q_.1]; rfl); exact Or.inr (by rw [q_.1]; rfl)
              refine lv_goto (tgt := 52) hx hb dX9_strictSet_42 (by decide) ?_
              refine lv_istore (lv' := [(5, .int r12), (0, .ref (g.2.2.1 r)), (1, .int p0), (2, .int p1), (3, .int x3), (4, .int x4)]) hx hb dX9_strictSet_52 hl (by decide) rfl (fun ls hl => ?_)
              refine lv_iload_n hx hb dX9_strictSet_54 rfl (lv_at hl 4 rfl) ?_
              refine lv_iload hx hb dX9_strictSet_55 (lv_at hl 0 rfl) ?_
              refine lv_iload hx hb dX9_strictSet_57 (lv_at hl 5 rfl) ?_
              refine lv_ishl hx hb dX9_strictSet_59 ?_
              refine lv_topi (fun y15 ey15 => ?_)
              refine lv_ior hx hb dX9_strictSet_60 ?_
              refine lv_topi (fun y16 ey16 => ?_)
              have hw_ : wU wk = 2 := by rw [show wk = 1 by omega]; rfl
              have ty16 : y16.toInt = ((mBits (mStrictF (wU wk) M f) (i + 1) : Nat) : Int) := or_bq hx3 (by omega) hx4 (by rw [hw_]; exact qq13) ey15 ey16
              refine lv_istore_n (lv' := [(3, .int y16), (5, .int r12), (0, .ref (g.2.2.1 r)), (1, .int p0), (2, .int p1), (4, .int x4)]) hx hb dX9_strictSet_61 rfl hl (by decide) rfl (fun ls hl => ?_)
              obtain ⟨y17, ey17⟩ : ∃ y : Int32, y = x4 + (1) := ⟨_, rfl⟩
              have ty17 : y17.toInt = (((i + 1) : Nat) : Int) := i_addN ey17 hx4 (by decide : (1 : Int32).toInt = ((1 : Nat) : Int)) (by omega)
              refine lv_iinc (v := y17) (lv' := [(4, .int y17), (3, .int y16), (5, .int r12), (0, .ref (g.2.2.1 r)), (1, .int p0), (2, .int p1)]) hx hb dX9_strictSet_62 hl (k := 5) rfl (by rw [ey17]; rfl) (by decide) rfl (fun ls hl => ?_)
              refine lv_goto (tgt := 5) hx hb dX9_strictSet_65 (by decide) ?_
              exact ih5 (i + 1) y16 y17 hc _ _ _ w (lv_sub hl [3, 4, 5, 1, 0] rfl) (by omega) ty16 ty17 D hh (by omega)
          · have c2 : ((wk : Nat) : Int) = (0 : Int) := (i_eq hp1 (rfl : (0 : Int32).toInt = 0)).mp c2
            refine lv_aload_n hx hb dX9_strictSet_20 rfl (lv_at hl 0 rfl) ?_
            refine lv_iload_n hx hb dX9_strictSet_21 rfl (lv_at hl 1 rfl) ?_
            refine lv_iload hx hb dX9_strictSet_22 (lv_at hl 4 rfl) ?_
            refine r_callI w (va_runV (As := [.int p0, .int x4]) (rest := []) ⟨hx, hb, hml, hown, hts⟩ (c_X9_roughStrict l D S hP hK1 hT1 p0 x4 hp0 hx4 (by omega) (by omega)) (cwV 2 hts gX9_strictSet_X9_roughStrict rfl rfl rfl (by decide +kernel) ⟨Nat.le_of_ble_eq_true rfl, Nat.le_of_ble_eq_true rfl⟩) (r_preV w (by have := D.1; omega) D.c0 rfl) rfl rfl hl.1 rfl (lv_room (Nat.le_of_ble_eq_true rfl)) dX9_strictSet_24 ⟨Nat.zero_le _, Nat.zero_le _⟩) (fun r19 h18 H locs hp w => ?_)
            obtain ⟨eh_, qq20⟩ := hp
            have eh_ := eh_.symm
            subst eh_
            have b21 : r19.toInt = 1 ∨ r19.toInt = 0 := by rcases qq20 with q_ | q_; exact Or.inl (by rw [q_.1]; rfl); exact Or.inr (by rw [q_.1]; rfl)
            refine lv_goto (tgt := 52) hx hb dX9_strictSet_27 (by decide) ?_
            refine lv_istore (lv' := [(5, .int r19), (0, .ref (g.2.2.1 r)), (1, .int p0), (2, .int p1), (3, .int x3), (4, .int x4)]) hx hb dX9_strictSet_52 hl (by decide) rfl (fun ls hl => ?_)
            refine lv_iload_n hx hb dX9_strictSet_54 rfl (lv_at hl 4 rfl) ?_
            refine lv_iload hx hb dX9_strictSet_55 (lv_at hl 0 rfl) ?_
            refine lv_iload hx hb dX9_strictSet_57 (lv_at hl 5 rfl) ?_
            refine lv_ishl hx hb dX9_strictSet_59 ?_
            refine lv_topi (fun y22 ey22 => ?_)
            refine lv_ior hx hb dX9_strictSet_60 ?_
            refine lv_topi (fun y23 ey23 => ?_)
            have hw_ : wU wk = 1 := by rw [show wk = 0 by omega]; rfl
            have ty23 : y23.toInt = ((mBits (mStrictF (wU wk) M f) (i + 1) : Nat) : Int) := or_bq hx3 (by omega) hx4 (by rw [hw_]; exact qq20) ey22 ey23
            refine lv_istore_n (lv' := [(3, .int y23), (5, .int r19), (0, .ref (g.2.2.1 r)), (1, .int p0), (2, .int p1), (4, .int x4)]) hx hb dX9_strictSet_61 rfl hl (by decide) rfl (fun ls hl => ?_)
            obtain ⟨y24, ey24⟩ : ∃ y : Int32, y = x4 + (1) := ⟨_, rfl⟩
            have ty24 : y24.toInt = (((i + 1) : Nat) : Int) := i_addN ey24 hx4 (by decide : (1 : Int32).toInt = ((1 : Nat) : Int)) (by omega)
            refine lv_iinc (v := y24) (lv' := [(4, .int y24), (3, .int y23), (5, .int r19), (0, .ref (g.2.2.1 r)), (1, .int p0), (2, .int p1)]) hx hb dX9_strictSet_62 hl (k := 5) rfl (by rw [ey24]; rfl) (by decide) rfl (fun ls hl => ?_)
            refine lv_goto (tgt := 5) hx hb dX9_strictSet_65 (by decide) ?_
            exact ih5 (i + 1) y23 y24 hc _ _ _ w (lv_sub hl [3, 4, 5, 1, 0] rfl) (by omega) ty23 ty24 D hh (by omega)
  have ih5 := cuts (5)
  refine lv_iconst (v := 0) hx hb dX9_strictSet_0 (by decide) ?_
  refine lv_istore_n (lv' := [(3, .int 0), (0, .ref (g.2.2.1 r)), (1, .int p0), (2, .int p1)]) hx hb dX9_strictSet_1 rfl hl (by decide) rfl (fun ls hl => ?_)
  refine lv_iconst (v := 0) hx hb dX9_strictSet_2 (by decide) ?_
  refine lv_istore (lv' := [(4, .int 0), (3, .int 0), (0, .ref (g.2.2.1 r)), (1, .int p0), (2, .int p1)]) hx hb dX9_strictSet_3 hl (by decide) rfl (fun ls hl => ?_)
  exact ih5 0 0 0 h _ _ _ w (lv_sub hl [2, 3, 4, 1, 0] rfl) (Nat.zero_le _) rfl ((by decide : (0 : Int32).toInt = ((0 : Nat) : Int))) D rfl (by omega)

abbrev rm_X9_strict : Room := { frames := 7, cells := 0, slots := 0, locals := 179 }
set_option maxHeartbeats 4000000 in
set_option maxRecDepth 100000 in
theorem c_X9_strict (l : Launch) {g : GE} {h : Nat → va_E} {r : Nat} {st0 : ST} (R : RefA g h r st0) (p0 : Int32) (p1 : Int32) : MI l yX9_strict wsX9_strict rm_X9_strict [.ref (g.2.2.1 r), .int p0, .int p1] g h (fun r_ h2 => (∀ k, ¬ (r ≤ k ∧ k < r + 14) → h2 k = h k) ∧ RefA g h2 r st0 ∧ AnStrict st0 p0 p1 r_) := by
  refine Met.ofW (cc := cX9_strict) (maxL := 3) (ret := (some .int)) (by decide) rfl ?_
  intro p e s m args below meth c s₁ B hml hv
  obtain ⟨rfl, w0⟩ := hv
  have hx := B.exec
  have hb := B.bytes
  have hr := B.returns
  have hts := atoms_spec (ws := wsX9_strict) B.pre
  have hown : s.vm.findClass RX9 = some m.cls := findClass_of_methodNamed B.named
  have hlocks := B.notSynchronized
  have w := w0.start
  clear w0
  have hl := lv_entry ([.ref (g.2.2.1 r), .int p0, .int p1]) (n := 3) (Nat.le_of_ble_eq_true rfl)
  rw [lg_entry_eq]
  generalize (lg_sl ([.ref (g.2.2.1 r), .int p0, .int p1]) ++ List.replicate (3 - (lg_sl ([.ref (g.2.2.1 r), .int p0, .int p1])).length) Slot.unset).toArray = ls at hl ⊢
  have hl : lv_has ls 3 [(0, .ref (g.2.2.1 r)), (1, .int p0), (2, .int p1)] := hl
  obtain ⟨nm, kn, um, sv, sz, ra, rm, ga, gk, gl, gB, gt, gn, gr, gp, gh, gv, gs, gx, gf, D, hRS⟩ := R
  obtain ⟨hSV, S, hkn, hum, hUs, hsv, hVs, hsz, hgx⟩ := hRS
  have hSV0 := hSV
  obtain ⟨hP, hu8, hUP, hv2, hVP, hl200, hlt⟩ := hSV
  have hn4 := hP.2.1
  have hfr : ∀ k_, ¬ (r ≤ k_ ∧ k_ < r + 14) → h k_ = h k_ := fun _ _ => rfl
  refine lv_aload_n hx hb dX9_strict_0 rfl (lv_at hl 0 rfl) ?_
  refine lv_iload_n hx hb dX9_strict_1 rfl (lv_at hl 1 rfl) ?_
  refine r_callI w (va_runV (As := [.int p0]) (rest := []) ⟨hx, hb, hml, hown, hts⟩ (c_X9_isFunction l D S.1 p0) (cwV 1 hts gX9_strict_X9_isFunction rfl rfl rfl (by decide +kernel) ⟨Nat.le_of_ble_eq_true rfl, Nat.le_of_ble_eq_true rfl⟩) (r_preV w (by have := D.1; omega) D.c0 rfl) rfl rfl hl.1 rfl (lv_room (Nat.le_of_ble_eq_true rfl)) dX9_strict_2 ⟨Nat.zero_le _, Nat.zero_le _⟩) (fun r2 h1 H locs hp w => ?_)
  obtain ⟨eh_, qq3⟩ := hp
  have eh_ := eh_.symm
  subst eh_
  have b4 : Bq r2 (0 ≤ p0.toInt ∧ p0.toInt < ((pN (sM st0)) : Int)) := qq3.iff (by rw [((rfl : p0.toInt = p0.toInt) : p0.toInt = _)])
  refine lv_if_eq (tgt := 17) hx hb dX9_strict_5 (by decide) (fun c5 => ?_) (fun c5 => ?_)
  · have c5 := b4.eq c5
    refine lv_iconst (v := (-1)) hx hb dX9_strict_17 (by decide) ?_
    refine r_iret (v := (-1)) hx hb hr hlocks w dX9_strict_18 ?_
    exact ⟨hfr, ⟨_, _, _, _, _, _, _, _, _, _, _, _, _, _, _, _, _, _, _, _, D, hSV0, S, hkn, hum, hUs, hsv, hVs, hsz, hgx⟩, Or.inr ⟨by omega, rfl⟩⟩
  · have c5 := b4.ne c5
    obtain ⟨f, hf0⟩ : ∃ q_ : Nat, p0.toInt = (q_ : Int) := ⟨p0.toInt.toNat, by omega⟩
    have hf : f < pN (sM st0) := by omega
    obtain ⟨ha3, hk3, hl1, hl24, hpl, hd0⟩ := hP.2.2 f hf
    refine lv_iload_n hx hb dX9_strict_8 rfl (lv_at hl 2 rfl) ?_
    refine lv_iconst (v := 0) hx hb dX9_strict_9 (by decide) ?_
    refine lv_iconst (v := 2) hx hb dX9_strict_10 (by decide) ?_
    refine r_callI w (va_runS (As := [.int p1, .int 0, .int 2]) (rest := []) ⟨hx, hb, hml, hown, hts⟩ (c_X9_in l p1 0 2) (va_cwS 3 hts gX9_strict_X9_in rfl rfl rfl (by decide +kernel) ⟨Nat.le_of_ble_eq_true rfl, Nat.le_of_ble_eq_true rfl⟩) (r_preS w) rfl rfl hl.1 rfl (lv_room (Nat.le_of_ble_eq_true rfl)) dX9_strict_11 ⟨Nat.zero_le _, Nat.zero_le _⟩) (fun r7 h6 H locs hp w => ?_)
    obtain ⟨eh_, qq8⟩ := hp
    have eh_ := eh_.symm
    subst eh_
    have b9 : Bq r7 (((0 : Nat) : Int) ≤ p1.toInt ∧ p1.toInt ≤ ((2 : Nat) : Int)) := qq8.iff (by rw [((rfl : p1.toInt = p1.toInt) : (p1 : Int32).toInt = _), ((by decide : (0 : Int32).toInt = ((0 : Nat) : Int)) : (0 : Int32).toInt = _), ((by decide : (2 : Int32).toInt = ((2 : Nat) : Int)) : (2 : Int32).toInt = _)])
    refine lv_if_ne (tgt := 19) hx hb dX9_strict_14 (by decide) (fun c10 => ?_) (fun c10 => ?_)
    · have c10 := b9.ne c10
      obtain ⟨wk, hw0⟩ : ∃ q_ : Nat, p1.toInt = (q_ : Int) := ⟨p1.toInt.toNat, by omega⟩
      refine lv_aload_n hx hb dX9_strict_19 rfl (lv_at hl 0 rfl) ?_
      refine r_callV w (va_runV (As := []) (rest := []) ⟨hx, hb, hml, hown, hts⟩ (c_X9_setAll l D S hP hkn) (cwV 0 hts gX9_strict_X9_setAll rfl rfl rfl (by decide +kernel) ⟨Nat.le_of_ble_eq_true rfl, Nat.le_of_ble_eq_true rfl⟩) (r_preV w (by have := D.1; omega) D.c0 rfl) rfl rfl hl.1 rfl (lv_room (Nat.le_of_ble_eq_true rfl)) dX9_strict_20 ⟨Nat.zero_le _, Nat.zero_le _⟩) (fun h11 H locs hp w => ?_)
      obtain ⟨hfk12, gtk12, gnk12, gpk12, grk12, D, hAll⟩ := hp
      have hfr : ∀ k_, ¬ (r ≤ k_ ∧ k_ < r + 14) → h11 k_ = h k_ := fun k_ hk_ => (hfk12 k_ (by omega))
      obtain ⟨K0, hK0, hT0, hg0⟩ := hAll 0 (by omega)
      obtain ⟨K1, hK1, hT1, hg1⟩ := hAll 1 (by omega)
      obtain ⟨K2, hK2, hT2, hg2⟩ := hAll 2 (by omega)
      refine lv_aload_n hx hb dX9_strict_23 rfl (lv_at hl 0 rfl) ?_
      refine lv_iload_n hx hb dX9_strict_24 rfl (lv_at hl 1 rfl) ?_
      refine lv_iload_n hx hb dX9_strict_25 rfl (lv_at hl 2 rfl) ?_
      refine r_callI w (va_runV (As := [.int p0, .int p1]) (rest := []) ⟨hx, hb, hml, hown, hts⟩ (c_X9_strictSet l D S hP hK0 hK1 hK2 hT0 hT1 hT2 p0 p1 hf0 hw0 (by omega) (by omega)) (cwV 2 hts gX9_strict_X9_strictSet rfl rfl rfl (by decide +kernel) ⟨Nat.le_of_ble_eq_true rfl, Nat.le_of_ble_eq_true rfl⟩) (r_preV w (by have := D.1; omega) D.c0 rfl) rfl rfl hl.1 rfl (lv_room (Nat.le_of_ble_eq_true rfl)) dX9_strict_26 ⟨Nat.zero_le _, Nat.zero_le _⟩) (fun r14 h13 H locs hp w => ?_)
      obtain ⟨eh_, qq15⟩ := hp
      have eh_ := eh_.symm
      subst eh_
      refine r_iret (v := r14) hx hb hr hlocks w dX9_strict_29 ?_
      exact ⟨hfr, ⟨_, _, _, _, _, _, _, _, _, _, _, _, _, _, _, _, _, _, _, _, D, hSV0, S, (Or.inr ⟨rfl, hAll⟩), hum, hUs, hsv, hVs, hsz, hgx⟩, Or.inl ⟨f, wk, hf0, hw0, hf, by omega, qq15⟩⟩
    · have c10 := b9.eq c10
      refine lv_iconst (v := (-1)) hx hb dX9_strict_17 (by decide) ?_
      refine r_iret (v := (-1)) hx hb hr hlocks w dX9_strict_18 ?_
      exact ⟨hfr, ⟨_, _, _, _, _, _, _, _, _, _, _, _, _, _, _, _, _, _, _, _, D, hSV0, S, hkn, hum, hUs, hsv, hVs, hsz, hgx⟩, Or.inr ⟨by omega, rfl⟩⟩

abbrev rm_X9_bits : Room := { frames := 0, cells := 0, slots := 0, locals := 0 }
set_option maxHeartbeats 4000000 in
set_option maxRecDepth 100000 in
theorem c_X9_bits (l : Launch) {g : GE} {h : Nat → va_E} {b : Nat} (p0 : Int32) (hp0 : p0.toInt = (b : Int)) (h8_ : b < 8) : MI l yX9_bits wsX9_bits rm_X9_bits [.int p0] g h (fun r_ h2 => h2 = h ∧ r_.toInt = ((pop b : Nat) : Int)) := by
  refine Met.ofW (cc := cX9_bits) (maxL := 1) (ret := (some .int)) (by decide) rfl ?_
  intro p e s m args below meth c s₁ B hml hv
  obtain ⟨rfl, w0⟩ := hv
  have hx := B.exec
  have hb := B.bytes
  have hr := B.returns
  have hts := atoms_spec (ws := wsX9_bits) B.pre
  have hown : s.vm.findClass RX9 = some m.cls := findClass_of_methodNamed B.named
  have hlocks := B.notSynchronized
  have w := w0.start
  clear w0
  have hl := lv_entry ([.int p0]) (n := 1) (Nat.le_of_ble_eq_true rfl)
  rw [lg_entry_eq]
  generalize (lg_sl ([.int p0]) ++ List.replicate (1 - (lg_sl ([.int p0])).length) Slot.unset).toArray = ls at hl ⊢
  have hl : lv_has ls 1 [(0, .int p0)] := hl
  refine lv_iload_n hx hb dX9_bits_0 rfl (lv_at hl 0 rfl) ?_
  refine lv_iconst (v := 1) hx hb dX9_bits_1 (by decide) ?_
  refine lv_iand hx hb dX9_bits_2 ?_
  refine lv_topi (fun y1 ey1 => ?_)
  have ty1 : y1.toInt = ((b % 2 : Nat) : Int) := bit_0 hp0 h8_ ey1
  refine lv_iload_n hx hb dX9_bits_3 rfl (lv_at hl 0 rfl) ?_
  refine lv_iconst (v := 1) hx hb dX9_bits_4 (by decide) ?_
  refine lv_ishr hx hb dX9_bits_5 ?_
  refine lv_topi (fun y2 ey2 => ?_)
  refine lv_iconst (v := 1) hx hb dX9_bits_6 (by decide) ?_
  refine lv_iand hx hb dX9_bits_7 ?_
  refine lv_topi (fun y3 ey3 => ?_)
  have ty3 : y3.toInt = ((b / 2 % 2 : Nat) : Int) := bit_1 hp0 h8_ ey2 ey3
  refine lv_iadd hx hb dX9_bits_8 ?_
  refine lv_topi (fun y4 ey4 => ?_)
  have ty4 : y4.toInt = ((((b % 2) + (b / 2 % 2)) : Nat) : Int) := i_addN ey4 ty1 ty3 (by omega)
  refine lv_iload_n hx hb dX9_bits_9 rfl (lv_at hl 0 rfl) ?_
  refine lv_iconst (v := 2) hx hb dX9_bits_10 (by decide) ?_
  refine lv_ishr hx hb dX9_bits_11 ?_
  refine lv_topi (fun y5 ey5 => ?_)
  refine lv_iconst (v := 1) hx hb dX9_bits_12 (by decide) ?_
  refine lv_iand hx hb dX9_bits_13 ?_
  refine lv_topi (fun y6 ey6 => ?_)
  have ty6 : y6.toInt = ((b / 4 % 2 : Nat) : Int) := bit_2 hp0 h8_ ey5 ey6
  refine lv_iadd hx hb dX9_bits_14 ?_
  refine lv_topi (fun y7 ey7 => ?_)
  have ty7 : y7.toInt = (((((b % 2) + (b / 2 % 2)) + (b / 4 % 2)) : Nat) : Int) := i_addN ey7 ty4 ty6 (by omega)
  refine r_iret (v := y7) hx hb hr hlocks w dX9_bits_15 ?_
  exact ⟨rfl, ty7⟩

theorem inX9_early_X9 : ∀ w ∈ wsX90, w ∈ wsX9_early := by decide +kernel
abbrev rm_X9_early : Room := { frames := 7, cells := 0, slots := 0, locals := 179 }
set_option maxHeartbeats 4000000 in
set_option maxRecDepth 100000 in
theorem c_X9_early (l : Launch) {g : GE} {h : Nat → va_E} {r : Nat} {st0 : ST} (R : RefA g h r st0) (p0 : Int32) (p1 : Int32) : MI l yX9_early wsX9_early rm_X9_early [.ref (g.2.2.1 r), .int p0, .int p1] g h (fun r_ h2 => (∀ k, ¬ (r ≤ k ∧ k < r + 14) → h2 k = h k) ∧ RefA g h2 r st0 ∧ AnEarly st0 p0 p1 r_) := by
  refine Met.ofW (cc := cX9_early) (maxL := 6) (ret := (some .int)) (by decide) rfl ?_
  intro p e s m args below meth c s₁ B hml hv
  obtain ⟨rfl, w0⟩ := hv
  have hx := B.exec
  have hb := B.bytes
  have hr := B.returns
  have hts := atoms_spec (ws := wsX9_early) B.pre
  have hown : s.vm.findClass RX9 = some m.cls := findClass_of_methodNamed B.named
  have hlocks := B.notSynchronized
  have w := w0.start
  clear w0
  have hl := lv_entry ([.ref (g.2.2.1 r), .int p0, .int p1]) (n := 6) (Nat.le_of_ble_eq_true rfl)
  rw [lg_entry_eq]
  generalize (lg_sl ([.ref (g.2.2.1 r), .int p0, .int p1]) ++ List.replicate (6 - (lg_sl ([.ref (g.2.2.1 r), .int p0, .int p1])).length) Slot.unset).toArray = ls at hl ⊢
  have hl : lv_has ls 6 [(0, .ref (g.2.2.1 r)), (1, .int p0), (2, .int p1)] := hl
  obtain ⟨nm, kn, um, sv, sz, ra, rm, ga, gk, gl, gB, gt, gn, gr, gp, gh, gv, gs, gx, gf, D, hRS⟩ := R
  obtain ⟨hSV, S, hkn, hum, hUs, hsv, hVs, hsz, hgx⟩ := hRS
  have hSV0 := hSV
  obtain ⟨hP, hu8, hUP, hv2, hVP, hl200, hlt⟩ := hSV
  have hn4 := hP.2.1
  have hfr : ∀ k_, ¬ (r ≤ k_ ∧ k_ < r + 14) → h k_ = h k_ := fun _ _ => rfl
  have cuts : ∀ N : Nat, (∀ (f : Nat) (wk : Nat) (i : Nat) (x3 : Int32) (x4 : Int32) (gtA : Nat → Int32) (gnA : Nat → Int32) (gpA : Nat → Int32) (grA : Nat → Int32) (hc : Nat → va_E) (H : Heap) (locs : List Loc) (ls : Array Slot), WD g (inW g) s hc H locs → lv_has ls 6 [(0, .ref (g.2.2.1 r)), (1, .int p0), (2, .int p1), (3, .int x3), (4, .int x4)] → (p0.toInt = ((f : Nat) : Int)) → (f < pN (sM st0)) → (p1.toInt = ((wk : Nat) : Int)) → (wk ≤ 3) → (i ≤ pL (sM st0) f) → (x3.toInt = (((sm (fun j => ePart (sM st0) wk (pB (sM st0) f j)) i) : Nat) : Int)) → (x4.toInt = ((i : Nat) : Int)) → (RAll (sM st0) gtA grA) → (MdA g hc r nm 1 um sv sz ra rm ga gk gl gB gtA gnA grA gpA gh gv gs gx gf) → (∀ k, ¬ (r ≤ k ∧ k < r + 14) → hc k = h k) → 25 - i < N → W p l e (headSpec wsX9_early rm_X9_early).room s m ([.ref (g.2.2.1 r), .int p0, .int p1] : List Value).toArray below meth c H locs 0 0 (MQ below (va_Qi (fun r_ h2 => (∀ k, ¬ (r ≤ k ∧ k < r + 14) → h2 k = h k) ∧ RefA g h2 r st0 ∧ AnEarly st0 p0 p1 r_) (Wd g) (inW g)) ([.ref (g.2.2.1 r), .int p0, .int p1] : List Value).toArray s 0 0 (inW g)) (F0 m 28 ls [])) := by
    intro N
    induction N with
    | zero => exact by intros; omega
    | succ N ih =>
      have ih28 := ih
      · intro f wk i x3 x4 gtA gnA gpA grA hc H locs ls w hl hf0 hf hw0 hw4 hi hx3 hx4 hAll D hfr hN_
        obtain ⟨K0, hK0, hT0, hg0⟩ := hAll 0 (by omega)
        obtain ⟨K1, hK1, hT1, hg1⟩ := hAll 1 (by omega)
        obtain ⟨K2, hK2, hT2, hg2⟩ := hAll 2 (by omega)
        obtain ⟨ha3, hk3, hl1, hl24, hpl, hd0⟩ := hP.2.2 f hf
        refine lv_iload hx hb dX9_early_28 (lv_at hl 4 rfl) ?_
        refine lv_aload_n hx hb dX9_early_30 rfl (lv_at hl 0 rfl) ?_
        refine r_get (C := RX9) (T := TX9) (N := 20) (ci := 7) hx hb hts inX9_early_X9 hown w (by have := D.1; omega) D.c0 rfl 3 (by decide) (hts (Cond.fieldLink RX9 16 "EarlyValuesModel" "longOf" "[I") (List.mem_of_getElem? (i := 1) (by decide +kernel))) rfl rfl dX9_early_31 ?_
        refine lv_iload_n hx hb dX9_early_34 rfl (lv_at hl 1 rfl) ?_
        refine r_iald (j := f) hx hb w (by have := D.1; omega) D.c3 hf0 (by omega) dX9_early_35 ?_
        refine lv_icmp_ge (tgt := 99) hx hb dX9_early_36 (by decide) (fun c1 => ?_) (fun c1 => ?_)
        · have c1 : (((pL (sM st0) f) : Nat) : Int) ≤ ((i : Nat) : Int) := (i_le (S.2.2.2.1 f (by omega)) hx4).mp c1
          refine lv_iload_n hx hb dX9_early_99 rfl (lv_at hl 3 rfl) ?_
          refine r_iret (v := x3) hx hb hr hlocks w dX9_early_100 ?_
          exact ⟨hfr, ⟨_, _, _, _, _, _, _, _, _, _, _, _, _, _, _, _, _, _, _, _, D, hSV0, S, (Or.inr ⟨rfl, hAll⟩), hum, hUs, hsv, hVs, hsz, hgx⟩, Or.inl ⟨f, wk, hf0, hw0, hf, by omega, hx3.trans (by rw [show i = pL (sM st0) f by omega])⟩⟩
        · have c1 : ¬ ((((pL (sM st0) f) : Nat) : Int) ≤ ((i : Nat) : Int)) := fun q => c1 ((i_le (S.2.2.2.1 f (by omega)) hx4).mpr q)
          have hb_ := hpl i (by omega)
          have hcc_ := mCode_c hb_.1
          have hcl_ := fun q_ => hb_.2.1.call q_
          have hsm := sm_ub (f := fun j => ePart (sM st0) wk (pB (sM st0) f j)) (c := 3) i (fun j_ hj_ => ePart_le hP (by have h1_ := hpl j_ (by omega); by_cases q_ : 10 ≤ pB (sM st0) f j_; exact h1_.2.1.call q_; have := hP.1; omega))
          refine lv_aload_n hx hb dX9_early_39 rfl (lv_at hl 0 rfl) ?_
          refine r_get (C := RX9) (T := TX9) (N := 20) (ci := 7) hx hb hts inX9_early_X9 hown w (by have := D.1; omega) D.c0 rfl 4 (by decide) (hts (Cond.fieldLink RX9 19 "EarlyValuesModel" "body" "[I") (List.mem_of_getElem? (i := 2) (by decide +kernel))) rfl rfl dX9_early_40 ?_
          refine lv_bipush (v := 24) hx hb dX9_early_43 (by decide) ?_
          refine lv_iload_n hx hb dX9_early_45 rfl (lv_at hl 1 rfl) ?_
          refine lv_imul hx hb dX9_early_46 ?_
          refine lv_topi (fun y2 ey2 => ?_)
          have ty2 : y2.toInt = (((24 * f) : Nat) : Int) := i_mulN ey2 (by decide : (24 : Int32).toInt = ((24 : Nat) : Int)) hf0 (by omega)
          refine lv_iload hx hb dX9_early_47 (lv_at hl 4 rfl) ?_
          refine lv_iadd hx hb dX9_early_49 ?_
          refine lv_topi (fun y3 ey3 => ?_)
          have ty3 : y3.toInt = ((((24 * f) + i) : Nat) : Int) := i_addN ey3 ty2 hx4 (by omega)
          refine r_iald (j := ((24 * f) + i)) hx hb w (by have := D.1; omega) D.c4 ty3 (by omega) dX9_early_50 ?_
          refine lv_bipush (v := 48) hx hb dX9_early_51 (by decide) ?_
          refine lv_isub hx hb dX9_early_53 ?_
          refine lv_topi (fun y4 ey4 => ?_)
          have ty4 : y4.toInt = (((mCode (pB (sM st0) f i)) : Nat) : Int) - ((48 : Nat) : Int) := i_sub ey4 (S.2.2.2.2 f hf i (by omega)) (by decide : (48 : Int32).toInt = ((48 : Nat) : Int)) (by omega)
          refine lv_istore (lv' := [(5, .int y4), (0, .ref (g.2.2.1 r)), (1, .int p0), (2, .int p1), (3, .int x3), (4, .int x4)]) hx hb dX9_early_54 hl (by decide) rfl (fun ls hl => ?_)
          refine lv_aload_n hx hb dX9_early_56 rfl (lv_at hl 1 rfl) ?_
          refine lv_iload hx hb dX9_early_57 (lv_at hl 0 rfl) ?_
          refine r_callI w (va_runV (As := [.int y4]) (rest := []) ⟨hx, hb, hml, hown, hts⟩ (c_X9_isFunction l D S.1 y4) (cwV 1 hts gX9_early_X9_isFunction rfl rfl rfl (by decide +kernel) ⟨Nat.le_of_ble_eq_true rfl, Nat.le_of_ble_eq_true rfl⟩) (r_preV w (by have := D.1; omega) D.c0 rfl) rfl rfl hl.1 rfl (lv_room (Nat.le_of_ble_eq_true rfl)) dX9_early_59 ⟨Nat.zero_le _, Nat.zero_le _⟩) (fun r6 h5 H locs hp w => ?_)
          obtain ⟨eh_, qq7⟩ := hp
          have eh_ := eh_.symm
          subst eh_
          have b8 : Bq r6 (0 ≤ ((((mCode (pB (sM st0) f i)) : Nat) : Int) - ((48 : Nat) : Int)) ∧ ((((mCode (pB (sM st0) f i)) : Nat) : Int) - ((48 : Nat) : Int)) < ((pN (sM st0)) : Int)) := qq7.iff (by rw [(ty4 : y4.toInt = _)])
          refine lv_if_eq (tgt := 93) hx hb dX9_early_62 (by decide) (fun c9 => ?_) (fun c9 => ?_)
          · have c9 := b8.eq c9
            obtain ⟨y10, ey10⟩ : ∃ y : Int32, y = x4 + (1) := ⟨_, rfl⟩
            have ty10 : y10.toInt = (((i + 1) : Nat) : Int) := i_addN ey10 hx4 (by decide : (1 : Int32).toInt = ((1 : Nat) : Int)) (by omega)
            refine lv_iinc (v := y10) (lv' := [(4, .int y10), (5, .int y4), (0, .ref (g.2.2.1 r)), (1, .int p0), (2, .int p1), (3, .int x3)]) hx hb dX9_early_93 hl (k := 5) rfl (by rw [ey10]; rfl) (by decide) rfl (fun ls hl => ?_)
            refine lv_goto (tgt := 28) hx hb dX9_early_96 (by decide) ?_
            exact ih28 f wk (i + 1) x3 y10 gtA gnA gpA grA hc _ _ _ w (lv_sub hl [2, 3, 4, 5, 0] rfl) hf0 hf hw0 (by omega) (by omega) (hx3.trans (by rw [sm_succ, ePart_no (by omega)]; rfl)) ty10 hAll D hfr (by omega)
          · have c9 := b8.ne c9
            have hk10_ : 10 ≤ (pB (sM st0) f i) := by omega
            have h5_ : y4.toInt = (((pB (sM st0) f i) - 10 : Nat) : Int) := ty4.trans (by omega)
            have hck_ : (pB (sM st0) f i) - 10 < pN (sM st0) := by omega
            have hac3_ := (hP.2.2 _ hck_).1
            refine lv_iload_n hx hb dX9_early_65 rfl (lv_at hl 4 rfl) ?_
            refine lv_iload_n hx hb dX9_early_66 rfl (lv_at hl 3 rfl) ?_
            refine lv_iconst (v := 3) hx hb dX9_early_67 (by decide) ?_
            refine lv_icmp_ne (tgt := 81) hx hb dX9_early_68 (by decide) (fun c11 => ?_) (fun c11 => ?_)
            · have c11 : ¬ (((wk : Nat) : Int) = ((3 : Nat) : Int)) := fun q => c11 ((i_eq hw0 (by decide : (3 : Int32).toInt = ((3 : Nat) : Int))).mpr q)
              refine lv_aload_n hx hb dX9_early_81 rfl (lv_at hl 1 rfl) ?_
              refine lv_iload hx hb dX9_early_82 (lv_at hl 0 rfl) ?_
              refine lv_iload_n hx hb dX9_early_84 rfl (lv_at hl 3 rfl) ?_
              refine r_callI w (va_runV (As := [.int y4, .int p1]) (rest := [.int x3]) ⟨hx, hb, hml, hown, hts⟩ (c_X9_strictSet l D S hP hK0 hK1 hK2 hT0 hT1 hT2 y4 p1 h5_ hw0 (by omega) (by omega)) (cwV 2 hts gX9_early_X9_strictSet rfl rfl rfl (by decide +kernel) ⟨Nat.le_of_ble_eq_true rfl, Nat.le_of_ble_eq_true rfl⟩) (r_preV w (by have := D.1; omega) D.c0 rfl) rfl rfl hl.1 rfl (lv_room (Nat.le_of_ble_eq_true rfl)) dX9_early_85 ⟨Nat.zero_le _, Nat.zero_le _⟩) (fun r13 h12 H locs hp w => ?_)
              obtain ⟨eh_, qq14⟩ := hp
              have eh_ := eh_.symm
              subst eh_
              refine r_callI w (va_runS (As := [.int r13]) (rest := [.int x3]) ⟨hx, hb, hml, hown, hts⟩ (c_X9_bits l r13 qq14 (mB3_le (u := 0) _ _ hac3_)) (va_cwS 1 hts gX9_early_X9_bits rfl rfl rfl (by decide +kernel) ⟨Nat.le_of_ble_eq_true rfl, Nat.le_of_ble_eq_true rfl⟩) (r_preS w) rfl rfl hl.1 rfl (lv_room (Nat.le_of_ble_eq_true rfl)) dX9_early_88 ⟨Nat.zero_le _, Nat.zero_le _⟩) (fun r16 h15 H locs hp w => ?_)
              obtain ⟨eh_, qq17⟩ := hp
              have eh_ := eh_.symm
              subst eh_
              have hpo_ := pop_le (mBits (mStrictF (wU wk) (sM st0) (pB (sM st0) f i - 10)) (pA (sM st0) (pB (sM st0) f i - 10)))
              refine lv_iadd hx hb dX9_early_91 ?_
              refine lv_topi (fun y18 ey18 => ?_)
              have ty18 : y18.toInt = ((((sm (fun j => ePart (sM st0) wk (pB (sM st0) f j)) i) + (pop (mBits (mStrictF (wU wk) (sM st0) (((pB (sM st0) f i) - 10))) (pA (sM st0) (((pB (sM st0) f i) - 10)))))) : Nat) : Int) := i_addN ey18 hx3 qq17 (by omega)
              refine lv_istore_n (lv' := [(3, .int y18), (5, .int y4), (0, .ref (g.2.2.1 r)), (1, .int p0), (2, .int p1), (4, .int x4)]) hx hb dX9_early_92 rfl hl (by decide) rfl (fun ls hl => ?_)
              obtain ⟨y19, ey19⟩ : ∃ y : Int32, y = x4 + (1) := ⟨_, rfl⟩
              have ty19 : y19.toInt = (((i + 1) : Nat) : Int) := i_addN ey19 hx4 (by decide : (1 : Int32).toInt = ((1 : Nat) : Int)) (by omega)
              refine lv_iinc (v := y19) (lv' := [(4, .int y19), (3, .int y18), (5, .int y4), (0, .ref (g.2.2.1 r)), (1, .int p0), (2, .int p1)]) hx hb dX9_early_93 hl (k := 5) rfl (by rw [ey19]; rfl) (by decide) rfl (fun ls hl => ?_)
              refine lv_goto (tgt := 28) hx hb dX9_early_96 (by decide) ?_
              exact ih28 f wk (i + 1) y18 y19 gtA gnA gpA grA hc _ _ _ w (lv_sub hl [3, 4, 5, 1, 0] rfl) hf0 hf hw0 (by omega) (by omega) (ty18.trans (by rw [sm_succ, ePart_w hk10_ (by omega)])) ty19 hAll D hfr (by omega)
            · have c11 : ((wk : Nat) : Int) = ((3 : Nat) : Int) := (i_eq hw0 (by decide : (3 : Int32).toInt = ((3 : Nat) : Int))).mp c11
              refine lv_aload_n hx hb dX9_early_71 rfl (lv_at hl 1 rfl) ?_
              refine r_get (C := RX9) (T := TX9) (N := 20) (ci := 7) hx hb hts inX9_early_X9 hown w (by have := D.1; omega) D.c0 rfl 1 (by decide) (hts (Cond.fieldLink RX9 7 "EarlyValuesModel" "argsOf" "[I") (List.mem_of_getElem? (i := 3) (by decide +kernel))) rfl rfl dX9_early_72 ?_
              refine lv_iload hx hb dX9_early_75 (lv_at hl 0 rfl) ?_
              refine r_iald (j := ((pB (sM st0) f i) - 10)) hx hb w (by have := D.1; omega) D.c1 h5_ (by omega) dX9_early_77 ?_
              refine lv_goto (tgt := 91) hx hb dX9_early_78 (by decide) ?_
              have hpo_ := pop_le (mBits (mStrictF (wU wk) (sM st0) (pB (sM st0) f i - 10)) (pA (sM st0) (pB (sM st0) f i - 10)))
              refine lv_iadd hx hb dX9_early_91 ?_
              refine lv_topi (fun y20 ey20 => ?_)
              have ty20 : y20.toInt = ((((sm (fun j => ePart (sM st0) wk (pB (sM st0) f j)) i) + (pA (sM st0) (((pB (sM st0) f i) - 10)))) : Nat) : Int) := i_addN ey20 hx3 (S.2.1 (((pB (sM st0) f i) - 10)) (by omega)) (by omega)
              refine lv_istore_n (lv' := [(3, .int y20), (5, .int y4), (0, .ref (g.2.2.1 r)), (1, .int p0), (2, .int p1), (4, .int x4)]) hx hb dX9_early_92 rfl hl (by decide) rfl (fun ls hl => ?_)
              obtain ⟨y21, ey21⟩ : ∃ y : Int32, y = x4 + (1) := ⟨_, rfl⟩
              have ty21 : y21.toInt = (((i + 1) : Nat) : Int) := i_addN ey21 hx4 (by decide : (1 : Int32).toInt = ((1 : Nat) : Int)) (by omega)
              refine lv_iinc (v := y21) (lv' := [(4, .int y21), (3, .int y20), (5, .int y4), (0, .ref (g.2.2.1 r)), (1, .int p0), (2, .int p1)]) hx hb dX9_early_93 hl (k := 5) rfl (by rw [ey21]; rfl) (by decide) rfl (fun ls hl => ?_)
              refine lv_goto (tgt := 28) hx hb dX9_early_96 (by decide) ?_
              exact ih28 f wk (i + 1) y20 y21 gtA gnA gpA grA hc _ _ _ w (lv_sub hl [3, 4, 5, 1, 0] rfl) hf0 hf hw0 (by omega) (by omega) (ty20.trans (by rw [sm_succ, show wk = 3 by omega, ePart_3 hk10_])) ty21 hAll D hfr (by omega)
  have ih28 := cuts (30)
  refine lv_aload_n hx hb dX9_early_0 rfl (lv_at hl 0 rfl) ?_
  refine lv_iload_n hx hb dX9_early_1 rfl (lv_at hl 1 rfl) ?_
  refine r_callI w (va_runV (As := [.int p0]) (rest := []) ⟨hx, hb, hml, hown, hts⟩ (c_X9_isFunction l D S.1 p0) (cwV 1 hts gX9_early_X9_isFunction rfl rfl rfl (by decide +kernel) ⟨Nat.le_of_ble_eq_true rfl, Nat.le_of_ble_eq_true rfl⟩) (r_preV w (by have := D.1; omega) D.c0 rfl) rfl rfl hl.1 rfl (lv_room (Nat.le_of_ble_eq_true rfl)) dX9_early_2 ⟨Nat.zero_le _, Nat.zero_le _⟩) (fun r23 h22 H locs hp w => ?_)
  obtain ⟨eh_, qq24⟩ := hp
  have eh_ := eh_.symm
  subst eh_
  have b25 : Bq r23 (0 ≤ p0.toInt ∧ p0.toInt < ((pN (sM st0)) : Int)) := qq24.iff (by rw [((rfl : p0.toInt = p0.toInt) : p0.toInt = _)])
  refine lv_if_eq (tgt := 17) hx hb dX9_early_5 (by decide) (fun c26 => ?_) (fun c26 => ?_)
  · have c26 := b25.eq c26
    refine lv_iconst (v := (-1)) hx hb dX9_early_17 (by decide) ?_
    refine r_iret (v := (-1)) hx hb hr hlocks w dX9_early_18 ?_
    exact ⟨hfr, ⟨_, _, _, _, _, _, _, _, _, _, _, _, _, _, _, _, _, _, _, _, D, hSV0, S, hkn, hum, hUs, hsv, hVs, hsz, hgx⟩, Or.inr ⟨by omega, rfl⟩⟩
  · have c26 := b25.ne c26
    obtain ⟨f, hf0⟩ : ∃ q_ : Nat, p0.toInt = (q_ : Int) := ⟨p0.toInt.toNat, by omega⟩
    have hf : f < pN (sM st0) := by omega
    obtain ⟨ha3, hk3, hl1, hl24, hpl, hd0⟩ := hP.2.2 f hf
    refine lv_iload_n hx hb dX9_early_8 rfl (lv_at hl 2 rfl) ?_
    refine lv_iconst (v := 0) hx hb dX9_early_9 (by decide) ?_
    refine lv_iconst (v := 3) hx hb dX9_early_10 (by decide) ?_
    refine r_callI w (va_runS (As := [.int p1, .int 0, .int 3]) (rest := []) ⟨hx, hb, hml, hown, hts⟩ (c_X9_in l p1 0 3) (va_cwS 3 hts gX9_early_X9_in rfl rfl rfl (by decide +kernel) ⟨Nat.le_of_ble_eq_true rfl, Nat.le_of_ble_eq_true rfl⟩) (r_preS w) rfl rfl hl.1 rfl (lv_room (Nat.le_of_ble_eq_true rfl)) dX9_early_11 ⟨Nat.zero_le _, Nat.zero_le _⟩) (fun r28 h27 H locs hp w => ?_)
    obtain ⟨eh_, qq29⟩ := hp
    have eh_ := eh_.symm
    subst eh_
    have b30 : Bq r28 (((0 : Nat) : Int) ≤ p1.toInt ∧ p1.toInt ≤ ((3 : Nat) : Int)) := qq29.iff (by rw [((rfl : p1.toInt = p1.toInt) : (p1 : Int32).toInt = _), ((by decide : (0 : Int32).toInt = ((0 : Nat) : Int)) : (0 : Int32).toInt = _), ((by decide : (3 : Int32).toInt = ((3 : Nat) : Int)) : (3 : Int32).toInt = _)])
    refine lv_if_ne (tgt := 19) hx hb dX9_early_14 (by decide) (fun c31 => ?_) (fun c31 => ?_)
    · have c31 := b30.ne c31
      obtain ⟨wk, hw0⟩ : ∃ q_ : Nat, p1.toInt = (q_ : Int) := ⟨p1.toInt.toNat, by omega⟩
      refine lv_aload_n hx hb dX9_early_19 rfl (lv_at hl 0 rfl) ?_
      refine r_callV w (va_runV (As := []) (rest := []) ⟨hx, hb, hml, hown, hts⟩ (c_X9_setAll l D S hP hkn) (cwV 0 hts gX9_early_X9_setAll rfl rfl rfl (by decide +kernel) ⟨Nat.le_of_ble_eq_true rfl, Nat.le_of_ble_eq_true rfl⟩) (r_preV w (by have := D.1; omega) D.c0 rfl) rfl rfl hl.1 rfl (lv_room (Nat.le_of_ble_eq_true rfl)) dX9_early_20 ⟨Nat.zero_le _, Nat.zero_le _⟩) (fun h32 H locs hp w => ?_)
      obtain ⟨hfk33, gtk33, gnk33, gpk33, grk33, D, hAll⟩ := hp
      have hfr : ∀ k_, ¬ (r ≤ k_ ∧ k_ < r + 14) → h32 k_ = h k_ := fun k_ hk_ => (hfk33 k_ (by omega))
      obtain ⟨K0, hK0, hT0, hg0⟩ := hAll 0 (by omega)
      obtain ⟨K1, hK1, hT1, hg1⟩ := hAll 1 (by omega)
      obtain ⟨K2, hK2, hT2, hg2⟩ := hAll 2 (by omega)
      refine lv_iconst (v := 0) hx hb dX9_early_23 (by decide) ?_
      refine lv_istore_n (lv' := [(3, .int 0), (0, .ref (g.2.2.1 r)), (1, .int p0), (2, .int p1)]) hx hb dX9_early_24 rfl hl (by decide) rfl (fun ls hl => ?_)
      refine lv_iconst (v := 0) hx hb dX9_early_25 (by decide) ?_
      refine lv_istore (lv' := [(4, .int 0), (3, .int 0), (0, .ref (g.2.2.1 r)), (1, .int p0), (2, .int p1)]) hx hb dX9_early_26 hl (by decide) rfl (fun ls hl => ?_)
      exact ih28 f wk 0 0 0 gtk33 gnk33 gpk33 grk33 h32 _ _ _ w (lv_sub hl [2, 3, 4, 1, 0] rfl) hf0 hf hw0 (by omega) (Nat.zero_le _) rfl ((by decide : (0 : Int32).toInt = ((0 : Nat) : Int))) hAll D hfr (by omega)
    · have c31 := b30.eq c31
      refine lv_iconst (v := (-1)) hx hb dX9_early_17 (by decide) ?_
      refine r_iret (v := (-1)) hx hb hr hlocks w dX9_early_18 ?_
      exact ⟨hfr, ⟨_, _, _, _, _, _, _, _, _, _, _, _, _, _, _, _, _, _, _, _, D, hSV0, S, hkn, hum, hUs, hsv, hVs, hsz, hgx⟩, Or.inr ⟨by omega, rfl⟩⟩

theorem inX9_same_X9 : ∀ w ∈ wsX90, w ∈ wsX9_same := by decide +kernel
abbrev rm_X9_same : Room := { frames := 7, cells := 0, slots := 0, locals := 179 }
set_option maxHeartbeats 4000000 in
set_option maxRecDepth 100000 in
theorem c_X9_same (l : Launch) {g : GE} {h : Nat → va_E} {r : Nat} {st0 : ST} (R : RefA g h r st0) (p0 : Int32) (p1 : Int32) : MI l yX9_same wsX9_same rm_X9_same [.ref (g.2.2.1 r), .int p0, .int p1] g h (fun r_ h2 => (∀ k, ¬ (r ≤ k ∧ k < r + 14) → h2 k = h k) ∧ RefA g h2 r st0 ∧ AnSame st0 p0 p1 r_) := by
  refine Met.ofW (cc := cX9_same) (maxL := 5) (ret := (some .int)) (by decide) rfl ?_
  intro p e s m args below meth c s₁ B hml hv
  obtain ⟨rfl, w0⟩ := hv
  have hx := B.exec
  have hb := B.bytes
  have hr := B.returns
  have hts := atoms_spec (ws := wsX9_same) B.pre
  have hown : s.vm.findClass RX9 = some m.cls := findClass_of_methodNamed B.named
  have hlocks := B.notSynchronized
  have w := w0.start
  clear w0
  have hl := lv_entry ([.ref (g.2.2.1 r), .int p0, .int p1]) (n := 5) (Nat.le_of_ble_eq_true rfl)
  rw [lg_entry_eq]
  generalize (lg_sl ([.ref (g.2.2.1 r), .int p0, .int p1]) ++ List.replicate (5 - (lg_sl ([.ref (g.2.2.1 r), .int p0, .int p1])).length) Slot.unset).toArray = ls at hl ⊢
  have hl : lv_has ls 5 [(0, .ref (g.2.2.1 r)), (1, .int p0), (2, .int p1)] := hl
  obtain ⟨nm, kn, um, sv, sz, ra, rm, ga, gk, gl, gB, gt, gn, gr, gp, gh, gv, gs, gx, gf, D, hRS⟩ := R
  obtain ⟨hSV, S, hkn, hum, hUs, hsv, hVs, hsz, hgx⟩ := hRS
  have hSV0 := hSV
  obtain ⟨hP, hu8, hUP, hv2, hVP, hl200, hlt⟩ := hSV
  have hn4 := hP.2.1
  have hfr : ∀ k_, ¬ (r ≤ k_ ∧ k_ < r + 14) → h k_ = h k_ := fun _ _ => rfl
  have cuts : ∀ N : Nat, (∀ (f : Nat) (g9 : Nat) (i : Nat) (x3 : Int32) (x4 : Int32) (gtA : Nat → Int32) (gnA : Nat → Int32) (gpA : Nat → Int32) (grA : Nat → Int32) (hc : Nat → va_E) (H : Heap) (locs : List Loc) (ls : Array Slot), WD g (inW g) s hc H locs → lv_has ls 5 [(0, .ref (g.2.2.1 r)), (1, .int p0), (2, .int p1), (3, .int x3), (4, .int x4)] → (p0.toInt = ((f : Nat) : Int)) → (f < pN (sM st0)) → (p1.toInt = ((g9 : Nat) : Int)) → (g9 < pN (sM st0)) → (i ≤ 125) → (∀ K, IsK 0 (sM st0) K → Bq x3 (SameQ (sM st0) K f g9 i)) → (x4.toInt = ((i : Nat) : Int)) → (RAll (sM st0) gtA grA) → (MdA g hc r nm 1 um sv sz ra rm ga gk gl gB gtA gnA grA gpA gh gv gs gx gf) → (∀ k, ¬ (r ≤ k ∧ k < r + 14) → hc k = h k) → 130 - i < N → W p l e (headSpec wsX9_same rm_X9_same).room s m ([.ref (g.2.2.1 r), .int p0, .int p1] : List Value).toArray below meth c H locs 0 0 (MQ below (va_Qi (fun r_ h2 => (∀ k, ¬ (r ≤ k ∧ k < r + 14) → h2 k = h k) ∧ RefA g h2 r st0 ∧ AnSame st0 p0 p1 r_) (Wd g) (inW g)) ([.ref (g.2.2.1 r), .int p0, .int p1] : List Value).toArray s 0 0 (inW g)) (F0 m 46 ls [])) := by
    intro N
    induction N with
    | zero => exact by intros; omega
    | succ N ih =>
      have ih46 := ih
      · intro f g9 i x3 x4 gtA gnA gpA grA hc H locs ls w hl hf0 hf hgq hg9 hi hx3 hx4 hAll D hfr hN_
        obtain ⟨K0, hK0, hT0, hg0⟩ := hAll 0 (by omega)
        obtain ⟨K1, hK1, hT1, hg1⟩ := hAll 1 (by omega)
        obtain ⟨K2, hK2, hT2, hg2⟩ := hAll 2 (by omega)
        obtain ⟨ha3, hk3, hl1, hl24, hpl, hd0⟩ := hP.2.2 f hf
        refine lv_iload hx hb dX9_same_46 (lv_at hl 4 rfl) ?_
        refine lv_bipush (v := 125) hx hb dX9_same_48 (by decide) ?_
        refine lv_icmp_ge (tgt := 88) hx hb dX9_same_50 (by decide) (fun c1 => ?_) (fun c1 => ?_)
        · have c1 : ((125 : Nat) : Int) ≤ ((i : Nat) : Int) := (i_le (by decide : (125 : Int32).toInt = ((125 : Nat) : Int)) hx4).mp c1
          refine lv_iload_n hx hb dX9_same_88 rfl (lv_at hl 3 rfl) ?_
          refine lv_if_eq (tgt := 96) hx hb dX9_same_89 (by decide) (fun c2 => ?_) (fun c2 => ?_)
          · have c2 := (hx3 K0 hK0).eq c2
            refine lv_iconst (v := 0) hx hb dX9_same_96 (by decide) ?_
            refine r_iret (v := 0) hx hb hr hlocks w dX9_same_97 ?_
            have hi_ : i = 125 := by omega
            subst hi_
            rw [same_fin hP hf] at c2
            exact ⟨hfr, ⟨_, _, _, _, _, _, _, _, _, _, _, _, _, _, _, _, _, _, _, _, D, hSV0, S, (Or.inr ⟨rfl, hAll⟩), hum, hUs, hsv, hVs, hsz, hgx⟩, Or.inl ⟨f, g9, K0, hf0, hgq, hf, hg9, hK0, by first | exact Bq.t c2 | exact Bq.f c2⟩⟩
          · have c2 := (hx3 K0 hK0).ne c2
            refine lv_iconst (v := 1) hx hb dX9_same_92 (by decide) ?_
            refine lv_goto (tgt := 97) hx hb dX9_same_93 (by decide) ?_
            refine r_iret (v := 1) hx hb hr hlocks w dX9_same_97 ?_
            have hi_ : i = 125 := by omega
            subst hi_
            rw [same_fin hP hf] at c2
            exact ⟨hfr, ⟨_, _, _, _, _, _, _, _, _, _, _, _, _, _, _, _, _, _, _, _, D, hSV0, S, (Or.inr ⟨rfl, hAll⟩), hum, hUs, hsv, hVs, hsz, hgx⟩, Or.inl ⟨f, g9, K0, hf0, hgq, hf, hg9, hK0, by first | exact Bq.t c2 | exact Bq.f c2⟩⟩
        · have c1 : ¬ (((125 : Nat) : Int) ≤ ((i : Nat) : Int)) := fun q => c1 ((i_le (by decide : (125 : Int32).toInt = ((125 : Nat) : Int)) hx4).mpr q)
          refine lv_iload_n hx hb dX9_same_53 rfl (lv_at hl 3 rfl) ?_
          refine lv_if_eq (tgt := 80) hx hb dX9_same_54 (by decide) (fun c3 => ?_) (fun c3 => ?_)
          · have c3 := (hx3 K0 hK0).eq c3
            refine lv_iconst (v := 0) hx hb dX9_same_80 (by decide) ?_
            refine lv_istore_n (lv' := [(3, .int 0), (0, .ref (g.2.2.1 r)), (1, .int p0), (2, .int p1), (4, .int x4)]) hx hb dX9_same_81 rfl hl (by decide) rfl (fun ls hl => ?_)
            obtain ⟨y4, ey4⟩ : ∃ y : Int32, y = x4 + (1) := ⟨_, rfl⟩
            have ty4 : y4.toInt = (((i + 1) : Nat) : Int) := i_addN ey4 hx4 (by decide : (1 : Int32).toInt = ((1 : Nat) : Int)) (by omega)
            refine lv_iinc (v := y4) (lv' := [(4, .int y4), (3, .int 0), (0, .ref (g.2.2.1 r)), (1, .int p0), (2, .int p1)]) hx hb dX9_same_82 hl (k := 4) rfl (by rw [ey4]; rfl) (by decide) rfl (fun ls hl => ?_)
            refine lv_goto (tgt := 46) hx hb dX9_same_85 (by decide) ?_
            exact ih46 f g9 (i + 1) 0 y4 gtA gnA gpA grA hc _ _ _ w (lv_sub hl [2, 3, 4, 1, 0] rfl) hf0 hf hgq hg9 (by omega) (fun K_ hK_ => by obtain rfl := hK_.inj hK0; exact (Bq.f (fun q_ => c3 ⟨q_.1, fun j_ hj_ => q_.2 j_ (by omega)⟩))) ty4 hAll D hfr (by omega)
          · have c3 := (hx3 K0 hK0).ne c3
            refine lv_aload_n hx hb dX9_same_57 rfl (lv_at hl 0 rfl) ?_
            refine lv_iconst (v := 0) hx hb dX9_same_58 (by decide) ?_
            refine lv_iload_n hx hb dX9_same_59 rfl (lv_at hl 1 rfl) ?_
            refine lv_iload hx hb dX9_same_60 (lv_at hl 4 rfl) ?_
            refine r_callI w (va_runV (As := [.int 0, .int p0, .int x4]) (rest := []) ⟨hx, hb, hml, hown, hts⟩ (c_X9_tableAt l D (u := 0) (by omega) 0 p0 x4 (by decide : (0 : Int32).toInt = ((0 : Nat) : Int)) hf0 hx4 (by omega) (by omega)) (cwV 3 hts gX9_same_X9_tableAt rfl rfl rfl (by decide +kernel) ⟨Nat.le_of_ble_eq_true rfl, Nat.le_of_ble_eq_true rfl⟩) (r_preV w (by have := D.1; omega) D.c0 rfl) rfl rfl hl.1 rfl (lv_room (Nat.le_of_ble_eq_true rfl)) dX9_same_62 ⟨Nat.zero_le _, Nat.zero_le _⟩) (fun r6 h5 H locs hp w => ?_)
            obtain ⟨eh_, qq7⟩ := hp
            have eh_ := eh_.symm
            subst eh_
            subst qq7
            refine lv_aload_n hx hb dX9_same_65 rfl (lv_at hl 0 rfl) ?_
            refine lv_iconst (v := 0) hx hb dX9_same_66 (by decide) ?_
            refine lv_iload_n hx hb dX9_same_67 rfl (lv_at hl 2 rfl) ?_
            refine lv_iload hx hb dX9_same_68 (lv_at hl 4 rfl) ?_
            refine r_callI w (va_runV (As := [.int 0, .int p1, .int x4]) (rest := [.int (gtA (500 * 0 + 125 * f + i))]) ⟨hx, hb, hml, hown, hts⟩ (c_X9_tableAt l D (u := 0) (by omega) 0 p1 x4 (by decide : (0 : Int32).toInt = ((0 : Nat) : Int)) hgq hx4 (by omega) (by omega)) (cwV 3 hts gX9_same_X9_tableAt rfl rfl rfl (by decide +kernel) ⟨Nat.le_of_ble_eq_true rfl, Nat.le_of_ble_eq_true rfl⟩) (r_preV w (by have := D.1; omega) D.c0 rfl) rfl rfl hl.1 rfl (lv_room (Nat.le_of_ble_eq_true rfl)) dX9_same_70 ⟨Nat.zero_le _, Nat.zero_le _⟩) (fun r9 h8 H locs hp w => ?_)
            obtain ⟨eh_, qq10⟩ := hp
            have eh_ := eh_.symm
            subst eh_
            subst qq10
            refine lv_icmp_ne (tgt := 80) hx hb dX9_same_73 (by decide) (fun c11 => ?_) (fun c11 => ?_)
            · have c11 : ¬ ((gtA (500 * 0 + 125 * f + i)).toInt = (gtA (500 * 0 + 125 * g9 + i)).toInt) := fun q => c11 ((i_eq (rfl : (gtA (500 * 0 + 125 * f + i)).toInt = (gtA (500 * 0 + 125 * f + i)).toInt) (rfl : (gtA (500 * 0 + 125 * g9 + i)).toInt = (gtA (500 * 0 + 125 * g9 + i)).toInt)).mpr q)
              refine lv_iconst (v := 0) hx hb dX9_same_80 (by decide) ?_
              refine lv_istore_n (lv' := [(3, .int 0), (0, .ref (g.2.2.1 r)), (1, .int p0), (2, .int p1), (4, .int x4)]) hx hb dX9_same_81 rfl hl (by decide) rfl (fun ls hl => ?_)
              obtain ⟨y12, ey12⟩ : ∃ y : Int32, y = x4 + (1) := ⟨_, rfl⟩
              have ty12 : y12.toInt = (((i + 1) : Nat) : Int) := i_addN ey12 hx4 (by decide : (1 : Int32).toInt = ((1 : Nat) : Int)) (by omega)
              refine lv_iinc (v := y12) (lv' := [(4, .int y12), (3, .int 0), (0, .ref (g.2.2.1 r)), (1, .int p0), (2, .int p1)]) hx hb dX9_same_82 hl (k := 4) rfl (by rw [ey12]; rfl) (by decide) rfl (fun ls hl => ?_)
              refine lv_goto (tgt := 46) hx hb dX9_same_85 (by decide) ?_
              exact ih46 f g9 (i + 1) 0 y12 gtA gnA gpA grA hc _ _ _ w (lv_sub hl [2, 3, 4, 1, 0] rfl) hf0 hf hgq hg9 (by omega) (fun K_ hK_ => by obtain rfl := hK_.inj hK0; exact (Bq.f (fun q_ => c11 ((same_eq hT0 hf hg9 (by omega) c3).mpr q_)))) ty12 hAll D hfr (by omega)
            · have c11 : (gtA (500 * 0 + 125 * f + i)).toInt = (gtA (500 * 0 + 125 * g9 + i)).toInt := (i_eq (rfl : (gtA (500 * 0 + 125 * f + i)).toInt = (gtA (500 * 0 + 125 * f + i)).toInt) (rfl : (gtA (500 * 0 + 125 * g9 + i)).toInt = (gtA (500 * 0 + 125 * g9 + i)).toInt)).mp c11
              refine lv_iconst (v := 1) hx hb dX9_same_76 (by decide) ?_
              refine lv_goto (tgt := 81) hx hb dX9_same_77 (by decide) ?_
              refine lv_istore_n (lv' := [(3, .int 1), (0, .ref (g.2.2.1 r)), (1, .int p0), (2, .int p1), (4, .int x4)]) hx hb dX9_same_81 rfl hl (by decide) rfl (fun ls hl => ?_)
              obtain ⟨y13, ey13⟩ : ∃ y : Int32, y = x4 + (1) := ⟨_, rfl⟩
              have ty13 : y13.toInt = (((i + 1) : Nat) : Int) := i_addN ey13 hx4 (by decide : (1 : Int32).toInt = ((1 : Nat) : Int)) (by omega)
              refine lv_iinc (v := y13) (lv' := [(4, .int y13), (3, .int 1), (0, .ref (g.2.2.1 r)), (1, .int p0), (2, .int p1)]) hx hb dX9_same_82 hl (k := 4) rfl (by rw [ey13]; rfl) (by decide) rfl (fun ls hl => ?_)
              refine lv_goto (tgt := 46) hx hb dX9_same_85 (by decide) ?_
              exact ih46 f g9 (i + 1) 1 y13 gtA gnA gpA grA hc _ _ _ w (lv_sub hl [2, 3, 4, 1, 0] rfl) hf0 hf hgq hg9 (by omega) (fun K_ hK_ => by obtain rfl := hK_.inj hK0; exact (Bq.t ((same_eq hT0 hf hg9 (by omega) c3).mp c11))) ty13 hAll D hfr (by omega)
  have ih46 := cuts (200)
  refine lv_aload_n hx hb dX9_same_0 rfl (lv_at hl 0 rfl) ?_
  refine lv_iload_n hx hb dX9_same_1 rfl (lv_at hl 1 rfl) ?_
  refine r_callI w (va_runV (As := [.int p0]) (rest := []) ⟨hx, hb, hml, hown, hts⟩ (c_X9_isFunction l D S.1 p0) (cwV 1 hts gX9_same_X9_isFunction rfl rfl rfl (by decide +kernel) ⟨Nat.le_of_ble_eq_true rfl, Nat.le_of_ble_eq_true rfl⟩) (r_preV w (by have := D.1; omega) D.c0 rfl) rfl rfl hl.1 rfl (lv_room (Nat.le_of_ble_eq_true rfl)) dX9_same_2 ⟨Nat.zero_le _, Nat.zero_le _⟩) (fun r15 h14 H locs hp w => ?_)
  obtain ⟨eh_, qq16⟩ := hp
  have eh_ := eh_.symm
  subst eh_
  have b17 : Bq r15 (0 ≤ p0.toInt ∧ p0.toInt < ((pN (sM st0)) : Int)) := qq16.iff (by rw [((rfl : p0.toInt = p0.toInt) : p0.toInt = _)])
  refine lv_if_eq (tgt := 16) hx hb dX9_same_5 (by decide) (fun c18 => ?_) (fun c18 => ?_)
  · have c18 := b17.eq c18
    refine lv_iconst (v := (-1)) hx hb dX9_same_16 (by decide) ?_
    refine r_iret (v := (-1)) hx hb hr hlocks w dX9_same_17 ?_
    exact ⟨hfr, ⟨_, _, _, _, _, _, _, _, _, _, _, _, _, _, _, _, _, _, _, _, D, hSV0, S, hkn, hum, hUs, hsv, hVs, hsz, hgx⟩, Or.inr ⟨by omega, rfl⟩⟩
  · have c18 := b17.ne c18
    obtain ⟨f, hf0⟩ : ∃ q_ : Nat, p0.toInt = (q_ : Int) := ⟨p0.toInt.toNat, by omega⟩
    have hf : f < pN (sM st0) := by omega
    obtain ⟨ha3, hk3, hl1, hl24, hpl, hd0⟩ := hP.2.2 f hf
    refine lv_aload_n hx hb dX9_same_8 rfl (lv_at hl 0 rfl) ?_
    refine lv_iload_n hx hb dX9_same_9 rfl (lv_at hl 2 rfl) ?_
    refine r_callI w (va_runV (As := [.int p1]) (rest := []) ⟨hx, hb, hml, hown, hts⟩ (c_X9_isFunction l D S.1 p1) (cwV 1 hts gX9_same_X9_isFunction rfl rfl rfl (by decide +kernel) ⟨Nat.le_of_ble_eq_true rfl, Nat.le_of_ble_eq_true rfl⟩) (r_preV w (by have := D.1; omega) D.c0 rfl) rfl rfl hl.1 rfl (lv_room (Nat.le_of_ble_eq_true rfl)) dX9_same_10 ⟨Nat.zero_le _, Nat.zero_le _⟩) (fun r20 h19 H locs hp w => ?_)
    obtain ⟨eh_, qq21⟩ := hp
    have eh_ := eh_.symm
    subst eh_
    have b22 : Bq r20 (0 ≤ p1.toInt ∧ p1.toInt < ((pN (sM st0)) : Int)) := qq21.iff (by rw [((rfl : p1.toInt = p1.toInt) : p1.toInt = _)])
    refine lv_if_ne (tgt := 18) hx hb dX9_same_13 (by decide) (fun c23 => ?_) (fun c23 => ?_)
    · have c23 := b22.ne c23
      obtain ⟨g9, hgq⟩ : ∃ q_ : Nat, p1.toInt = (q_ : Int) := ⟨p1.toInt.toNat, by omega⟩
      have hg9 : g9 < pN (sM st0) := by omega
      refine lv_aload_n hx hb dX9_same_18 rfl (lv_at hl 0 rfl) ?_
      refine r_callV w (va_runV (As := []) (rest := []) ⟨hx, hb, hml, hown, hts⟩ (c_X9_setAll l D S hP hkn) (cwV 0 hts gX9_same_X9_setAll rfl rfl rfl (by decide +kernel) ⟨Nat.le_of_ble_eq_true rfl, Nat.le_of_ble_eq_true rfl⟩) (r_preV w (by have := D.1; omega) D.c0 rfl) rfl rfl hl.1 rfl (lv_room (Nat.le_of_ble_eq_true rfl)) dX9_same_19 ⟨Nat.zero_le _, Nat.zero_le _⟩) (fun h24 H locs hp w => ?_)
      obtain ⟨hfk25, gtk25, gnk25, gpk25, grk25, D, hAll⟩ := hp
      have hfr : ∀ k_, ¬ (r ≤ k_ ∧ k_ < r + 14) → h24 k_ = h k_ := fun k_ hk_ => (hfk25 k_ (by omega))
      obtain ⟨K0, hK0, hT0, hg0⟩ := hAll 0 (by omega)
      obtain ⟨K1, hK1, hT1, hg1⟩ := hAll 1 (by omega)
      obtain ⟨K2, hK2, hT2, hg2⟩ := hAll 2 (by omega)
      refine lv_aload_n hx hb dX9_same_22 rfl (lv_at hl 0 rfl) ?_
      refine r_get (C := RX9) (T := TX9) (N := 20) (ci := 7) hx hb hts inX9_same_X9 hown w (by have := D.1; omega) D.c0 rfl 1 (by decide) (hts (Cond.fieldLink RX9 7 "EarlyValuesModel" "argsOf" "[I") (List.mem_of_getElem? (i := 1) (by decide +kernel))) rfl rfl dX9_same_23 ?_
      refine lv_iload_n hx hb dX9_same_26 rfl (lv_at hl 1 rfl) ?_
      refine r_iald (j := f) hx hb w (by have := D.1; omega) D.c1 hf0 (by omega) dX9_same_27 ?_
      refine lv_aload_n hx hb dX9_same_28 rfl (lv_at hl 0 rfl) ?_
      refine r_get (C := RX9) (T := TX9) (N := 20) (ci := 7) hx hb hts inX9_same_X9 hown w (by have := D.1; omega) D.c0 rfl 1 (by decide) (hts (Cond.fieldLink RX9 7 "EarlyValuesModel" "argsOf" "[I") (List.mem_of_getElem? (i := 1) (by decide +kernel))) rfl rfl dX9_same_29 ?_
      refine lv_iload_n hx hb dX9_same_32 rfl (lv_at hl 2 rfl) ?_
      refine r_iald (j := g9) hx hb w (by have := D.1; omega) D.c1 hgq (by omega) dX9_same_33 ?_
      refine lv_icmp_ne (tgt := 41) hx hb dX9_same_34 (by decide) (fun c26 => ?_) (fun c26 => ?_)
      · have c26 : ¬ ((((pA (sM st0) f) : Nat) : Int) = (((pA (sM st0) g9) : Nat) : Int)) := fun q => c26 ((i_eq (S.2.1 f (by omega)) (S.2.1 g9 (by omega))).mpr q)
        refine lv_iconst (v := 0) hx hb dX9_same_41 (by decide) ?_
        refine lv_istore_n (lv' := [(3, .int 0), (0, .ref (g.2.2.1 r)), (1, .int p0), (2, .int p1)]) hx hb dX9_same_42 rfl hl (by decide) rfl (fun ls hl => ?_)
        refine lv_iconst (v := 0) hx hb dX9_same_43 (by decide) ?_
        refine lv_istore (lv' := [(4, .int 0), (3, .int 0), (0, .ref (g.2.2.1 r)), (1, .int p0), (2, .int p1)]) hx hb dX9_same_44 hl (by decide) rfl (fun ls hl => ?_)
        exact ih46 f g9 0 0 0 gtk25 gnk25 gpk25 grk25 h24 _ _ _ w (lv_sub hl [2, 3, 4, 1, 0] rfl) hf0 hf hgq hg9 (Nat.zero_le _) (fun K_ hK_ => by obtain rfl := hK_.inj hK0; exact (Bq.f (fun q_ => by have := q_.1; omega))) ((by decide : (0 : Int32).toInt = ((0 : Nat) : Int))) hAll D hfr (by omega)
      · have c26 : (((pA (sM st0) f) : Nat) : Int) = (((pA (sM st0) g9) : Nat) : Int) := (i_eq (S.2.1 f (by omega)) (S.2.1 g9 (by omega))).mp c26
        refine lv_iconst (v := 1) hx hb dX9_same_37 (by decide) ?_
        refine lv_goto (tgt := 42) hx hb dX9_same_38 (by decide) ?_
        refine lv_istore_n (lv' := [(3, .int 1), (0, .ref (g.2.2.1 r)), (1, .int p0), (2, .int p1)]) hx hb dX9_same_42 rfl hl (by decide) rfl (fun ls hl => ?_)
        refine lv_iconst (v := 0) hx hb dX9_same_43 (by decide) ?_
        refine lv_istore (lv' := [(4, .int 0), (3, .int 1), (0, .ref (g.2.2.1 r)), (1, .int p0), (2, .int p1)]) hx hb dX9_same_44 hl (by decide) rfl (fun ls hl => ?_)
        exact ih46 f g9 0 1 0 gtk25 gnk25 gpk25 grk25 h24 _ _ _ w (lv_sub hl [2, 3, 4, 1, 0] rfl) hf0 hf hgq hg9 (Nat.zero_le _) (fun K_ hK_ => by obtain rfl := hK_.inj hK0; exact (Bq.t ⟨by omega, fun j_ hj_ => absurd hj_ (Nat.not_lt_zero _)⟩)) ((by decide : (0 : Int32).toInt = ((0 : Nat) : Int))) hAll D hfr (by omega)
    · have c23 := b22.eq c23
      refine lv_iconst (v := (-1)) hx hb dX9_same_16 (by decide) ?_
      refine r_iret (v := (-1)) hx hb hr hlocks w dX9_same_17 ?_
      exact ⟨hfr, ⟨_, _, _, _, _, _, _, _, _, _, _, _, _, _, _, _, _, _, _, _, D, hSV0, S, hkn, hum, hUs, hsv, hVs, hsz, hgx⟩, Or.inr ⟨by omega, rfl⟩⟩

abbrev rm_X9_first : Room := { frames := 7, cells := 0, slots := 0, locals := 179 }
set_option maxHeartbeats 4000000 in
set_option maxRecDepth 100000 in
theorem c_X9_first (l : Launch) {g : GE} {h : Nat → va_E} {r : Nat} {st0 : ST} (R : RefA g h r st0) (p0 : Int32) (p1 : Int32) : MI l yX9_first wsX9_first rm_X9_first [.ref (g.2.2.1 r), .int p0, .int p1] g h (fun r_ h2 => (∀ k, ¬ (r ≤ k ∧ k < r + 14) → h2 k = h k) ∧ RefA g h2 r st0 ∧ AnFirst st0 p0 p1 r_) := by
  refine Met.ofW (cc := cX9_first) (maxL := 4) (ret := (some .int)) (by decide) rfl ?_
  intro p e s m args below meth c s₁ B hml hv
  obtain ⟨rfl, w0⟩ := hv
  have hx := B.exec
  have hb := B.bytes
  have hr := B.returns
  have hts := atoms_spec (ws := wsX9_first) B.pre
  have hown : s.vm.findClass RX9 = some m.cls := findClass_of_methodNamed B.named
  have hlocks := B.notSynchronized
  have w := w0.start
  clear w0
  have hl := lv_entry ([.ref (g.2.2.1 r), .int p0, .int p1]) (n := 4) (Nat.le_of_ble_eq_true rfl)
  rw [lg_entry_eq]
  generalize (lg_sl ([.ref (g.2.2.1 r), .int p0, .int p1]) ++ List.replicate (4 - (lg_sl ([.ref (g.2.2.1 r), .int p0, .int p1])).length) Slot.unset).toArray = ls at hl ⊢
  have hl : lv_has ls 4 [(0, .ref (g.2.2.1 r)), (1, .int p0), (2, .int p1)] := hl
  obtain ⟨nm, kn, um, sv, sz, ra, rm, ga, gk, gl, gB, gt, gn, gr, gp, gh, gv, gs, gx, gf, D, hRS⟩ := R
  obtain ⟨hSV, S, hkn, hum, hUs, hsv, hVs, hsz, hgx⟩ := hRS
  have hSV0 := hSV
  obtain ⟨hP, hu8, hUP, hv2, hVP, hl200, hlt⟩ := hSV
  have hn4 := hP.2.1
  have hfr : ∀ k_, ¬ (r ≤ k_ ∧ k_ < r + 14) → h k_ = h k_ := fun _ _ => rfl
  have cuts : ∀ N : Nat, (∀ (f : Nat) (wk : Nat) (i : Nat) (x3 : Int32) (gtA : Nat → Int32) (gnA : Nat → Int32) (gpA : Nat → Int32) (grA : Nat → Int32) (hc : Nat → va_E) (H : Heap) (locs : List Loc) (ls : Array Slot), WD g (inW g) s hc H locs → lv_has ls 4 [(0, .ref (g.2.2.1 r)), (1, .int p0), (2, .int p1), (3, .int x3)] → (p0.toInt = ((f : Nat) : Int)) → (f < pN (sM st0)) → (p1.toInt = ((wk : Nat) : Int)) → (wk ≤ 4) → (i ≤ 125) → (∀ K, IsK 0 (sM st0) K → ∀ j, j < i → ¬ Hit (sM st0) K f wk j) → (x3.toInt = ((i : Nat) : Int)) → (RAll (sM st0) gtA grA) → (MdA g hc r nm 1 um sv sz ra rm ga gk gl gB gtA gnA grA gpA gh gv gs gx gf) → (∀ k, ¬ (r ≤ k ∧ k < r + 14) → hc k = h k) → 130 - i < N → W p l e (headSpec wsX9_first rm_X9_first).room s m ([.ref (g.2.2.1 r), .int p0, .int p1] : List Value).toArray below meth c H locs 0 0 (MQ below (va_Qi (fun r_ h2 => (∀ k, ¬ (r ≤ k ∧ k < r + 14) → h2 k = h k) ∧ RefA g h2 r st0 ∧ AnFirst st0 p0 p1 r_) (Wd g) (inW g)) ([.ref (g.2.2.1 r), .int p0, .int p1] : List Value).toArray s 0 0 (inW g)) (F0 m 25 ls [])) := by
    intro N
    induction N with
    | zero => exact by intros; omega
    | succ N ih =>
      have ih25 := ih
      · intro f wk i x3 gtA gnA gpA grA hc H locs ls w hl hf0 hf hw0 hw5 hi hno hx3 hAll D hfr hN_
        obtain ⟨K0, hK0, hT0, hg0⟩ := hAll 0 (by omega)
        obtain ⟨K1, hK1, hT1, hg1⟩ := hAll 1 (by omega)
        obtain ⟨K2, hK2, hT2, hg2⟩ := hAll 2 (by omega)
        obtain ⟨ha3, hk3, hl1, hl24, hpl, hd0⟩ := hP.2.2 f hf
        refine lv_iload_n hx hb dX9_first_25 rfl (lv_at hl 3 rfl) ?_
        refine lv_bipush (v := 125) hx hb dX9_first_26 (by decide) ?_
        refine lv_icmp_ge (tgt := 90) hx hb dX9_first_28 (by decide) (fun c1 => ?_) (fun c1 => ?_)
        · have c1 : ((125 : Nat) : Int) ≤ ((i : Nat) : Int) := (i_le (by decide : (125 : Int32).toInt = ((125 : Nat) : Int)) hx3).mp c1
          refine lv_bipush (v := (-4)) hx hb dX9_first_90 (by decide) ?_
          refine r_iret (v := (-4)) hx hb hr hlocks w dX9_first_92 ?_
          exact ⟨hfr, ⟨_, _, _, _, _, _, _, _, _, _, _, _, _, _, _, _, _, _, _, _, D, hSV0, S, (Or.inr ⟨rfl, hAll⟩), hum, hUs, hsv, hVs, hsz, hgx⟩, Or.inl ⟨f, wk, K0, hf0, hw0, hf, by omega, hK0, Or.inr ⟨fun j_ hj_ => hno K0 hK0 j_ (by omega), rfl⟩⟩⟩
        · have c1 : ¬ (((125 : Nat) : Int) ≤ ((i : Nat) : Int)) := fun q => c1 ((i_le (by decide : (125 : Int32).toInt = ((125 : Nat) : Int)) hx3).mpr q)
          refine lv_aload_n hx hb dX9_first_31 rfl (lv_at hl 0 rfl) ?_
          refine lv_iload_n hx hb dX9_first_32 rfl (lv_at hl 1 rfl) ?_
          refine lv_iload_n hx hb dX9_first_33 rfl (lv_at hl 3 rfl) ?_
          refine lv_bipush (v := 25) hx hb dX9_first_34 (by decide) ?_
          refine lv_idiv hx hb dX9_first_36 (fun q => absurd ((i_eq (by decide : (25 : Int32).toInt = ((25 : Nat) : Int)) (by decide : (0 : Int32).toInt = (0 : Int))).mp q) (by omega)) ?_
          refine lv_topi (fun y2 ey2 => ?_)
          have ty2 : y2.toInt = (((i / 25) : Nat) : Int) := i_divN ey2 hx3 (by decide : (25 : Int32).toInt = ((25 : Nat) : Int)) (by omega)
          refine lv_iload_n hx hb dX9_first_37 rfl (lv_at hl 3 rfl) ?_
          refine lv_iconst (v := 5) hx hb dX9_first_38 (by decide) ?_
          refine lv_idiv hx hb dX9_first_39 (fun q => absurd ((i_eq (by decide : (5 : Int32).toInt = ((5 : Nat) : Int)) (by decide : (0 : Int32).toInt = (0 : Int))).mp q) (by omega)) ?_
          refine lv_topi (fun y3 ey3 => ?_)
          have ty3 : y3.toInt = (((i / 5) : Nat) : Int) := i_divN ey3 hx3 (by decide : (5 : Int32).toInt = ((5 : Nat) : Int)) (by omega)
          refine lv_iconst (v := 5) hx hb dX9_first_40 (by decide) ?_
          refine lv_irem hx hb dX9_first_41 (fun q => absurd ((i_eq (by decide : (5 : Int32).toInt = ((5 : Nat) : Int)) (by decide : (0 : Int32).toInt = (0 : Int))).mp q) (by omega)) ?_
          refine lv_topi (fun y4 ey4 => ?_)
          have ty4 : y4.toInt = ((((i / 5) % 5) : Nat) : Int) := i_remN ey4 ty3 (by decide : (5 : Int32).toInt = ((5 : Nat) : Int)) (by omega)
          refine lv_iload_n hx hb dX9_first_42 rfl (lv_at hl 3 rfl) ?_
          refine lv_iconst (v := 5) hx hb dX9_first_43 (by decide) ?_
          refine lv_irem hx hb dX9_first_44 (fun q => absurd ((i_eq (by decide : (5 : Int32).toInt = ((5 : Nat) : Int)) (by decide : (0 : Int32).toInt = (0 : Int))).mp q) (by omega)) ?_
          refine lv_topi (fun y5 ey5 => ?_)
          have ty5 : y5.toInt = (((i % 5) : Nat) : Int) := i_remN ey5 hx3 (by decide : (5 : Int32).toInt = ((5 : Nat) : Int)) (by omega)
          refine lv_iconst (v := 5) hx hb dX9_first_45 (by decide) ?_
          refine r_callI w (va_runV (As := [.int p0, .int y2, .int y4, .int y5, .int 5]) (rest := []) ⟨hx, hb, hml, hown, hts⟩ (c_X9_isRow l D S hP (u := 0) (by omega) p0 y2 y4 y5 5 hf0 (by omega) (by decide : (5 : Int32).toInt = ((5 : Nat) : Int))) (cwV 5 hts gX9_first_X9_isRow rfl rfl rfl (by decide +kernel) ⟨Nat.le_of_ble_eq_true rfl, Nat.le_of_ble_eq_true rfl⟩) (r_preV w (by have := D.1; omega) D.c0 rfl) rfl rfl hl.1 rfl (lv_room (Nat.le_of_ble_eq_true rfl)) dX9_first_46 ⟨Nat.zero_le _, Nat.zero_le _⟩) (fun r7 h6 H locs hp w => ?_)
          obtain ⟨eh_, qq8⟩ := hp
          have eh_ := eh_.symm
          subst eh_
          have b9 : Bq r7 (mIs 0 (pA (sM st0) f) (i / 25) (i / 5 % 5) (i % 5)) := qq8.iff (by rw [(ty2 : (y2 : Int32).toInt = _), (ty4 : (y4 : Int32).toInt = _), (ty5 : (y5 : Int32).toInt = _)]; simp only [Int.toNat_natCast]; exact ⟨fun q_ => q_.2.2.2, fun q_ => ⟨by omega, by omega, by omega, q_⟩⟩)
          refine lv_if_eq (tgt := 84) hx hb dX9_first_49 (by decide) (fun c10 => ?_) (fun c10 => ?_)
          · have c10 := b9.eq c10
            obtain ⟨y11, ey11⟩ : ∃ y : Int32, y = x3 + (1) := ⟨_, rfl⟩
            have ty11 : y11.toInt = (((i + 1) : Nat) : Int) := i_addN ey11 hx3 (by decide : (1 : Int32).toInt = ((1 : Nat) : Int)) (by omega)
            refine lv_iinc (v := y11) (lv' := [(3, .int y11), (0, .ref (g.2.2.1 r)), (1, .int p0), (2, .int p1)]) hx hb dX9_first_84 hl (k := 3) rfl (by rw [ey11]; rfl) (by decide) rfl (fun ls hl => ?_)
            refine lv_goto (tgt := 25) hx hb dX9_first_87 (by decide) ?_
            exact ih25 f wk (i + 1) y11 gtA gnA gpA grA hc _ _ _ w (lv_sub hl [1, 2, 3, 0] rfl) hf0 hf hw0 (by omega) (by omega) (fun K_ hK_ j_ hj_ => by obtain rfl := hK_.inj hK0; exact (by rcases Nat.lt_succ_iff_lt_or_eq.mp hj_ with z_ | z_; exact hno K_ hK_ j_ z_; rw [z_]; exact (fun q_ => c10 q_.1))) ty11 hAll D hfr (by omega)
          · have c10 := b9.ne c10
            refine lv_aload_n hx hb dX9_first_52 rfl (lv_at hl 0 rfl) ?_
            refine lv_iconst (v := 0) hx hb dX9_first_53 (by decide) ?_
            refine lv_iload_n hx hb dX9_first_54 rfl (lv_at hl 1 rfl) ?_
            refine lv_iload_n hx hb dX9_first_55 rfl (lv_at hl 3 rfl) ?_
            refine r_callI w (va_runV (As := [.int 0, .int p0, .int x3]) (rest := []) ⟨hx, hb, hml, hown, hts⟩ (c_X9_tableAt l D (u := 0) (by omega) 0 p0 x3 (by decide : (0 : Int32).toInt = ((0 : Nat) : Int)) hf0 hx3 (by omega) (by omega)) (cwV 3 hts gX9_first_X9_tableAt rfl rfl rfl (by decide +kernel) ⟨Nat.le_of_ble_eq_true rfl, Nat.le_of_ble_eq_true rfl⟩) (r_preV w (by have := D.1; omega) D.c0 rfl) rfl rfl hl.1 rfl (lv_room (Nat.le_of_ble_eq_true rfl)) dX9_first_56 ⟨Nat.zero_le _, Nat.zero_le _⟩) (fun r13 h12 H locs hp w => ?_)
            obtain ⟨eh_, qq14⟩ := hp
            have eh_ := eh_.symm
            subst eh_
            subst qq14
            refine lv_iload_n hx hb dX9_first_59 rfl (lv_at hl 2 rfl) ?_
            refine lv_icmp_ne (tgt := 84) hx hb dX9_first_60 (by decide) (fun c15 => ?_) (fun c15 => ?_)
            · have c15 : ¬ ((((mTab 0 (sM st0) K0 f (mIx 0 i)) : Nat) : Int) = ((wk : Nat) : Int)) := fun q => c15 ((i_eq ((hT0 f i hf (by omega)).1 c10) hw0).mpr q)
              obtain ⟨y16, ey16⟩ : ∃ y : Int32, y = x3 + (1) := ⟨_, rfl⟩
              have ty16 : y16.toInt = (((i + 1) : Nat) : Int) := i_addN ey16 hx3 (by decide : (1 : Int32).toInt = ((1 : Nat) : Int)) (by omega)
              refine lv_iinc (v := y16) (lv' := [(3, .int y16), (0, .ref (g.2.2.1 r)), (1, .int p0), (2, .int p1)]) hx hb dX9_first_84 hl (k := 3) rfl (by rw [ey16]; rfl) (by decide) rfl (fun ls hl => ?_)
              refine lv_goto (tgt := 25) hx hb dX9_first_87 (by decide) ?_
              exact ih25 f wk (i + 1) y16 gtA gnA gpA grA hc _ _ _ w (lv_sub hl [1, 2, 3, 0] rfl) hf0 hf hw0 (by omega) (by omega) (fun K_ hK_ j_ hj_ => by obtain rfl := hK_.inj hK0; exact (by rcases Nat.lt_succ_iff_lt_or_eq.mp hj_ with z_ | z_; exact hno K_ hK_ j_ z_; rw [z_]; exact (fun q_ => by have := q_.2; omega))) ty16 hAll D hfr (by omega)
            · have c15 : (((mTab 0 (sM st0) K0 f (mIx 0 i)) : Nat) : Int) = ((wk : Nat) : Int) := (i_eq ((hT0 f i hf (by omega)).1 c10) hw0).mp c15
              refine lv_bipush (v := 100) hx hb dX9_first_63 (by decide) ?_
              refine lv_iload_n hx hb dX9_first_65 rfl (lv_at hl 3 rfl) ?_
              refine lv_bipush (v := 25) hx hb dX9_first_66 (by decide) ?_
              refine lv_idiv hx hb dX9_first_68 (fun q => absurd ((i_eq (by decide : (25 : Int32).toInt = ((25 : Nat) : Int)) (by decide : (0 : Int32).toInt = (0 : Int))).mp q) (by omega)) ?_
              refine lv_topi (fun y17 ey17 => ?_)
              have ty17 : y17.toInt = (((i / 25) : Nat) : Int) := i_divN ey17 hx3 (by decide : (25 : Int32).toInt = ((25 : Nat) : Int)) (by omega)
              refine lv_imul hx hb dX9_first_69 ?_
              refine lv_topi (fun y18 ey18 => ?_)
              have ty18 : y18.toInt = (((100 * (i / 25)) : Nat) : Int) := i_mulN ey18 (by decide : (100 : Int32).toInt = ((100 : Nat) : Int)) ty17 (by omega)
              refine lv_bipush (v := 10) hx hb dX9_first_70 (by decide) ?_
              refine lv_iload_n hx hb dX9_first_72 rfl (lv_at hl 3 rfl) ?_
              refine lv_iconst (v := 5) hx hb dX9_first_73 (by decide) ?_
              refine lv_idiv hx hb dX9_first_74 (fun q => absurd ((i_eq (by decide : (5 : Int32).toInt = ((5 : Nat) : Int)) (by decide : (0 : Int32).toInt = (0 : Int))).mp q) (by omega)) ?_
              refine lv_topi (fun y19 ey19 => ?_)
              have ty19 : y19.toInt = (((i / 5) : Nat) : Int) := i_divN ey19 hx3 (by decide : (5 : Int32).toInt = ((5 : Nat) : Int)) (by omega)
              refine lv_iconst (v := 5) hx hb dX9_first_75 (by decide) ?_
              refine lv_irem hx hb dX9_first_76 (fun q => absurd ((i_eq (by decide : (5 : Int32).toInt = ((5 : Nat) : Int)) (by decide : (0 : Int32).toInt = (0 : Int))).mp q) (by omega)) ?_
              refine lv_topi (fun y20 ey20 => ?_)
              have ty20 : y20.toInt = ((((i / 5) % 5) : Nat) : Int) := i_remN ey20 ty19 (by decide : (5 : Int32).toInt = ((5 : Nat) : Int)) (by omega)
              refine lv_imul hx hb dX9_first_77 ?_
              refine lv_topi (fun y21 ey21 => ?_)
              have ty21 : y21.toInt = (((10 * ((i / 5) % 5)) : Nat) : Int) := i_mulN ey21 (by decide : (10 : Int32).toInt = ((10 : Nat) : Int)) ty20 (by omega)
              refine lv_iadd hx hb dX9_first_78 ?_
              refine lv_topi (fun y22 ey22 => ?_)
              have ty22 : y22.toInt = ((((100 * (i / 25)) + (10 * ((i / 5) % 5))) : Nat) : Int) := i_addN ey22 ty18 ty21 (by omega)
              refine lv_iload_n hx hb dX9_first_79 rfl (lv_at hl 3 rfl) ?_
              refine lv_iconst (v := 5) hx hb dX9_first_80 (by decide) ?_
              refine lv_irem hx hb dX9_first_81 (fun q => absurd ((i_eq (by decide : (5 : Int32).toInt = ((5 : Nat) : Int)) (by decide : (0 : Int32).toInt = (0 : Int))).mp q) (by omega)) ?_
              refine lv_topi (fun y23 ey23 => ?_)
              have ty23 : y23.toInt = (((i % 5) : Nat) : Int) := i_remN ey23 hx3 (by decide : (5 : Int32).toInt = ((5 : Nat) : Int)) (by omega)
              refine lv_iadd hx hb dX9_first_82 ?_
              refine lv_topi (fun y24 ey24 => ?_)
              have ty24 : y24.toInt = (((((100 * (i / 25)) + (10 * ((i / 5) % 5))) + (i % 5)) : Nat) : Int) := i_addN ey24 ty22 ty23 (by omega)
              refine r_iret (v := y24) hx hb hr hlocks w dX9_first_83 ?_
              exact ⟨hfr, ⟨_, _, _, _, _, _, _, _, _, _, _, _, _, _, _, _, _, _, _, _, D, hSV0, S, (Or.inr ⟨rfl, hAll⟩), hum, hUs, hsv, hVs, hsz, hgx⟩, Or.inl ⟨f, wk, K0, hf0, hw0, hf, by omega, hK0, Or.inl ⟨i, by omega, ⟨c10, by omega⟩, hno K0 hK0, ty24⟩⟩⟩
  have ih25 := cuts (200)
  refine lv_aload_n hx hb dX9_first_0 rfl (lv_at hl 0 rfl) ?_
  refine lv_iload_n hx hb dX9_first_1 rfl (lv_at hl 1 rfl) ?_
  refine r_callI w (va_runV (As := [.int p0]) (rest := []) ⟨hx, hb, hml, hown, hts⟩ (c_X9_isFunction l D S.1 p0) (cwV 1 hts gX9_first_X9_isFunction rfl rfl rfl (by decide +kernel) ⟨Nat.le_of_ble_eq_true rfl, Nat.le_of_ble_eq_true rfl⟩) (r_preV w (by have := D.1; omega) D.c0 rfl) rfl rfl hl.1 rfl (lv_room (Nat.le_of_ble_eq_true rfl)) dX9_first_2 ⟨Nat.zero_le _, Nat.zero_le _⟩) (fun r26 h25 H locs hp w => ?_)
  obtain ⟨eh_, qq27⟩ := hp
  have eh_ := eh_.symm
  subst eh_
  have b28 : Bq r26 (0 ≤ p0.toInt ∧ p0.toInt < ((pN (sM st0)) : Int)) := qq27.iff (by rw [((rfl : p0.toInt = p0.toInt) : p0.toInt = _)])
  refine lv_if_eq (tgt := 17) hx hb dX9_first_5 (by decide) (fun c29 => ?_) (fun c29 => ?_)
  · have c29 := b28.eq c29
    refine lv_iconst (v := (-1)) hx hb dX9_first_17 (by decide) ?_
    refine r_iret (v := (-1)) hx hb hr hlocks w dX9_first_18 ?_
    exact ⟨hfr, ⟨_, _, _, _, _, _, _, _, _, _, _, _, _, _, _, _, _, _, _, _, D, hSV0, S, hkn, hum, hUs, hsv, hVs, hsz, hgx⟩, Or.inr ⟨by omega, rfl⟩⟩
  · have c29 := b28.ne c29
    obtain ⟨f, hf0⟩ : ∃ q_ : Nat, p0.toInt = (q_ : Int) := ⟨p0.toInt.toNat, by omega⟩
    have hf : f < pN (sM st0) := by omega
    obtain ⟨ha3, hk3, hl1, hl24, hpl, hd0⟩ := hP.2.2 f hf
    refine lv_iload_n hx hb dX9_first_8 rfl (lv_at hl 2 rfl) ?_
    refine lv_iconst (v := 0) hx hb dX9_first_9 (by decide) ?_
    refine lv_iconst (v := 4) hx hb dX9_first_10 (by decide) ?_
    refine r_callI w (va_runS (As := [.int p1, .int 0, .int 4]) (rest := []) ⟨hx, hb, hml, hown, hts⟩ (c_X9_in l p1 0 4) (va_cwS 3 hts gX9_first_X9_in rfl rfl rfl (by decide +kernel) ⟨Nat.le_of_ble_eq_true rfl, Nat.le_of_ble_eq_true rfl⟩) (r_preS w) rfl rfl hl.1 rfl (lv_room (Nat.le_of_ble_eq_true rfl)) dX9_first_11 ⟨Nat.zero_le _, Nat.zero_le _⟩) (fun r31 h30 H locs hp w => ?_)
    obtain ⟨eh_, qq32⟩ := hp
    have eh_ := eh_.symm
    subst eh_
    have b33 : Bq r31 (((0 : Nat) : Int) ≤ p1.toInt ∧ p1.toInt ≤ ((4 : Nat) : Int)) := qq32.iff (by rw [((rfl : p1.toInt = p1.toInt) : (p1 : Int32).toInt = _), ((by decide : (0 : Int32).toInt = ((0 : Nat) : Int)) : (0 : Int32).toInt = _), ((by decide : (4 : Int32).toInt = ((4 : Nat) : Int)) : (4 : Int32).toInt = _)])
    refine lv_if_ne (tgt := 19) hx hb dX9_first_14 (by decide) (fun c34 => ?_) (fun c34 => ?_)
    · have c34 := b33.ne c34
      obtain ⟨wk, hw0⟩ : ∃ q_ : Nat, p1.toInt = (q_ : Int) := ⟨p1.toInt.toNat, by omega⟩
      refine lv_aload_n hx hb dX9_first_19 rfl (lv_at hl 0 rfl) ?_
      refine r_callV w (va_runV (As := []) (rest := []) ⟨hx, hb, hml, hown, hts⟩ (c_X9_setAll l D S hP hkn) (cwV 0 hts gX9_first_X9_setAll rfl rfl rfl (by decide +kernel) ⟨Nat.le_of_ble_eq_true rfl, Nat.le_of_ble_eq_true rfl⟩) (r_preV w (by have := D.1; omega) D.c0 rfl) rfl rfl hl.1 rfl (lv_room (Nat.le_of_ble_eq_true rfl)) dX9_first_20 ⟨Nat.zero_le _, Nat.zero_le _⟩) (fun h35 H locs hp w => ?_)
      obtain ⟨hfk36, gtk36, gnk36, gpk36, grk36, D, hAll⟩ := hp
      have hfr : ∀ k_, ¬ (r ≤ k_ ∧ k_ < r + 14) → h35 k_ = h k_ := fun k_ hk_ => (hfk36 k_ (by omega))
      obtain ⟨K0, hK0, hT0, hg0⟩ := hAll 0 (by omega)
      obtain ⟨K1, hK1, hT1, hg1⟩ := hAll 1 (by omega)
      obtain ⟨K2, hK2, hT2, hg2⟩ := hAll 2 (by omega)
      refine lv_iconst (v := 0) hx hb dX9_first_23 (by decide) ?_
      refine lv_istore_n (lv' := [(3, .int 0), (0, .ref (g.2.2.1 r)), (1, .int p0), (2, .int p1)]) hx hb dX9_first_24 rfl hl (by decide) rfl (fun ls hl => ?_)
      exact ih25 f wk 0 0 gtk36 gnk36 gpk36 grk36 h35 _ _ _ w (lv_sub hl [1, 2, 3, 0] rfl) hf0 hf hw0 (by omega) (Nat.zero_le _) (fun K_ hK_ j_ hj_ => by obtain rfl := hK_.inj hK0; exact (by exact absurd hj_ (Nat.not_lt_zero _))) ((by decide : (0 : Int32).toInt = ((0 : Nat) : Int))) hAll D hfr (by omega)
    · have c34 := b33.eq c34
      refine lv_iconst (v := (-1)) hx hb dX9_first_17 (by decide) ?_
      refine r_iret (v := (-1)) hx hb hr hlocks w dX9_first_18 ?_
      exact ⟨hfr, ⟨_, _, _, _, _, _, _, _, _, _, _, _, _, _, _, _, _, _, _, _, D, hSV0, S, hkn, hum, hUs, hsv, hVs, hsz, hgx⟩, Or.inr ⟨by omega, rfl⟩⟩

abbrev rm_X9_isFrontier : Room := { frames := 2, cells := 0, slots := 0, locals := 45 }
set_option maxHeartbeats 4000000 in
set_option maxRecDepth 100000 in
theorem c_X9_isFrontier (l : Launch) {g : GE} {h : Nat → va_E} {r : Nat} {nm kn um sv sz ra rm : Int32} {ga gk gl gB gt gn gr gp gh gv gs gx gf : Nat → Int32} (D : MdA g h r nm kn um sv sz ra rm ga gk gl gB gt gn gr gp gh gv gs gx gf) {M : PRG} (hP : PV M) {T : Nat → Nat → Nat} (hT : RT 1 M gt T) {f b : Nat} (p0 p1 : Int32) (hp0 : p0.toInt = (f : Int)) (hp1 : p1.toInt = (b : Int)) (hf : f < pN M) (hb8 : b < mRw 1 M f) : MI l yX9_isFrontier wsX9_isFrontier rm_X9_isFrontier [.ref (g.2.2.1 r), .int p0, .int p1] g h (fun r_ h2 => h2 = h ∧ Bq r_ (FrQ T f b b)) := by
  refine Met.ofW (cc := cX9_isFrontier) (maxL := 5) (ret := (some .boolean)) (by decide) rfl ?_
  intro p e s m args below meth c s₁ B hml hv
  obtain ⟨rfl, w0⟩ := hv
  have hx := B.exec
  have hb := B.bytes
  have hr := B.returns
  have hts := atoms_spec (ws := wsX9_isFrontier) B.pre
  have hown : s.vm.findClass RX9 = some m.cls := findClass_of_methodNamed B.named
  have hlocks := B.notSynchronized
  have w := w0.start
  clear w0
  have hl := lv_entry ([.ref (g.2.2.1 r), .int p0, .int p1]) (n := 5) (Nat.le_of_ble_eq_true rfl)
  rw [lg_entry_eq]
  generalize (lg_sl ([.ref (g.2.2.1 r), .int p0, .int p1]) ++ List.replicate (5 - (lg_sl ([.ref (g.2.2.1 r), .int p0, .int p1])).length) Slot.unset).toArray = ls at hl ⊢
  have hl : lv_has ls 5 [(0, .ref (g.2.2.1 r)), (1, .int p0), (2, .int p1)] := hl
  have hn4 := hP.2.1
  have h3_ := (hP.2.2 f hf).1
  have h2c_ := pow2_c h3_
  have hbb_ : b < mB 1 ^ pA M f := hb8
  have h8_ : b < 8 := by omega
  have cuts : ∀ N : Nat, (∀ (i : Nat) (x3 : Int32) (x4 : Int32) (hc : Nat → va_E) (H : Heap) (locs : List Loc) (ls : Array Slot), WD g (inW g) s hc H locs → lv_has ls 5 [(0, .ref (g.2.2.1 r)), (1, .int p0), (2, .int p1), (3, .int x3), (4, .int x4)] → (i ≤ b) → (Bq x3 (FrQ T f b i)) → (x4.toInt = ((i : Nat) : Int)) → (MdA g hc r nm kn um sv sz ra rm ga gk gl gB gt gn gr gp gh gv gs gx gf) → (hc = h) → 9 - i < N → W p l e (headSpec wsX9_isFrontier rm_X9_isFrontier).room s m ([.ref (g.2.2.1 r), .int p0, .int p1] : List Value).toArray below meth c H locs 0 0 (MQ below (va_Qi (fun r_ h2 => h2 = h ∧ Bq r_ (FrQ T f b b)) (Wd g) (inW g)) ([.ref (g.2.2.1 r), .int p0, .int p1] : List Value).toArray s 0 0 (inW g)) (F0 m 19 ls [])) := by
    intro N
    induction N with
    | zero => exact by intros; omega
    | succ N ih =>
      have ih19 := ih
      · intro i x3 x4 hc H locs ls w hl hi hx3 hx4 D hh hN_
        refine lv_iload hx hb dX9_isFrontier_19 (lv_at hl 4 rfl) ?_
        refine lv_iload_n hx hb dX9_isFrontier_21 rfl (lv_at hl 2 rfl) ?_
        refine lv_icmp_ge (tgt := 60) hx hb dX9_isFrontier_22 (by decide) (fun c1 => ?_) (fun c1 => ?_)
        · have c1 : ((b : Nat) : Int) ≤ ((i : Nat) : Int) := (i_le hp1 hx4).mp c1
          refine lv_iload_n hx hb dX9_isFrontier_60 rfl (lv_at hl 3 rfl) ?_
          refine r_zret (v := x3) hx hb hr hx3.nar hlocks w dX9_isFrontier_61 ?_
          exact ⟨hh, by rw [show i = b by omega] at hx3; exact hx3⟩
        · have c1 : ¬ (((b : Nat) : Int) ≤ ((i : Nat) : Int)) := fun q => c1 ((i_le hp1 hx4).mpr q)
          refine lv_iload_n hx hb dX9_isFrontier_25 rfl (lv_at hl 3 rfl) ?_
          refine lv_if_eq (tgt := 52) hx hb dX9_isFrontier_26 (by decide) (fun c2 => ?_) (fun c2 => ?_)
          · have c2 := hx3.eq c2
            refine lv_iconst (v := 0) hx hb dX9_isFrontier_52 (by decide) ?_
            refine lv_istore_n (lv' := [(3, .int 0), (0, .ref (g.2.2.1 r)), (1, .int p0), (2, .int p1), (4, .int x4)]) hx hb dX9_isFrontier_53 rfl hl (by decide) rfl (fun ls hl => ?_)
            obtain ⟨y3, ey3⟩ : ∃ y : Int32, y = x4 + (1) := ⟨_, rfl⟩
            have ty3 : y3.toInt = (((i + 1) : Nat) : Int) := i_addN ey3 hx4 (by decide : (1 : Int32).toInt = ((1 : Nat) : Int)) (by omega)
            refine lv_iinc (v := y3) (lv' := [(4, .int y3), (3, .int 0), (0, .ref (g.2.2.1 r)), (1, .int p0), (2, .int p1)]) hx hb dX9_isFrontier_54 hl (k := 4) rfl (by rw [ey3]; rfl) (by decide) rfl (fun ls hl => ?_)
            refine lv_goto (tgt := 19) hx hb dX9_isFrontier_57 (by decide) ?_
            exact ih19 (i + 1) 0 y3 hc _ _ _ w (lv_sub hl [2, 3, 4, 1, 0] rfl) (by omega) (Bq.f (fun q_ => c2 ⟨q_.1, fun x_ h1_ h2_ => q_.2 x_ (by omega) h2_⟩)) ty3 D hh (by omega)
          · have c2 := hx3.ne c2
            refine lv_iload hx hb dX9_isFrontier_29 (lv_at hl 4 rfl) ?_
            refine lv_iload_n hx hb dX9_isFrontier_31 rfl (lv_at hl 2 rfl) ?_
            refine lv_iconst (v := (-1)) hx hb dX9_isFrontier_32 (by decide) ?_
            refine lv_ixor hx hb dX9_isFrontier_33 ?_
            refine lv_topi (fun y4 ey4 => ?_)
            refine lv_iand hx hb dX9_isFrontier_34 ?_
            refine lv_topi (fun y5 ey5 => ?_)
            have hsy5 : y5 = 0 ↔ i &&& b = i := sub_iff hx4 hp1 (by omega) h8_ ey4 ey5
            refine lv_if_ne (tgt := 48) hx hb dX9_isFrontier_35 (by decide) (fun c6 => ?_) (fun c6 => ?_)
            · refine lv_iconst (v := 1) hx hb dX9_isFrontier_48 (by decide) ?_
              refine lv_goto (tgt := 53) hx hb dX9_isFrontier_49 (by decide) ?_
              refine lv_istore_n (lv' := [(3, .int 1), (0, .ref (g.2.2.1 r)), (1, .int p0), (2, .int p1), (4, .int x4)]) hx hb dX9_isFrontier_53 rfl hl (by decide) rfl (fun ls hl => ?_)
              obtain ⟨y7, ey7⟩ : ∃ y : Int32, y = x4 + (1) := ⟨_, rfl⟩
              have ty7 : y7.toInt = (((i + 1) : Nat) : Int) := i_addN ey7 hx4 (by decide : (1 : Int32).toInt = ((1 : Nat) : Int)) (by omega)
              refine lv_iinc (v := y7) (lv' := [(4, .int y7), (3, .int 1), (0, .ref (g.2.2.1 r)), (1, .int p0), (2, .int p1)]) hx hb dX9_isFrontier_54 hl (k := 4) rfl (by rw [ey7]; rfl) (by decide) rfl (fun ls hl => ?_)
              refine lv_goto (tgt := 19) hx hb dX9_isFrontier_57 (by decide) ?_
              exact ih19 (i + 1) 1 y7 hc _ _ _ w (lv_sub hl [2, 3, 4, 1, 0] rfl) (by omega) (Bq.t (FrQ.up c2 (fun q_ => absurd (hsy5.mpr q_) c6))) ty7 D hh (by omega)
            · refine lv_aload_n hx hb dX9_isFrontier_38 rfl (lv_at hl 0 rfl) ?_
              refine lv_iload_n hx hb dX9_isFrontier_39 rfl (lv_at hl 1 rfl) ?_
              refine lv_iload hx hb dX9_isFrontier_40 (lv_at hl 4 rfl) ?_
              refine r_callI w (va_runV (As := [.int p0, .int x4]) (rest := []) ⟨hx, hb, hml, hown, hts⟩ (c_X9_roughAt l D hP hT p0 x4 hp0 hx4 (by omega) (by omega)) (cwV 2 hts gX9_isFrontier_X9_roughAt rfl rfl rfl (by decide +kernel) ⟨Nat.le_of_ble_eq_true rfl, Nat.le_of_ble_eq_true rfl⟩) (r_preV w (by have := D.1; omega) D.c0 rfl) rfl rfl hl.1 rfl (lv_room (Nat.le_of_ble_eq_true rfl)) dX9_isFrontier_42 ⟨Nat.zero_le _, Nat.zero_le _⟩) (fun r9 h8 H locs hp w => ?_)
              obtain ⟨eh_, qq10⟩ := hp
              have eh_ := eh_.symm
              subst eh_
              refine lv_if_ne (tgt := 52) hx hb dX9_isFrontier_45 (by decide) (fun c11 => ?_) (fun c11 => ?_)
              · have c11 : ¬ ((((T f i) : Nat) : Int) = (0 : Int)) := fun q => c11 ((i_eq qq10 (rfl : (0 : Int32).toInt = 0)).mpr q)
                refine lv_iconst (v := 0) hx hb dX9_isFrontier_52 (by decide) ?_
                refine lv_istore_n (lv' := [(3, .int 0), (0, .ref (g.2.2.1 r)), (1, .int p0), (2, .int p1), (4, .int x4)]) hx hb dX9_isFrontier_53 rfl hl (by decide) rfl (fun ls hl => ?_)
                obtain ⟨y12, ey12⟩ : ∃ y : Int32, y = x4 + (1) := ⟨_, rfl⟩
                have ty12 : y12.toInt = (((i + 1) : Nat) : Int) := i_addN ey12 hx4 (by decide : (1 : Int32).toInt = ((1 : Nat) : Int)) (by omega)
                refine lv_iinc (v := y12) (lv' := [(4, .int y12), (3, .int 0), (0, .ref (g.2.2.1 r)), (1, .int p0), (2, .int p1)]) hx hb dX9_isFrontier_54 hl (k := 4) rfl (by rw [ey12]; rfl) (by decide) rfl (fun ls hl => ?_)
                refine lv_goto (tgt := 19) hx hb dX9_isFrontier_57 (by decide) ?_
                exact ih19 (i + 1) 0 y12 hc _ _ _ w (lv_sub hl [2, 3, 4, 1, 0] rfl) (by omega) (Bq.f (fun q_ => by have := q_.2 i (by omega) (hsy5.mp c6); omega)) ty12 D hh (by omega)
              · have c11 : (((T f i) : Nat) : Int) = (0 : Int) := (i_eq qq10 (rfl : (0 : Int32).toInt = 0)).mp c11
                refine lv_iconst (v := 1) hx hb dX9_isFrontier_48 (by decide) ?_
                refine lv_goto (tgt := 53) hx hb dX9_isFrontier_49 (by decide) ?_
                refine lv_istore_n (lv' := [(3, .int 1), (0, .ref (g.2.2.1 r)), (1, .int p0), (2, .int p1), (4, .int x4)]) hx hb dX9_isFrontier_53 rfl hl (by decide) rfl (fun ls hl => ?_)
                obtain ⟨y13, ey13⟩ : ∃ y : Int32, y = x4 + (1) := ⟨_, rfl⟩
                have ty13 : y13.toInt = (((i + 1) : Nat) : Int) := i_addN ey13 hx4 (by decide : (1 : Int32).toInt = ((1 : Nat) : Int)) (by omega)
                refine lv_iinc (v := y13) (lv' := [(4, .int y13), (3, .int 1), (0, .ref (g.2.2.1 r)), (1, .int p0), (2, .int p1)]) hx hb dX9_isFrontier_54 hl (k := 4) rfl (by rw [ey13]; rfl) (by decide) rfl (fun ls hl => ?_)
                refine lv_goto (tgt := 19) hx hb dX9_isFrontier_57 (by decide) ?_
                exact ih19 (i + 1) 1 y13 hc _ _ _ w (lv_sub hl [2, 3, 4, 1, 0] rfl) (by omega) (Bq.t (FrQ.up c2 (fun q_ => by omega))) ty13 D hh (by omega)
  have ih19 := cuts (20)
  refine lv_aload_n hx hb dX9_isFrontier_0 rfl (lv_at hl 0 rfl) ?_
  refine lv_iload_n hx hb dX9_isFrontier_1 rfl (lv_at hl 1 rfl) ?_
  refine lv_iload_n hx hb dX9_isFrontier_2 rfl (lv_at hl 2 rfl) ?_
  refine r_callI w (va_runV (As := [.int p0, .int p1]) (rest := []) ⟨hx, hb, hml, hown, hts⟩ (c_X9_roughAt l D hP hT p0 p1 hp0 hp1 (by omega) (by omega)) (cwV 2 hts gX9_isFrontier_X9_roughAt rfl rfl rfl (by decide +kernel) ⟨Nat.le_of_ble_eq_true rfl, Nat.le_of_ble_eq_true rfl⟩) (r_preV w (by have := D.1; omega) D.c0 rfl) rfl rfl hl.1 rfl (lv_room (Nat.le_of_ble_eq_true rfl)) dX9_isFrontier_3 ⟨Nat.zero_le _, Nat.zero_le _⟩) (fun r15 h14 H locs hp w => ?_)
  obtain ⟨eh_, qq16⟩ := hp
  have eh_ := eh_.symm
  subst eh_
  refine lv_iconst (v := 1) hx hb dX9_isFrontier_6 (by decide) ?_
  refine lv_icmp_ne (tgt := 14) hx hb dX9_isFrontier_7 (by decide) (fun c17 => ?_) (fun c17 => ?_)
  · have c17 : ¬ ((((T f b) : Nat) : Int) = ((1 : Nat) : Int)) := fun q => c17 ((i_eq qq16 (by decide : (1 : Int32).toInt = ((1 : Nat) : Int))).mpr q)
    refine lv_iconst (v := 0) hx hb dX9_isFrontier_14 (by decide) ?_
    refine lv_istore_n (lv' := [(3, .int 0), (0, .ref (g.2.2.1 r)), (1, .int p0), (2, .int p1)]) hx hb dX9_isFrontier_15 rfl hl (by decide) rfl (fun ls hl => ?_)
    refine lv_iconst (v := 0) hx hb dX9_isFrontier_16 (by decide) ?_
    refine lv_istore (lv' := [(4, .int 0), (3, .int 0), (0, .ref (g.2.2.1 r)), (1, .int p0), (2, .int p1)]) hx hb dX9_isFrontier_17 hl (by decide) rfl (fun ls hl => ?_)
    exact ih19 0 0 0 h _ _ _ w (lv_sub hl [2, 3, 4, 1, 0] rfl) (Nat.zero_le _) (Bq.f (fun q_ => by have := q_.1; omega)) ((by decide : (0 : Int32).toInt = ((0 : Nat) : Int))) D rfl (by omega)
  · have c17 : (((T f b) : Nat) : Int) = ((1 : Nat) : Int) := (i_eq qq16 (by decide : (1 : Int32).toInt = ((1 : Nat) : Int))).mp c17
    refine lv_iconst (v := 1) hx hb dX9_isFrontier_10 (by decide) ?_
    refine lv_goto (tgt := 15) hx hb dX9_isFrontier_11 (by decide) ?_
    refine lv_istore_n (lv' := [(3, .int 1), (0, .ref (g.2.2.1 r)), (1, .int p0), (2, .int p1)]) hx hb dX9_isFrontier_15 rfl hl (by decide) rfl (fun ls hl => ?_)
    refine lv_iconst (v := 0) hx hb dX9_isFrontier_16 (by decide) ?_
    refine lv_istore (lv' := [(4, .int 0), (3, .int 1), (0, .ref (g.2.2.1 r)), (1, .int p0), (2, .int p1)]) hx hb dX9_isFrontier_17 hl (by decide) rfl (fun ls hl => ?_)
    exact ih19 0 1 0 h _ _ _ w (lv_sub hl [2, 3, 4, 1, 0] rfl) (Nat.zero_le _) (Bq.t ⟨by omega, fun x_ h_ => absurd h_ (Nat.not_lt_zero _)⟩) ((by decide : (0 : Int32).toInt = ((0 : Nat) : Int))) D rfl (by omega)

