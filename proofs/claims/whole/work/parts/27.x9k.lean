-- ===== longs by what they stand for =====
theorem l_bm {z : Int} (h1 : -9223372036854775808 ≤ z) (h2 : z ≤ 9223372036854775807) : z.bmod (2 ^ 64) = z := by
  rw [Int.bmod_def]; omega
theorem l_of {n : Nat} {v : Int64} (e : v = Int64.ofNat n) (h : n < 9223372036854775808) : v.toInt = ((n : Nat) : Int) := by
  rw [e]; exact Int64.toInt_ofNat_of_lt h
theorem l_i2l {x : Int32} {v : Int64} {a : Nat} (e : v = x.toInt64) (hx : x.toInt = ((a : Nat) : Int)) : v.toInt = ((a : Nat) : Int) := by
  rw [e, Int32.toInt_toInt64]; exact hx
theorem l_add {x y z : Int64} {a b : Nat} (ez : z = x + y) (hx : x.toInt = ((a : Nat) : Int)) (hy : y.toInt = ((b : Nat) : Int)) (h : a + b ≤ 9223372036854775807) : z.toInt = ((a + b : Nat) : Int) := by
  rw [ez, Int64.toInt_add, hx, hy, l_bm (by omega) (by omega)]; omega
theorem l_mul {x y z : Int64} {a b : Nat} (ez : z = x * y) (hx : x.toInt = ((a : Nat) : Int)) (hy : y.toInt = ((b : Nat) : Int)) (h : a * b ≤ 9223372036854775807) : z.toInt = ((a * b : Nat) : Int) := by
  have e : ((a * b : Nat) : Int) = (a : Int) * (b : Int) := Int.natCast_mul a b
  rw [ez, Int64.toInt_mul, hx, hy, ← e, l_bm (by omega) (by omega)]
theorem l_rem {x y z : Int64} {a b : Nat} (ez : z = x - x / y * y) (hx : x.toInt = ((a : Nat) : Int)) (hy : y.toInt = ((b : Nat) : Int)) (hb : 0 < b) : z.toInt = ((a % b : Nat) : Int) := by
  have ha : a ≤ 9223372036854775807 := by have := Int64.toInt_lt x; omega
  have hy1 : y ≠ -1 := fun q => by rw [q] at hy; have : (-1 : Int64).toInt = -1 := by decide
                                   omega
  have hd : (x / y).toInt = ((a / b : Nat) : Int) := by
    rw [Int64.toInt_div_of_ne_right _ _ hy1, hx, hy]
    rw [Int.tdiv_eq_ediv_of_nonneg (by omega)]
    omega
  have hle : a / b * b ≤ a := Nat.div_mul_le_self a b
  have hm : (x / y * y).toInt = ((a / b * b : Nat) : Int) := l_mul rfl hd hy (by omega)
  have hr : a % b = a - a / b * b := by
    have := Nat.div_add_mod a b
    rw [Nat.mul_comm] at this
    omega
  rw [ez, Int64.toInt_sub, hx, hm, l_bm (by omega) (by omega), hr]
  omega
theorem l_l2i {x : Int64} {v : Int32} {a : Nat} (e : x.toInt32 = v) (hx : x.toInt = ((a : Nat) : Int)) (h : a ≤ 2147483647) : v.toInt = ((a : Nat) : Int) := by
  rw [← e, Int64.toInt_toInt32, hx, i_bm (by omega) (by omega)]
theorem l_nz {y : Int64} {b : Nat} (hy : y.toInt = ((b : Nat) : Int)) (hb : 0 < b) : ¬ y = 0 := fun q => by
  rw [q] at hy
  have : (0 : Int64).toInt = 0 := by decide
  omega
/-- a day's k-th draw -/
def dDraw (z k : Nat) : Nat := (7919 * z + 6151 * k + 1) * (7919 * z + 6151 * k + 1) % 65521
/-- functions behind n draws of day z -/
def DayR (M : PRG) (z : Nat) : Nat → PRG → Prop
  | 0, M' => M' = M
  | n + 1, M' => ∃ M1 k, DayR M z n M1 ∧ mNext M1 (dDraw z n % pN M1) (dDraw z n / 8 % pL M1 (dDraw z n % pN M1)) k ∧ M' = mSet M1 (dDraw z n % pN M1) (dDraw z n / 8 % pL M1 (dDraw z n % pN M1)) k
theorem DayR.inj {M : PRG} {z : Nat} : ∀ {n : Nat} {M1 M2 : PRG}, DayR M z n M1 → DayR M z n M2 → M1 = M2
  | 0, _, _, h1, h2 => h1.trans h2.symm
  | n + 1, _, _, ⟨A, k, a1, a2, a3⟩, ⟨B, j, b1, b2, b3⟩ => by
    have e := DayR.inj a1 b1
    subst e
    have e2 := a2.inj b2
    subst e2
    rw [a3, b3]
theorem mNext.ok {M : PRG} {f pl k : Nat} (hP : PV M) (h : mNext M f pl k) : PV (mSet M f pl k) := by
  obtain ⟨s, a1, a2, a3, a4, a5⟩ := h
  exact mSet_ok hP a4 (by rw [a3]; exact Nat.mod_lt _ (by omega))
/-- a row of the reference's table that comes to a value -/
noncomputable def vRow (M : PRG) (K f q : Nat) : Nat := by
  classical exact if mIs 0 (pA M f) (q / 25) (q / 5 % 5) (q % 5) ∧ mTab 0 M K f (mIx 0 q) ≠ 4 then 1 else 0
theorem vRow_1 {M : PRG} {K f q : Nat} (h : mIs 0 (pA M f) (q / 25) (q / 5 % 5) (q % 5) ∧ mTab 0 M K f (mIx 0 q) ≠ 4) : vRow M K f q = 1 := by unfold vRow; exact if_pos h
theorem vRow_0 {M : PRG} {K f q : Nat} (h : ¬ (mIs 0 (pA M f) (q / 25) (q / 5 % 5) (q % 5) ∧ mTab 0 M K f (mIx 0 q) ≠ 4)) : vRow M K f q = 0 := by unfold vRow; exact if_neg h
theorem vRow_le {M : PRG} {K f q : Nat} : vRow M K f q ≤ 1 := by unfold vRow; split <;> omega
theorem vRow_gt {M : PRG} {gt : Nat → Int32} {K f q : Nat} (hT : RT 0 M gt (mTab 0 M K)) (hf : f < pN M) (hq : q < 125) : ((gt (500 * 0 + 125 * f + q)).toInt = 4 → vRow M K f q = 0) ∧ ((gt (500 * 0 + 125 * f + q)).toInt ≠ 4 → vRow M K f q = 1) := by
  have h := hT f q hf hq
  refine ⟨fun e => vRow_0 (fun z => z.2 (by have := h.1 z.1; omega)), fun e => vRow_1 ⟨?_, ?_⟩⟩
  · exact Classical.byContradiction fun z => e (by rw [h.2 z]; rfl)
  · intro z
    by_cases y : mIs 0 (pA M f) (q / 25) (q / 5 % 5) (q % 5)
    · exact e (by rw [h.1 y, z]; rfl)
    · exact e (by rw [h.2 y]; rfl)
noncomputable def vAll (M : PRG) (K : Nat) : Nat := sm (fun f => sm (fun q => vRow M K f q) 125) (pN M)
noncomputable def dSt (M : PRG) (w f : Nat) : Nat := pop (mBits (mStrictF (wU (w + 1)) M f) (pA M f))
def DayN (M : PRG) (w : Nat) (r : Int) : Prop := (w < 2 ∧ r = ((sm (dSt M w) (pN M) : Nat) : Int)) ∨ (w = 2 ∧ ∃ K, IsK 0 M K ∧ r = ((vAll M K : Nat) : Int))
def AnDay (s : ST) (p q k : Int32) (r : Int32) : Prop :=
  (∃ z n w M', p.toInt = ((z : Nat) : Int) ∧ q.toInt = ((n : Nat) : Int) ∧ k.toInt = ((w : Nat) : Int) ∧ z ≤ 9999 ∧ 1 ≤ n ∧ n ≤ 20 ∧ w ≤ 2 ∧ DayR (sM s) z n M' ∧ DayN M' w r.toInt) ∨
  (¬ (0 ≤ p.toInt ∧ p.toInt ≤ 9999 ∧ 1 ≤ q.toInt ∧ q.toInt ≤ 20 ∧ 0 ≤ k.toInt ∧ k.toInt ≤ 2) ∧ r.toInt = -1)
theorem inX9_valueRows_X9 : ∀ w ∈ wsX90, w ∈ wsX9_valueRows := by decide +kernel
abbrev rm_X9_valueRows : Room := { frames := 1, cells := 0, slots := 0, locals := 23 }
set_option maxHeartbeats 4000000 in
set_option maxRecDepth 100000 in
theorem c_X9_valueRows (l : Launch) {g : GE} {h : Nat → va_E} {r : Nat} {nm kn um sv sz ra rm : Int32} {ga gk gl gB gt gn gr gp gh gv gs gx gf : Nat → Int32} (D : MdA g h r nm kn um sv sz ra rm ga gk gl gB gt gn gr gp gh gv gs gx gf) {M : PRG} (S : RS M nm ga gk gl gB) (hP : PV M) {K : Nat} (hT : RT 0 M gt (mTab 0 M K)) : MI l yX9_valueRows wsX9_valueRows rm_X9_valueRows [.ref (g.2.2.1 r)] g h (fun r_ h2 => h2 = h ∧ r_.toInt = ((vAll M K : Nat) : Int)) := by
  refine Met.ofW (cc := cX9_valueRows) (maxL := 4) (ret := (some .int)) (by decide) rfl ?_
  intro p e s m args below meth c s₁ B hml hv
  obtain ⟨rfl, w0⟩ := hv
  have hx := B.exec
  have hb := B.bytes
  have hr := B.returns
  have hts := atoms_spec (ws := wsX9_valueRows) B.pre
  have hown : s.vm.findClass RX9 = some m.cls := findClass_of_methodNamed B.named
  have hlocks := B.notSynchronized
  have w := w0.start
  clear w0
  have hl := lv_entry ([.ref (g.2.2.1 r)]) (n := 4) (Nat.le_of_ble_eq_true rfl)
  rw [lg_entry_eq]
  generalize (lg_sl ([.ref (g.2.2.1 r)]) ++ List.replicate (4 - (lg_sl ([.ref (g.2.2.1 r)])).length) Slot.unset).toArray = ls at hl ⊢
  have hl : lv_has ls 4 [(0, .ref (g.2.2.1 r))] := hl
  have hn4 := hP.2.1
  have cuts : ∀ N : Nat, (∀ (f : Nat) (x1 : Int32) (x2 : Int32) (hc : Nat → va_E) (H : Heap) (locs : List Loc) (ls : Array Slot), WD g (inW g) s hc H locs → lv_has ls 4 [(0, .ref (g.2.2.1 r)), (1, .int x1), (2, .int x2)] → (f ≤ pN M) → (x1.toInt = ((sm (fun f => sm (fun q => vRow M K f q) 125) f : Nat) : Int)) → (x2.toInt = ((f : Nat) : Int)) → (MdA g hc r nm kn um sv sz ra rm ga gk gl gB gt gn gr gp gh gv gs gx gf) → (hc = h) → (pN M - f) * 200 + 180 < N → W p l e (headSpec wsX9_valueRows rm_X9_valueRows).room s m ([.ref (g.2.2.1 r)] : List Value).toArray below meth c H locs 0 0 (MQ below (va_Qi (fun r_ h2 => h2 = h ∧ r_.toInt = ((vAll M K : Nat) : Int)) (Wd g) (inW g)) ([.ref (g.2.2.1 r)] : List Value).toArray s 0 0 (inW g)) (F0 m 4 ls [])) ∧ (∀ (f : Nat) (x1 : Int32) (x2 : Int32) (i : Nat) (x3 : Int32) (hc : Nat → va_E) (H : Heap) (locs : List Loc) (ls : Array Slot), WD g (inW g) s hc H locs → lv_has ls 4 [(0, .ref (g.2.2.1 r)), (1, .int x1), (2, .int x2), (3, .int x3)] → (f < pN M) → (x1.toInt = (((sm (fun f => sm (fun q => vRow M K f q) 125) f + sm (fun q => vRow M K f q) i) : Nat) : Int)) → (x2.toInt = ((f : Nat) : Int)) → (i ≤ 125) → (x3.toInt = ((i : Nat) : Int)) → (MdA g hc r nm kn um sv sz ra rm ga gk gl gB gt gn gr gp gh gv gs gx gf) → (hc = h) → (pN M - f) * 200 + (126 - i) < N → W p l e (headSpec wsX9_valueRows rm_X9_valueRows).room s m ([.ref (g.2.2.1 r)] : List Value).toArray below meth c H locs 0 0 (MQ below (va_Qi (fun r_ h2 => h2 = h ∧ r_.toInt = ((vAll M K : Nat) : Int)) (Wd g) (inW g)) ([.ref (g.2.2.1 r)] : List Value).toArray s 0 0 (inW g)) (F0 m 14 ls [])) := by
    intro N
    induction N with
    | zero => exact ⟨by intros; omega, by intros; omega⟩
    | succ N ih =>
      obtain ⟨ih4, ih14⟩ := ih
      refine ⟨?_, ?_⟩
      · intro f x1 x2 hc H locs ls w hl hf hx1 hx2 D hh hN_
        have hv1_ := sm_ub (f := (fun f => sm (fun q => vRow M K f q) 125)) (c := 125) f (fun j_ _ => by have := sm_ub (f := fun q => vRow M K j_ q) (c := 1) 125 (fun _ _ => vRow_le); omega)
        refine lv_iload_n hx hb dX9_valueRows_4 rfl (lv_at hl 2 rfl) ?_
        refine lv_aload_n hx hb dX9_valueRows_5 rfl (lv_at hl 0 rfl) ?_
        refine r_get (C := RX9) (T := TX9) (N := 20) (ci := 7) hx hb hts inX9_valueRows_X9 hown w (by have := D.1; omega) D.c0 rfl 0 (by decide) (hts (Cond.fieldLink RX9 49 "EarlyValuesModel" "many" "I") (List.mem_of_getElem? (i := 1) (by decide +kernel))) rfl rfl dX9_valueRows_6 ?_
        refine lv_icmp_ge (tgt := 51) hx hb dX9_valueRows_9 (by decide) (fun c1 => ?_) (fun c1 => ?_)
        · have c1 : (((pN M) : Nat) : Int) ≤ ((f : Nat) : Int) := (i_le S.1 hx2).mp c1
          refine lv_iload_n hx hb dX9_valueRows_51 rfl (lv_at hl 1 rfl) ?_
          refine r_iret (v := x1) hx hb hr hlocks w dX9_valueRows_52 ?_
          exact ⟨hh, hx1.trans (by rw [show f = pN M by omega]; rfl)⟩
        · have c1 : ¬ ((((pN M) : Nat) : Int) ≤ ((f : Nat) : Int)) := fun q => c1 ((i_le S.1 hx2).mpr q)
          refine lv_iconst (v := 0) hx hb dX9_valueRows_12 (by decide) ?_
          refine lv_istore_n (lv' := [(3, .int 0), (0, .ref (g.2.2.1 r)), (1, .int x1), (2, .int x2)]) hx hb dX9_valueRows_13 rfl hl (by decide) rfl (fun ls hl => ?_)
          exact ih14 f x1 x2 0 0 hc _ _ _ w (lv_sub hl [1, 2, 3, 0] rfl) (by omega) (hx1.trans (by rfl)) hx2 (by omega) ((by decide : (0 : Int32).toInt = ((0 : Nat) : Int))) D hh (by omega)
      · intro f x1 x2 i x3 hc H locs ls w hl hf hx1 hx2 hi hx3 D hh hN_
        have hv1_ := sm_ub (f := (fun f => sm (fun q => vRow M K f q) 125)) (c := 125) f (fun j_ _ => by have := sm_ub (f := fun q => vRow M K j_ q) (c := 1) 125 (fun _ _ => vRow_le); omega)
        have hv2_ := sm_ub (f := fun q => vRow M K f q) (c := 1) i (fun _ _ => vRow_le)
        refine lv_iload_n hx hb dX9_valueRows_14 rfl (lv_at hl 3 rfl) ?_
        refine lv_bipush (v := 125) hx hb dX9_valueRows_15 (by decide) ?_
        refine lv_icmp_ge (tgt := 45) hx hb dX9_valueRows_17 (by decide) (fun c2 => ?_) (fun c2 => ?_)
        · have c2 : ((125 : Nat) : Int) ≤ ((i : Nat) : Int) := (i_le (by decide : (125 : Int32).toInt = ((125 : Nat) : Int)) hx3).mp c2
          obtain ⟨y3, ey3⟩ : ∃ y : Int32, y = x2 + (1) := ⟨_, rfl⟩
          have ty3 : y3.toInt = (((f + 1) : Nat) : Int) := i_addN ey3 hx2 (by decide : (1 : Int32).toInt = ((1 : Nat) : Int)) (by omega)
          refine lv_iinc (v := y3) (lv' := [(2, .int y3), (0, .ref (g.2.2.1 r)), (1, .int x1), (3, .int x3)]) hx hb dX9_valueRows_45 hl (k := 2) rfl (by rw [ey3]; rfl) (by decide) rfl (fun ls hl => ?_)
          refine lv_goto (tgt := 4) hx hb dX9_valueRows_48 (by decide) ?_
          exact ih4 (f + 1) x1 y3 hc _ _ _ w (lv_sub hl [1, 2, 0] rfl) (by omega) (hx1.trans (by rw [sm_succ, show i = 125 by omega])) ty3 D hh (by omega)
        · have c2 : ¬ (((125 : Nat) : Int) ≤ ((i : Nat) : Int)) := fun q => c2 ((i_le (by decide : (125 : Int32).toInt = ((125 : Nat) : Int)) hx3).mpr q)
          refine lv_iload_n hx hb dX9_valueRows_20 rfl (lv_at hl 1 rfl) ?_
          refine lv_aload_n hx hb dX9_valueRows_21 rfl (lv_at hl 0 rfl) ?_
          refine lv_iconst (v := 0) hx hb dX9_valueRows_22 (by decide) ?_
          refine lv_iload_n hx hb dX9_valueRows_23 rfl (lv_at hl 2 rfl) ?_
          refine lv_iload_n hx hb dX9_valueRows_24 rfl (lv_at hl 3 rfl) ?_
          refine r_callI w (va_runV (As := [.int 0, .int x2, .int x3]) (rest := [.int x1]) ⟨hx, hb, hml, hown, hts⟩ (c_X9_tableAt l D (u := 0) (by omega) 0 x2 x3 (by decide : (0 : Int32).toInt = ((0 : Nat) : Int)) hx2 hx3 (by omega) (by omega)) (cwV 3 hts gX9_valueRows_X9_tableAt rfl rfl rfl (by decide +kernel) ⟨Nat.le_of_ble_eq_true rfl, Nat.le_of_ble_eq_true rfl⟩) (r_preV w (by have := D.1; omega) D.c0 rfl) rfl rfl hl.1 rfl (lv_room (Nat.le_of_ble_eq_true rfl)) dX9_valueRows_25 ⟨Nat.zero_le _, Nat.zero_le _⟩) (fun r5 h4 H locs hp w => ?_)
          obtain ⟨eh_, qq6⟩ := hp
          have eh_ := eh_.symm
          subst eh_
          subst qq6
          refine lv_iconst (v := 4) hx hb dX9_valueRows_28 (by decide) ?_
          refine lv_icmp_ne (tgt := 36) hx hb dX9_valueRows_29 (by decide) (fun c7 => ?_) (fun c7 => ?_)
          · have c7 : ¬ ((gt (500 * 0 + 125 * f + i)).toInt = ((4 : Nat) : Int)) := fun q => c7 ((i_eq (rfl : (gt (500 * 0 + 125 * f + i)).toInt = (gt (500 * 0 + 125 * f + i)).toInt) (by decide : (4 : Int32).toInt = ((4 : Nat) : Int))).mpr q)
            refine lv_iconst (v := 1) hx hb dX9_valueRows_36 (by decide) ?_
            refine lv_iadd hx hb dX9_valueRows_37 ?_
            refine lv_topi (fun y8 ey8 => ?_)
            have ty8 : y8.toInt = ((((sm (fun f => sm (fun q => vRow M K f q) 125) f + sm (fun q => vRow M K f q) i) + 1) : Nat) : Int) := i_addN ey8 hx1 (by decide : (1 : Int32).toInt = ((1 : Nat) : Int)) (by omega)
            refine lv_istore_n (lv' := [(1, .int y8), (0, .ref (g.2.2.1 r)), (2, .int x2), (3, .int x3)]) hx hb dX9_valueRows_38 rfl hl (by decide) rfl (fun ls hl => ?_)
            obtain ⟨y9, ey9⟩ : ∃ y : Int32, y = x3 + (1) := ⟨_, rfl⟩
            have ty9 : y9.toInt = (((i + 1) : Nat) : Int) := i_addN ey9 hx3 (by decide : (1 : Int32).toInt = ((1 : Nat) : Int)) (by omega)
            refine lv_iinc (v := y9) (lv' := [(3, .int y9), (1, .int y8), (0, .ref (g.2.2.1 r)), (2, .int x2)]) hx hb dX9_valueRows_39 hl (k := 3) rfl (by rw [ey9]; rfl) (by decide) rfl (fun ls hl => ?_)
            refine lv_goto (tgt := 14) hx hb dX9_valueRows_42 (by decide) ?_
            exact ih14 f y8 x2 (i + 1) y9 hc _ _ _ w (lv_sub hl [2, 1, 3, 0] rfl) (by omega) (ty8.trans (by have e_ := (vRow_gt hT (q := i) hf (by omega)).2 (by omega); rw [sm_succ, e_]; omega)) hx2 (by omega) ty9 D hh (by omega)
          · have c7 : (gt (500 * 0 + 125 * f + i)).toInt = ((4 : Nat) : Int) := (i_eq (rfl : (gt (500 * 0 + 125 * f + i)).toInt = (gt (500 * 0 + 125 * f + i)).toInt) (by decide : (4 : Int32).toInt = ((4 : Nat) : Int))).mp c7
            refine lv_iconst (v := 0) hx hb dX9_valueRows_32 (by decide) ?_
            refine lv_goto (tgt := 37) hx hb dX9_valueRows_33 (by decide) ?_
            refine lv_iadd hx hb dX9_valueRows_37 ?_
            refine lv_topi (fun y10 ey10 => ?_)
            have ty10 : y10.toInt = ((((sm (fun f => sm (fun q => vRow M K f q) 125) f + sm (fun q => vRow M K f q) i) + 0) : Nat) : Int) := i_addN ey10 hx1 (by decide : (0 : Int32).toInt = ((0 : Nat) : Int)) (by omega)
            refine lv_istore_n (lv' := [(1, .int y10), (0, .ref (g.2.2.1 r)), (2, .int x2), (3, .int x3)]) hx hb dX9_valueRows_38 rfl hl (by decide) rfl (fun ls hl => ?_)
            obtain ⟨y11, ey11⟩ : ∃ y : Int32, y = x3 + (1) := ⟨_, rfl⟩
            have ty11 : y11.toInt = (((i + 1) : Nat) : Int) := i_addN ey11 hx3 (by decide : (1 : Int32).toInt = ((1 : Nat) : Int)) (by omega)
            refine lv_iinc (v := y11) (lv' := [(3, .int y11), (1, .int y10), (0, .ref (g.2.2.1 r)), (2, .int x2)]) hx hb dX9_valueRows_39 hl (k := 3) rfl (by rw [ey11]; rfl) (by decide) rfl (fun ls hl => ?_)
            refine lv_goto (tgt := 14) hx hb dX9_valueRows_42 (by decide) ?_
            exact ih14 f y10 x2 (i + 1) y11 hc _ _ _ w (lv_sub hl [2, 1, 3, 0] rfl) (by omega) (ty10.trans (by have e_ := (vRow_gt hT (q := i) hf (by omega)).1 (by omega); rw [sm_succ, e_]; omega)) hx2 (by omega) ty11 D hh (by omega)
  have cut0 := cuts (100000)
  obtain ⟨ih4, ih14⟩ := cut0
  refine lv_iconst (v := 0) hx hb dX9_valueRows_0 (by decide) ?_
  refine lv_istore_n (lv' := [(1, .int 0), (0, .ref (g.2.2.1 r))]) hx hb dX9_valueRows_1 rfl hl (by decide) rfl (fun ls hl => ?_)
  refine lv_iconst (v := 0) hx hb dX9_valueRows_2 (by decide) ?_
  refine lv_istore_n (lv' := [(2, .int 0), (1, .int 0), (0, .ref (g.2.2.1 r))]) hx hb dX9_valueRows_3 rfl hl (by decide) rfl (fun ls hl => ?_)
  exact ih4 0 0 0 h _ _ _ w (lv_sub hl [2, 1, 0] rfl) (Nat.zero_le _) rfl ((by decide : (0 : Int32).toInt = ((0 : Nat) : Int))) D rfl (by omega)

theorem inX9_day_X9 : ∀ w ∈ wsX90, w ∈ wsX9_day := by decide +kernel
abbrev rm_X9_day : Room := { frames := 7, cells := 0, slots := 0, locals := 179 }
set_option maxHeartbeats 4000000 in
set_option maxRecDepth 100000 in
theorem c_X9_day (l : Launch) {g : GE} {h : Nat → va_E} {r : Nat} {st0 : ST} (R : RefA g h r st0) (p0 : Int32) (p1 : Int32) (p2 : Int32) : MI l yX9_day wsX9_day rm_X9_day [.ref (g.2.2.1 r), .int p0, .int p1, .int p2] g h (fun r_ h2 => (∀ k, ¬ (r ≤ k ∧ k < r + 14) → h2 k = h k) ∧ RefA g h2 r st0 ∧ AnDay st0 p0 p1 p2 r_) := by
  refine Met.ofW (cc := cX9_day) (maxL := 7) (ret := (some .int)) (by decide) rfl ?_
  intro p e s m args below meth c s₁ B hml hv
  obtain ⟨rfl, w0⟩ := hv
  have hx := B.exec
  have hb := B.bytes
  have hr := B.returns
  have hts := atoms_spec (ws := wsX9_day) B.pre
  have hown : s.vm.findClass RX9 = some m.cls := findClass_of_methodNamed B.named
  have hlocks := B.notSynchronized
  have w := w0.start
  clear w0
  have hl := lv_entry ([.ref (g.2.2.1 r), .int p0, .int p1, .int p2]) (n := 7) (Nat.le_of_ble_eq_true rfl)
  rw [lg_entry_eq]
  generalize (lg_sl ([.ref (g.2.2.1 r), .int p0, .int p1, .int p2]) ++ List.replicate (7 - (lg_sl ([.ref (g.2.2.1 r), .int p0, .int p1, .int p2])).length) Slot.unset).toArray = ls at hl ⊢
  have hl : lv_has ls 7 [(0, .ref (g.2.2.1 r)), (1, .int p0), (2, .int p1), (3, .int p2)] := hl
  obtain ⟨nm, kn, um, sv, sz, ra, rm, ga, gk, gl, gB, gt, gn, gr, gp, gh, gv, gs, gx, gf, D, hRS⟩ := R
  obtain ⟨hSV, S, hkn, hum, hUs, hsv, hVs, hsz, hgx⟩ := hRS
  have hSV0 := hSV
  obtain ⟨hP, hu8, hUP, hv2, hVP, hl200, hlt⟩ := hSV
  have hn4 := hP.2.1
  have hfr : ∀ k_, ¬ (r ≤ k_ ∧ k_ < r + 14) → h k_ = h k_ := fun _ _ => rfl
  have S0 := S
  have hP0 := hP
  have cuts : ∀ N : Nat, (∀ (z : Nat) (n : Nat) (wk : Nat) (k : Nat) (Mk : PRG) (x4 : Int32) (gB1 : Nat → Int32) (gs1 : Nat → Int32) (hc : Nat → va_E) (H : Heap) (locs : List Loc) (ls : Array Slot), WD g (inW g) s hc H locs → lv_has ls 7 [(0, .ref (g.2.2.1 r)), (1, .int p0), (2, .int p1), (3, .int p2), (4, .int x4)] → (p0.toInt = ((z : Nat) : Int)) → (p1.toInt = ((n : Nat) : Int)) → (p2.toInt = ((wk : Nat) : Int)) → (z ≤ 9999) → (1 ≤ n ∧ n ≤ 20) → (wk ≤ 2) → (k ≤ n) → (x4.toInt = ((k : Nat) : Int)) → (DayR (sM st0) z k Mk) → (PV Mk) → (RS Mk nm ga gk gl gB1) → (SnapE gs1 0 nm ga gk gl gB) → (MdA g hc r nm kn um sv sz ra rm ga gk gl gB1 gt gn gr gp gh gv gs1 gx gf) → (∀ k, ¬ (r ≤ k ∧ k < r + 14) → hc k = h k) → 30 - k + 10 < N → W p l e (headSpec wsX9_day rm_X9_day).room s m ([.ref (g.2.2.1 r), .int p0, .int p1, .int p2] : List Value).toArray below meth c H locs 0 0 (MQ below (va_Qi (fun r_ h2 => (∀ k, ¬ (r ≤ k ∧ k < r + 14) → h2 k = h k) ∧ RefA g h2 r st0 ∧ AnDay st0 p0 p1 p2 r_) (Wd g) (inW g)) ([.ref (g.2.2.1 r), .int p0, .int p1, .int p2] : List Value).toArray s 0 0 (inW g)) (F0 m 44 ls [])) ∧ (∀ (z : Nat) (n : Nat) (wk : Nat) (Mk : PRG) (f : Nat) (x4 : Int32) (x5 : Int32) (gB1 : Nat → Int32) (gs1 : Nat → Int32) (gtA : Nat → Int32) (gnA : Nat → Int32) (gpA : Nat → Int32) (grA : Nat → Int32) (hc : Nat → va_E) (H : Heap) (locs : List Loc) (ls : Array Slot), WD g (inW g) s hc H locs → lv_has ls 7 [(0, .ref (g.2.2.1 r)), (1, .int p0), (2, .int p1), (3, .int p2), (4, .int x4), (5, .int x5)] → (p0.toInt = ((z : Nat) : Int)) → (p1.toInt = ((n : Nat) : Int)) → (p2.toInt = ((wk : Nat) : Int)) → (z ≤ 9999) → (1 ≤ n ∧ n ≤ 20) → (wk ≤ 2) → (f ≤ pN Mk) → (wk < 2 → x4.toInt = ((sm (dSt Mk wk) f : Nat) : Int)) → (wk = 2 → x4.toInt = 0) → (x5.toInt = ((f : Nat) : Int)) → (DayR (sM st0) z n Mk) → (PV Mk) → (RS Mk nm ga gk gl gB1) → (SnapE gs1 0 nm ga gk gl gB) → (RAll Mk gtA grA) → (MdA g hc r nm 1 um sv sz ra rm ga gk gl gB1 gtA gnA grA gpA gh gv gs1 gx gf) → (∀ k, ¬ (r ≤ k ∧ k < r + 14) → hc k = h k) → 6 - f < N → W p l e (headSpec wsX9_day rm_X9_day).room s m ([.ref (g.2.2.1 r), .int p0, .int p1, .int p2] : List Value).toArray below meth c H locs 0 0 (MQ below (va_Qi (fun r_ h2 => (∀ k, ¬ (r ≤ k ∧ k < r + 14) → h2 k = h k) ∧ RefA g h2 r st0 ∧ AnDay st0 p0 p1 p2 r_) (Wd g) (inW g)) ([.ref (g.2.2.1 r), .int p0, .int p1, .int p2] : List Value).toArray s 0 0 (inW g)) (F0 m 103 ls [])) := by
    intro N
    induction N with
    | zero => exact ⟨by intros; omega, by intros; omega⟩
    | succ N ih =>
      obtain ⟨ih44, ih103⟩ := ih
      refine ⟨?_, ?_⟩
      · intro z n wk k Mk x4 gB1 gs1 hc H locs ls w hl hz0 hn0 hw0 hz9 hn9 hw9 hk hx4 hdr hP S hsn D hfr hN_
        refine lv_iload hx hb dX9_day_44 (lv_at hl 4 rfl) ?_
        refine lv_iload_n hx hb dX9_day_46 rfl (lv_at hl 2 rfl) ?_
        refine lv_icmp_ge (tgt := 88) hx hb dX9_day_47 (by decide) (fun c1 => ?_) (fun c1 => ?_)
        · have c1 : ((n : Nat) : Int) ≤ ((k : Nat) : Int) := (i_le hn0 hx4).mp c1
          refine lv_aload_n hx hb dX9_day_88 rfl (lv_at hl 0 rfl) ?_
          refine lv_iconst (v := 0) hx hb dX9_day_89 (by decide) ?_
          refine r_put (ty := .boolean) (C := RX9) (T := TX9) (N := 20) (ci := 7) hx hb hts inX9_day_X9 tyX9 tyX9_ok nmX9 hown w (by have := D.1; omega) D.c0 rfl 8 (by decide) (hts (Cond.fieldLink RX9 121 "EarlyValuesModel" "isKnown" "Z") (List.mem_of_getElem? (i := 5) (by decide +kernel))) rfl rfl (by decide +kernel) (by first | rfl | exact rfl) (by first | rfl | exact Bq.fit rfl) (Nat.le_of_ble_eq_true rfl) dX9_day_90 (fun h2 H locs eh2 w => ?_)
          have D := D.s0 eh2
          have hfr : ∀ k_, ¬ (r ≤ k_ ∧ k_ < r + 14) → h2 k_ = h k_ := fun k_ hk_ => by rw [eh2, va_up_ne _ _ (by omega)]; exact hfr k_ hk_
          refine lv_aload_n hx hb dX9_day_93 rfl (lv_at hl 0 rfl) ?_
          refine r_callV w (va_runV (As := []) (rest := []) ⟨hx, hb, hml, hown, hts⟩ (c_X9_setAll l D S hP (Or.inl rfl)) (cwV 0 hts gX9_day_X9_setAll rfl rfl rfl (by decide +kernel) ⟨Nat.le_of_ble_eq_true rfl, Nat.le_of_ble_eq_true rfl⟩) (r_preV w (by have := D.1; omega) D.c0 rfl) rfl rfl hl.1 rfl (lv_room (Nat.le_of_ble_eq_true rfl)) dX9_day_94 ⟨Nat.zero_le _, Nat.zero_le _⟩) (fun h3 H locs hp w => ?_)
          obtain ⟨hfk4, gtk4, gnk4, gpk4, grk4, D, hAll⟩ := hp
          have hfr : ∀ k_, ¬ (r ≤ k_ ∧ k_ < r + 14) → h3 k_ = h k_ := fun k_ hk_ => (hfk4 k_ (by omega)).trans (hfr k_ hk_)
          refine lv_iconst (v := 0) hx hb dX9_day_97 (by decide) ?_
          refine lv_istore (lv' := [(4, .int 0), (0, .ref (g.2.2.1 r)), (1, .int p0), (2, .int p1), (3, .int p2)]) hx hb dX9_day_98 hl (by decide) rfl (fun ls hl => ?_)
          refine lv_iconst (v := 0) hx hb dX9_day_100 (by decide) ?_
          refine lv_istore (lv' := [(5, .int 0), (4, .int 0), (0, .ref (g.2.2.1 r)), (1, .int p0), (2, .int p1), (3, .int p2)]) hx hb dX9_day_101 hl (by decide) rfl (fun ls hl => ?_)
          exact ih103 z n wk Mk 0 0 0 gB1 gs1 gtk4 gnk4 gpk4 grk4 h3 _ _ _ w (lv_sub hl [2, 3, 4, 5, 1, 0] rfl) hz0 hn0 hw0 hz9 hn9 hw9 (by omega) (fun _ => rfl) (fun _ => rfl) ((by decide : (0 : Int32).toInt = ((0 : Nat) : Int))) (by rw [show n = k by omega]; exact hdr) hP S hsn hAll D hfr (by omega)
        · have c1 : ¬ (((n : Nat) : Int) ≤ ((k : Nat) : Int)) := fun q => c1 ((i_le hn0 hx4).mpr q)
          have hxk_ : (7919 * z + 6151 * k + 1) ≤ 79298951 := by omega
          have hxx_ : (7919 * z + 6151 * k + 1) * (7919 * z + 6151 * k + 1) ≤ 79298951 * 79298951 := Nat.mul_le_mul hxk_ hxk_
          refine lv_ldc2 (v := 7919) hx hb hown (hts (Cond.constantLong RX9 184 (7919)) (List.mem_of_getElem? (i := 2) (by decide +kernel))) dX9_day_50 ?_
          refine lv_topl (fun y5 ey5 => ?_)
          have ty5 : y5.toInt = ((7919 : Nat) : Int) := l_of (ey5.trans (by decide)) (by decide)
          refine lv_iload_n hx hb dX9_day_53 rfl (lv_at hl 1 rfl) ?_
          refine lv_i2l hx hb dX9_day_54 rfl ?_
          refine lv_topl (fun y6 ey6 => ?_)
          have ty6 : y6.toInt = ((z : Nat) : Int) := l_i2l ey6 hz0
          refine lv_lmul hx hb dX9_day_55 ?_
          refine lv_topl (fun y7 ey7 => ?_)
          have ty7 : y7.toInt = (((7919 * z) : Nat) : Int) := l_mul ey7 ty5 ty6 (by omega)
          refine lv_ldc2 (v := 6151) hx hb hown (hts (Cond.constantLong RX9 186 (6151)) (List.mem_of_getElem? (i := 3) (by decide +kernel))) dX9_day_56 ?_
          refine lv_topl (fun y8 ey8 => ?_)
          have ty8 : y8.toInt = ((6151 : Nat) : Int) := l_of (ey8.trans (by decide)) (by decide)
          refine lv_iload hx hb dX9_day_59 (lv_at hl 4 rfl) ?_
          refine lv_i2l hx hb dX9_day_61 rfl ?_
          refine lv_topl (fun y9 ey9 => ?_)
          have ty9 : y9.toInt = ((k : Nat) : Int) := l_i2l ey9 hx4
          refine lv_lmul hx hb dX9_day_62 ?_
          refine lv_topl (fun y10 ey10 => ?_)
          have ty10 : y10.toInt = (((6151 * k) : Nat) : Int) := l_mul ey10 ty8 ty9 (by omega)
          refine lv_ladd hx hb dX9_day_63 ?_
          refine lv_topl (fun y11 ey11 => ?_)
          have ty11 : y11.toInt = ((((7919 * z) + (6151 * k)) : Nat) : Int) := l_add ey11 ty7 ty10 (by omega)
          refine lv_lconst (v := 1) hx hb dX9_day_64 (by decide) ?_
          refine lv_topl (fun y12 ey12 => ?_)
          have ty12 : y12.toInt = ((1 : Nat) : Int) := l_of (ey12.trans (by decide)) (by decide)
          refine lv_ladd hx hb dX9_day_65 ?_
          refine lv_topl (fun y13 ey13 => ?_)
          have ty13 : y13.toInt = (((((7919 * z) + (6151 * k)) + 1) : Nat) : Int) := l_add ey13 ty11 ty12 (by omega)
          refine lv_lstore (lv' := [(5, .long y13), (0, .ref (g.2.2.1 r)), (1, .int p0), (2, .int p1), (3, .int p2), (4, .int x4)]) hx hb dX9_day_66 hl (by decide) rfl (fun ls hl => ?_)
          refine lv_aload_n hx hb dX9_day_68 rfl (lv_at hl 1 rfl) ?_
          refine lv_lload hx hb dX9_day_69 (lv_at hl 0 rfl) ?_
          refine lv_lload hx hb dX9_day_71 (lv_at hl 0 rfl) ?_
          refine lv_lmul hx hb dX9_day_73 ?_
          refine lv_topl (fun y14 ey14 => ?_)
          have ty14 : y14.toInt = ((((((7919 * z) + (6151 * k)) + 1) * (((7919 * z) + (6151 * k)) + 1)) : Nat) : Int) := l_mul ey14 ty13 ty13 (by omega)
          refine lv_ldc2 (v := 65521) hx hb hown (hts (Cond.constantLong RX9 188 (65521)) (List.mem_of_getElem? (i := 4) (by decide +kernel))) dX9_day_74 ?_
          refine lv_topl (fun y15 ey15 => ?_)
          have ty15 : y15.toInt = ((65521 : Nat) : Int) := l_of (ey15.trans (by decide)) (by decide)
          refine lv_lrem hx hb dX9_day_77 (l_nz ty15 (by decide)) ?_
          refine lv_topl (fun y16 ey16 => ?_)
          have ty16 : y16.toInt = (((((((7919 * z) + (6151 * k)) + 1) * (((7919 * z) + (6151 * k)) + 1)) % 65521) : Nat) : Int) := l_rem ey16 ty14 ty15 (by decide)
          obtain ⟨y17, ey17⟩ : ∃ y_ : Int32, y16.toInt32 = y_ := ⟨_, rfl⟩
          refine lv_l2i (v := y17) hx hb dX9_day_78 ey17 ?_
          have ty17 : y17.toInt = (((((((7919 * z) + (6151 * k)) + 1) * (((7919 * z) + (6151 * k)) + 1)) % 65521) : Nat) : Int) := l_l2i ey17 ty16 (by omega)
          refine r_callV w (va_runV (As := [.int y17]) (rest := []) ⟨hx, hb, hml, hown, hts⟩ (c_X9_turns l D S hP y17 (d := dDraw z k) ty17) (cwV 1 hts gX9_day_X9_turns rfl rfl rfl (by decide +kernel) ⟨Nat.le_of_ble_eq_true rfl, Nat.le_of_ble_eq_true rfl⟩) (r_preV w (by have := D.1; omega) D.c0 rfl) rfl rfl hl.1 rfl (lv_room (Nat.le_of_ble_eq_true rfl)) dX9_day_79 ⟨Nat.zero_le _, Nat.zero_le _⟩) (fun h18 H locs hp w => ?_)
          obtain ⟨hfk19, gBk19, kk19, hNk19, D, S2k19⟩ := hp
          have hfr : ∀ k_, ¬ (r ≤ k_ ∧ k_ < r + 14) → h18 k_ = h k_ := fun k_ hk_ => (hfk19 k_ (by omega)).trans (hfr k_ hk_)
          obtain ⟨y20, ey20⟩ : ∃ y : Int32, y = x4 + (1) := ⟨_, rfl⟩
          have ty20 : y20.toInt = (((k + 1) : Nat) : Int) := i_addN ey20 hx4 (by decide : (1 : Int32).toInt = ((1 : Nat) : Int)) (by omega)
          refine lv_iinc (v := y20) (lv' := [(4, .int y20), (5, .long y13), (0, .ref (g.2.2.1 r)), (1, .int p0), (2, .int p1), (3, .int p2)]) hx hb dX9_day_82 hl (k := 5) rfl (by rw [ey20]; rfl) (by decide) rfl (fun ls hl => ?_)
          refine lv_goto (tgt := 44) hx hb dX9_day_85 (by decide) ?_
          exact ih44 z n wk (k + 1) (mSet Mk (dDraw z k % pN Mk) (dDraw z k / 8 % pL Mk (dDraw z k % pN Mk)) kk19) y20 gBk19 gs1 h18 _ _ _ w (lv_sub hl [2, 3, 4, 5, 0] rfl) hz0 hn0 hw0 hz9 hn9 hw9 (by omega) ty20 (⟨Mk, kk19, hdr, hNk19, rfl⟩) (hNk19.ok hP) S2k19 hsn D hfr (by omega)
      · intro z n wk Mk f x4 x5 gB1 gs1 gtA gnA gpA grA hc H locs ls w hl hz0 hn0 hw0 hz9 hn9 hw9 hf hx4 hx42 hx5 hdr hP S hsn hAll D hfr hN_
        have hn4k_ := hP.2.1
        obtain ⟨K0, hK0, hT0, hg0⟩ := hAll 0 (by omega)
        obtain ⟨K1, hK1, hT1, hg1⟩ := hAll 1 (by omega)
        obtain ⟨K2, hK2, hT2, hg2⟩ := hAll 2 (by omega)
        refine lv_iload hx hb dX9_day_103 (lv_at hl 5 rfl) ?_
        refine lv_aload_n hx hb dX9_day_105 rfl (lv_at hl 0 rfl) ?_
        refine r_get (C := RX9) (T := TX9) (N := 20) (ci := 7) hx hb hts inX9_day_X9 hown w (by have := D.1; omega) D.c0 rfl 0 (by decide) (hts (Cond.fieldLink RX9 49 "EarlyValuesModel" "many" "I") (List.mem_of_getElem? (i := 6) (by decide +kernel))) rfl rfl dX9_day_106 ?_
        refine lv_icmp_ge (tgt := 140) hx hb dX9_day_109 (by decide) (fun c21 => ?_) (fun c21 => ?_)
        · have c21 : (((pN Mk) : Nat) : Int) ≤ ((f : Nat) : Int) := (i_le S.1 hx5).mp c21
          refine lv_iload hx hb dX9_day_140 (lv_at hl 4 rfl) ?_
          refine lv_iload_n hx hb dX9_day_142 rfl (lv_at hl 3 rfl) ?_
          refine lv_iconst (v := 2) hx hb dX9_day_143 (by decide) ?_
          refine lv_icmp_ne (tgt := 154) hx hb dX9_day_144 (by decide) (fun c22 => ?_) (fun c22 => ?_)
          · have c22 : ¬ (((wk : Nat) : Int) = ((2 : Nat) : Int)) := fun q => c22 ((i_eq hw0 (by decide : (2 : Int32).toInt = ((2 : Nat) : Int))).mpr q)
            have h4v_ := hx4 (by omega)
            have hsm_ := sm_ub (f := dSt Mk wk) (c := 3) f (fun _ _ => pop_le _)
            refine lv_iconst (v := 0) hx hb dX9_day_154 (by decide) ?_
            refine lv_iadd hx hb dX9_day_155 ?_
            refine lv_topi (fun y23 ey23 => ?_)
            have ty23 : y23.toInt = x4.toInt + ((0 : Nat) : Int) := i_add ey23 (rfl : x4.toInt = x4.toInt) (by decide : (0 : Int32).toInt = ((0 : Nat) : Int)) (by omega)
            refine lv_istore (lv' := [(4, .int y23), (0, .ref (g.2.2.1 r)), (1, .int p0), (2, .int p1), (3, .int p2), (5, .int x5)]) hx hb dX9_day_156 hl (by decide) rfl (fun ls hl => ?_)
            refine lv_aload_n hx hb dX9_day_158 rfl (lv_at hl 1 rfl) ?_
            refine lv_aload_n hx hb dX9_day_159 rfl (lv_at hl 1 rfl) ?_
            refine r_get (C := RX9) (T := TX9) (N := 20) (ci := 7) hx hb hts inX9_day_X9 hown w (by have := D.1; omega) D.c0 rfl 14 (by decide) (hts (Cond.fieldLink RX9 40 "EarlyValuesModel" "aside" "[I") (List.mem_of_getElem? (i := 1) (by decide +kernel))) rfl rfl dX9_day_160 ?_
            refine lv_iconst (v := 0) hx hb dX9_day_163 (by decide) ?_
            refine r_callV w (va_runV (As := [.ref (g.2.2.1 (r + 11)), .int 0]) (rest := []) ⟨hx, hb, hml, hown, hts⟩ (c_X9_takes_gs l D 0 (by decide : (0 : Int32).toInt = ((0 : Nat) : Int)) (by omega)) (cwV 2 hts gX9_day_X9_takes rfl rfl rfl (by decide +kernel) ⟨Nat.le_of_ble_eq_true rfl, Nat.le_of_ble_eq_true rfl⟩) (r_preV w (by have := D.1; omega) D.c0 rfl) rfl rfl hl.1 rfl (lv_room (Nat.le_of_ble_eq_true rfl)) dX9_day_164 ⟨Nat.zero_le _, Nat.zero_le _⟩) (fun h24 H locs hp w => ?_)
            obtain ⟨hfk25, nmk25, gak25, gkk25, glk25, gBk25, D, snk25⟩ := hp
            have hfr : ∀ k_, ¬ (r ≤ k_ ∧ k_ < r + 14) → h24 k_ = h k_ := fun k_ hk_ => (hfk25 k_ (by omega)).trans (hfr k_ hk_)
            refine lv_iload hx hb dX9_day_167 (lv_at hl 0 rfl) ?_
            refine r_iret (v := y23) hx hb hr hlocks w dX9_day_169 ?_
            exact ⟨hfr, ⟨_, _, _, _, _, _, _, _, _, _, _, _, _, _, _, _, _, _, _, _, D, hSV0, (SnapE.rs hsn snk25 hP0 S0), (Or.inl rfl), hum, hUs, hsv, hVs, hsz, hgx⟩, Or.inl ⟨z, n, wk, Mk, hz0, hn0, hw0, hz9, hn9.1, hn9.2, hw9, hdr, Or.inl ⟨by omega, ty23.trans (by rw [h4v_, show f = pN Mk by omega]; omega)⟩⟩⟩
          · have c22 : ((wk : Nat) : Int) = ((2 : Nat) : Int) := (i_eq hw0 (by decide : (2 : Int32).toInt = ((2 : Nat) : Int))).mp c22
            have h4v_ := hx42 (by omega)
            have hva_ := sm_ub (f := fun f => sm (fun q => vRow Mk K0 f q) 125) (c := 125) (pN Mk) (fun j_ _ => by have := sm_ub (f := fun q => vRow Mk K0 j_ q) (c := 1) 125 (fun _ _ => vRow_le); omega)
            have hvb_ : vAll Mk K0 ≤ pN Mk * 125 := hva_
            refine lv_aload_n hx hb dX9_day_147 rfl (lv_at hl 0 rfl) ?_
            refine r_callI w (va_runV (As := []) (rest := [.int x4]) ⟨hx, hb, hml, hown, hts⟩ (c_X9_valueRows l D S hP hT0) (cwV 0 hts gX9_day_X9_valueRows rfl rfl rfl (by decide +kernel) ⟨Nat.le_of_ble_eq_true rfl, Nat.le_of_ble_eq_true rfl⟩) (r_preV w (by have := D.1; omega) D.c0 rfl) rfl rfl hl.1 rfl (lv_room (Nat.le_of_ble_eq_true rfl)) dX9_day_148 ⟨Nat.zero_le _, Nat.zero_le _⟩) (fun r27 h26 H locs hp w => ?_)
            obtain ⟨eh_, qq28⟩ := hp
            have eh_ := eh_.symm
            subst eh_
            refine lv_goto (tgt := 155) hx hb dX9_day_151 (by decide) ?_
            refine lv_iadd hx hb dX9_day_155 ?_
            refine lv_topi (fun y29 ey29 => ?_)
            have ty29 : y29.toInt = x4.toInt + (((vAll Mk K0) : Nat) : Int) := i_add ey29 (rfl : x4.toInt = x4.toInt) qq28 (by omega)
            refine lv_istore (lv' := [(4, .int y29), (0, .ref (g.2.2.1 r)), (1, .int p0), (2, .int p1), (3, .int p2), (5, .int x5)]) hx hb dX9_day_156 hl (by decide) rfl (fun ls hl => ?_)
            refine lv_aload_n hx hb dX9_day_158 rfl (lv_at hl 1 rfl) ?_
            refine lv_aload_n hx hb dX9_day_159 rfl (lv_at hl 1 rfl) ?_
            refine r_get (C := RX9) (T := TX9) (N := 20) (ci := 7) hx hb hts inX9_day_X9 hown w (by have := D.1; omega) D.c0 rfl 14 (by decide) (hts (Cond.fieldLink RX9 40 "EarlyValuesModel" "aside" "[I") (List.mem_of_getElem? (i := 1) (by decide +kernel))) rfl rfl dX9_day_160 ?_
            refine lv_iconst (v := 0) hx hb dX9_day_163 (by decide) ?_
            refine r_callV w (va_runV (As := [.ref (g.2.2.1 (r + 11)), .int 0]) (rest := []) ⟨hx, hb, hml, hown, hts⟩ (c_X9_takes_gs l D 0 (by decide : (0 : Int32).toInt = ((0 : Nat) : Int)) (by omega)) (cwV 2 hts gX9_day_X9_takes rfl rfl rfl (by decide +kernel) ⟨Nat.le_of_ble_eq_true rfl, Nat.le_of_ble_eq_true rfl⟩) (r_preV w (by have := D.1; omega) D.c0 rfl) rfl rfl hl.1 rfl (lv_room (Nat.le_of_ble_eq_true rfl)) dX9_day_164 ⟨Nat.zero_le _, Nat.zero_le _⟩) (fun h30 H locs hp w => ?_)
            obtain ⟨hfk31, nmk31, gak31, gkk31, glk31, gBk31, D, snk31⟩ := hp
            have hfr : ∀ k_, ¬ (r ≤ k_ ∧ k_ < r + 14) → h30 k_ = h k_ := fun k_ hk_ => (hfk31 k_ (by omega)).trans (hfr k_ hk_)
            refine lv_iload hx hb dX9_day_167 (lv_at hl 0 rfl) ?_
            refine r_iret (v := y29) hx hb hr hlocks w dX9_day_169 ?_
            exact ⟨hfr, ⟨_, _, _, _, _, _, _, _, _, _, _, _, _, _, _, _, _, _, _, _, D, hSV0, (SnapE.rs hsn snk31 hP0 S0), (Or.inl rfl), hum, hUs, hsv, hVs, hsz, hgx⟩, Or.inl ⟨z, n, wk, Mk, hz0, hn0, hw0, hz9, hn9.1, hn9.2, hw9, hdr, Or.inr ⟨by omega, K0, hK0, ty29.trans (by omega)⟩⟩⟩
        · have c21 : ¬ ((((pN Mk) : Nat) : Int) ≤ ((f : Nat) : Int)) := fun q => c21 ((i_le S.1 hx5).mpr q)
          refine lv_iload_n hx hb dX9_day_112 rfl (lv_at hl 3 rfl) ?_
          refine lv_iconst (v := 2) hx hb dX9_day_113 (by decide) ?_
          refine lv_icmp_ge (tgt := 140) hx hb dX9_day_114 (by decide) (fun c32 => ?_) (fun c32 => ?_)
          · have c32 : ((2 : Nat) : Int) ≤ ((wk : Nat) : Int) := (i_le (by decide : (2 : Int32).toInt = ((2 : Nat) : Int)) hw0).mp c32
            refine lv_iload hx hb dX9_day_140 (lv_at hl 4 rfl) ?_
            refine lv_iload_n hx hb dX9_day_142 rfl (lv_at hl 3 rfl) ?_
            refine lv_iconst (v := 2) hx hb dX9_day_143 (by decide) ?_
            refine lv_icmp_ne (tgt := 154) hx hb dX9_day_144 (by decide) (fun c33 => ?_) (fun c33 => ?_)
            · have c33 : ¬ (((wk : Nat) : Int) = ((2 : Nat) : Int)) := fun q => c33 ((i_eq hw0 (by decide : (2 : Int32).toInt = ((2 : Nat) : Int))).mpr q)
              have h4v_ := hx4 (by omega)
              have hsm_ := sm_ub (f := dSt Mk wk) (c := 3) f (fun _ _ => pop_le _)
              refine lv_iconst (v := 0) hx hb dX9_day_154 (by decide) ?_
              refine lv_iadd hx hb dX9_day_155 ?_
              refine lv_topi (fun y34 ey34 => ?_)
              have ty34 : y34.toInt = x4.toInt + ((0 : Nat) : Int) := i_add ey34 (rfl : x4.toInt = x4.toInt) (by decide : (0 : Int32).toInt = ((0 : Nat) : Int)) (by omega)
              refine lv_istore (lv' := [(4, .int y34), (0, .ref (g.2.2.1 r)), (1, .int p0), (2, .int p1), (3, .int p2), (5, .int x5)]) hx hb dX9_day_156 hl (by decide) rfl (fun ls hl => ?_)
              refine lv_aload_n hx hb dX9_day_158 rfl (lv_at hl 1 rfl) ?_
              refine lv_aload_n hx hb dX9_day_159 rfl (lv_at hl 1 rfl) ?_
              refine r_get (C := RX9) (T := TX9) (N := 20) (ci := 7) hx hb hts inX9_day_X9 hown w (by have := D.1; omega) D.c0 rfl 14 (by decide) (hts (Cond.fieldLink RX9 40 "EarlyValuesModel" "aside" "[I") (List.mem_of_getElem? (i := 1) (by decide +kernel))) rfl rfl dX9_day_160 ?_
              refine lv_iconst (v := 0) hx hb dX9_day_163 (by decide) ?_
              refine r_callV w (va_runV (As := [.ref (g.2.2.1 (r + 11)), .int 0]) (rest := []) ⟨hx, hb, hml, hown, hts⟩ (c_X9_takes_gs l D 0 (by decide : (0 : Int32).toInt = ((0 : Nat) : Int)) (by omega)) (cwV 2 hts gX9_day_X9_takes rfl rfl rfl (by decide +kernel) ⟨Nat.le_of_ble_eq_true rfl, Nat.le_of_ble_eq_true rfl⟩) (r_preV w (by have := D.1; omega) D.c0 rfl) rfl rfl hl.1 rfl (lv_room (Nat.le_of_ble_eq_true rfl)) dX9_day_164 ⟨Nat.zero_le _, Nat.zero_le _⟩) (fun h35 H locs hp w => ?_)
              obtain ⟨hfk36, nmk36, gak36, gkk36, glk36, gBk36, D, snk36⟩ := hp
              have hfr : ∀ k_, ¬ (r ≤ k_ ∧ k_ < r + 14) → h35 k_ = h k_ := fun k_ hk_ => (hfk36 k_ (by omega)).trans (hfr k_ hk_)
              refine lv_iload hx hb dX9_day_167 (lv_at hl 0 rfl) ?_
              refine r_iret (v := y34) hx hb hr hlocks w dX9_day_169 ?_
              exact ⟨hfr, ⟨_, _, _, _, _, _, _, _, _, _, _, _, _, _, _, _, _, _, _, _, D, hSV0, (SnapE.rs hsn snk36 hP0 S0), (Or.inl rfl), hum, hUs, hsv, hVs, hsz, hgx⟩, Or.inl ⟨z, n, wk, Mk, hz0, hn0, hw0, hz9, hn9.1, hn9.2, hw9, hdr, Or.inl ⟨by omega, ty34.trans (by rw [h4v_, show f = pN Mk by omega]; omega)⟩⟩⟩
            · have c33 : ((wk : Nat) : Int) = ((2 : Nat) : Int) := (i_eq hw0 (by decide : (2 : Int32).toInt = ((2 : Nat) : Int))).mp c33
              have h4v_ := hx42 (by omega)
              have hva_ := sm_ub (f := fun f => sm (fun q => vRow Mk K0 f q) 125) (c := 125) (pN Mk) (fun j_ _ => by have := sm_ub (f := fun q => vRow Mk K0 j_ q) (c := 1) 125 (fun _ _ => vRow_le); omega)
              have hvb_ : vAll Mk K0 ≤ pN Mk * 125 := hva_
              refine lv_aload_n hx hb dX9_day_147 rfl (lv_at hl 0 rfl) ?_
              refine r_callI w (va_runV (As := []) (rest := [.int x4]) ⟨hx, hb, hml, hown, hts⟩ (c_X9_valueRows l D S hP hT0) (cwV 0 hts gX9_day_X9_valueRows rfl rfl rfl (by decide +kernel) ⟨Nat.le_of_ble_eq_true rfl, Nat.le_of_ble_eq_true rfl⟩) (r_preV w (by have := D.1; omega) D.c0 rfl) rfl rfl hl.1 rfl (lv_room (Nat.le_of_ble_eq_true rfl)) dX9_day_148 ⟨Nat.zero_le _, Nat.zero_le _⟩) (fun r38 h37 H locs hp w => ?_)
              obtain ⟨eh_, qq39⟩ := hp
              have eh_ := eh_.symm
              subst eh_
              refine lv_goto (tgt := 155) hx hb dX9_day_151 (by decide) ?_
              refine lv_iadd hx hb dX9_day_155 ?_
              refine lv_topi (fun y40 ey40 => ?_)
              have ty40 : y40.toInt = x4.toInt + (((vAll Mk K0) : Nat) : Int) := i_add ey40 (rfl : x4.toInt = x4.toInt) qq39 (by omega)
              refine lv_istore (lv' := [(4, .int y40), (0, .ref (g.2.2.1 r)), (1, .int p0), (2, .int p1), (3, .int p2), (5, .int x5)]) hx hb dX9_day_156 hl (by decide) rfl (fun ls hl => ?_)
              refine lv_aload_n hx hb dX9_day_158 rfl (lv_at hl 1 rfl) ?_
              refine lv_aload_n hx hb dX9_day_159 rfl (lv_at hl 1 rfl) ?_
              refine r_get (C := RX9) (T := TX9) (N := 20) (ci := 7) hx hb hts inX9_day_X9 hown w (by have := D.1; omega) D.c0 rfl 14 (by decide) (hts (Cond.fieldLink RX9 40 "EarlyValuesModel" "aside" "[I") (List.mem_of_getElem? (i := 1) (by decide +kernel))) rfl rfl dX9_day_160 ?_
              refine lv_iconst (v := 0) hx hb dX9_day_163 (by decide) ?_
              refine r_callV w (va_runV (As := [.ref (g.2.2.1 (r + 11)), .int 0]) (rest := []) ⟨hx, hb, hml, hown, hts⟩ (c_X9_takes_gs l D 0 (by decide : (0 : Int32).toInt = ((0 : Nat) : Int)) (by omega)) (cwV 2 hts gX9_day_X9_takes rfl rfl rfl (by decide +kernel) ⟨Nat.le_of_ble_eq_true rfl, Nat.le_of_ble_eq_true rfl⟩) (r_preV w (by have := D.1; omega) D.c0 rfl) rfl rfl hl.1 rfl (lv_room (Nat.le_of_ble_eq_true rfl)) dX9_day_164 ⟨Nat.zero_le _, Nat.zero_le _⟩) (fun h41 H locs hp w => ?_)
              obtain ⟨hfk42, nmk42, gak42, gkk42, glk42, gBk42, D, snk42⟩ := hp
              have hfr : ∀ k_, ¬ (r ≤ k_ ∧ k_ < r + 14) → h41 k_ = h k_ := fun k_ hk_ => (hfk42 k_ (by omega)).trans (hfr k_ hk_)
              refine lv_iload hx hb dX9_day_167 (lv_at hl 0 rfl) ?_
              refine r_iret (v := y40) hx hb hr hlocks w dX9_day_169 ?_
              exact ⟨hfr, ⟨_, _, _, _, _, _, _, _, _, _, _, _, _, _, _, _, _, _, _, _, D, hSV0, (SnapE.rs hsn snk42 hP0 S0), (Or.inl rfl), hum, hUs, hsv, hVs, hsz, hgx⟩, Or.inl ⟨z, n, wk, Mk, hz0, hn0, hw0, hz9, hn9.1, hn9.2, hw9, hdr, Or.inr ⟨by omega, K0, hK0, ty40.trans (by omega)⟩⟩⟩
          · have c32 : ¬ (((2 : Nat) : Int) ≤ ((wk : Nat) : Int)) := fun q => c32 ((i_le (by decide : (2 : Int32).toInt = ((2 : Nat) : Int)) hw0).mpr q)
            have hsm_ := sm_ub (f := dSt Mk wk) (c := 3) f (fun _ _ => pop_le _)
            refine lv_iload hx hb dX9_day_117 (lv_at hl 4 rfl) ?_
            refine lv_aload_n hx hb dX9_day_119 rfl (lv_at hl 0 rfl) ?_
            refine lv_iload hx hb dX9_day_120 (lv_at hl 5 rfl) ?_
            refine lv_iload_n hx hb dX9_day_122 rfl (lv_at hl 3 rfl) ?_
            refine lv_iconst (v := 1) hx hb dX9_day_123 (by decide) ?_
            refine lv_iadd hx hb dX9_day_124 ?_
            refine lv_topi (fun y43 ey43 => ?_)
            have ty43 : y43.toInt = (((wk + 1) : Nat) : Int) := i_addN ey43 hw0 (by decide : (1 : Int32).toInt = ((1 : Nat) : Int)) (by omega)
            refine r_callI w (va_runV (As := [.int x5, .int y43]) (rest := [.int x4]) ⟨hx, hb, hml, hown, hts⟩ (c_X9_strictSet l D S hP hK0 hK1 hK2 hT0 hT1 hT2 x5 y43 hx5 ty43 (by omega) (by omega)) (cwV 2 hts gX9_day_X9_strictSet rfl rfl rfl (by decide +kernel) ⟨Nat.le_of_ble_eq_true rfl, Nat.le_of_ble_eq_true rfl⟩) (r_preV w (by have := D.1; omega) D.c0 rfl) rfl rfl hl.1 rfl (lv_room (Nat.le_of_ble_eq_true rfl)) dX9_day_125 ⟨Nat.zero_le _, Nat.zero_le _⟩) (fun r45 h44 H locs hp w => ?_)
            obtain ⟨eh_, qq46⟩ := hp
            have eh_ := eh_.symm
            subst eh_
            refine r_callI w (va_runS (As := [.int r45]) (rest := [.int x4]) ⟨hx, hb, hml, hown, hts⟩ (c_X9_bits l r45 qq46 (mB3_le (u := 0) _ _ (hP.2.2 f (by omega)).1)) (va_cwS 1 hts gX9_day_X9_bits rfl rfl rfl (by decide +kernel) ⟨Nat.le_of_ble_eq_true rfl, Nat.le_of_ble_eq_true rfl⟩) (r_preS w) rfl rfl hl.1 rfl (lv_room (Nat.le_of_ble_eq_true rfl)) dX9_day_128 ⟨Nat.zero_le _, Nat.zero_le _⟩) (fun r48 h47 H locs hp w => ?_)
            obtain ⟨eh_, qq49⟩ := hp
            have eh_ := eh_.symm
            subst eh_
            have hpo_ := pop_le (mBits (mStrictF (wU (wk + 1)) Mk f) (pA Mk f))
            refine lv_iadd hx hb dX9_day_131 ?_
            refine lv_topi (fun y50 ey50 => ?_)
            have ty50 : y50.toInt = ((((sm (dSt Mk wk) f) + (pop (mBits (mStrictF (wU ((wk + 1))) Mk f) (pA Mk f)))) : Nat) : Int) := i_addN ey50 (hx4 (by omega)) qq49 (by omega)
            refine lv_istore (lv' := [(4, .int y50), (0, .ref (g.2.2.1 r)), (1, .int p0), (2, .int p1), (3, .int p2), (5, .int x5)]) hx hb dX9_day_132 hl (by decide) rfl (fun ls hl => ?_)
            obtain ⟨y51, ey51⟩ : ∃ y : Int32, y = x5 + (1) := ⟨_, rfl⟩
            have ty51 : y51.toInt = (((f + 1) : Nat) : Int) := i_addN ey51 hx5 (by decide : (1 : Int32).toInt = ((1 : Nat) : Int)) (by omega)
            refine lv_iinc (v := y51) (lv' := [(5, .int y51), (4, .int y50), (0, .ref (g.2.2.1 r)), (1, .int p0), (2, .int p1), (3, .int p2)]) hx hb dX9_day_134 hl (k := 5) rfl (by rw [ey51]; rfl) (by decide) rfl (fun ls hl => ?_)
            refine lv_goto (tgt := 103) hx hb dX9_day_137 (by decide) ?_
            exact ih103 z n wk Mk (f + 1) y50 y51 gB1 gs1 gtA gnA gpA grA hc _ _ _ w (lv_sub hl [2, 3, 4, 5, 1, 0] rfl) hz0 hn0 hw0 hz9 hn9 hw9 (by omega) (fun _ => ty50.trans (by rw [sm_succ]; rfl)) (fun q_ => by omega) ty51 hdr hP S hsn hAll D hfr (by omega)
  have cut0 := cuts (60)
  obtain ⟨ih44, ih103⟩ := cut0
  refine lv_iload_n hx hb dX9_day_0 rfl (lv_at hl 1 rfl) ?_
  refine lv_iconst (v := 0) hx hb dX9_day_1 (by decide) ?_
  refine lv_sipush (v := 9999) hx hb dX9_day_2 (by decide) ?_
  refine r_callI w (va_runS (As := [.int p0, .int 0, .int 9999]) (rest := []) ⟨hx, hb, hml, hown, hts⟩ (c_X9_in l p0 0 9999) (va_cwS 3 hts gX9_day_X9_in rfl rfl rfl (by decide +kernel) ⟨Nat.le_of_ble_eq_true rfl, Nat.le_of_ble_eq_true rfl⟩) (r_preS w) rfl rfl hl.1 rfl (lv_room (Nat.le_of_ble_eq_true rfl)) dX9_day_5 ⟨Nat.zero_le _, Nat.zero_le _⟩) (fun r53 h52 H locs hp w => ?_)
  obtain ⟨eh_, qq54⟩ := hp
  have eh_ := eh_.symm
  subst eh_
  have b55 : Bq r53 (((0 : Nat) : Int) ≤ p0.toInt ∧ p0.toInt ≤ ((9999 : Nat) : Int)) := qq54.iff (by rw [((rfl : p0.toInt = p0.toInt) : (p0 : Int32).toInt = _), ((by decide : (0 : Int32).toInt = ((0 : Nat) : Int)) : (0 : Int32).toInt = _), ((by decide : (9999 : Int32).toInt = ((9999 : Nat) : Int)) : (9999 : Int32).toInt = _)])
  refine lv_if_eq (tgt := 30) hx hb dX9_day_8 (by decide) (fun c56 => ?_) (fun c56 => ?_)
  · have c56 := b55.eq c56
    refine lv_iconst (v := (-1)) hx hb dX9_day_30 (by decide) ?_
    refine r_iret (v := (-1)) hx hb hr hlocks w dX9_day_31 ?_
    exact ⟨hfr, ⟨_, _, _, _, _, _, _, _, _, _, _, _, _, _, _, _, _, _, _, _, D, hSV0, S, hkn, hum, hUs, hsv, hVs, hsz, hgx⟩, Or.inr ⟨by omega, rfl⟩⟩
  · have c56 := b55.ne c56
    obtain ⟨z, hz0⟩ : ∃ q_ : Nat, p0.toInt = (q_ : Int) := ⟨p0.toInt.toNat, by omega⟩
    refine lv_iload_n hx hb dX9_day_11 rfl (lv_at hl 2 rfl) ?_
    refine lv_iconst (v := 1) hx hb dX9_day_12 (by decide) ?_
    refine lv_bipush (v := 20) hx hb dX9_day_13 (by decide) ?_
    refine r_callI w (va_runS (As := [.int p1, .int 1, .int 20]) (rest := []) ⟨hx, hb, hml, hown, hts⟩ (c_X9_in l p1 1 20) (va_cwS 3 hts gX9_day_X9_in rfl rfl rfl (by decide +kernel) ⟨Nat.le_of_ble_eq_true rfl, Nat.le_of_ble_eq_true rfl⟩) (r_preS w) rfl rfl hl.1 rfl (lv_room (Nat.le_of_ble_eq_true rfl)) dX9_day_15 ⟨Nat.zero_le _, Nat.zero_le _⟩) (fun r58 h57 H locs hp w => ?_)
    obtain ⟨eh_, qq59⟩ := hp
    have eh_ := eh_.symm
    subst eh_
    have b60 : Bq r58 (((1 : Nat) : Int) ≤ p1.toInt ∧ p1.toInt ≤ ((20 : Nat) : Int)) := qq59.iff (by rw [((rfl : p1.toInt = p1.toInt) : (p1 : Int32).toInt = _), ((by decide : (1 : Int32).toInt = ((1 : Nat) : Int)) : (1 : Int32).toInt = _), ((by decide : (20 : Int32).toInt = ((20 : Nat) : Int)) : (20 : Int32).toInt = _)])
    refine lv_if_eq (tgt := 30) hx hb dX9_day_18 (by decide) (fun c61 => ?_) (fun c61 => ?_)
    · have c61 := b60.eq c61
      refine lv_iconst (v := (-1)) hx hb dX9_day_30 (by decide) ?_
      refine r_iret (v := (-1)) hx hb hr hlocks w dX9_day_31 ?_
      exact ⟨hfr, ⟨_, _, _, _, _, _, _, _, _, _, _, _, _, _, _, _, _, _, _, _, D, hSV0, S, hkn, hum, hUs, hsv, hVs, hsz, hgx⟩, Or.inr ⟨by omega, rfl⟩⟩
    · have c61 := b60.ne c61
      obtain ⟨n, hn0⟩ : ∃ q_ : Nat, p1.toInt = (q_ : Int) := ⟨p1.toInt.toNat, by omega⟩
      refine lv_iload_n hx hb dX9_day_21 rfl (lv_at hl 3 rfl) ?_
      refine lv_iconst (v := 0) hx hb dX9_day_22 (by decide) ?_
      refine lv_iconst (v := 2) hx hb dX9_day_23 (by decide) ?_
      refine r_callI w (va_runS (As := [.int p2, .int 0, .int 2]) (rest := []) ⟨hx, hb, hml, hown, hts⟩ (c_X9_in l p2 0 2) (va_cwS 3 hts gX9_day_X9_in rfl rfl rfl (by decide +kernel) ⟨Nat.le_of_ble_eq_true rfl, Nat.le_of_ble_eq_true rfl⟩) (r_preS w) rfl rfl hl.1 rfl (lv_room (Nat.le_of_ble_eq_true rfl)) dX9_day_24 ⟨Nat.zero_le _, Nat.zero_le _⟩) (fun r63 h62 H locs hp w => ?_)
      obtain ⟨eh_, qq64⟩ := hp
      have eh_ := eh_.symm
      subst eh_
      have b65 : Bq r63 (((0 : Nat) : Int) ≤ p2.toInt ∧ p2.toInt ≤ ((2 : Nat) : Int)) := qq64.iff (by rw [((rfl : p2.toInt = p2.toInt) : (p2 : Int32).toInt = _), ((by decide : (0 : Int32).toInt = ((0 : Nat) : Int)) : (0 : Int32).toInt = _), ((by decide : (2 : Int32).toInt = ((2 : Nat) : Int)) : (2 : Int32).toInt = _)])
      refine lv_if_ne (tgt := 32) hx hb dX9_day_27 (by decide) (fun c66 => ?_) (fun c66 => ?_)
      · have c66 := b65.ne c66
        obtain ⟨wk, hw0⟩ : ∃ q_ : Nat, p2.toInt = (q_ : Int) := ⟨p2.toInt.toNat, by omega⟩
        refine lv_aload_n hx hb dX9_day_32 rfl (lv_at hl 0 rfl) ?_
        refine lv_aload_n hx hb dX9_day_33 rfl (lv_at hl 0 rfl) ?_
        refine r_get (C := RX9) (T := TX9) (N := 20) (ci := 7) hx hb hts inX9_day_X9 hown w (by have := D.1; omega) D.c0 rfl 14 (by decide) (hts (Cond.fieldLink RX9 40 "EarlyValuesModel" "aside" "[I") (List.mem_of_getElem? (i := 1) (by decide +kernel))) rfl rfl dX9_day_34 ?_
        refine lv_iconst (v := 0) hx hb dX9_day_37 (by decide) ?_
        refine r_callV w (va_runV (As := [.ref (g.2.2.1 (r + 11)), .int 0]) (rest := []) ⟨hx, hb, hml, hown, hts⟩ (c_X9_lays_gs l D 0 (by decide : (0 : Int32).toInt = ((0 : Nat) : Int)) (by omega)) (cwV 2 hts gX9_day_X9_lays rfl rfl rfl (by decide +kernel) ⟨Nat.le_of_ble_eq_true rfl, Nat.le_of_ble_eq_true rfl⟩) (r_preV w (by have := D.1; omega) D.c0 rfl) rfl rfl hl.1 rfl (lv_room (Nat.le_of_ble_eq_true rfl)) dX9_day_38 ⟨Nat.zero_le _, Nat.zero_le _⟩) (fun h67 H locs hp w => ?_)
        obtain ⟨hfk68, gzk68, D, snk68, sok68⟩ := hp
        have hfr : ∀ k_, ¬ (r ≤ k_ ∧ k_ < r + 14) → h67 k_ = h k_ := fun k_ hk_ => (hfk68 k_ (by omega))
        refine lv_iconst (v := 0) hx hb dX9_day_41 (by decide) ?_
        refine lv_istore (lv' := [(4, .int 0), (0, .ref (g.2.2.1 r)), (1, .int p0), (2, .int p1), (3, .int p2)]) hx hb dX9_day_42 hl (by decide) rfl (fun ls hl => ?_)
        exact ih44 z n wk 0 ((sM st0)) 0 gB gzk68 h67 _ _ _ w (lv_sub hl [1, 2, 3, 4, 0] rfl) hz0 hn0 hw0 (by omega) (⟨by omega, by omega⟩) (by omega) (by omega) ((by decide : (0 : Int32).toInt = ((0 : Nat) : Int))) rfl hP S snk68 D hfr (by omega)
      · have c66 := b65.eq c66
        refine lv_iconst (v := (-1)) hx hb dX9_day_30 (by decide) ?_
        refine r_iret (v := (-1)) hx hb hr hlocks w dX9_day_31 ?_
        exact ⟨hfr, ⟨_, _, _, _, _, _, _, _, _, _, _, _, _, _, _, _, _, _, _, _, D, hSV0, S, hkn, hum, hUs, hsv, hVs, hsz, hgx⟩, Or.inr ⟨by omega, rfl⟩⟩

