/-- a snapshot of the functions at a -/
def SnapE (gz : Nat → Int32) (a : Nat) (nm : Int32) (ga gk gl gB : Nat → Int32) : Prop := gz a = nm ∧ (∀ j, j < 4 → gz (a + 1 + j) = ga j ∧ gz (a + 5 + j) = gk j ∧ gz (a + 9 + j) = gl j) ∧ ∀ k, k < 96 → gz (a + 13 + k) = gB k
theorem SnapE.rs {gz : Nat → Int32} {a : Nat} {nm nm' : Int32} {ga gk gl gB ga' gk' gl' gB' : Nat → Int32} {M : PRG} (h : SnapE gz a nm ga gk gl gB) (h' : SnapE gz a nm' ga' gk' gl' gB') (hP : PV M) (S : RS M nm ga gk gl gB) : RS M nm' ga' gk' gl' gB' := by
  have h4 := hP.2.1
  refine ⟨by rw [← h'.1, h.1]; exact S.1, fun i hi => ?_, fun i hi => ?_, fun i hi => ?_, fun i hi j hj => ?_⟩
  · rw [← (h'.2.1 i (by omega)).1, (h.2.1 i (by omega)).1]; exact S.2.1 i hi
  · rw [← (h'.2.1 i (by omega)).2.1, (h.2.1 i (by omega)).2.1]; exact S.2.2.1 i hi
  · rw [← (h'.2.1 i (by omega)).2.2, (h.2.1 i (by omega)).2.2]; exact S.2.2.2.1 i hi
  · have := (hP.2.2 i hi).2.2.2.1
    rw [← h'.2.2 _ (by omega), h.2.2 _ (by omega)]; exact S.2.2.2.2 i hi j hj
theorem SnapE.fr {gz gz' : Nat → Int32} {a : Nat} {nm : Int32} {ga gk gl gB : Nat → Int32} (h : SnapE gz a nm ga gk gl gB) (e : ∀ q, a ≤ q → q < a + 109 → gz' q = gz q) : SnapE gz' a nm ga gk gl gB :=
  ⟨by rw [e _ (by omega) (by omega)]; exact h.1, fun j hj => by rw [e _ (by omega) (by omega), e _ (by omega) (by omega), e _ (by omega) (by omega)]; exact h.2.1 j hj, fun k hk => by rw [e _ (by omega) (by omega)]; exact h.2.2 k hk⟩
def LyA (a i : Nat) (gz : Nat → Int32) (nm : Int32) (ga gk gl old : Nat → Int32) : Prop := gz a = nm ∧ (∀ j, j < i → gz (a + 1 + j) = ga j ∧ gz (a + 5 + j) = gk j ∧ gz (a + 9 + j) = gl j) ∧ ∀ q, (q < a ∨ a + 13 ≤ q) → gz q = old q
def LyB (a i : Nat) (gz : Nat → Int32) (nm : Int32) (ga gk gl gB old : Nat → Int32) : Prop := gz a = nm ∧ (∀ j, j < 4 → gz (a + 1 + j) = ga j ∧ gz (a + 5 + j) = gk j ∧ gz (a + 9 + j) = gl j) ∧ (∀ k, k < i → gz (a + 13 + k) = gB k) ∧ ∀ q, (q < a ∨ a + 109 ≤ q) → gz q = old q
theorem LyA.z {a : Nat} {gz old : Nat → Int32} {nm : Int32} {ga gk gl : Nat → Int32} (e : upd old a nm = gz) : LyA a 0 gz nm ga gk gl old := by
  subst e
  exact ⟨pk_us, fun j hj => absurd hj (Nat.not_lt_zero _), fun q hq => pk_un (by omega)⟩
theorem LyA.up {a i : Nat} {gz g1 g2 g3 old : Nat → Int32} {nm : Int32} {ga gk gl : Nat → Int32} (h : LyA a i gz nm ga gk gl old) (hi : i < 4) (e1 : upd gz (a + 1 + i) (ga i) = g1) (e2 : upd g1 (a + 5 + i) (gk i) = g2) (e3 : upd g2 (a + 9 + i) (gl i) = g3) : LyA a (i + 1) g3 nm ga gk gl old := by
  subst e1 e2 e3
  obtain ⟨h1, h2, h3⟩ := h
  refine ⟨by rw [pk_un (by omega), pk_un (by omega), pk_un (by omega)]; exact h1, fun j hj => ?_, fun q hq => by rw [pk_un (by omega), pk_un (by omega), pk_un (by omega)]; exact h3 q hq⟩
  by_cases e : j = i
  · subst e
    exact ⟨by rw [pk_un (by omega), pk_un (by omega), pk_us], by rw [pk_un (by omega), pk_us], pk_us⟩
  · obtain ⟨b1, b2, b3⟩ := h2 j (by omega)
    exact ⟨by rw [pk_un (by omega), pk_un (by omega), pk_un (by omega)]; exact b1, by rw [pk_un (by omega), pk_un (by omega), pk_un (by omega)]; exact b2, by rw [pk_un (by omega), pk_un (by omega), pk_un (by omega)]; exact b3⟩
theorem LyA.b {a : Nat} {gz old : Nat → Int32} {nm : Int32} {ga gk gl gB : Nat → Int32} (h : LyA a 4 gz nm ga gk gl old) : LyB a 0 gz nm ga gk gl gB old :=
  ⟨h.1, h.2.1, fun k hk => absurd hk (Nat.not_lt_zero _), fun q hq => h.2.2 q (by omega)⟩
theorem LyB.up {a i : Nat} {gz g1 old : Nat → Int32} {nm : Int32} {ga gk gl gB : Nat → Int32} (h : LyB a i gz nm ga gk gl gB old) (hi : i < 96) (e1 : upd gz (a + 13 + i) (gB i) = g1) : LyB a (i + 1) g1 nm ga gk gl gB old := by
  subst e1
  obtain ⟨h1, h2, h3, h4⟩ := h
  refine ⟨by rw [pk_un (by omega)]; exact h1, fun j hj => ?_, fun k hk => ?_, fun q hq => by rw [pk_un (by omega)]; exact h4 q hq⟩
  · obtain ⟨b1, b2, b3⟩ := h2 j hj
    exact ⟨by rw [pk_un (by omega)]; exact b1, by rw [pk_un (by omega)]; exact b2, by rw [pk_un (by omega)]; exact b3⟩
  · by_cases e : k = i
    · subst e; exact pk_us
    · rw [pk_un (by omega)]; exact h3 k (by omega)
/-- functions on their way back -/
def TkA (G : Nat → Int32) (a i : Nat) (ga gk gl : Nat → Int32) : Prop := ∀ j, j < i → G (a + 1 + j) = ga j ∧ G (a + 5 + j) = gk j ∧ G (a + 9 + j) = gl j
theorem TkA.up {G : Nat → Int32} {a i : Nat} {ga gk gl g1 g2 g3 : Nat → Int32} (h : TkA G a i ga gk gl) (e1 : upd ga i (G (a + 1 + i)) = g1) (e2 : upd gk i (G (a + 5 + i)) = g2) (e3 : upd gl i (G (a + 9 + i)) = g3) : TkA G a (i + 1) g1 g2 g3 := by
  subst e1 e2 e3
  intro j hj
  by_cases e : j = i
  · subst e; exact ⟨pk_us.symm, pk_us.symm, pk_us.symm⟩
  · obtain ⟨b1, b2, b3⟩ := h j (by omega)
    exact ⟨by rw [pk_un e]; exact b1, by rw [pk_un e]; exact b2, by rw [pk_un e]; exact b3⟩
theorem tkb_up {G gB g1 : Nat → Int32} {a i : Nat} (h : ∀ k, k < i → G (a + 13 + k) = gB k) (e : upd gB i (G (a + 13 + i)) = g1) : ∀ k, k < i + 1 → G (a + 13 + k) = g1 k := by
  subst e
  intro k hk
  by_cases z : k = i
  · subst z; exact pk_us.symm
  · rw [pk_un z]; exact h k (by omega)
/-- all three tables are known -/
def RAll (M : PRG) (gt gr : Nat → Int32) : Prop := ∀ u, u < 3 → ∃ K, IsK u M K ∧ RT u M gt (mTab u M K) ∧ (gr u).toInt = ((K : Nat) : Int)
theorem RT.fr {u : Nat} {M : PRG} {gt gt' : Nat → Int32} {T : Nat → Nat → Nat} (hP : PV M) (h : RT u M gt T) (e : ∀ q, 500 * u ≤ q → q < 500 * u + 500 → gt' q = gt q) : RT u M gt' T := by
  intro f row hf hr
  have h4 := hP.2.1
  rw [e _ (by omega) (by omega)]
  exact h f row hf hr
theorem fl_up {u i : Nat} {gt gt1 gz : Nat → Int32} {x : Int32} (h : ∀ q, (500 * u ≤ q ∧ q < 500 * u + i → (gt1 q).toInt = ((mN u : Nat) : Int)) ∧ (¬ (500 * u ≤ q ∧ q < 500 * u + i) → gt1 q = gt q)) (hx : x.toInt = ((mN u : Nat) : Int)) (e : upd gt1 (500 * u + i) x = gz) : ∀ q, (500 * u ≤ q ∧ q < 500 * u + (i + 1) → (gz q).toInt = ((mN u : Nat) : Int)) ∧ (¬ (500 * u ≤ q ∧ q < 500 * u + (i + 1)) → gz q = gt q) := by
  subst e
  intro q
  by_cases z : q = 500 * u + i
  · rw [z, pk_us]; exact ⟨fun _ => hx, fun y => absurd ⟨by omega, by omega⟩ y⟩
  · rw [pk_un z]; exact ⟨fun y => (h q).1 (by omega), fun y => (h q).2 (by omega)⟩
theorem fl_rt {u : Nat} {M : PRG} {gt gt1 : Nat → Int32} (hP : PV M) (h : ∀ q, (500 * u ≤ q ∧ q < 500 * u + 500 → (gt1 q).toInt = ((mN u : Nat) : Int)) ∧ (¬ (500 * u ≤ q ∧ q < 500 * u + 500) → gt1 q = gt q)) : RT u M gt1 (mTab u M 0) := by
  intro f row hf hr
  have h4 := hP.2.1
  have := (h (500 * u + 125 * f + row)).1 ⟨by omega, by omega⟩
  exact ⟨fun _ => this, fun _ => this⟩
theorem rall_3 {M : PRG} {gt1 gt2 gt3 gr1 gr2 gr3 : Nat → Int32} {K0 K1 K2 : Nat} (hP : PV M) (k0 : IsK 0 M K0) (k1 : IsK 1 M K1) (k2 : IsK 2 M K2) (r0 : RT 0 M gt1 (mTab 0 M K0)) (r1 : RT 1 M gt2 (mTab 1 M K1)) (r2 : RT 2 M gt3 (mTab 2 M K2)) (g0 : (gr1 0).toInt = ((K0 : Nat) : Int)) (g1 : (gr2 1).toInt = ((K1 : Nat) : Int)) (g2 : (gr3 2).toInt = ((K2 : Nat) : Int))
    (o1 : ∀ q, ¬ (500 * 1 ≤ q ∧ q < 500 * 1 + 500) → gt2 q = gt1 q) (o2 : ∀ q, ¬ (500 * 2 ≤ q ∧ q < 500 * 2 + 500) → gt3 q = gt2 q) (e1 : ∀ q, q ≠ 1 → gr2 q = gr1 q) (e2 : ∀ q, q ≠ 2 → gr3 q = gr2 q) : RAll M gt3 gr3 := by
  intro u hu
  rcases (show u = 0 ∨ u = 1 ∨ u = 2 by omega) with e | e | e <;> subst e
  · exact ⟨K0, k0, r0.fr hP (fun q a b => by rw [o2 q (by omega), o1 q (by omega)]), by rw [e2 0 (by omega), e1 0 (by omega)]; exact g0⟩
  · exact ⟨K1, k1, r1.fr hP (fun q a b => by rw [o2 q (by omega)]), by rw [e2 1 (by omega)]; exact g1⟩
  · exact ⟨K2, k2, r2, g2⟩
theorem inX9_lays_X9 : ∀ w ∈ wsX90, w ∈ wsX9_lays := by decide +kernel
abbrev rm_X9_lays : Room := { frames := 0, cells := 0, slots := 0, locals := 0 }
set_option maxHeartbeats 4000000 in
set_option maxRecDepth 100000 in
theorem c_X9_lays_gh (l : Launch) {g : GE} {h : Nat → va_E} {r : Nat} {nm kn um sv sz ra rm : Int32} {ga gk gl gB gt gn gr gp gh gv gs gx gf : Nat → Int32} (D : MdA g h r nm kn um sv sz ra rm ga gk gl gB gt gn gr gp gh gv gs gx gf) {a : Nat} (p1 : Int32) (hp1 : p1.toInt = (a : Int)) (hal : a + 109 ≤ 872) : MV l yX9_lays wsX9_lays rm_X9_lays [.ref (g.2.2.1 r), .ref (g.2.2.1 (r + 9)), .int p1] g h (fun h2 => (∀ k, ¬ (r ≤ k ∧ k < r + 14) → h2 k = h k) ∧ ∃ gz2 : Nat → Int32, MdA g h2 r nm kn um sv sz ra rm ga gk gl gB gt gn gr gp gz2 gv gs gx gf ∧ SnapE gz2 a nm ga gk gl gB ∧ ∀ q, (q < a ∨ a + 109 ≤ q) → gz2 q = gh q) := by
  refine Met.ofW (cc := cX9_lays) (maxL := 4) (ret := none) (by decide) rfl ?_
  intro p e s m args below meth c s₁ B hml hv
  obtain ⟨rfl, w0⟩ := hv
  have hx := B.exec
  have hb := B.bytes
  have hr := B.returns
  have hts := atoms_spec (ws := wsX9_lays) B.pre
  have hown : s.vm.findClass RX9 = some m.cls := findClass_of_methodNamed B.named
  have hlocks := B.notSynchronized
  have w := w0.start
  clear w0
  have hl := lv_entry ([.ref (g.2.2.1 r), .ref (g.2.2.1 (r + 9)), .int p1]) (n := 4) (Nat.le_of_ble_eq_true rfl)
  rw [lg_entry_eq]
  generalize (lg_sl ([.ref (g.2.2.1 r), .ref (g.2.2.1 (r + 9)), .int p1]) ++ List.replicate (4 - (lg_sl ([.ref (g.2.2.1 r), .ref (g.2.2.1 (r + 9)), .int p1])).length) Slot.unset).toArray = ls at hl ⊢
  have hl : lv_has ls 4 [(0, .ref (g.2.2.1 r)), (1, .ref (g.2.2.1 (r + 9))), (2, .int p1)] := hl
  have cuts : ∀ N : Nat, (∀ (i : Nat) (x3 : Int32) (gz1 : Nat → Int32) (hc : Nat → va_E) (H : Heap) (locs : List Loc) (ls : Array Slot), WD g (inW g) s hc H locs → lv_has ls 4 [(0, .ref (g.2.2.1 r)), (1, .ref (g.2.2.1 (r + 9))), (2, .int p1), (3, .int x3)] → (i ≤ 4) → (x3.toInt = ((i : Nat) : Int)) → (LyA a i gz1 nm ga gk gl gh) → (MdA g hc r nm kn um sv sz ra rm ga gk gl gB gt gn gr gp gz1 gv gs gx gf) → (∀ k, ¬ (r ≤ k ∧ k < r + 14) → hc k = h k) → 110 - i < N → W p l e (headSpec wsX9_lays rm_X9_lays).room s m ([.ref (g.2.2.1 r), .ref (g.2.2.1 (r + 9)), .int p1] : List Value).toArray below meth c H locs 0 0 (MQ below (va_Qv (fun h2 => (∀ k, ¬ (r ≤ k ∧ k < r + 14) → h2 k = h k) ∧ ∃ gz2 : Nat → Int32, MdA g h2 r nm kn um sv sz ra rm ga gk gl gB gt gn gr gp gz2 gv gs gx gf ∧ SnapE gz2 a nm ga gk gl gB ∧ ∀ q, (q < a ∨ a + 109 ≤ q) → gz2 q = gh q) (Wd g) (inW g)) ([.ref (g.2.2.1 r), .ref (g.2.2.1 (r + 9)), .int p1] : List Value).toArray s 0 0 (inW g)) (F0 m 9 ls [])) ∧ (∀ (i : Nat) (x3 : Int32) (gz1 : Nat → Int32) (hc : Nat → va_E) (H : Heap) (locs : List Loc) (ls : Array Slot), WD g (inW g) s hc H locs → lv_has ls 4 [(0, .ref (g.2.2.1 r)), (1, .ref (g.2.2.1 (r + 9))), (2, .int p1), (3, .int x3)] → (i ≤ 96) → (x3.toInt = ((i : Nat) : Int)) → (LyB a i gz1 nm ga gk gl gB gh) → (MdA g hc r nm kn um sv sz ra rm ga gk gl gB gt gn gr gp gz1 gv gs gx gf) → (∀ k, ¬ (r ≤ k ∧ k < r + 14) → hc k = h k) → 100 - i < N → W p l e (headSpec wsX9_lays rm_X9_lays).room s m ([.ref (g.2.2.1 r), .ref (g.2.2.1 (r + 9)), .int p1] : List Value).toArray below meth c H locs 0 0 (MQ below (va_Qv (fun h2 => (∀ k, ¬ (r ≤ k ∧ k < r + 14) → h2 k = h k) ∧ ∃ gz2 : Nat → Int32, MdA g h2 r nm kn um sv sz ra rm ga gk gl gB gt gn gr gp gz2 gv gs gx gf ∧ SnapE gz2 a nm ga gk gl gB ∧ ∀ q, (q < a ∨ a + 109 ≤ q) → gz2 q = gh q) (Wd g) (inW g)) ([.ref (g.2.2.1 r), .ref (g.2.2.1 (r + 9)), .int p1] : List Value).toArray s 0 0 (inW g)) (F0 m 62 ls [])) := by
    intro N
    induction N with
    | zero => exact ⟨by intros; omega, by intros; omega⟩
    | succ N ih =>
      obtain ⟨ih9, ih62⟩ := ih
      refine ⟨?_, ?_⟩
      · intro i x3 gz1 hc H locs ls w hl hi hx3 hly D hfr hN_
        refine lv_iload_n hx hb dX9_lays_9 rfl (lv_at hl 3 rfl) ?_
        refine lv_iconst (v := 4) hx hb dX9_lays_10 (by decide) ?_
        refine lv_icmp_ge (tgt := 60) hx hb dX9_lays_11 (by decide) (fun c1 => ?_) (fun c1 => ?_)
        · have c1 : ((4 : Nat) : Int) ≤ ((i : Nat) : Int) := (i_le (by decide : (4 : Int32).toInt = ((4 : Nat) : Int)) hx3).mp c1
          refine lv_iconst (v := 0) hx hb dX9_lays_60 (by decide) ?_
          refine lv_istore_n (lv' := [(3, .int 0), (0, .ref (g.2.2.1 r)), (1, .ref (g.2.2.1 (r + 9))), (2, .int p1)]) hx hb dX9_lays_61 rfl hl (by decide) rfl (fun ls hl => ?_)
          exact ih62 0 0 gz1 hc _ _ _ w (lv_sub hl [1, 2, 3, 0] rfl) (Nat.zero_le _) ((by decide : (0 : Int32).toInt = ((0 : Nat) : Int))) (LyA.b (by rw [show 4 = i by omega]; exact hly)) D hfr (by omega)
        · have c1 : ¬ (((4 : Nat) : Int) ≤ ((i : Nat) : Int)) := fun q => c1 ((i_le (by decide : (4 : Int32).toInt = ((4 : Nat) : Int)) hx3).mpr q)
          refine lv_aload_n hx hb dX9_lays_14 rfl (lv_at hl 1 rfl) ?_
          refine lv_iload_n hx hb dX9_lays_15 rfl (lv_at hl 2 rfl) ?_
          refine lv_iconst (v := 1) hx hb dX9_lays_16 (by decide) ?_
          refine lv_iadd hx hb dX9_lays_17 ?_
          refine lv_topi (fun y2 ey2 => ?_)
          have ty2 : y2.toInt = (((a + 1) : Nat) : Int) := i_addN ey2 hp1 (by decide : (1 : Int32).toInt = ((1 : Nat) : Int)) (by omega)
          refine lv_iload_n hx hb dX9_lays_18 rfl (lv_at hl 3 rfl) ?_
          refine lv_iadd hx hb dX9_lays_19 ?_
          refine lv_topi (fun y3 ey3 => ?_)
          have ty3 : y3.toInt = ((((a + 1) + i) : Nat) : Int) := i_addN ey3 ty2 hx3 (by omega)
          refine lv_aload_n hx hb dX9_lays_20 rfl (lv_at hl 0 rfl) ?_
          refine r_get (C := RX9) (T := TX9) (N := 20) (ci := 7) hx hb hts inX9_lays_X9 hown w (by have := D.1; omega) D.c0 rfl 1 (by decide) (hts (Cond.fieldLink RX9 7 "EarlyValuesModel" "argsOf" "[I") (List.mem_of_getElem? (i := 2) (by decide +kernel))) rfl rfl dX9_lays_21 ?_
          refine lv_iload_n hx hb dX9_lays_24 rfl (lv_at hl 3 rfl) ?_
          refine r_iald (j := i) hx hb w (by have := D.1; omega) D.c1 hx3 (by omega) dX9_lays_25 ?_
          refine r_iast (j := ((a + 1) + i)) hx hb w (by have := D.1; omega) D.c9 ty3 (by omega) dX9_lays_26 (fun h4 H locs eh4 w => ?_)
          have D := D.s9 eh4
          generalize egz5 : upd gz1 (((a + 1) + i)) (ga i) = gz5 at D
          have hfr : ∀ k_, ¬ (r ≤ k_ ∧ k_ < r + 14) → h4 k_ = h k_ := fun k_ hk_ => by rw [eh4, va_up_ne _ _ (by omega)]; exact hfr k_ hk_
          refine lv_aload_n hx hb dX9_lays_27 rfl (lv_at hl 1 rfl) ?_
          refine lv_iload_n hx hb dX9_lays_28 rfl (lv_at hl 2 rfl) ?_
          refine lv_iconst (v := 5) hx hb dX9_lays_29 (by decide) ?_
          refine lv_iadd hx hb dX9_lays_30 ?_
          refine lv_topi (fun y6 ey6 => ?_)
          have ty6 : y6.toInt = (((a + 5) : Nat) : Int) := i_addN ey6 hp1 (by decide : (5 : Int32).toInt = ((5 : Nat) : Int)) (by omega)
          refine lv_iload_n hx hb dX9_lays_31 rfl (lv_at hl 3 rfl) ?_
          refine lv_iadd hx hb dX9_lays_32 ?_
          refine lv_topi (fun y7 ey7 => ?_)
          have ty7 : y7.toInt = ((((a + 5) + i) : Nat) : Int) := i_addN ey7 ty6 hx3 (by omega)
          refine lv_aload_n hx hb dX9_lays_33 rfl (lv_at hl 0 rfl) ?_
          refine r_get (C := RX9) (T := TX9) (N := 20) (ci := 7) hx hb hts inX9_lays_X9 hown w (by have := D.1; omega) D.c0 rfl 2 (by decide) (hts (Cond.fieldLink RX9 13 "EarlyValuesModel" "kindOf" "[I") (List.mem_of_getElem? (i := 3) (by decide +kernel))) rfl rfl dX9_lays_34 ?_
          refine lv_iload_n hx hb dX9_lays_37 rfl (lv_at hl 3 rfl) ?_
          refine r_iald (j := i) hx hb w (by have := D.1; omega) D.c2 hx3 (by omega) dX9_lays_38 ?_
          refine r_iast (j := ((a + 5) + i)) hx hb w (by have := D.1; omega) D.c9 ty7 (by omega) dX9_lays_39 (fun h8 H locs eh8 w => ?_)
          have D := D.s9 eh8
          generalize egz9 : upd gz5 (((a + 5) + i)) (gk i) = gz9 at D
          have hfr : ∀ k_, ¬ (r ≤ k_ ∧ k_ < r + 14) → h8 k_ = h k_ := fun k_ hk_ => by rw [eh8, va_up_ne _ _ (by omega)]; exact hfr k_ hk_
          refine lv_aload_n hx hb dX9_lays_40 rfl (lv_at hl 1 rfl) ?_
          refine lv_iload_n hx hb dX9_lays_41 rfl (lv_at hl 2 rfl) ?_
          refine lv_bipush (v := 9) hx hb dX9_lays_42 (by decide) ?_
          refine lv_iadd hx hb dX9_lays_44 ?_
          refine lv_topi (fun y10 ey10 => ?_)
          have ty10 : y10.toInt = (((a + 9) : Nat) : Int) := i_addN ey10 hp1 (by decide : (9 : Int32).toInt = ((9 : Nat) : Int)) (by omega)
          refine lv_iload_n hx hb dX9_lays_45 rfl (lv_at hl 3 rfl) ?_
          refine lv_iadd hx hb dX9_lays_46 ?_
          refine lv_topi (fun y11 ey11 => ?_)
          have ty11 : y11.toInt = ((((a + 9) + i) : Nat) : Int) := i_addN ey11 ty10 hx3 (by omega)
          refine lv_aload_n hx hb dX9_lays_47 rfl (lv_at hl 0 rfl) ?_
          refine r_get (C := RX9) (T := TX9) (N := 20) (ci := 7) hx hb hts inX9_lays_X9 hown w (by have := D.1; omega) D.c0 rfl 3 (by decide) (hts (Cond.fieldLink RX9 16 "EarlyValuesModel" "longOf" "[I") (List.mem_of_getElem? (i := 4) (by decide +kernel))) rfl rfl dX9_lays_48 ?_
          refine lv_iload_n hx hb dX9_lays_51 rfl (lv_at hl 3 rfl) ?_
          refine r_iald (j := i) hx hb w (by have := D.1; omega) D.c3 hx3 (by omega) dX9_lays_52 ?_
          refine r_iast (j := ((a + 9) + i)) hx hb w (by have := D.1; omega) D.c9 ty11 (by omega) dX9_lays_53 (fun h12 H locs eh12 w => ?_)
          have D := D.s9 eh12
          generalize egz13 : upd gz9 (((a + 9) + i)) (gl i) = gz13 at D
          have hfr : ∀ k_, ¬ (r ≤ k_ ∧ k_ < r + 14) → h12 k_ = h k_ := fun k_ hk_ => by rw [eh12, va_up_ne _ _ (by omega)]; exact hfr k_ hk_
          obtain ⟨y14, ey14⟩ : ∃ y : Int32, y = x3 + (1) := ⟨_, rfl⟩
          have ty14 : y14.toInt = (((i + 1) : Nat) : Int) := i_addN ey14 hx3 (by decide : (1 : Int32).toInt = ((1 : Nat) : Int)) (by omega)
          refine lv_iinc (v := y14) (lv' := [(3, .int y14), (0, .ref (g.2.2.1 r)), (1, .ref (g.2.2.1 (r + 9))), (2, .int p1)]) hx hb dX9_lays_54 hl (k := 3) rfl (by rw [ey14]; rfl) (by decide) rfl (fun ls hl => ?_)
          refine lv_goto (tgt := 9) hx hb dX9_lays_57 (by decide) ?_
          exact ih9 (i + 1) y14 gz13 h12 _ _ _ w (lv_sub hl [1, 2, 3, 0] rfl) (by omega) ty14 (hly.up (by omega) egz5 egz9 egz13) D hfr (by omega)
      · intro i x3 gz1 hc H locs ls w hl hi hx3 hly D hfr hN_
        refine lv_iload_n hx hb dX9_lays_62 rfl (lv_at hl 3 rfl) ?_
        refine lv_bipush (v := 96) hx hb dX9_lays_63 (by decide) ?_
        refine lv_icmp_ge (tgt := 88) hx hb dX9_lays_65 (by decide) (fun c15 => ?_) (fun c15 => ?_)
        · have c15 : ((96 : Nat) : Int) ≤ ((i : Nat) : Int) := (i_le (by decide : (96 : Int32).toInt = ((96 : Nat) : Int)) hx3).mp c15
          refine r_vret hx hb hr hlocks w dX9_lays_88 ?_
          obtain ⟨b1, b2, b3, b4⟩ := hly
          exact ⟨hfr, _, D, ⟨b1, b2, fun k_ hk_ => b3 k_ (by omega)⟩, b4⟩
        · have c15 : ¬ (((96 : Nat) : Int) ≤ ((i : Nat) : Int)) := fun q => c15 ((i_le (by decide : (96 : Int32).toInt = ((96 : Nat) : Int)) hx3).mpr q)
          refine lv_aload_n hx hb dX9_lays_68 rfl (lv_at hl 1 rfl) ?_
          refine lv_iload_n hx hb dX9_lays_69 rfl (lv_at hl 2 rfl) ?_
          refine lv_bipush (v := 13) hx hb dX9_lays_70 (by decide) ?_
          refine lv_iadd hx hb dX9_lays_72 ?_
          refine lv_topi (fun y16 ey16 => ?_)
          have ty16 : y16.toInt = (((a + 13) : Nat) : Int) := i_addN ey16 hp1 (by decide : (13 : Int32).toInt = ((13 : Nat) : Int)) (by omega)
          refine lv_iload_n hx hb dX9_lays_73 rfl (lv_at hl 3 rfl) ?_
          refine lv_iadd hx hb dX9_lays_74 ?_
          refine lv_topi (fun y17 ey17 => ?_)
          have ty17 : y17.toInt = ((((a + 13) + i) : Nat) : Int) := i_addN ey17 ty16 hx3 (by omega)
          refine lv_aload_n hx hb dX9_lays_75 rfl (lv_at hl 0 rfl) ?_
          refine r_get (C := RX9) (T := TX9) (N := 20) (ci := 7) hx hb hts inX9_lays_X9 hown w (by have := D.1; omega) D.c0 rfl 4 (by decide) (hts (Cond.fieldLink RX9 19 "EarlyValuesModel" "body" "[I") (List.mem_of_getElem? (i := 5) (by decide +kernel))) rfl rfl dX9_lays_76 ?_
          refine lv_iload_n hx hb dX9_lays_79 rfl (lv_at hl 3 rfl) ?_
          refine r_iald (j := i) hx hb w (by have := D.1; omega) D.c4 hx3 (by omega) dX9_lays_80 ?_
          refine r_iast (j := ((a + 13) + i)) hx hb w (by have := D.1; omega) D.c9 ty17 (by omega) dX9_lays_81 (fun h18 H locs eh18 w => ?_)
          have D := D.s9 eh18
          generalize egz19 : upd gz1 (((a + 13) + i)) (gB i) = gz19 at D
          have hfr : ∀ k_, ¬ (r ≤ k_ ∧ k_ < r + 14) → h18 k_ = h k_ := fun k_ hk_ => by rw [eh18, va_up_ne _ _ (by omega)]; exact hfr k_ hk_
          obtain ⟨y20, ey20⟩ : ∃ y : Int32, y = x3 + (1) := ⟨_, rfl⟩
          have ty20 : y20.toInt = (((i + 1) : Nat) : Int) := i_addN ey20 hx3 (by decide : (1 : Int32).toInt = ((1 : Nat) : Int)) (by omega)
          refine lv_iinc (v := y20) (lv' := [(3, .int y20), (0, .ref (g.2.2.1 r)), (1, .ref (g.2.2.1 (r + 9))), (2, .int p1)]) hx hb dX9_lays_82 hl (k := 3) rfl (by rw [ey20]; rfl) (by decide) rfl (fun ls hl => ?_)
          refine lv_goto (tgt := 62) hx hb dX9_lays_85 (by decide) ?_
          exact ih62 (i + 1) y20 gz19 h18 _ _ _ w (lv_sub hl [1, 2, 3, 0] rfl) (by omega) ty20 (hly.up (by omega) egz19) D hfr (by omega)
  have cut0 := cuts (200)
  obtain ⟨ih9, ih62⟩ := cut0
  refine lv_aload_n hx hb dX9_lays_0 rfl (lv_at hl 1 rfl) ?_
  refine lv_iload_n hx hb dX9_lays_1 rfl (lv_at hl 2 rfl) ?_
  refine lv_aload_n hx hb dX9_lays_2 rfl (lv_at hl 0 rfl) ?_
  refine r_get (C := RX9) (T := TX9) (N := 20) (ci := 7) hx hb hts inX9_lays_X9 hown w (by have := D.1; omega) D.c0 rfl 0 (by decide) (hts (Cond.fieldLink RX9 49 "EarlyValuesModel" "many" "I") (List.mem_of_getElem? (i := 1) (by decide +kernel))) rfl rfl dX9_lays_3 ?_
  refine r_iast (j := a) hx hb w (by have := D.1; omega) D.c9 hp1 (by omega) dX9_lays_6 (fun h21 H locs eh21 w => ?_)
  have D := D.s9 eh21
  generalize egz22 : upd gh a nm = gz22 at D
  have hfr : ∀ k_, ¬ (r ≤ k_ ∧ k_ < r + 14) → h21 k_ = h k_ := fun k_ hk_ => by rw [eh21, va_up_ne _ _ (by omega)]
  refine lv_iconst (v := 0) hx hb dX9_lays_7 (by decide) ?_
  refine lv_istore_n (lv' := [(3, .int 0), (0, .ref (g.2.2.1 r)), (1, .ref (g.2.2.1 (r + 9))), (2, .int p1)]) hx hb dX9_lays_8 rfl hl (by decide) rfl (fun ls hl => ?_)
  exact ih9 0 0 gz22 h21 _ _ _ w (lv_sub hl [1, 2, 3, 0] rfl) (Nat.zero_le _) ((by decide : (0 : Int32).toInt = ((0 : Nat) : Int))) (LyA.z egz22) D hfr (by omega)

set_option maxHeartbeats 4000000 in
set_option maxRecDepth 100000 in
theorem c_X9_lays_gv (l : Launch) {g : GE} {h : Nat → va_E} {r : Nat} {nm kn um sv sz ra rm : Int32} {ga gk gl gB gt gn gr gp gh gv gs gx gf : Nat → Int32} (D : MdA g h r nm kn um sv sz ra rm ga gk gl gB gt gn gr gp gh gv gs gx gf) {a : Nat} (p1 : Int32) (hp1 : p1.toInt = (a : Int)) (hal : a + 109 ≤ 218) : MV l yX9_lays wsX9_lays rm_X9_lays [.ref (g.2.2.1 r), .ref (g.2.2.1 (r + 10)), .int p1] g h (fun h2 => (∀ k, ¬ (r ≤ k ∧ k < r + 14) → h2 k = h k) ∧ ∃ gz2 : Nat → Int32, MdA g h2 r nm kn um sv sz ra rm ga gk gl gB gt gn gr gp gh gz2 gs gx gf ∧ SnapE gz2 a nm ga gk gl gB ∧ ∀ q, (q < a ∨ a + 109 ≤ q) → gz2 q = gv q) := by
  refine Met.ofW (cc := cX9_lays) (maxL := 4) (ret := none) (by decide) rfl ?_
  intro p e s m args below meth c s₁ B hml hv
  obtain ⟨rfl, w0⟩ := hv
  have hx := B.exec
  have hb := B.bytes
  have hr := B.returns
  have hts := atoms_spec (ws := wsX9_lays) B.pre
  have hown : s.vm.findClass RX9 = some m.cls := findClass_of_methodNamed B.named
  have hlocks := B.notSynchronized
  have w := w0.start
  clear w0
  have hl := lv_entry ([.ref (g.2.2.1 r), .ref (g.2.2.1 (r + 10)), .int p1]) (n := 4) (Nat.le_of_ble_eq_true rfl)
  rw [lg_entry_eq]
  generalize (lg_sl ([.ref (g.2.2.1 r), .ref (g.2.2.1 (r + 10)), .int p1]) ++ List.replicate (4 - (lg_sl ([.ref (g.2.2.1 r), .ref (g.2.2.1 (r + 10)), .int p1])).length) Slot.unset).toArray = ls at hl ⊢
  have hl : lv_has ls 4 [(0, .ref (g.2.2.1 r)), (1, .ref (g.2.2.1 (r + 10))), (2, .int p1)] := hl
  have cuts : ∀ N : Nat, (∀ (i : Nat) (x3 : Int32) (gz1 : Nat → Int32) (hc : Nat → va_E) (H : Heap) (locs : List Loc) (ls : Array Slot), WD g (inW g) s hc H locs → lv_has ls 4 [(0, .ref (g.2.2.1 r)), (1, .ref (g.2.2.1 (r + 10))), (2, .int p1), (3, .int x3)] → (i ≤ 4) → (x3.toInt = ((i : Nat) : Int)) → (LyA a i gz1 nm ga gk gl gv) → (MdA g hc r nm kn um sv sz ra rm ga gk gl gB gt gn gr gp gh gz1 gs gx gf) → (∀ k, ¬ (r ≤ k ∧ k < r + 14) → hc k = h k) → 110 - i < N → W p l e (headSpec wsX9_lays rm_X9_lays).room s m ([.ref (g.2.2.1 r), .ref (g.2.2.1 (r + 10)), .int p1] : List Value).toArray below meth c H locs 0 0 (MQ below (va_Qv (fun h2 => (∀ k, ¬ (r ≤ k ∧ k < r + 14) → h2 k = h k) ∧ ∃ gz2 : Nat → Int32, MdA g h2 r nm kn um sv sz ra rm ga gk gl gB gt gn gr gp gh gz2 gs gx gf ∧ SnapE gz2 a nm ga gk gl gB ∧ ∀ q, (q < a ∨ a + 109 ≤ q) → gz2 q = gv q) (Wd g) (inW g)) ([.ref (g.2.2.1 r), .ref (g.2.2.1 (r + 10)), .int p1] : List Value).toArray s 0 0 (inW g)) (F0 m 9 ls [])) ∧ (∀ (i : Nat) (x3 : Int32) (gz1 : Nat → Int32) (hc : Nat → va_E) (H : Heap) (locs : List Loc) (ls : Array Slot), WD g (inW g) s hc H locs → lv_has ls 4 [(0, .ref (g.2.2.1 r)), (1, .ref (g.2.2.1 (r + 10))), (2, .int p1), (3, .int x3)] → (i ≤ 96) → (x3.toInt = ((i : Nat) : Int)) → (LyB a i gz1 nm ga gk gl gB gv) → (MdA g hc r nm kn um sv sz ra rm ga gk gl gB gt gn gr gp gh gz1 gs gx gf) → (∀ k, ¬ (r ≤ k ∧ k < r + 14) → hc k = h k) → 100 - i < N → W p l e (headSpec wsX9_lays rm_X9_lays).room s m ([.ref (g.2.2.1 r), .ref (g.2.2.1 (r + 10)), .int p1] : List Value).toArray below meth c H locs 0 0 (MQ below (va_Qv (fun h2 => (∀ k, ¬ (r ≤ k ∧ k < r + 14) → h2 k = h k) ∧ ∃ gz2 : Nat → Int32, MdA g h2 r nm kn um sv sz ra rm ga gk gl gB gt gn gr gp gh gz2 gs gx gf ∧ SnapE gz2 a nm ga gk gl gB ∧ ∀ q, (q < a ∨ a + 109 ≤ q) → gz2 q = gv q) (Wd g) (inW g)) ([.ref (g.2.2.1 r), .ref (g.2.2.1 (r + 10)), .int p1] : List Value).toArray s 0 0 (inW g)) (F0 m 62 ls [])) := by
    intro N
    induction N with
    | zero => exact ⟨by intros; omega, by intros; omega⟩
    | succ N ih =>
      obtain ⟨ih9, ih62⟩ := ih
      refine ⟨?_, ?_⟩
      · intro i x3 gz1 hc H locs ls w hl hi hx3 hly D hfr hN_
        refine lv_iload_n hx hb dX9_lays_9 rfl (lv_at hl 3 rfl) ?_
        refine lv_iconst (v := 4) hx hb dX9_lays_10 (by decide) ?_
        refine lv_icmp_ge (tgt := 60) hx hb dX9_lays_11 (by decide) (fun c1 => ?_) (fun c1 => ?_)
        · have c1 : ((4 : Nat) : Int) ≤ ((i : Nat) : Int) := (i_le (by decide : (4 : Int32).toInt = ((4 : Nat) : Int)) hx3).mp c1
          refine lv_iconst (v := 0) hx hb dX9_lays_60 (by decide) ?_
          refine lv_istore_n (lv' := [(3, .int 0), (0, .ref (g.2.2.1 r)), (1, .ref (g.2.2.1 (r + 10))), (2, .int p1)]) hx hb dX9_lays_61 rfl hl (by decide) rfl (fun ls hl => ?_)
          exact ih62 0 0 gz1 hc _ _ _ w (lv_sub hl [1, 2, 3, 0] rfl) (Nat.zero_le _) ((by decide : (0 : Int32).toInt = ((0 : Nat) : Int))) (LyA.b (by rw [show 4 = i by omega]; exact hly)) D hfr (by omega)
        · have c1 : ¬ (((4 : Nat) : Int) ≤ ((i : Nat) : Int)) := fun q => c1 ((i_le (by decide : (4 : Int32).toInt = ((4 : Nat) : Int)) hx3).mpr q)
          refine lv_aload_n hx hb dX9_lays_14 rfl (lv_at hl 1 rfl) ?_
          refine lv_iload_n hx hb dX9_lays_15 rfl (lv_at hl 2 rfl) ?_
          refine lv_iconst (v := 1) hx hb dX9_lays_16 (by decide) ?_
          refine lv_iadd hx hb dX9_lays_17 ?_
          refine lv_topi (fun y2 ey2 => ?_)
          have ty2 : y2.toInt = (((a + 1) : Nat) : Int) := i_addN ey2 hp1 (by decide : (1 : Int32).toInt = ((1 : Nat) : Int)) (by omega)
          refine lv_iload_n hx hb dX9_lays_18 rfl (lv_at hl 3 rfl) ?_
          refine lv_iadd hx hb dX9_lays_19 ?_
          refine lv_topi (fun y3 ey3 => ?_)
          have ty3 : y3.toInt = ((((a + 1) + i) : Nat) : Int) := i_addN ey3 ty2 hx3 (by omega)
          refine lv_aload_n hx hb dX9_lays_20 rfl (lv_at hl 0 rfl) ?_
          refine r_get (C := RX9) (T := TX9) (N := 20) (ci := 7) hx hb hts inX9_lays_X9 hown w (by have := D.1; omega) D.c0 rfl 1 (by decide) (hts (Cond.fieldLink RX9 7 "EarlyValuesModel" "argsOf" "[I") (List.mem_of_getElem? (i := 2) (by decide +kernel))) rfl rfl dX9_lays_21 ?_
          refine lv_iload_n hx hb dX9_lays_24 rfl (lv_at hl 3 rfl) ?_
          refine r_iald (j := i) hx hb w (by have := D.1; omega) D.c1 hx3 (by omega) dX9_lays_25 ?_
          refine r_iast (j := ((a + 1) + i)) hx hb w (by have := D.1; omega) D.c10 ty3 (by omega) dX9_lays_26 (fun h4 H locs eh4 w => ?_)
          have D := D.s10 eh4
          generalize egz5 : upd gz1 (((a + 1) + i)) (ga i) = gz5 at D
          have hfr : ∀ k_, ¬ (r ≤ k_ ∧ k_ < r + 14) → h4 k_ = h k_ := fun k_ hk_ => by rw [eh4, va_up_ne _ _ (by omega)]; exact hfr k_ hk_
          refine lv_aload_n hx hb dX9_lays_27 rfl (lv_at hl 1 rfl) ?_
          refine lv_iload_n hx hb dX9_lays_28 rfl (lv_at hl 2 rfl) ?_
          refine lv_iconst (v := 5) hx hb dX9_lays_29 (by decide) ?_
          refine lv_iadd hx hb dX9_lays_30 ?_
          refine lv_topi (fun y6 ey6 => ?_)
          have ty6 : y6.toInt = (((a + 5) : Nat) : Int) := i_addN ey6 hp1 (by decide : (5 : Int32).toInt = ((5 : Nat) : Int)) (by omega)
          refine lv_iload_n hx hb dX9_lays_31 rfl (lv_at hl 3 rfl) ?_
          refine lv_iadd hx hb dX9_lays_32 ?_
          refine lv_topi (fun y7 ey7 => ?_)
          have ty7 : y7.toInt = ((((a + 5) + i) : Nat) : Int) := i_addN ey7 ty6 hx3 (by omega)
          refine lv_aload_n hx hb dX9_lays_33 rfl (lv_at hl 0 rfl) ?_
          refine r_get (C := RX9) (T := TX9) (N := 20) (ci := 7) hx hb hts inX9_lays_X9 hown w (by have := D.1; omega) D.c0 rfl 2 (by decide) (hts (Cond.fieldLink RX9 13 "EarlyValuesModel" "kindOf" "[I") (List.mem_of_getElem? (i := 3) (by decide +kernel))) rfl rfl dX9_lays_34 ?_
          refine lv_iload_n hx hb dX9_lays_37 rfl (lv_at hl 3 rfl) ?_
          refine r_iald (j := i) hx hb w (by have := D.1; omega) D.c2 hx3 (by omega) dX9_lays_38 ?_
          refine r_iast (j := ((a + 5) + i)) hx hb w (by have := D.1; omega) D.c10 ty7 (by omega) dX9_lays_39 (fun h8 H locs eh8 w => ?_)
          have D := D.s10 eh8
          generalize egz9 : upd gz5 (((a + 5) + i)) (gk i) = gz9 at D
          have hfr : ∀ k_, ¬ (r ≤ k_ ∧ k_ < r + 14) → h8 k_ = h k_ := fun k_ hk_ => by rw [eh8, va_up_ne _ _ (by omega)]; exact hfr k_ hk_
          refine lv_aload_n hx hb dX9_lays_40 rfl (lv_at hl 1 rfl) ?_
          refine lv_iload_n hx hb dX9_lays_41 rfl (lv_at hl 2 rfl) ?_
          refine lv_bipush (v := 9) hx hb dX9_lays_42 (by decide) ?_
          refine lv_iadd hx hb dX9_lays_44 ?_
          refine lv_topi (fun y10 ey10 => ?_)
          have ty10 : y10.toInt = (((a + 9) : Nat) : Int) := i_addN ey10 hp1 (by decide : (9 : Int32).toInt = ((9 : Nat) : Int)) (by omega)
          refine lv_iload_n hx hb dX9_lays_45 rfl (lv_at hl 3 rfl) ?_
          refine lv_iadd hx hb dX9_lays_46 ?_
          refine lv_topi (fun y11 ey11 => ?_)
          have ty11 : y11.toInt = ((((a + 9) + i) : Nat) : Int) := i_addN ey11 ty10 hx3 (by omega)
          refine lv_aload_n hx hb dX9_lays_47 rfl (lv_at hl 0 rfl) ?_
          refine r_get (C := RX9) (T := TX9) (N := 20) (ci := 7) hx hb hts inX9_lays_X9 hown w (by have := D.1; omega) D.c0 rfl 3 (by decide) (hts (Cond.fieldLink RX9 16 "EarlyValuesModel" "longOf" "[I") (List.mem_of_getElem? (i := 4) (by decide +kernel))) rfl rfl dX9_lays_48 ?_
          refine lv_iload_n hx hb dX9_lays_51 rfl (lv_at hl 3 rfl) ?_
          refine r_iald (j := i) hx hb w (by have := D.1; omega) D.c3 hx3 (by omega) dX9_lays_52 ?_
          refine r_iast (j := ((a + 9) + i)) hx hb w (by have := D.1; omega) D.c10 ty11 (by omega) dX9_lays_53 (fun h12 H locs eh12 w => ?_)
          have D := D.s10 eh12
          generalize egz13 : upd gz9 (((a + 9) + i)) (gl i) = gz13 at D
          have hfr : ∀ k_, ¬ (r ≤ k_ ∧ k_ < r + 14) → h12 k_ = h k_ := fun k_ hk_ => by rw [eh12, va_up_ne _ _ (by omega)]; exact hfr k_ hk_
          obtain ⟨y14, ey14⟩ : ∃ y : Int32, y = x3 + (1) := ⟨_, rfl⟩
          have ty14 : y14.toInt = (((i + 1) : Nat) : Int) := i_addN ey14 hx3 (by decide : (1 : Int32).toInt = ((1 : Nat) : Int)) (by omega)
          refine lv_iinc (v := y14) (lv' := [(3, .int y14), (0, .ref (g.2.2.1 r)), (1, .ref (g.2.2.1 (r + 10))), (2, .int p1)]) hx hb dX9_lays_54 hl (k := 3) rfl (by rw [ey14]; rfl) (by decide) rfl (fun ls hl => ?_)
          refine lv_goto (tgt := 9) hx hb dX9_lays_57 (by decide) ?_
          exact ih9 (i + 1) y14 gz13 h12 _ _ _ w (lv_sub hl [1, 2, 3, 0] rfl) (by omega) ty14 (hly.up (by omega) egz5 egz9 egz13) D hfr (by omega)
      · intro i x3 gz1 hc H locs ls w hl hi hx3 hly D hfr hN_
        refine lv_iload_n hx hb dX9_lays_62 rfl (lv_at hl 3 rfl) ?_
        refine lv_bipush (v := 96) hx hb dX9_lays_63 (by decide) ?_
        refine lv_icmp_ge (tgt := 88) hx hb dX9_lays_65 (by decide) (fun c15 => ?_) (fun c15 => ?_)
        · have c15 : ((96 : Nat) : Int) ≤ ((i : Nat) : Int) := (i_le (by decide : (96 : Int32).toInt = ((96 : Nat) : Int)) hx3).mp c15
          refine r_vret hx hb hr hlocks w dX9_lays_88 ?_
          obtain ⟨b1, b2, b3, b4⟩ := hly
          exact ⟨hfr, _, D, ⟨b1, b2, fun k_ hk_ => b3 k_ (by omega)⟩, b4⟩
        · have c15 : ¬ (((96 : Nat) : Int) ≤ ((i : Nat) : Int)) := fun q => c15 ((i_le (by decide : (96 : Int32).toInt = ((96 : Nat) : Int)) hx3).mpr q)
          refine lv_aload_n hx hb dX9_lays_68 rfl (lv_at hl 1 rfl) ?_
          refine lv_iload_n hx hb dX9_lays_69 rfl (lv_at hl 2 rfl) ?_
          refine lv_bipush (v := 13) hx hb dX9_lays_70 (by decide) ?_
          refine lv_iadd hx hb dX9_lays_72 ?_
          refine lv_topi (fun y16 ey16 => ?_)
          have ty16 : y16.toInt = (((a + 13) : Nat) : Int) := i_addN ey16 hp1 (by decide : (13 : Int32).toInt = ((13 : Nat) : Int)) (by omega)
          refine lv_iload_n hx hb dX9_lays_73 rfl (lv_at hl 3 rfl) ?_
          refine lv_iadd hx hb dX9_lays_74 ?_
          refine lv_topi (fun y17 ey17 => ?_)
          have ty17 : y17.toInt = ((((a + 13) + i) : Nat) : Int) := i_addN ey17 ty16 hx3 (by omega)
          refine lv_aload_n hx hb dX9_lays_75 rfl (lv_at hl 0 rfl) ?_
          refine r_get (C := RX9) (T := TX9) (N := 20) (ci := 7) hx hb hts inX9_lays_X9 hown w (by have := D.1; omega) D.c0 rfl 4 (by decide) (hts (Cond.fieldLink RX9 19 "EarlyValuesModel" "body" "[I") (List.mem_of_getElem? (i := 5) (by decide +kernel))) rfl rfl dX9_lays_76 ?_
          refine lv_iload_n hx hb dX9_lays_79 rfl (lv_at hl 3 rfl) ?_
          refine r_iald (j := i) hx hb w (by have := D.1; omega) D.c4 hx3 (by omega) dX9_lays_80 ?_
          refine r_iast (j := ((a + 13) + i)) hx hb w (by have := D.1; omega) D.c10 ty17 (by omega) dX9_lays_81 (fun h18 H locs eh18 w => ?_)
          have D := D.s10 eh18
          generalize egz19 : upd gz1 (((a + 13) + i)) (gB i) = gz19 at D
          have hfr : ∀ k_, ¬ (r ≤ k_ ∧ k_ < r + 14) → h18 k_ = h k_ := fun k_ hk_ => by rw [eh18, va_up_ne _ _ (by omega)]; exact hfr k_ hk_
          obtain ⟨y20, ey20⟩ : ∃ y : Int32, y = x3 + (1) := ⟨_, rfl⟩
          have ty20 : y20.toInt = (((i + 1) : Nat) : Int) := i_addN ey20 hx3 (by decide : (1 : Int32).toInt = ((1 : Nat) : Int)) (by omega)
          refine lv_iinc (v := y20) (lv' := [(3, .int y20), (0, .ref (g.2.2.1 r)), (1, .ref (g.2.2.1 (r + 10))), (2, .int p1)]) hx hb dX9_lays_82 hl (k := 3) rfl (by rw [ey20]; rfl) (by decide) rfl (fun ls hl => ?_)
          refine lv_goto (tgt := 62) hx hb dX9_lays_85 (by decide) ?_
          exact ih62 (i + 1) y20 gz19 h18 _ _ _ w (lv_sub hl [1, 2, 3, 0] rfl) (by omega) ty20 (hly.up (by omega) egz19) D hfr (by omega)
  have cut0 := cuts (200)
  obtain ⟨ih9, ih62⟩ := cut0
  refine lv_aload_n hx hb dX9_lays_0 rfl (lv_at hl 1 rfl) ?_
  refine lv_iload_n hx hb dX9_lays_1 rfl (lv_at hl 2 rfl) ?_
  refine lv_aload_n hx hb dX9_lays_2 rfl (lv_at hl 0 rfl) ?_
  refine r_get (C := RX9) (T := TX9) (N := 20) (ci := 7) hx hb hts inX9_lays_X9 hown w (by have := D.1; omega) D.c0 rfl 0 (by decide) (hts (Cond.fieldLink RX9 49 "EarlyValuesModel" "many" "I") (List.mem_of_getElem? (i := 1) (by decide +kernel))) rfl rfl dX9_lays_3 ?_
  refine r_iast (j := a) hx hb w (by have := D.1; omega) D.c10 hp1 (by omega) dX9_lays_6 (fun h21 H locs eh21 w => ?_)
  have D := D.s10 eh21
  generalize egz22 : upd gv a nm = gz22 at D
  have hfr : ∀ k_, ¬ (r ≤ k_ ∧ k_ < r + 14) → h21 k_ = h k_ := fun k_ hk_ => by rw [eh21, va_up_ne _ _ (by omega)]
  refine lv_iconst (v := 0) hx hb dX9_lays_7 (by decide) ?_
  refine lv_istore_n (lv' := [(3, .int 0), (0, .ref (g.2.2.1 r)), (1, .ref (g.2.2.1 (r + 10))), (2, .int p1)]) hx hb dX9_lays_8 rfl hl (by decide) rfl (fun ls hl => ?_)
  exact ih9 0 0 gz22 h21 _ _ _ w (lv_sub hl [1, 2, 3, 0] rfl) (Nat.zero_le _) ((by decide : (0 : Int32).toInt = ((0 : Nat) : Int))) (LyA.z egz22) D hfr (by omega)

set_option maxHeartbeats 4000000 in
set_option maxRecDepth 100000 in
theorem c_X9_lays_gs (l : Launch) {g : GE} {h : Nat → va_E} {r : Nat} {nm kn um sv sz ra rm : Int32} {ga gk gl gB gt gn gr gp gh gv gs gx gf : Nat → Int32} (D : MdA g h r nm kn um sv sz ra rm ga gk gl gB gt gn gr gp gh gv gs gx gf) {a : Nat} (p1 : Int32) (hp1 : p1.toInt = (a : Int)) (hal : a + 109 ≤ 109) : MV l yX9_lays wsX9_lays rm_X9_lays [.ref (g.2.2.1 r), .ref (g.2.2.1 (r + 11)), .int p1] g h (fun h2 => (∀ k, ¬ (r ≤ k ∧ k < r + 14) → h2 k = h k) ∧ ∃ gz2 : Nat → Int32, MdA g h2 r nm kn um sv sz ra rm ga gk gl gB gt gn gr gp gh gv gz2 gx gf ∧ SnapE gz2 a nm ga gk gl gB ∧ ∀ q, (q < a ∨ a + 109 ≤ q) → gz2 q = gs q) := by
  refine Met.ofW (cc := cX9_lays) (maxL := 4) (ret := none) (by decide) rfl ?_
  intro p e s m args below meth c s₁ B hml hv
  obtain ⟨rfl, w0⟩ := hv
  have hx := B.exec
  have hb := B.bytes
  have hr := B.returns
  have hts := atoms_spec (ws := wsX9_lays) B.pre
  have hown : s.vm.findClass RX9 = some m.cls := findClass_of_methodNamed B.named
  have hlocks := B.notSynchronized
  have w := w0.start
  clear w0
  have hl := lv_entry ([.ref (g.2.2.1 r), .ref (g.2.2.1 (r + 11)), .int p1]) (n := 4) (Nat.le_of_ble_eq_true rfl)
  rw [lg_entry_eq]
  generalize (lg_sl ([.ref (g.2.2.1 r), .ref (g.2.2.1 (r + 11)), .int p1]) ++ List.replicate (4 - (lg_sl ([.ref (g.2.2.1 r), .ref (g.2.2.1 (r + 11)), .int p1])).length) Slot.unset).toArray = ls at hl ⊢
  have hl : lv_has ls 4 [(0, .ref (g.2.2.1 r)), (1, .ref (g.2.2.1 (r + 11))), (2, .int p1)] := hl
  have cuts : ∀ N : Nat, (∀ (i : Nat) (x3 : Int32) (gz1 : Nat → Int32) (hc : Nat → va_E) (H : Heap) (locs : List Loc) (ls : Array Slot), WD g (inW g) s hc H locs → lv_has ls 4 [(0, .ref (g.2.2.1 r)), (1, .ref (g.2.2.1 (r + 11))), (2, .int p1), (3, .int x3)] → (i ≤ 4) → (x3.toInt = ((i : Nat) : Int)) → (LyA a i gz1 nm ga gk gl gs) → (MdA g hc r nm kn um sv sz ra rm ga gk gl gB gt gn gr gp gh gv gz1 gx gf) → (∀ k, ¬ (r ≤ k ∧ k < r + 14) → hc k = h k) → 110 - i < N → W p l e (headSpec wsX9_lays rm_X9_lays).room s m ([.ref (g.2.2.1 r), .ref (g.2.2.1 (r + 11)), .int p1] : List Value).toArray below meth c H locs 0 0 (MQ below (va_Qv (fun h2 => (∀ k, ¬ (r ≤ k ∧ k < r + 14) → h2 k = h k) ∧ ∃ gz2 : Nat → Int32, MdA g h2 r nm kn um sv sz ra rm ga gk gl gB gt gn gr gp gh gv gz2 gx gf ∧ SnapE gz2 a nm ga gk gl gB ∧ ∀ q, (q < a ∨ a + 109 ≤ q) → gz2 q = gs q) (Wd g) (inW g)) ([.ref (g.2.2.1 r), .ref (g.2.2.1 (r + 11)), .int p1] : List Value).toArray s 0 0 (inW g)) (F0 m 9 ls [])) ∧ (∀ (i : Nat) (x3 : Int32) (gz1 : Nat → Int32) (hc : Nat → va_E) (H : Heap) (locs : List Loc) (ls : Array Slot), WD g (inW g) s hc H locs → lv_has ls 4 [(0, .ref (g.2.2.1 r)), (1, .ref (g.2.2.1 (r + 11))), (2, .int p1), (3, .int x3)] → (i ≤ 96) → (x3.toInt = ((i : Nat) : Int)) → (LyB a i gz1 nm ga gk gl gB gs) → (MdA g hc r nm kn um sv sz ra rm ga gk gl gB gt gn gr gp gh gv gz1 gx gf) → (∀ k, ¬ (r ≤ k ∧ k < r + 14) → hc k = h k) → 100 - i < N → W p l e (headSpec wsX9_lays rm_X9_lays).room s m ([.ref (g.2.2.1 r), .ref (g.2.2.1 (r + 11)), .int p1] : List Value).toArray below meth c H locs 0 0 (MQ below (va_Qv (fun h2 => (∀ k, ¬ (r ≤ k ∧ k < r + 14) → h2 k = h k) ∧ ∃ gz2 : Nat → Int32, MdA g h2 r nm kn um sv sz ra rm ga gk gl gB gt gn gr gp gh gv gz2 gx gf ∧ SnapE gz2 a nm ga gk gl gB ∧ ∀ q, (q < a ∨ a + 109 ≤ q) → gz2 q = gs q) (Wd g) (inW g)) ([.ref (g.2.2.1 r), .ref (g.2.2.1 (r + 11)), .int p1] : List Value).toArray s 0 0 (inW g)) (F0 m 62 ls [])) := by
    intro N
    induction N with
    | zero => exact ⟨by intros; omega, by intros; omega⟩
    | succ N ih =>
      obtain ⟨ih9, ih62⟩ := ih
      refine ⟨?_, ?_⟩
      · intro i x3 gz1 hc H locs ls w hl hi hx3 hly D hfr hN_
        refine lv_iload_n hx hb dX9_lays_9 rfl (lv_at hl 3 rfl) ?_
        refine lv_iconst (v := 4) hx hb dX9_lays_10 (by decide) ?_
        refine lv_icmp_ge (tgt := 60) hx hb dX9_lays_11 (by decide) (fun c1 => ?_) (fun c1 => ?_)
        · have c1 : ((4 : Nat) : Int) ≤ ((i : Nat) : Int) := (i_le (by decide : (4 : Int32).toInt = ((4 : Nat) : Int)) hx3).mp c1
          refine lv_iconst (v := 0) hx hb dX9_lays_60 (by decide) ?_
          refine lv_istore_n (lv' := [(3, .int 0), (0, .ref (g.2.2.1 r)), (1, .ref (g.2.2.1 (r + 11))), (2, .int p1)]) hx hb dX9_lays_61 rfl hl (by decide) rfl (fun ls hl => ?_)
          exact ih62 0 0 gz1 hc _ _ _ w (lv_sub hl [1, 2, 3, 0] rfl) (Nat.zero_le _) ((by decide : (0 : Int32).toInt = ((0 : Nat) : Int))) (LyA.b (by rw [show 4 = i by omega]; exact hly)) D hfr (by omega)
        · have c1 : ¬ (((4 : Nat) : Int) ≤ ((i : Nat) : Int)) := fun q => c1 ((i_le (by decide : (4 : Int32).toInt = ((4 : Nat) : Int)) hx3).mpr q)
          refine lv_aload_n hx hb dX9_lays_14 rfl (lv_at hl 1 rfl) ?_
          refine lv_iload_n hx hb dX9_lays_15 rfl (lv_at hl 2 rfl) ?_
          refine lv_iconst (v := 1) hx hb dX9_lays_16 (by decide) ?_
          refine lv_iadd hx hb dX9_lays_17 ?_
          refine lv_topi (fun y2 ey2 => ?_)
          have ty2 : y2.toInt = (((a + 1) : Nat) : Int) := i_addN ey2 hp1 (by decide : (1 : Int32).toInt = ((1 : Nat) : Int)) (by omega)
          refine lv_iload_n hx hb dX9_lays_18 rfl (lv_at hl 3 rfl) ?_
          refine lv_iadd hx hb dX9_lays_19 ?_
          refine lv_topi (fun y3 ey3 => ?_)
          have ty3 : y3.toInt = ((((a + 1) + i) : Nat) : Int) := i_addN ey3 ty2 hx3 (by omega)
          refine lv_aload_n hx hb dX9_lays_20 rfl (lv_at hl 0 rfl) ?_
          refine r_get (C := RX9) (T := TX9) (N := 20) (ci := 7) hx hb hts inX9_lays_X9 hown w (by have := D.1; omega) D.c0 rfl 1 (by decide) (hts (Cond.fieldLink RX9 7 "EarlyValuesModel" "argsOf" "[I") (List.mem_of_getElem? (i := 2) (by decide +kernel))) rfl rfl dX9_lays_21 ?_
          refine lv_iload_n hx hb dX9_lays_24 rfl (lv_at hl 3 rfl) ?_
          refine r_iald (j := i) hx hb w (by have := D.1; omega) D.c1 hx3 (by omega) dX9_lays_25 ?_
          refine r_iast (j := ((a + 1) + i)) hx hb w (by have := D.1; omega) D.c11 ty3 (by omega) dX9_lays_26 (fun h4 H locs eh4 w => ?_)
          have D := D.s11 eh4
          generalize egz5 : upd gz1 (((a + 1) + i)) (ga i) = gz5 at D
          have hfr : ∀ k_, ¬ (r ≤ k_ ∧ k_ < r + 14) → h4 k_ = h k_ := fun k_ hk_ => by rw [eh4, va_up_ne _ _ (by omega)]; exact hfr k_ hk_
          refine lv_aload_n hx hb dX9_lays_27 rfl (lv_at hl 1 rfl) ?_
          refine lv_iload_n hx hb dX9_lays_28 rfl (lv_at hl 2 rfl) ?_
          refine lv_iconst (v := 5) hx hb dX9_lays_29 (by decide) ?_
          refine lv_iadd hx hb dX9_lays_30 ?_
          refine lv_topi (fun y6 ey6 => ?_)
          have ty6 : y6.toInt = (((a + 5) : Nat) : Int) := i_addN ey6 hp1 (by decide : (5 : Int32).toInt = ((5 : Nat) : Int)) (by omega)
          refine lv_iload_n hx hb dX9_lays_31 rfl (lv_at hl 3 rfl) ?_
          refine lv_iadd hx hb dX9_lays_32 ?_
          refine lv_topi (fun y7 ey7 => ?_)
          have ty7 : y7.toInt = ((((a + 5) + i) : Nat) : Int) := i_addN ey7 ty6 hx3 (by omega)
          refine lv_aload_n hx hb dX9_lays_33 rfl (lv_at hl 0 rfl) ?_
          refine r_get (C := RX9) (T := TX9) (N := 20) (ci := 7) hx hb hts inX9_lays_X9 hown w (by have := D.1; omega) D.c0 rfl 2 (by decide) (hts (Cond.fieldLink RX9 13 "EarlyValuesModel" "kindOf" "[I") (List.mem_of_getElem? (i := 3) (by decide +kernel))) rfl rfl dX9_lays_34 ?_
          refine lv_iload_n hx hb dX9_lays_37 rfl (lv_at hl 3 rfl) ?_
          refine r_iald (j := i) hx hb w (by have := D.1; omega) D.c2 hx3 (by omega) dX9_lays_38 ?_
          refine r_iast (j := ((a + 5) + i)) hx hb w (by have := D.1; omega) D.c11 ty7 (by omega) dX9_lays_39 (fun h8 H locs eh8 w => ?_)
          have D := D.s11 eh8
          generalize egz9 : upd gz5 (((a + 5) + i)) (gk i) = gz9 at D
          have hfr : ∀ k_, ¬ (r ≤ k_ ∧ k_ < r + 14) → h8 k_ = h k_ := fun k_ hk_ => by rw [eh8, va_up_ne _ _ (by omega)]; exact hfr k_ hk_
          refine lv_aload_n hx hb dX9_lays_40 rfl (lv_at hl 1 rfl) ?_
          refine lv_iload_n hx hb dX9_lays_41 rfl (lv_at hl 2 rfl) ?_
          refine lv_bipush (v := 9) hx hb dX9_lays_42 (by decide) ?_
          refine lv_iadd hx hb dX9_lays_44 ?_
          refine lv_topi (fun y10 ey10 => ?_)
          have ty10 : y10.toInt = (((a + 9) : Nat) : Int) := i_addN ey10 hp1 (by decide : (9 : Int32).toInt = ((9 : Nat) : Int)) (by omega)
          refine lv_iload_n hx hb dX9_lays_45 rfl (lv_at hl 3 rfl) ?_
          refine lv_iadd hx hb dX9_lays_46 ?_
          refine lv_topi (fun y11 ey11 => ?_)
          have ty11 : y11.toInt = ((((a + 9) + i) : Nat) : Int) := i_addN ey11 ty10 hx3 (by omega)
          refine lv_aload_n hx hb dX9_lays_47 rfl (lv_at hl 0 rfl) ?_
          refine r_get (C := RX9) (T := TX9) (N := 20) (ci := 7) hx hb hts inX9_lays_X9 hown w (by have := D.1; omega) D.c0 rfl 3 (by decide) (hts (Cond.fieldLink RX9 16 "EarlyValuesModel" "longOf" "[I") (List.mem_of_getElem? (i := 4) (by decide +kernel))) rfl rfl dX9_lays_48 ?_
          refine lv_iload_n hx hb dX9_lays_51 rfl (lv_at hl 3 rfl) ?_
          refine r_iald (j := i) hx hb w (by have := D.1; omega) D.c3 hx3 (by omega) dX9_lays_52 ?_
          refine r_iast (j := ((a + 9) + i)) hx hb w (by have := D.1; omega) D.c11 ty11 (by omega) dX9_lays_53 (fun h12 H locs eh12 w => ?_)
          have D := D.s11 eh12
          generalize egz13 : upd gz9 (((a + 9) + i)) (gl i) = gz13 at D
          have hfr : ∀ k_, ¬ (r ≤ k_ ∧ k_ < r + 14) → h12 k_ = h k_ := fun k_ hk_ => by rw [eh12, va_up_ne _ _ (by omega)]; exact hfr k_ hk_
          obtain ⟨y14, ey14⟩ : ∃ y : Int32, y = x3 + (1) := ⟨_, rfl⟩
          have ty14 : y14.toInt = (((i + 1) : Nat) : Int) := i_addN ey14 hx3 (by decide : (1 : Int32).toInt = ((1 : Nat) : Int)) (by omega)
          refine lv_iinc (v := y14) (lv' := [(3, .int y14), (0, .ref (g.2.2.1 r)), (1, .ref (g.2.2.1 (r + 11))), (2, .int p1)]) hx hb dX9_lays_54 hl (k := 3) rfl (by rw [ey14]; rfl) (by decide) rfl (fun ls hl => ?_)
          refine lv_goto (tgt := 9) hx hb dX9_lays_57 (by decide) ?_
          exact ih9 (i + 1) y14 gz13 h12 _ _ _ w (lv_sub hl [1, 2, 3, 0] rfl) (by omega) ty14 (hly.up (by omega) egz5 egz9 egz13) D hfr (by omega)
      · intro i x3 gz1 hc H locs ls w hl hi hx3 hly D hfr hN_
        refine lv_iload_n hx hb dX9_lays_62 rfl (lv_at hl 3 rfl) ?_
        refine lv_bipush (v := 96) hx hb dX9_lays_63 (by decide) ?_
        refine lv_icmp_ge (tgt := 88) hx hb dX9_lays_65 (by decide) (fun c15 => ?_) (fun c15 => ?_)
        · have c15 : ((96 : Nat) : Int) ≤ ((i : Nat) : Int) := (i_le (by decide : (96 : Int32).toInt = ((96 : Nat) : Int)) hx3).mp c15
          refine r_vret hx hb hr hlocks w dX9_lays_88 ?_
          obtain ⟨b1, b2, b3, b4⟩ := hly
          exact ⟨hfr, _, D, ⟨b1, b2, fun k_ hk_ => b3 k_ (by omega)⟩, b4⟩
        · have c15 : ¬ (((96 : Nat) : Int) ≤ ((i : Nat) : Int)) := fun q => c15 ((i_le (by decide : (96 : Int32).toInt = ((96 : Nat) : Int)) hx3).mpr q)
          refine lv_aload_n hx hb dX9_lays_68 rfl (lv_at hl 1 rfl) ?_
          refine lv_iload_n hx hb dX9_lays_69 rfl (lv_at hl 2 rfl) ?_
          refine lv_bipush (v := 13) hx hb dX9_lays_70 (by decide) ?_
          refine lv_iadd hx hb dX9_lays_72 ?_
          refine lv_topi (fun y16 ey16 => ?_)
          have ty16 : y16.toInt = (((a + 13) : Nat) : Int) := i_addN ey16 hp1 (by decide : (13 : Int32).toInt = ((13 : Nat) : Int)) (by omega)
          refine lv_iload_n hx hb dX9_lays_73 rfl (lv_at hl 3 rfl) ?_
          refine lv_iadd hx hb dX9_lays_74 ?_
          refine lv_topi (fun y17 ey17 => ?_)
          have ty17 : y17.toInt = ((((a + 13) + i) : Nat) : Int) := i_addN ey17 ty16 hx3 (by omega)
          refine lv_aload_n hx hb dX9_lays_75 rfl (lv_at hl 0 rfl) ?_
          refine r_get (C := RX9) (T := TX9) (N := 20) (ci := 7) hx hb hts inX9_lays_X9 hown w (by have := D.1; omega) D.c0 rfl 4 (by decide) (hts (Cond.fieldLink RX9 19 "EarlyValuesModel" "body" "[I") (List.mem_of_getElem? (i := 5) (by decide +kernel))) rfl rfl dX9_lays_76 ?_
          refine lv_iload_n hx hb dX9_lays_79 rfl (lv_at hl 3 rfl) ?_
          refine r_iald (j := i) hx hb w (by have := D.1; omega) D.c4 hx3 (by omega) dX9_lays_80 ?_
          refine r_iast (j := ((a + 13) + i)) hx hb w (by have := D.1; omega) D.c11 ty17 (by omega) dX9_lays_81 (fun h18 H locs eh18 w => ?_)
          have D := D.s11 eh18
          generalize egz19 : upd gz1 (((a + 13) + i)) (gB i) = gz19 at D
          have hfr : ∀ k_, ¬ (r ≤ k_ ∧ k_ < r + 14) → h18 k_ = h k_ := fun k_ hk_ => by rw [eh18, va_up_ne _ _ (by omega)]; exact hfr k_ hk_
          obtain ⟨y20, ey20⟩ : ∃ y : Int32, y = x3 + (1) := ⟨_, rfl⟩
          have ty20 : y20.toInt = (((i + 1) : Nat) : Int) := i_addN ey20 hx3 (by decide : (1 : Int32).toInt = ((1 : Nat) : Int)) (by omega)
          refine lv_iinc (v := y20) (lv' := [(3, .int y20), (0, .ref (g.2.2.1 r)), (1, .ref (g.2.2.1 (r + 11))), (2, .int p1)]) hx hb dX9_lays_82 hl (k := 3) rfl (by rw [ey20]; rfl) (by decide) rfl (fun ls hl => ?_)
          refine lv_goto (tgt := 62) hx hb dX9_lays_85 (by decide) ?_
          exact ih62 (i + 1) y20 gz19 h18 _ _ _ w (lv_sub hl [1, 2, 3, 0] rfl) (by omega) ty20 (hly.up (by omega) egz19) D hfr (by omega)
  have cut0 := cuts (200)
  obtain ⟨ih9, ih62⟩ := cut0
  refine lv_aload_n hx hb dX9_lays_0 rfl (lv_at hl 1 rfl) ?_
  refine lv_iload_n hx hb dX9_lays_1 rfl (lv_at hl 2 rfl) ?_
  refine lv_aload_n hx hb dX9_lays_2 rfl (lv_at hl 0 rfl) ?_
  refine r_get (C := RX9) (T := TX9) (N := 20) (ci := 7) hx hb hts inX9_lays_X9 hown w (by have := D.1; omega) D.c0 rfl 0 (by decide) (hts (Cond.fieldLink RX9 49 "EarlyValuesModel" "many" "I") (List.mem_of_getElem? (i := 1) (by decide +kernel))) rfl rfl dX9_lays_3 ?_
  refine r_iast (j := a) hx hb w (by have := D.1; omega) D.c11 hp1 (by omega) dX9_lays_6 (fun h21 H locs eh21 w => ?_)
  have D := D.s11 eh21
  generalize egz22 : upd gs a nm = gz22 at D
  have hfr : ∀ k_, ¬ (r ≤ k_ ∧ k_ < r + 14) → h21 k_ = h k_ := fun k_ hk_ => by rw [eh21, va_up_ne _ _ (by omega)]
  refine lv_iconst (v := 0) hx hb dX9_lays_7 (by decide) ?_
  refine lv_istore_n (lv' := [(3, .int 0), (0, .ref (g.2.2.1 r)), (1, .ref (g.2.2.1 (r + 11))), (2, .int p1)]) hx hb dX9_lays_8 rfl hl (by decide) rfl (fun ls hl => ?_)
  exact ih9 0 0 gz22 h21 _ _ _ w (lv_sub hl [1, 2, 3, 0] rfl) (Nat.zero_le _) ((by decide : (0 : Int32).toInt = ((0 : Nat) : Int))) (LyA.z egz22) D hfr (by omega)

set_option maxHeartbeats 4000000 in
set_option maxRecDepth 100000 in
theorem c_X9_lays_gf (l : Launch) {g : GE} {h : Nat → va_E} {r : Nat} {nm kn um sv sz ra rm : Int32} {ga gk gl gB gt gn gr gp gh gv gs gx gf : Nat → Int32} (D : MdA g h r nm kn um sv sz ra rm ga gk gl gB gt gn gr gp gh gv gs gx gf) {a : Nat} (p1 : Int32) (hp1 : p1.toInt = (a : Int)) (hal : a + 109 ≤ 109) : MV l yX9_lays wsX9_lays rm_X9_lays [.ref (g.2.2.1 r), .ref (g.2.2.1 (r + 13)), .int p1] g h (fun h2 => (∀ k, ¬ (r ≤ k ∧ k < r + 14) → h2 k = h k) ∧ ∃ gz2 : Nat → Int32, MdA g h2 r nm kn um sv sz ra rm ga gk gl gB gt gn gr gp gh gv gs gx gz2 ∧ SnapE gz2 a nm ga gk gl gB ∧ ∀ q, (q < a ∨ a + 109 ≤ q) → gz2 q = gf q) := by
  refine Met.ofW (cc := cX9_lays) (maxL := 4) (ret := none) (by decide) rfl ?_
  intro p e s m args below meth c s₁ B hml hv
  obtain ⟨rfl, w0⟩ := hv
  have hx := B.exec
  have hb := B.bytes
  have hr := B.returns
  have hts := atoms_spec (ws := wsX9_lays) B.pre
  have hown : s.vm.findClass RX9 = some m.cls := findClass_of_methodNamed B.named
  have hlocks := B.notSynchronized
  have w := w0.start
  clear w0
  have hl := lv_entry ([.ref (g.2.2.1 r), .ref (g.2.2.1 (r + 13)), .int p1]) (n := 4) (Nat.le_of_ble_eq_true rfl)
  rw [lg_entry_eq]
  generalize (lg_sl ([.ref (g.2.2.1 r), .ref (g.2.2.1 (r + 13)), .int p1]) ++ List.replicate (4 - (lg_sl ([.ref (g.2.2.1 r), .ref (g.2.2.1 (r + 13)), .int p1])).length) Slot.unset).toArray = ls at hl ⊢
  have hl : lv_has ls 4 [(0, .ref (g.2.2.1 r)), (1, .ref (g.2.2.1 (r + 13))), (2, .int p1)] := hl
  have cuts : ∀ N : Nat, (∀ (i : Nat) (x3 : Int32) (gz1 : Nat → Int32) (hc : Nat → va_E) (H : Heap) (locs : List Loc) (ls : Array Slot), WD g (inW g) s hc H locs → lv_has ls 4 [(0, .ref (g.2.2.1 r)), (1, .ref (g.2.2.1 (r + 13))), (2, .int p1), (3, .int x3)] → (i ≤ 4) → (x3.toInt = ((i : Nat) : Int)) → (LyA a i gz1 nm ga gk gl gf) → (MdA g hc r nm kn um sv sz ra rm ga gk gl gB gt gn gr gp gh gv gs gx gz1) → (∀ k, ¬ (r ≤ k ∧ k < r + 14) → hc k = h k) → 110 - i < N → W p l e (headSpec wsX9_lays rm_X9_lays).room s m ([.ref (g.2.2.1 r), .ref (g.2.2.1 (r + 13)), .int p1] : List Value).toArray below meth c H locs 0 0 (MQ below (va_Qv (fun h2 => (∀ k, ¬ (r ≤ k ∧ k < r + 14) → h2 k = h k) ∧ ∃ gz2 : Nat → Int32, MdA g h2 r nm kn um sv sz ra rm ga gk gl gB gt gn gr gp gh gv gs gx gz2 ∧ SnapE gz2 a nm ga gk gl gB ∧ ∀ q, (q < a ∨ a + 109 ≤ q) → gz2 q = gf q) (Wd g) (inW g)) ([.ref (g.2.2.1 r), .ref (g.2.2.1 (r + 13)), .int p1] : List Value).toArray s 0 0 (inW g)) (F0 m 9 ls [])) ∧ (∀ (i : Nat) (x3 : Int32) (gz1 : Nat → Int32) (hc : Nat → va_E) (H : Heap) (locs : List Loc) (ls : Array Slot), WD g (inW g) s hc H locs → lv_has ls 4 [(0, .ref (g.2.2.1 r)), (1, .ref (g.2.2.1 (r + 13))), (2, .int p1), (3, .int x3)] → (i ≤ 96) → (x3.toInt = ((i : Nat) : Int)) → (LyB a i gz1 nm ga gk gl gB gf) → (MdA g hc r nm kn um sv sz ra rm ga gk gl gB gt gn gr gp gh gv gs gx gz1) → (∀ k, ¬ (r ≤ k ∧ k < r + 14) → hc k = h k) → 100 - i < N → W p l e (headSpec wsX9_lays rm_X9_lays).room s m ([.ref (g.2.2.1 r), .ref (g.2.2.1 (r + 13)), .int p1] : List Value).toArray below meth c H locs 0 0 (MQ below (va_Qv (fun h2 => (∀ k, ¬ (r ≤ k ∧ k < r + 14) → h2 k = h k) ∧ ∃ gz2 : Nat → Int32, MdA g h2 r nm kn um sv sz ra rm ga gk gl gB gt gn gr gp gh gv gs gx gz2 ∧ SnapE gz2 a nm ga gk gl gB ∧ ∀ q, (q < a ∨ a + 109 ≤ q) → gz2 q = gf q) (Wd g) (inW g)) ([.ref (g.2.2.1 r), .ref (g.2.2.1 (r + 13)), .int p1] : List Value).toArray s 0 0 (inW g)) (F0 m 62 ls [])) := by
    intro N
    induction N with
    | zero => exact ⟨by intros; omega, by intros; omega⟩
    | succ N ih =>
      obtain ⟨ih9, ih62⟩ := ih
      refine ⟨?_, ?_⟩
      · intro i x3 gz1 hc H locs ls w hl hi hx3 hly D hfr hN_
        refine lv_iload_n hx hb dX9_lays_9 rfl (lv_at hl 3 rfl) ?_
        refine lv_iconst (v := 4) hx hb dX9_lays_10 (by decide) ?_
        refine lv_icmp_ge (tgt := 60) hx hb dX9_lays_11 (by decide) (fun c1 => ?_) (fun c1 => ?_)
        · have c1 : ((4 : Nat) : Int) ≤ ((i : Nat) : Int) := (i_le (by decide : (4 : Int32).toInt = ((4 : Nat) : Int)) hx3).mp c1
          refine lv_iconst (v := 0) hx hb dX9_lays_60 (by decide) ?_
          refine lv_istore_n (lv' := [(3, .int 0), (0, .ref (g.2.2.1 r)), (1, .ref (g.2.2.1 (r + 13))), (2, .int p1)]) hx hb dX9_lays_61 rfl hl (by decide) rfl (fun ls hl => ?_)
          exact ih62 0 0 gz1 hc _ _ _ w (lv_sub hl [1, 2, 3, 0] rfl) (Nat.zero_le _) ((by decide : (0 : Int32).toInt = ((0 : Nat) : Int))) (LyA.b (by rw [show 4 = i by omega]; exact hly)) D hfr (by omega)
        · have c1 : ¬ (((4 : Nat) : Int) ≤ ((i : Nat) : Int)) := fun q => c1 ((i_le (by decide : (4 : Int32).toInt = ((4 : Nat) : Int)) hx3).mpr q)
          refine lv_aload_n hx hb dX9_lays_14 rfl (lv_at hl 1 rfl) ?_
          refine lv_iload_n hx hb dX9_lays_15 rfl (lv_at hl 2 rfl) ?_
          refine lv_iconst (v := 1) hx hb dX9_lays_16 (by decide) ?_
          refine lv_iadd hx hb dX9_lays_17 ?_
          refine lv_topi (fun y2 ey2 => ?_)
          have ty2 : y2.toInt = (((a + 1) : Nat) : Int) := i_addN ey2 hp1 (by decide : (1 : Int32).toInt = ((1 : Nat) : Int)) (by omega)
          refine lv_iload_n hx hb dX9_lays_18 rfl (lv_at hl 3 rfl) ?_
          refine lv_iadd hx hb dX9_lays_19 ?_
          refine lv_topi (fun y3 ey3 => ?_)
          have ty3 : y3.toInt = ((((a + 1) + i) : Nat) : Int) := i_addN ey3 ty2 hx3 (by omega)
          refine lv_aload_n hx hb dX9_lays_20 rfl (lv_at hl 0 rfl) ?_
          refine r_get (C := RX9) (T := TX9) (N := 20) (ci := 7) hx hb hts inX9_lays_X9 hown w (by have := D.1; omega) D.c0 rfl 1 (by decide) (hts (Cond.fieldLink RX9 7 "EarlyValuesModel" "argsOf" "[I") (List.mem_of_getElem? (i := 2) (by decide +kernel))) rfl rfl dX9_lays_21 ?_
          refine lv_iload_n hx hb dX9_lays_24 rfl (lv_at hl 3 rfl) ?_
          refine r_iald (j := i) hx hb w (by have := D.1; omega) D.c1 hx3 (by omega) dX9_lays_25 ?_
          refine r_iast (j := ((a + 1) + i)) hx hb w (by have := D.1; omega) D.c13 ty3 (by omega) dX9_lays_26 (fun h4 H locs eh4 w => ?_)
          have D := D.s13 eh4
          generalize egz5 : upd gz1 (((a + 1) + i)) (ga i) = gz5 at D
          have hfr : ∀ k_, ¬ (r ≤ k_ ∧ k_ < r + 14) → h4 k_ = h k_ := fun k_ hk_ => by rw [eh4, va_up_ne _ _ (by omega)]; exact hfr k_ hk_
          refine lv_aload_n hx hb dX9_lays_27 rfl (lv_at hl 1 rfl) ?_
          refine lv_iload_n hx hb dX9_lays_28 rfl (lv_at hl 2 rfl) ?_
          refine lv_iconst (v := 5) hx hb dX9_lays_29 (by decide) ?_
          refine lv_iadd hx hb dX9_lays_30 ?_
          refine lv_topi (fun y6 ey6 => ?_)
          have ty6 : y6.toInt = (((a + 5) : Nat) : Int) := i_addN ey6 hp1 (by decide : (5 : Int32).toInt = ((5 : Nat) : Int)) (by omega)
          refine lv_iload_n hx hb dX9_lays_31 rfl (lv_at hl 3 rfl) ?_
          refine lv_iadd hx hb dX9_lays_32 ?_
          refine lv_topi (fun y7 ey7 => ?_)
          have ty7 : y7.toInt = ((((a + 5) + i) : Nat) : Int) := i_addN ey7 ty6 hx3 (by omega)
          refine lv_aload_n hx hb dX9_lays_33 rfl (lv_at hl 0 rfl) ?_
          refine r_get (C := RX9) (T := TX9) (N := 20) (ci := 7) hx hb hts inX9_lays_X9 hown w (by have := D.1; omega) D.c0 rfl 2 (by decide) (hts (Cond.fieldLink RX9 13 "EarlyValuesModel" "kindOf" "[I") (List.mem_of_getElem? (i := 3) (by decide +kernel))) rfl rfl dX9_lays_34 ?_
          refine lv_iload_n hx hb dX9_lays_37 rfl (lv_at hl 3 rfl) ?_
          refine r_iald (j := i) hx hb w (by have := D.1; omega) D.c2 hx3 (by omega) dX9_lays_38 ?_
          refine r_iast (j := ((a + 5) + i)) hx hb w (by have := D.1; omega) D.c13 ty7 (by omega) dX9_lays_39 (fun h8 H locs eh8 w => ?_)
          have D := D.s13 eh8
          generalize egz9 : upd gz5 (((a + 5) + i)) (gk i) = gz9 at D
          have hfr : ∀ k_, ¬ (r ≤ k_ ∧ k_ < r + 14) → h8 k_ = h k_ := fun k_ hk_ => by rw [eh8, va_up_ne _ _ (by omega)]; exact hfr k_ hk_
          refine lv_aload_n hx hb dX9_lays_40 rfl (lv_at hl 1 rfl) ?_
          refine lv_iload_n hx hb dX9_lays_41 rfl (lv_at hl 2 rfl) ?_
          refine lv_bipush (v := 9) hx hb dX9_lays_42 (by decide) ?_
          refine lv_iadd hx hb dX9_lays_44 ?_
          refine lv_topi (fun y10 ey10 => ?_)
          have ty10 : y10.toInt = (((a + 9) : Nat) : Int) := i_addN ey10 hp1 (by decide : (9 : Int32).toInt = ((9 : Nat) : Int)) (by omega)
          refine lv_iload_n hx hb dX9_lays_45 rfl (lv_at hl 3 rfl) ?_
          refine lv_iadd hx hb dX9_lays_46 ?_
          refine lv_topi (fun y11 ey11 => ?_)
          have ty11 : y11.toInt = ((((a + 9) + i) : Nat) : Int) := i_addN ey11 ty10 hx3 (by omega)
          refine lv_aload_n hx hb dX9_lays_47 rfl (lv_at hl 0 rfl) ?_
          refine r_get (C := RX9) (T := TX9) (N := 20) (ci := 7) hx hb hts inX9_lays_X9 hown w (by have := D.1; omega) D.c0 rfl 3 (by decide) (hts (Cond.fieldLink RX9 16 "EarlyValuesModel" "longOf" "[I") (List.mem_of_getElem? (i := 4) (by decide +kernel))) rfl rfl dX9_lays_48 ?_
          refine lv_iload_n hx hb dX9_lays_51 rfl (lv_at hl 3 rfl) ?_
          refine r_iald (j := i) hx hb w (by have := D.1; omega) D.c3 hx3 (by omega) dX9_lays_52 ?_
          refine r_iast (j := ((a + 9) + i)) hx hb w (by have := D.1; omega) D.c13 ty11 (by omega) dX9_lays_53 (fun h12 H locs eh12 w => ?_)
          have D := D.s13 eh12
          generalize egz13 : upd gz9 (((a + 9) + i)) (gl i) = gz13 at D
          have hfr : ∀ k_, ¬ (r ≤ k_ ∧ k_ < r + 14) → h12 k_ = h k_ := fun k_ hk_ => by rw [eh12, va_up_ne _ _ (by omega)]; exact hfr k_ hk_
          obtain ⟨y14, ey14⟩ : ∃ y : Int32, y = x3 + (1) := ⟨_, rfl⟩
          have ty14 : y14.toInt = (((i + 1) : Nat) : Int) := i_addN ey14 hx3 (by decide : (1 : Int32).toInt = ((1 : Nat) : Int)) (by omega)
          refine lv_iinc (v := y14) (lv' := [(3, .int y14), (0, .ref (g.2.2.1 r)), (1, .ref (g.2.2.1 (r + 13))), (2, .int p1)]) hx hb dX9_lays_54 hl (k := 3) rfl (by rw [ey14]; rfl) (by decide) rfl (fun ls hl => ?_)
          refine lv_goto (tgt := 9) hx hb dX9_lays_57 (by decide) ?_
          exact ih9 (i + 1) y14 gz13 h12 _ _ _ w (lv_sub hl [1, 2, 3, 0] rfl) (by omega) ty14 (hly.up (by omega) egz5 egz9 egz13) D hfr (by omega)
      · intro i x3 gz1 hc H locs ls w hl hi hx3 hly D hfr hN_
        refine lv_iload_n hx hb dX9_lays_62 rfl (lv_at hl 3 rfl) ?_
        refine lv_bipush (v := 96) hx hb dX9_lays_63 (by decide) ?_
        refine lv_icmp_ge (tgt := 88) hx hb dX9_lays_65 (by decide) (fun c15 => ?_) (fun c15 => ?_)
        · have c15 : ((96 : Nat) : Int) ≤ ((i : Nat) : Int) := (i_le (by decide : (96 : Int32).toInt = ((96 : Nat) : Int)) hx3).mp c15
          refine r_vret hx hb hr hlocks w dX9_lays_88 ?_
          obtain ⟨b1, b2, b3, b4⟩ := hly
          exact ⟨hfr, _, D, ⟨b1, b2, fun k_ hk_ => b3 k_ (by omega)⟩, b4⟩
        · have c15 : ¬ (((96 : Nat) : Int) ≤ ((i : Nat) : Int)) := fun q => c15 ((i_le (by decide : (96 : Int32).toInt = ((96 : Nat) : Int)) hx3).mpr q)
          refine lv_aload_n hx hb dX9_lays_68 rfl (lv_at hl 1 rfl) ?_
          refine lv_iload_n hx hb dX9_lays_69 rfl (lv_at hl 2 rfl) ?_
          refine lv_bipush (v := 13) hx hb dX9_lays_70 (by decide) ?_
          refine lv_iadd hx hb dX9_lays_72 ?_
          refine lv_topi (fun y16 ey16 => ?_)
          have ty16 : y16.toInt = (((a + 13) : Nat) : Int) := i_addN ey16 hp1 (by decide : (13 : Int32).toInt = ((13 : Nat) : Int)) (by omega)
          refine lv_iload_n hx hb dX9_lays_73 rfl (lv_at hl 3 rfl) ?_
          refine lv_iadd hx hb dX9_lays_74 ?_
          refine lv_topi (fun y17 ey17 => ?_)
          have ty17 : y17.toInt = ((((a + 13) + i) : Nat) : Int) := i_addN ey17 ty16 hx3 (by omega)
          refine lv_aload_n hx hb dX9_lays_75 rfl (lv_at hl 0 rfl) ?_
          refine r_get (C := RX9) (T := TX9) (N := 20) (ci := 7) hx hb hts inX9_lays_X9 hown w (by have := D.1; omega) D.c0 rfl 4 (by decide) (hts (Cond.fieldLink RX9 19 "EarlyValuesModel" "body" "[I") (List.mem_of_getElem? (i := 5) (by decide +kernel))) rfl rfl dX9_lays_76 ?_
          refine lv_iload_n hx hb dX9_lays_79 rfl (lv_at hl 3 rfl) ?_
          refine r_iald (j := i) hx hb w (by have := D.1; omega) D.c4 hx3 (by omega) dX9_lays_80 ?_
          refine r_iast (j := ((a + 13) + i)) hx hb w (by have := D.1; omega) D.c13 ty17 (by omega) dX9_lays_81 (fun h18 H locs eh18 w => ?_)
          have D := D.s13 eh18
          generalize egz19 : upd gz1 (((a + 13) + i)) (gB i) = gz19 at D
          have hfr : ∀ k_, ¬ (r ≤ k_ ∧ k_ < r + 14) → h18 k_ = h k_ := fun k_ hk_ => by rw [eh18, va_up_ne _ _ (by omega)]; exact hfr k_ hk_
          obtain ⟨y20, ey20⟩ : ∃ y : Int32, y = x3 + (1) := ⟨_, rfl⟩
          have ty20 : y20.toInt = (((i + 1) : Nat) : Int) := i_addN ey20 hx3 (by decide : (1 : Int32).toInt = ((1 : Nat) : Int)) (by omega)
          refine lv_iinc (v := y20) (lv' := [(3, .int y20), (0, .ref (g.2.2.1 r)), (1, .ref (g.2.2.1 (r + 13))), (2, .int p1)]) hx hb dX9_lays_82 hl (k := 3) rfl (by rw [ey20]; rfl) (by decide) rfl (fun ls hl => ?_)
          refine lv_goto (tgt := 62) hx hb dX9_lays_85 (by decide) ?_
          exact ih62 (i + 1) y20 gz19 h18 _ _ _ w (lv_sub hl [1, 2, 3, 0] rfl) (by omega) ty20 (hly.up (by omega) egz19) D hfr (by omega)
  have cut0 := cuts (200)
  obtain ⟨ih9, ih62⟩ := cut0
  refine lv_aload_n hx hb dX9_lays_0 rfl (lv_at hl 1 rfl) ?_
  refine lv_iload_n hx hb dX9_lays_1 rfl (lv_at hl 2 rfl) ?_
  refine lv_aload_n hx hb dX9_lays_2 rfl (lv_at hl 0 rfl) ?_
  refine r_get (C := RX9) (T := TX9) (N := 20) (ci := 7) hx hb hts inX9_lays_X9 hown w (by have := D.1; omega) D.c0 rfl 0 (by decide) (hts (Cond.fieldLink RX9 49 "EarlyValuesModel" "many" "I") (List.mem_of_getElem? (i := 1) (by decide +kernel))) rfl rfl dX9_lays_3 ?_
  refine r_iast (j := a) hx hb w (by have := D.1; omega) D.c13 hp1 (by omega) dX9_lays_6 (fun h21 H locs eh21 w => ?_)
  have D := D.s13 eh21
  generalize egz22 : upd gf a nm = gz22 at D
  have hfr : ∀ k_, ¬ (r ≤ k_ ∧ k_ < r + 14) → h21 k_ = h k_ := fun k_ hk_ => by rw [eh21, va_up_ne _ _ (by omega)]
  refine lv_iconst (v := 0) hx hb dX9_lays_7 (by decide) ?_
  refine lv_istore_n (lv' := [(3, .int 0), (0, .ref (g.2.2.1 r)), (1, .ref (g.2.2.1 (r + 13))), (2, .int p1)]) hx hb dX9_lays_8 rfl hl (by decide) rfl (fun ls hl => ?_)
  exact ih9 0 0 gz22 h21 _ _ _ w (lv_sub hl [1, 2, 3, 0] rfl) (Nat.zero_le _) ((by decide : (0 : Int32).toInt = ((0 : Nat) : Int))) (LyA.z egz22) D hfr (by omega)

theorem inX9_takes_X9 : ∀ w ∈ wsX90, w ∈ wsX9_takes := by decide +kernel
abbrev rm_X9_takes : Room := { frames := 0, cells := 0, slots := 0, locals := 0 }
set_option maxHeartbeats 4000000 in
set_option maxRecDepth 100000 in
theorem c_X9_takes_gh (l : Launch) {g : GE} {h : Nat → va_E} {r : Nat} {nm kn um sv sz ra rm : Int32} {ga gk gl gB gt gn gr gp gh gv gs gx gf : Nat → Int32} (D : MdA g h r nm kn um sv sz ra rm ga gk gl gB gt gn gr gp gh gv gs gx gf) {a : Nat} (p1 : Int32) (hp1 : p1.toInt = (a : Int)) (hal : a + 109 ≤ 872) : MV l yX9_takes wsX9_takes rm_X9_takes [.ref (g.2.2.1 r), .ref (g.2.2.1 (r + 9)), .int p1] g h (fun h2 => (∀ k, ¬ (r ≤ k ∧ k < r + 14) → h2 k = h k) ∧ ∃ (nm2 : Int32) (ga2 gk2 gl2 gB2 : Nat → Int32), MdA g h2 r nm2 0 um sv sz ra rm ga2 gk2 gl2 gB2 gt gn gr gp gh gv gs gx gf ∧ SnapE gh a nm2 ga2 gk2 gl2 gB2) := by
  refine Met.ofW (cc := cX9_takes) (maxL := 4) (ret := none) (by decide) rfl ?_
  intro p e s m args below meth c s₁ B hml hv
  obtain ⟨rfl, w0⟩ := hv
  have hx := B.exec
  have hb := B.bytes
  have hr := B.returns
  have hts := atoms_spec (ws := wsX9_takes) B.pre
  have hown : s.vm.findClass RX9 = some m.cls := findClass_of_methodNamed B.named
  have hlocks := B.notSynchronized
  have w := w0.start
  clear w0
  have hl := lv_entry ([.ref (g.2.2.1 r), .ref (g.2.2.1 (r + 9)), .int p1]) (n := 4) (Nat.le_of_ble_eq_true rfl)
  rw [lg_entry_eq]
  generalize (lg_sl ([.ref (g.2.2.1 r), .ref (g.2.2.1 (r + 9)), .int p1]) ++ List.replicate (4 - (lg_sl ([.ref (g.2.2.1 r), .ref (g.2.2.1 (r + 9)), .int p1])).length) Slot.unset).toArray = ls at hl ⊢
  have hl : lv_has ls 4 [(0, .ref (g.2.2.1 r)), (1, .ref (g.2.2.1 (r + 9))), (2, .int p1)] := hl
  have cuts : ∀ N : Nat, (∀ (i : Nat) (x3 : Int32) (ga1 : Nat → Int32) (gk1 : Nat → Int32) (gl1 : Nat → Int32) (hc : Nat → va_E) (H : Heap) (locs : List Loc) (ls : Array Slot), WD g (inW g) s hc H locs → lv_has ls 4 [(0, .ref (g.2.2.1 r)), (1, .ref (g.2.2.1 (r + 9))), (2, .int p1), (3, .int x3)] → (i ≤ 4) → (x3.toInt = ((i : Nat) : Int)) → (TkA gh a i ga1 gk1 gl1) → (MdA g hc r (gh a) kn um sv sz ra rm ga1 gk1 gl1 gB gt gn gr gp gh gv gs gx gf) → (∀ k, ¬ (r ≤ k ∧ k < r + 14) → hc k = h k) → 110 - i < N → W p l e (headSpec wsX9_takes rm_X9_takes).room s m ([.ref (g.2.2.1 r), .ref (g.2.2.1 (r + 9)), .int p1] : List Value).toArray below meth c H locs 0 0 (MQ below (va_Qv (fun h2 => (∀ k, ¬ (r ≤ k ∧ k < r + 14) → h2 k = h k) ∧ ∃ (nm2 : Int32) (ga2 gk2 gl2 gB2 : Nat → Int32), MdA g h2 r nm2 0 um sv sz ra rm ga2 gk2 gl2 gB2 gt gn gr gp gh gv gs gx gf ∧ SnapE gh a nm2 ga2 gk2 gl2 gB2) (Wd g) (inW g)) ([.ref (g.2.2.1 r), .ref (g.2.2.1 (r + 9)), .int p1] : List Value).toArray s 0 0 (inW g)) (F0 m 9 ls [])) ∧ (∀ (i : Nat) (x3 : Int32) (ga1 : Nat → Int32) (gk1 : Nat → Int32) (gl1 : Nat → Int32) (gB1 : Nat → Int32) (hc : Nat → va_E) (H : Heap) (locs : List Loc) (ls : Array Slot), WD g (inW g) s hc H locs → lv_has ls 4 [(0, .ref (g.2.2.1 r)), (1, .ref (g.2.2.1 (r + 9))), (2, .int p1), (3, .int x3)] → (i ≤ 96) → (x3.toInt = ((i : Nat) : Int)) → (TkA gh a 4 ga1 gk1 gl1) → (∀ k, k < i → gh (a + 13 + k) = gB1 k) → (MdA g hc r (gh a) kn um sv sz ra rm ga1 gk1 gl1 gB1 gt gn gr gp gh gv gs gx gf) → (∀ k, ¬ (r ≤ k ∧ k < r + 14) → hc k = h k) → 100 - i < N → W p l e (headSpec wsX9_takes rm_X9_takes).room s m ([.ref (g.2.2.1 r), .ref (g.2.2.1 (r + 9)), .int p1] : List Value).toArray below meth c H locs 0 0 (MQ below (va_Qv (fun h2 => (∀ k, ¬ (r ≤ k ∧ k < r + 14) → h2 k = h k) ∧ ∃ (nm2 : Int32) (ga2 gk2 gl2 gB2 : Nat → Int32), MdA g h2 r nm2 0 um sv sz ra rm ga2 gk2 gl2 gB2 gt gn gr gp gh gv gs gx gf ∧ SnapE gh a nm2 ga2 gk2 gl2 gB2) (Wd g) (inW g)) ([.ref (g.2.2.1 r), .ref (g.2.2.1 (r + 9)), .int p1] : List Value).toArray s 0 0 (inW g)) (F0 m 62 ls [])) := by
    intro N
    induction N with
    | zero => exact ⟨by intros; omega, by intros; omega⟩
    | succ N ih =>
      obtain ⟨ih9, ih62⟩ := ih
      refine ⟨?_, ?_⟩
      · intro i x3 ga1 gk1 gl1 hc H locs ls w hl hi hx3 htk D hfr hN_
        refine lv_iload_n hx hb dX9_takes_9 rfl (lv_at hl 3 rfl) ?_
        refine lv_iconst (v := 4) hx hb dX9_takes_10 (by decide) ?_
        refine lv_icmp_ge (tgt := 60) hx hb dX9_takes_11 (by decide) (fun c1 => ?_) (fun c1 => ?_)
        · have c1 : ((4 : Nat) : Int) ≤ ((i : Nat) : Int) := (i_le (by decide : (4 : Int32).toInt = ((4 : Nat) : Int)) hx3).mp c1
          refine lv_iconst (v := 0) hx hb dX9_takes_60 (by decide) ?_
          refine lv_istore_n (lv' := [(3, .int 0), (0, .ref (g.2.2.1 r)), (1, .ref (g.2.2.1 (r + 9))), (2, .int p1)]) hx hb dX9_takes_61 rfl hl (by decide) rfl (fun ls hl => ?_)
          exact ih62 0 0 ga1 gk1 gl1 gB hc _ _ _ w (lv_sub hl [1, 2, 3, 0] rfl) (Nat.zero_le _) ((by decide : (0 : Int32).toInt = ((0 : Nat) : Int))) (by rw [show 4 = i by omega]; exact htk) (fun j_ hj_ => absurd hj_ (Nat.not_lt_zero _)) D hfr (by omega)
        · have c1 : ¬ (((4 : Nat) : Int) ≤ ((i : Nat) : Int)) := fun q => c1 ((i_le (by decide : (4 : Int32).toInt = ((4 : Nat) : Int)) hx3).mpr q)
          refine lv_aload_n hx hb dX9_takes_14 rfl (lv_at hl 0 rfl) ?_
          refine r_get (C := RX9) (T := TX9) (N := 20) (ci := 7) hx hb hts inX9_takes_X9 hown w (by have := D.1; omega) D.c0 rfl 1 (by decide) (hts (Cond.fieldLink RX9 7 "EarlyValuesModel" "argsOf" "[I") (List.mem_of_getElem? (i := 2) (by decide +kernel))) rfl rfl dX9_takes_15 ?_
          refine lv_iload_n hx hb dX9_takes_18 rfl (lv_at hl 3 rfl) ?_
          refine lv_aload_n hx hb dX9_takes_19 rfl (lv_at hl 1 rfl) ?_
          refine lv_iload_n hx hb dX9_takes_20 rfl (lv_at hl 2 rfl) ?_
          refine lv_iconst (v := 1) hx hb dX9_takes_21 (by decide) ?_
          refine lv_iadd hx hb dX9_takes_22 ?_
          refine lv_topi (fun y2 ey2 => ?_)
          have ty2 : y2.toInt = (((a + 1) : Nat) : Int) := i_addN ey2 hp1 (by decide : (1 : Int32).toInt = ((1 : Nat) : Int)) (by omega)
          refine lv_iload_n hx hb dX9_takes_23 rfl (lv_at hl 3 rfl) ?_
          refine lv_iadd hx hb dX9_takes_24 ?_
          refine lv_topi (fun y3 ey3 => ?_)
          have ty3 : y3.toInt = ((((a + 1) + i) : Nat) : Int) := i_addN ey3 ty2 hx3 (by omega)
          refine r_iald (j := ((a + 1) + i)) hx hb w (by have := D.1; omega) D.c9 ty3 (by omega) dX9_takes_25 ?_
          refine r_iast (j := i) hx hb w (by have := D.1; omega) D.c1 hx3 (by omega) dX9_takes_26 (fun h4 H locs eh4 w => ?_)
          have D := D.s1 eh4
          generalize egz5 : upd ga1 i (gh (((a + 1) + i))) = gz5 at D
          have hfr : ∀ k_, ¬ (r ≤ k_ ∧ k_ < r + 14) → h4 k_ = h k_ := fun k_ hk_ => by rw [eh4, va_up_ne _ _ (by omega)]; exact hfr k_ hk_
          refine lv_aload_n hx hb dX9_takes_27 rfl (lv_at hl 0 rfl) ?_
          refine r_get (C := RX9) (T := TX9) (N := 20) (ci := 7) hx hb hts inX9_takes_X9 hown w (by have := D.1; omega) D.c0 rfl 2 (by decide) (hts (Cond.fieldLink RX9 13 "EarlyValuesModel" "kindOf" "[I") (List.mem_of_getElem? (i := 3) (by decide +kernel))) rfl rfl dX9_takes_28 ?_
          refine lv_iload_n hx hb dX9_takes_31 rfl (lv_at hl 3 rfl) ?_
          refine lv_aload_n hx hb dX9_takes_32 rfl (lv_at hl 1 rfl) ?_
          refine lv_iload_n hx hb dX9_takes_33 rfl (lv_at hl 2 rfl) ?_
          refine lv_iconst (v := 5) hx hb dX9_takes_34 (by decide) ?_
          refine lv_iadd hx hb dX9_takes_35 ?_
          refine lv_topi (fun y6 ey6 => ?_)
          have ty6 : y6.toInt = (((a + 5) : Nat) : Int) := i_addN ey6 hp1 (by decide : (5 : Int32).toInt = ((5 : Nat) : Int)) (by omega)
          refine lv_iload_n hx hb dX9_takes_36 rfl (lv_at hl 3 rfl) ?_
          refine lv_iadd hx hb dX9_takes_37 ?_
          refine lv_topi (fun y7 ey7 => ?_)
          have ty7 : y7.toInt = ((((a + 5) + i) : Nat) : Int) := i_addN ey7 ty6 hx3 (by omega)
          refine r_iald (j := ((a + 5) + i)) hx hb w (by have := D.1; omega) D.c9 ty7 (by omega) dX9_takes_38 ?_
          refine r_iast (j := i) hx hb w (by have := D.1; omega) D.c2 hx3 (by omega) dX9_takes_39 (fun h8 H locs eh8 w => ?_)
          have D := D.s2 eh8
          generalize egz9 : upd gk1 i (gh (((a + 5) + i))) = gz9 at D
          have hfr : ∀ k_, ¬ (r ≤ k_ ∧ k_ < r + 14) → h8 k_ = h k_ := fun k_ hk_ => by rw [eh8, va_up_ne _ _ (by omega)]; exact hfr k_ hk_
          refine lv_aload_n hx hb dX9_takes_40 rfl (lv_at hl 0 rfl) ?_
          refine r_get (C := RX9) (T := TX9) (N := 20) (ci := 7) hx hb hts inX9_takes_X9 hown w (by have := D.1; omega) D.c0 rfl 3 (by decide) (hts (Cond.fieldLink RX9 16 "EarlyValuesModel" "longOf" "[I") (List.mem_of_getElem? (i := 4) (by decide +kernel))) rfl rfl dX9_takes_41 ?_
          refine lv_iload_n hx hb dX9_takes_44 rfl (lv_at hl 3 rfl) ?_
          refine lv_aload_n hx hb dX9_takes_45 rfl (lv_at hl 1 rfl) ?_
          refine lv_iload_n hx hb dX9_takes_46 rfl (lv_at hl 2 rfl) ?_
          refine lv_bipush (v := 9) hx hb dX9_takes_47 (by decide) ?_
          refine lv_iadd hx hb dX9_takes_49 ?_
          refine lv_topi (fun y10 ey10 => ?_)
          have ty10 : y10.toInt = (((a + 9) : Nat) : Int) := i_addN ey10 hp1 (by decide : (9 : Int32).toInt = ((9 : Nat) : Int)) (by omega)
          refine lv_iload_n hx hb dX9_takes_50 rfl (lv_at hl 3 rfl) ?_
          refine lv_iadd hx hb dX9_takes_51 ?_
          refine lv_topi (fun y11 ey11 => ?_)
          have ty11 : y11.toInt = ((((a + 9) + i) : Nat) : Int) := i_addN ey11 ty10 hx3 (by omega)
          refine r_iald (j := ((a + 9) + i)) hx hb w (by have := D.1; omega) D.c9 ty11 (by omega) dX9_takes_52 ?_
          refine r_iast (j := i) hx hb w (by have := D.1; omega) D.c3 hx3 (by omega) dX9_takes_53 (fun h12 H locs eh12 w => ?_)
          have D := D.s3 eh12
          generalize egz13 : upd gl1 i (gh (((a + 9) + i))) = gz13 at D
          have hfr : ∀ k_, ¬ (r ≤ k_ ∧ k_ < r + 14) → h12 k_ = h k_ := fun k_ hk_ => by rw [eh12, va_up_ne _ _ (by omega)]; exact hfr k_ hk_
          obtain ⟨y14, ey14⟩ : ∃ y : Int32, y = x3 + (1) := ⟨_, rfl⟩
          have ty14 : y14.toInt = (((i + 1) : Nat) : Int) := i_addN ey14 hx3 (by decide : (1 : Int32).toInt = ((1 : Nat) : Int)) (by omega)
          refine lv_iinc (v := y14) (lv' := [(3, .int y14), (0, .ref (g.2.2.1 r)), (1, .ref (g.2.2.1 (r + 9))), (2, .int p1)]) hx hb dX9_takes_54 hl (k := 3) rfl (by rw [ey14]; rfl) (by decide) rfl (fun ls hl => ?_)
          refine lv_goto (tgt := 9) hx hb dX9_takes_57 (by decide) ?_
          exact ih9 (i + 1) y14 gz5 gz9 gz13 h12 _ _ _ w (lv_sub hl [1, 2, 3, 0] rfl) (by omega) ty14 (htk.up egz5 egz9 egz13) D hfr (by omega)
      · intro i x3 ga1 gk1 gl1 gB1 hc H locs ls w hl hi hx3 htk htb D hfr hN_
        refine lv_iload_n hx hb dX9_takes_62 rfl (lv_at hl 3 rfl) ?_
        refine lv_bipush (v := 96) hx hb dX9_takes_63 (by decide) ?_
        refine lv_icmp_ge (tgt := 88) hx hb dX9_takes_65 (by decide) (fun c15 => ?_) (fun c15 => ?_)
        · have c15 : ((96 : Nat) : Int) ≤ ((i : Nat) : Int) := (i_le (by decide : (96 : Int32).toInt = ((96 : Nat) : Int)) hx3).mp c15
          refine lv_aload_n hx hb dX9_takes_88 rfl (lv_at hl 0 rfl) ?_
          refine lv_iconst (v := 0) hx hb dX9_takes_89 (by decide) ?_
          refine r_put (ty := .boolean) (C := RX9) (T := TX9) (N := 20) (ci := 7) hx hb hts inX9_takes_X9 tyX9 tyX9_ok nmX9 hown w (by have := D.1; omega) D.c0 rfl 8 (by decide) (hts (Cond.fieldLink RX9 121 "EarlyValuesModel" "isKnown" "Z") (List.mem_of_getElem? (i := 6) (by decide +kernel))) rfl rfl (by decide +kernel) (by first | rfl | exact rfl) (by first | rfl | exact Bq.fit rfl) (Nat.le_of_ble_eq_true rfl) dX9_takes_90 (fun h16 H locs eh16 w => ?_)
          have D := D.s0 eh16
          have hfr : ∀ k_, ¬ (r ≤ k_ ∧ k_ < r + 14) → h16 k_ = h k_ := fun k_ hk_ => by rw [eh16, va_up_ne _ _ (by omega)]; exact hfr k_ hk_
          refine r_vret hx hb hr hlocks w dX9_takes_93 ?_
          exact ⟨hfr, _, _, _, _, _, D, rfl, htk, fun k_ hk_ => htb k_ (by omega)⟩
        · have c15 : ¬ (((96 : Nat) : Int) ≤ ((i : Nat) : Int)) := fun q => c15 ((i_le (by decide : (96 : Int32).toInt = ((96 : Nat) : Int)) hx3).mpr q)
          refine lv_aload_n hx hb dX9_takes_68 rfl (lv_at hl 0 rfl) ?_
          refine r_get (C := RX9) (T := TX9) (N := 20) (ci := 7) hx hb hts inX9_takes_X9 hown w (by have := D.1; omega) D.c0 rfl 4 (by decide) (hts (Cond.fieldLink RX9 19 "EarlyValuesModel" "body" "[I") (List.mem_of_getElem? (i := 5) (by decide +kernel))) rfl rfl dX9_takes_69 ?_
          refine lv_iload_n hx hb dX9_takes_72 rfl (lv_at hl 3 rfl) ?_
          refine lv_aload_n hx hb dX9_takes_73 rfl (lv_at hl 1 rfl) ?_
          refine lv_iload_n hx hb dX9_takes_74 rfl (lv_at hl 2 rfl) ?_
          refine lv_bipush (v := 13) hx hb dX9_takes_75 (by decide) ?_
          refine lv_iadd hx hb dX9_takes_77 ?_
          refine lv_topi (fun y17 ey17 => ?_)
          have ty17 : y17.toInt = (((a + 13) : Nat) : Int) := i_addN ey17 hp1 (by decide : (13 : Int32).toInt = ((13 : Nat) : Int)) (by omega)
          refine lv_iload_n hx hb dX9_takes_78 rfl (lv_at hl 3 rfl) ?_
          refine lv_iadd hx hb dX9_takes_79 ?_
          refine lv_topi (fun y18 ey18 => ?_)
          have ty18 : y18.toInt = ((((a + 13) + i) : Nat) : Int) := i_addN ey18 ty17 hx3 (by omega)
          refine r_iald (j := ((a + 13) + i)) hx hb w (by have := D.1; omega) D.c9 ty18 (by omega) dX9_takes_80 ?_
          refine r_iast (j := i) hx hb w (by have := D.1; omega) D.c4 hx3 (by omega) dX9_takes_81 (fun h19 H locs eh19 w => ?_)
          have D := D.s4 eh19
          generalize egz20 : upd gB1 i (gh (((a + 13) + i))) = gz20 at D
          have hfr : ∀ k_, ¬ (r ≤ k_ ∧ k_ < r + 14) → h19 k_ = h k_ := fun k_ hk_ => by rw [eh19, va_up_ne _ _ (by omega)]; exact hfr k_ hk_
          obtain ⟨y21, ey21⟩ : ∃ y : Int32, y = x3 + (1) := ⟨_, rfl⟩
          have ty21 : y21.toInt = (((i + 1) : Nat) : Int) := i_addN ey21 hx3 (by decide : (1 : Int32).toInt = ((1 : Nat) : Int)) (by omega)
          refine lv_iinc (v := y21) (lv' := [(3, .int y21), (0, .ref (g.2.2.1 r)), (1, .ref (g.2.2.1 (r + 9))), (2, .int p1)]) hx hb dX9_takes_82 hl (k := 3) rfl (by rw [ey21]; rfl) (by decide) rfl (fun ls hl => ?_)
          refine lv_goto (tgt := 62) hx hb dX9_takes_85 (by decide) ?_
          exact ih62 (i + 1) y21 ga1 gk1 gl1 gz20 h19 _ _ _ w (lv_sub hl [1, 2, 3, 0] rfl) (by omega) ty21 htk (tkb_up htb egz20) D hfr (by omega)
  have cut0 := cuts (200)
  obtain ⟨ih9, ih62⟩ := cut0
  refine lv_aload_n hx hb dX9_takes_0 rfl (lv_at hl 0 rfl) ?_
  refine lv_aload_n hx hb dX9_takes_1 rfl (lv_at hl 1 rfl) ?_
  refine lv_iload_n hx hb dX9_takes_2 rfl (lv_at hl 2 rfl) ?_
  refine r_iald (j := a) hx hb w (by have := D.1; omega) D.c9 hp1 (by omega) dX9_takes_3 ?_
  refine r_put (ty := .int) (C := RX9) (T := TX9) (N := 20) (ci := 7) hx hb hts inX9_takes_X9 tyX9 tyX9_ok nmX9 hown w (by have := D.1; omega) D.c0 rfl 0 (by decide) (hts (Cond.fieldLink RX9 49 "EarlyValuesModel" "many" "I") (List.mem_of_getElem? (i := 1) (by decide +kernel))) rfl rfl (by decide +kernel) rfl rfl (Nat.le_of_ble_eq_true rfl) dX9_takes_4 (fun h22 H locs eh22 w => ?_)
  have D := D.s0 eh22
  have hfr : ∀ k_, ¬ (r ≤ k_ ∧ k_ < r + 14) → h22 k_ = h k_ := fun k_ hk_ => by rw [eh22, va_up_ne _ _ (by omega)]
  refine lv_iconst (v := 0) hx hb dX9_takes_7 (by decide) ?_
  refine lv_istore_n (lv' := [(3, .int 0), (0, .ref (g.2.2.1 r)), (1, .ref (g.2.2.1 (r + 9))), (2, .int p1)]) hx hb dX9_takes_8 rfl hl (by decide) rfl (fun ls hl => ?_)
  exact ih9 0 0 ga gk gl h22 _ _ _ w (lv_sub hl [1, 2, 3, 0] rfl) (Nat.zero_le _) ((by decide : (0 : Int32).toInt = ((0 : Nat) : Int))) (fun j_ hj_ => absurd hj_ (Nat.not_lt_zero _)) D hfr (by omega)

set_option maxHeartbeats 4000000 in
set_option maxRecDepth 100000 in
theorem c_X9_takes_gv (l : Launch) {g : GE} {h : Nat → va_E} {r : Nat} {nm kn um sv sz ra rm : Int32} {ga gk gl gB gt gn gr gp gh gv gs gx gf : Nat → Int32} (D : MdA g h r nm kn um sv sz ra rm ga gk gl gB gt gn gr gp gh gv gs gx gf) {a : Nat} (p1 : Int32) (hp1 : p1.toInt = (a : Int)) (hal : a + 109 ≤ 218) : MV l yX9_takes wsX9_takes rm_X9_takes [.ref (g.2.2.1 r), .ref (g.2.2.1 (r + 10)), .int p1] g h (fun h2 => (∀ k, ¬ (r ≤ k ∧ k < r + 14) → h2 k = h k) ∧ ∃ (nm2 : Int32) (ga2 gk2 gl2 gB2 : Nat → Int32), MdA g h2 r nm2 0 um sv sz ra rm ga2 gk2 gl2 gB2 gt gn gr gp gh gv gs gx gf ∧ SnapE gv a nm2 ga2 gk2 gl2 gB2) := by
  refine Met.ofW (cc := cX9_takes) (maxL := 4) (ret := none) (by decide) rfl ?_
  intro p e s m args below meth c s₁ B hml hv
  obtain ⟨rfl, w0⟩ := hv
  have hx := B.exec
  have hb := B.bytes
  have hr := B.returns
  have hts := atoms_spec (ws := wsX9_takes) B.pre
  have hown : s.vm.findClass RX9 = some m.cls := findClass_of_methodNamed B.named
  have hlocks := B.notSynchronized
  have w := w0.start
  clear w0
  have hl := lv_entry ([.ref (g.2.2.1 r), .ref (g.2.2.1 (r + 10)), .int p1]) (n := 4) (Nat.le_of_ble_eq_true rfl)
  rw [lg_entry_eq]
  generalize (lg_sl ([.ref (g.2.2.1 r), .ref (g.2.2.1 (r + 10)), .int p1]) ++ List.replicate (4 - (lg_sl ([.ref (g.2.2.1 r), .ref (g.2.2.1 (r + 10)), .int p1])).length) Slot.unset).toArray = ls at hl ⊢
  have hl : lv_has ls 4 [(0, .ref (g.2.2.1 r)), (1, .ref (g.2.2.1 (r + 10))), (2, .int p1)] := hl
  have cuts : ∀ N : Nat, (∀ (i : Nat) (x3 : Int32) (ga1 : Nat → Int32) (gk1 : Nat → Int32) (gl1 : Nat → Int32) (hc : Nat → va_E) (H : Heap) (locs : List Loc) (ls : Array Slot), WD g (inW g) s hc H locs → lv_has ls 4 [(0, .ref (g.2.2.1 r)), (1, .ref (g.2.2.1 (r + 10))), (2, .int p1), (3, .int x3)] → (i ≤ 4) → (x3.toInt = ((i : Nat) : Int)) → (TkA gv a i ga1 gk1 gl1) → (MdA g hc r (gv a) kn um sv sz ra rm ga1 gk1 gl1 gB gt gn gr gp gh gv gs gx gf) → (∀ k, ¬ (r ≤ k ∧ k < r + 14) → hc k = h k) → 110 - i < N → W p l e (headSpec wsX9_takes rm_X9_takes).room s m ([.ref (g.2.2.1 r), .ref (g.2.2.1 (r + 10)), .int p1] : List Value).toArray below meth c H locs 0 0 (MQ below (va_Qv (fun h2 => (∀ k, ¬ (r ≤ k ∧ k < r + 14) → h2 k = h k) ∧ ∃ (nm2 : Int32) (ga2 gk2 gl2 gB2 : Nat → Int32), MdA g h2 r nm2 0 um sv sz ra rm ga2 gk2 gl2 gB2 gt gn gr gp gh gv gs gx gf ∧ SnapE gv a nm2 ga2 gk2 gl2 gB2) (Wd g) (inW g)) ([.ref (g.2.2.1 r), .ref (g.2.2.1 (r + 10)), .int p1] : List Value).toArray s 0 0 (inW g)) (F0 m 9 ls [])) ∧ (∀ (i : Nat) (x3 : Int32) (ga1 : Nat → Int32) (gk1 : Nat → Int32) (gl1 : Nat → Int32) (gB1 : Nat → Int32) (hc : Nat → va_E) (H : Heap) (locs : List Loc) (ls : Array Slot), WD g (inW g) s hc H locs → lv_has ls 4 [(0, .ref (g.2.2.1 r)), (1, .ref (g.2.2.1 (r + 10))), (2, .int p1), (3, .int x3)] → (i ≤ 96) → (x3.toInt = ((i : Nat) : Int)) → (TkA gv a 4 ga1 gk1 gl1) → (∀ k, k < i → gv (a + 13 + k) = gB1 k) → (MdA g hc r (gv a) kn um sv sz ra rm ga1 gk1 gl1 gB1 gt gn gr gp gh gv gs gx gf) → (∀ k, ¬ (r ≤ k ∧ k < r + 14) → hc k = h k) → 100 - i < N → W p l e (headSpec wsX9_takes rm_X9_takes).room s m ([.ref (g.2.2.1 r), .ref (g.2.2.1 (r + 10)), .int p1] : List Value).toArray below meth c H locs 0 0 (MQ below (va_Qv (fun h2 => (∀ k, ¬ (r ≤ k ∧ k < r + 14) → h2 k = h k) ∧ ∃ (nm2 : Int32) (ga2 gk2 gl2 gB2 : Nat → Int32), MdA g h2 r nm2 0 um sv sz ra rm ga2 gk2 gl2 gB2 gt gn gr gp gh gv gs gx gf ∧ SnapE gv a nm2 ga2 gk2 gl2 gB2) (Wd g) (inW g)) ([.ref (g.2.2.1 r), .ref (g.2.2.1 (r + 10)), .int p1] : List Value).toArray s 0 0 (inW g)) (F0 m 62 ls [])) := by
    intro N
    induction N with
    | zero => exact ⟨by intros; omega, by intros; omega⟩
    | succ N ih =>
      obtain ⟨ih9, ih62⟩ := ih
      refine ⟨?_, ?_⟩
      · intro i x3 ga1 gk1 gl1 hc H locs ls w hl hi hx3 htk D hfr hN_
        refine lv_iload_n hx hb dX9_takes_9 rfl (lv_at hl 3 rfl) ?_
        refine lv_iconst (v := 4) hx hb dX9_takes_10 (by decide) ?_
        refine lv_icmp_ge (tgt := 60) hx hb dX9_takes_11 (by decide) (fun c1 => ?_) (fun c1 => ?_)
        · have c1 : ((4 : Nat) : Int) ≤ ((i : Nat) : Int) := (i_le (by decide : (4 : Int32).toInt = ((4 : Nat) : Int)) hx3).mp c1
          refine lv_iconst (v := 0) hx hb dX9_takes_60 (by decide) ?_
          refine lv_istore_n (lv' := [(3, .int 0), (0, .ref (g.2.2.1 r)), (1, .ref (g.2.2.1 (r + 10))), (2, .int p1)]) hx hb dX9_takes_61 rfl hl (by decide) rfl (fun ls hl => ?_)
          exact ih62 0 0 ga1 gk1 gl1 gB hc _ _ _ w (lv_sub hl [1, 2, 3, 0] rfl) (Nat.zero_le _) ((by decide : (0 : Int32).toInt = ((0 : Nat) : Int))) (by rw [show 4 = i by omega]; exact htk) (fun j_ hj_ => absurd hj_ (Nat.not_lt_zero _)) D hfr (by omega)
        · have c1 : ¬ (((4 : Nat) : Int) ≤ ((i : Nat) : Int)) := fun q => c1 ((i_le (by decide : (4 : Int32).toInt = ((4 : Nat) : Int)) hx3).mpr q)
          refine lv_aload_n hx hb dX9_takes_14 rfl (lv_at hl 0 rfl) ?_
          refine r_get (C := RX9) (T := TX9) (N := 20) (ci := 7) hx hb hts inX9_takes_X9 hown w (by have := D.1; omega) D.c0 rfl 1 (by decide) (hts (Cond.fieldLink RX9 7 "EarlyValuesModel" "argsOf" "[I") (List.mem_of_getElem? (i := 2) (by decide +kernel))) rfl rfl dX9_takes_15 ?_
          refine lv_iload_n hx hb dX9_takes_18 rfl (lv_at hl 3 rfl) ?_
          refine lv_aload_n hx hb dX9_takes_19 rfl (lv_at hl 1 rfl) ?_
          refine lv_iload_n hx hb dX9_takes_20 rfl (lv_at hl 2 rfl) ?_
          refine lv_iconst (v := 1) hx hb dX9_takes_21 (by decide) ?_
          refine lv_iadd hx hb dX9_takes_22 ?_
          refine lv_topi (fun y2 ey2 => ?_)
          have ty2 : y2.toInt = (((a + 1) : Nat) : Int) := i_addN ey2 hp1 (by decide : (1 : Int32).toInt = ((1 : Nat) : Int)) (by omega)
          refine lv_iload_n hx hb dX9_takes_23 rfl (lv_at hl 3 rfl) ?_
          refine lv_iadd hx hb dX9_takes_24 ?_
          refine lv_topi (fun y3 ey3 => ?_)
          have ty3 : y3.toInt = ((((a + 1) + i) : Nat) : Int) := i_addN ey3 ty2 hx3 (by omega)
          refine r_iald (j := ((a + 1) + i)) hx hb w (by have := D.1; omega) D.c10 ty3 (by omega) dX9_takes_25 ?_
          refine r_iast (j := i) hx hb w (by have := D.1; omega) D.c1 hx3 (by omega) dX9_takes_26 (fun h4 H locs eh4 w => ?_)
          have D := D.s1 eh4
          generalize egz5 : upd ga1 i (gv (((a + 1) + i))) = gz5 at D
          have hfr : ∀ k_, ¬ (r ≤ k_ ∧ k_ < r + 14) → h4 k_ = h k_ := fun k_ hk_ => by rw [eh4, va_up_ne _ _ (by omega)]; exact hfr k_ hk_
          refine lv_aload_n hx hb dX9_takes_27 rfl (lv_at hl 0 rfl) ?_
          refine r_get (C := RX9) (T := TX9) (N := 20) (ci := 7) hx hb hts inX9_takes_X9 hown w (by have := D.1; omega) D.c0 rfl 2 (by decide) (hts (Cond.fieldLink RX9 13 "EarlyValuesModel" "kindOf" "[I") (List.mem_of_getElem? (i := 3) (by decide +kernel))) rfl rfl dX9_takes_28 ?_
          refine lv_iload_n hx hb dX9_takes_31 rfl (lv_at hl 3 rfl) ?_
          refine lv_aload_n hx hb dX9_takes_32 rfl (lv_at hl 1 rfl) ?_
          refine lv_iload_n hx hb dX9_takes_33 rfl (lv_at hl 2 rfl) ?_
          refine lv_iconst (v := 5) hx hb dX9_takes_34 (by decide) ?_
          refine lv_iadd hx hb dX9_takes_35 ?_
          refine lv_topi (fun y6 ey6 => ?_)
          have ty6 : y6.toInt = (((a + 5) : Nat) : Int) := i_addN ey6 hp1 (by decide : (5 : Int32).toInt = ((5 : Nat) : Int)) (by omega)
          refine lv_iload_n hx hb dX9_takes_36 rfl (lv_at hl 3 rfl) ?_
          refine lv_iadd hx hb dX9_takes_37 ?_
          refine lv_topi (fun y7 ey7 => ?_)
          have ty7 : y7.toInt = ((((a + 5) + i) : Nat) : Int) := i_addN ey7 ty6 hx3 (by omega)
          refine r_iald (j := ((a + 5) + i)) hx hb w (by have := D.1; omega) D.c10 ty7 (by omega) dX9_takes_38 ?_
          refine r_iast (j := i) hx hb w (by have := D.1; omega) D.c2 hx3 (by omega) dX9_takes_39 (fun h8 H locs eh8 w => ?_)
          have D := D.s2 eh8
          generalize egz9 : upd gk1 i (gv (((a + 5) + i))) = gz9 at D
          have hfr : ∀ k_, ¬ (r ≤ k_ ∧ k_ < r + 14) → h8 k_ = h k_ := fun k_ hk_ => by rw [eh8, va_up_ne _ _ (by omega)]; exact hfr k_ hk_
          refine lv_aload_n hx hb dX9_takes_40 rfl (lv_at hl 0 rfl) ?_
          refine r_get (C := RX9) (T := TX9) (N := 20) (ci := 7) hx hb hts inX9_takes_X9 hown w (by have := D.1; omega) D.c0 rfl 3 (by decide) (hts (Cond.fieldLink RX9 16 "EarlyValuesModel" "longOf" "[I") (List.mem_of_getElem? (i := 4) (by decide +kernel))) rfl rfl dX9_takes_41 ?_
          refine lv_iload_n hx hb dX9_takes_44 rfl (lv_at hl 3 rfl) ?_
          refine lv_aload_n hx hb dX9_takes_45 rfl (lv_at hl 1 rfl) ?_
          refine lv_iload_n hx hb dX9_takes_46 rfl (lv_at hl 2 rfl) ?_
          refine lv_bipush (v := 9) hx hb dX9_takes_47 (by decide) ?_
          refine lv_iadd hx hb dX9_takes_49 ?_
          refine lv_topi (fun y10 ey10 => ?_)
          have ty10 : y10.toInt = (((a + 9) : Nat) : Int) := i_addN ey10 hp1 (by decide : (9 : Int32).toInt = ((9 : Nat) : Int)) (by omega)
          refine lv_iload_n hx hb dX9_takes_50 rfl (lv_at hl 3 rfl) ?_
          refine lv_iadd hx hb dX9_takes_51 ?_
          refine lv_topi (fun y11 ey11 => ?_)
          have ty11 : y11.toInt = ((((a + 9) + i) : Nat) : Int) := i_addN ey11 ty10 hx3 (by omega)
          refine r_iald (j := ((a + 9) + i)) hx hb w (by have := D.1; omega) D.c10 ty11 (by omega) dX9_takes_52 ?_
          refine r_iast (j := i) hx hb w (by have := D.1; omega) D.c3 hx3 (by omega) dX9_takes_53 (fun h12 H locs eh12 w => ?_)
          have D := D.s3 eh12
          generalize egz13 : upd gl1 i (gv (((a + 9) + i))) = gz13 at D
          have hfr : ∀ k_, ¬ (r ≤ k_ ∧ k_ < r + 14) → h12 k_ = h k_ := fun k_ hk_ => by rw [eh12, va_up_ne _ _ (by omega)]; exact hfr k_ hk_
          obtain ⟨y14, ey14⟩ : ∃ y : Int32, y = x3 + (1) := ⟨_, rfl⟩
          have ty14 : y14.toInt = (((i + 1) : Nat) : Int) := i_addN ey14 hx3 (by decide : (1 : Int32).toInt = ((1 : Nat) : Int)) (by omega)
          refine lv_iinc (v := y14) (lv' := [(3, .int y14), (0, .ref (g.2.2.1 r)), (1, .ref (g.2.2.1 (r + 10))), (2, .int p1)]) hx hb dX9_takes_54 hl (k := 3) rfl (by rw [ey14]; rfl) (by decide) rfl (fun ls hl => ?_)
          refine lv_goto (tgt := 9) hx hb dX9_takes_57 (by decide) ?_
          exact ih9 (i + 1) y14 gz5 gz9 gz13 h12 _ _ _ w (lv_sub hl [1, 2, 3, 0] rfl) (by omega) ty14 (htk.up egz5 egz9 egz13) D hfr (by omega)
      · intro i x3 ga1 gk1 gl1 gB1 hc H locs ls w hl hi hx3 htk htb D hfr hN_
        refine lv_iload_n hx hb dX9_takes_62 rfl (lv_at hl 3 rfl) ?_
        refine lv_bipush (v := 96) hx hb dX9_takes_63 (by decide) ?_
        refine lv_icmp_ge (tgt := 88) hx hb dX9_takes_65 (by decide) (fun c15 => ?_) (fun c15 => ?_)
        · have c15 : ((96 : Nat) : Int) ≤ ((i : Nat) : Int) := (i_le (by decide : (96 : Int32).toInt = ((96 : Nat) : Int)) hx3).mp c15
          refine lv_aload_n hx hb dX9_takes_88 rfl (lv_at hl 0 rfl) ?_
          refine lv_iconst (v := 0) hx hb dX9_takes_89 (by decide) ?_
          refine r_put (ty := .boolean) (C := RX9) (T := TX9) (N := 20) (ci := 7) hx hb hts inX9_takes_X9 tyX9 tyX9_ok nmX9 hown w (by have := D.1; omega) D.c0 rfl 8 (by decide) (hts (Cond.fieldLink RX9 121 "EarlyValuesModel" "isKnown" "Z") (List.mem_of_getElem? (i := 6) (by decide +kernel))) rfl rfl (by decide +kernel) (by first | rfl | exact rfl) (by first | rfl | exact Bq.fit rfl) (Nat.le_of_ble_eq_true rfl) dX9_takes_90 (fun h16 H locs eh16 w => ?_)
          have D := D.s0 eh16
          have hfr : ∀ k_, ¬ (r ≤ k_ ∧ k_ < r + 14) → h16 k_ = h k_ := fun k_ hk_ => by rw [eh16, va_up_ne _ _ (by omega)]; exact hfr k_ hk_
          refine r_vret hx hb hr hlocks w dX9_takes_93 ?_
          exact ⟨hfr, _, _, _, _, _, D, rfl, htk, fun k_ hk_ => htb k_ (by omega)⟩
        · have c15 : ¬ (((96 : Nat) : Int) ≤ ((i : Nat) : Int)) := fun q => c15 ((i_le (by decide : (96 : Int32).toInt = ((96 : Nat) : Int)) hx3).mpr q)
          refine lv_aload_n hx hb dX9_takes_68 rfl (lv_at hl 0 rfl) ?_
          refine r_get (C := RX9) (T := TX9) (N := 20) (ci := 7) hx hb hts inX9_takes_X9 hown w (by have := D.1; omega) D.c0 rfl 4 (by decide) (hts (Cond.fieldLink RX9 19 "EarlyValuesModel" "body" "[I") (List.mem_of_getElem? (i := 5) (by decide +kernel))) rfl rfl dX9_takes_69 ?_
          refine lv_iload_n hx hb dX9_takes_72 rfl (lv_at hl 3 rfl) ?_
          refine lv_aload_n hx hb dX9_takes_73 rfl (lv_at hl 1 rfl) ?_
          refine lv_iload_n hx hb dX9_takes_74 rfl (lv_at hl 2 rfl) ?_
          refine lv_bipush (v := 13) hx hb dX9_takes_75 (by decide) ?_
          refine lv_iadd hx hb dX9_takes_77 ?_
          refine lv_topi (fun y17 ey17 => ?_)
          have ty17 : y17.toInt = (((a + 13) : Nat) : Int) := i_addN ey17 hp1 (by decide : (13 : Int32).toInt = ((13 : Nat) : Int)) (by omega)
          refine lv_iload_n hx hb dX9_takes_78 rfl (lv_at hl 3 rfl) ?_
          refine lv_iadd hx hb dX9_takes_79 ?_
          refine lv_topi (fun y18 ey18 => ?_)
          have ty18 : y18.toInt = ((((a + 13) + i) : Nat) : Int) := i_addN ey18 ty17 hx3 (by omega)
          refine r_iald (j := ((a + 13) + i)) hx hb w (by have := D.1; omega) D.c10 ty18 (by omega) dX9_takes_80 ?_
          refine r_iast (j := i) hx hb w (by have := D.1; omega) D.c4 hx3 (by omega) dX9_takes_81 (fun h19 H locs eh19 w => ?_)
          have D := D.s4 eh19
          generalize egz20 : upd gB1 i (gv (((a + 13) + i))) = gz20 at D
          have hfr : ∀ k_, ¬ (r ≤ k_ ∧ k_ < r + 14) → h19 k_ = h k_ := fun k_ hk_ => by rw [eh19, va_up_ne _ _ (by omega)]; exact hfr k_ hk_
          obtain ⟨y21, ey21⟩ : ∃ y : Int32, y = x3 + (1) := ⟨_, rfl⟩
          have ty21 : y21.toInt = (((i + 1) : Nat) : Int) := i_addN ey21 hx3 (by decide : (1 : Int32).toInt = ((1 : Nat) : Int)) (by omega)
          refine lv_iinc (v := y21) (lv' := [(3, .int y21), (0, .ref (g.2.2.1 r)), (1, .ref (g.2.2.1 (r + 10))), (2, .int p1)]) hx hb dX9_takes_82 hl (k := 3) rfl (by rw [ey21]; rfl) (by decide) rfl (fun ls hl => ?_)
          refine lv_goto (tgt := 62) hx hb dX9_takes_85 (by decide) ?_
          exact ih62 (i + 1) y21 ga1 gk1 gl1 gz20 h19 _ _ _ w (lv_sub hl [1, 2, 3, 0] rfl) (by omega) ty21 htk (tkb_up htb egz20) D hfr (by omega)
  have cut0 := cuts (200)
  obtain ⟨ih9, ih62⟩ := cut0
  refine lv_aload_n hx hb dX9_takes_0 rfl (lv_at hl 0 rfl) ?_
  refine lv_aload_n hx hb dX9_takes_1 rfl (lv_at hl 1 rfl) ?_
  refine lv_iload_n hx hb dX9_takes_2 rfl (lv_at hl 2 rfl) ?_
  refine r_iald (j := a) hx hb w (by have := D.1; omega) D.c10 hp1 (by omega) dX9_takes_3 ?_
  refine r_put (ty := .int) (C := RX9) (T := TX9) (N := 20) (ci := 7) hx hb hts inX9_takes_X9 tyX9 tyX9_ok nmX9 hown w (by have := D.1; omega) D.c0 rfl 0 (by decide) (hts (Cond.fieldLink RX9 49 "EarlyValuesModel" "many" "I") (List.mem_of_getElem? (i := 1) (by decide +kernel))) rfl rfl (by decide +kernel) rfl rfl (Nat.le_of_ble_eq_true rfl) dX9_takes_4 (fun h22 H locs eh22 w => ?_)
  have D := D.s0 eh22
  have hfr : ∀ k_, ¬ (r ≤ k_ ∧ k_ < r + 14) → h22 k_ = h k_ := fun k_ hk_ => by rw [eh22, va_up_ne _ _ (by omega)]
  refine lv_iconst (v := 0) hx hb dX9_takes_7 (by decide) ?_
  refine lv_istore_n (lv' := [(3, .int 0), (0, .ref (g.2.2.1 r)), (1, .ref (g.2.2.1 (r + 10))), (2, .int p1)]) hx hb dX9_takes_8 rfl hl (by decide) rfl (fun ls hl => ?_)
  exact ih9 0 0 ga gk gl h22 _ _ _ w (lv_sub hl [1, 2, 3, 0] rfl) (Nat.zero_le _) ((by decide : (0 : Int32).toInt = ((0 : Nat) : Int))) (fun j_ hj_ => absurd hj_ (Nat.not_lt_zero _)) D hfr (by omega)

set_option maxHeartbeats 4000000 in
set_option maxRecDepth 100000 in
theorem c_X9_takes_gs (l : Launch) {g : GE} {h : Nat → va_E} {r : Nat} {nm kn um sv sz ra rm : Int32} {ga gk gl gB gt gn gr gp gh gv gs gx gf : Nat → Int32} (D : MdA g h r nm kn um sv sz ra rm ga gk gl gB gt gn gr gp gh gv gs gx gf) {a : Nat} (p1 : Int32) (hp1 : p1.toInt = (a : Int)) (hal : a + 109 ≤ 109) : MV l yX9_takes wsX9_takes rm_X9_takes [.ref (g.2.2.1 r), .ref (g.2.2.1 (r + 11)), .int p1] g h (fun h2 => (∀ k, ¬ (r ≤ k ∧ k < r + 14) → h2 k = h k) ∧ ∃ (nm2 : Int32) (ga2 gk2 gl2 gB2 : Nat → Int32), MdA g h2 r nm2 0 um sv sz ra rm ga2 gk2 gl2 gB2 gt gn gr gp gh gv gs gx gf ∧ SnapE gs a nm2 ga2 gk2 gl2 gB2) := by
  refine Met.ofW (cc := cX9_takes) (maxL := 4) (ret := none) (by decide) rfl ?_
  intro p e s m args below meth c s₁ B hml hv
  obtain ⟨rfl, w0⟩ := hv
  have hx := B.exec
  have hb := B.bytes
  have hr := B.returns
  have hts := atoms_spec (ws := wsX9_takes) B.pre
  have hown : s.vm.findClass RX9 = some m.cls := findClass_of_methodNamed B.named
  have hlocks := B.notSynchronized
  have w := w0.start
  clear w0
  have hl := lv_entry ([.ref (g.2.2.1 r), .ref (g.2.2.1 (r + 11)), .int p1]) (n := 4) (Nat.le_of_ble_eq_true rfl)
  rw [lg_entry_eq]
  generalize (lg_sl ([.ref (g.2.2.1 r), .ref (g.2.2.1 (r + 11)), .int p1]) ++ List.replicate (4 - (lg_sl ([.ref (g.2.2.1 r), .ref (g.2.2.1 (r + 11)), .int p1])).length) Slot.unset).toArray = ls at hl ⊢
  have hl : lv_has ls 4 [(0, .ref (g.2.2.1 r)), (1, .ref (g.2.2.1 (r + 11))), (2, .int p1)] := hl
  have cuts : ∀ N : Nat, (∀ (i : Nat) (x3 : Int32) (ga1 : Nat → Int32) (gk1 : Nat → Int32) (gl1 : Nat → Int32) (hc : Nat → va_E) (H : Heap) (locs : List Loc) (ls : Array Slot), WD g (inW g) s hc H locs → lv_has ls 4 [(0, .ref (g.2.2.1 r)), (1, .ref (g.2.2.1 (r + 11))), (2, .int p1), (3, .int x3)] → (i ≤ 4) → (x3.toInt = ((i : Nat) : Int)) → (TkA gs a i ga1 gk1 gl1) → (MdA g hc r (gs a) kn um sv sz ra rm ga1 gk1 gl1 gB gt gn gr gp gh gv gs gx gf) → (∀ k, ¬ (r ≤ k ∧ k < r + 14) → hc k = h k) → 110 - i < N → W p l e (headSpec wsX9_takes rm_X9_takes).room s m ([.ref (g.2.2.1 r), .ref (g.2.2.1 (r + 11)), .int p1] : List Value).toArray below meth c H locs 0 0 (MQ below (va_Qv (fun h2 => (∀ k, ¬ (r ≤ k ∧ k < r + 14) → h2 k = h k) ∧ ∃ (nm2 : Int32) (ga2 gk2 gl2 gB2 : Nat → Int32), MdA g h2 r nm2 0 um sv sz ra rm ga2 gk2 gl2 gB2 gt gn gr gp gh gv gs gx gf ∧ SnapE gs a nm2 ga2 gk2 gl2 gB2) (Wd g) (inW g)) ([.ref (g.2.2.1 r), .ref (g.2.2.1 (r + 11)), .int p1] : List Value).toArray s 0 0 (inW g)) (F0 m 9 ls [])) ∧ (∀ (i : Nat) (x3 : Int32) (ga1 : Nat → Int32) (gk1 : Nat → Int32) (gl1 : Nat → Int32) (gB1 : Nat → Int32) (hc : Nat → va_E) (H : Heap) (locs : List Loc) (ls : Array Slot), WD g (inW g) s hc H locs → lv_has ls 4 [(0, .ref (g.2.2.1 r)), (1, .ref (g.2.2.1 (r + 11))), (2, .int p1), (3, .int x3)] → (i ≤ 96) → (x3.toInt = ((i : Nat) : Int)) → (TkA gs a 4 ga1 gk1 gl1) → (∀ k, k < i → gs (a + 13 + k) = gB1 k) → (MdA g hc r (gs a) kn um sv sz ra rm ga1 gk1 gl1 gB1 gt gn gr gp gh gv gs gx gf) → (∀ k, ¬ (r ≤ k ∧ k < r + 14) → hc k = h k) → 100 - i < N → W p l e (headSpec wsX9_takes rm_X9_takes).room s m ([.ref (g.2.2.1 r), .ref (g.2.2.1 (r + 11)), .int p1] : List Value).toArray below meth c H locs 0 0 (MQ below (va_Qv (fun h2 => (∀ k, ¬ (r ≤ k ∧ k < r + 14) → h2 k = h k) ∧ ∃ (nm2 : Int32) (ga2 gk2 gl2 gB2 : Nat → Int32), MdA g h2 r nm2 0 um sv sz ra rm ga2 gk2 gl2 gB2 gt gn gr gp gh gv gs gx gf ∧ SnapE gs a nm2 ga2 gk2 gl2 gB2) (Wd g) (inW g)) ([.ref (g.2.2.1 r), .ref (g.2.2.1 (r + 11)), .int p1] : List Value).toArray s 0 0 (inW g)) (F0 m 62 ls [])) := by
    intro N
    induction N with
    | zero => exact ⟨by intros; omega, by intros; omega⟩
    | succ N ih =>
      obtain ⟨ih9, ih62⟩ := ih
      refine ⟨?_, ?_⟩
      · intro i x3 ga1 gk1 gl1 hc H locs ls w hl hi hx3 htk D hfr hN_
        refine lv_iload_n hx hb dX9_takes_9 rfl (lv_at hl 3 rfl) ?_
        refine lv_iconst (v := 4) hx hb dX9_takes_10 (by decide) ?_
        refine lv_icmp_ge (tgt := 60) hx hb dX9_takes_11 (by decide) (fun c1 => ?_) (fun c1 => ?_)
        · have c1 : ((4 : Nat) : Int) ≤ ((i : Nat) : Int) := (i_le (by decide : (4 : Int32).toInt = ((4 : Nat) : Int)) hx3).mp c1
          refine lv_iconst (v := 0) hx hb dX9_takes_60 (by decide) ?_
          refine lv_istore_n (lv' := [(3, .int 0), (0, .ref (g.2.2.1 r)), (1, .ref (g.2.2.1 (r + 11))), (2, .int p1)]) hx hb dX9_takes_61 rfl hl (by decide) rfl (fun ls hl => ?_)
          exact ih62 0 0 ga1 gk1 gl1 gB hc _ _ _ w (lv_sub hl [1, 2, 3, 0] rfl) (Nat.zero_le _) ((by decide : (0 : Int32).toInt = ((0 : Nat) : Int))) (by rw [show 4 = i by omega]; exact htk) (fun j_ hj_ => absurd hj_ (Nat.not_lt_zero _)) D hfr (by omega)
        · have c1 : ¬ (((4 : Nat) : Int) ≤ ((i : Nat) : Int)) := fun q => c1 ((i_le (by decide : (4 : Int32).toInt = ((4 : Nat) : Int)) hx3).mpr q)
          refine lv_aload_n hx hb dX9_takes_14 rfl (lv_at hl 0 rfl) ?_
          refine r_get (C := RX9) (T := TX9) (N := 20) (ci := 7) hx hb hts inX9_takes_X9 hown w (by have := D.1; omega) D.c0 rfl 1 (by decide) (hts (Cond.fieldLink RX9 7 "EarlyValuesModel" "argsOf" "[I") (List.mem_of_getElem? (i := 2) (by decide +kernel))) rfl rfl dX9_takes_15 ?_
          refine lv_iload_n hx hb dX9_takes_18 rfl (lv_at hl 3 rfl) ?_
          refine lv_aload_n hx hb dX9_takes_19 rfl (lv_at hl 1 rfl) ?_
          refine lv_iload_n hx hb dX9_takes_20 rfl (lv_at hl 2 rfl) ?_
          refine lv_iconst (v := 1) hx hb dX9_takes_21 (by decide) ?_
          refine lv_iadd hx hb dX9_takes_22 ?_
          refine lv_topi (fun y2 ey2 => ?_)
          have ty2 : y2.toInt = (((a + 1) : Nat) : Int) := i_addN ey2 hp1 (by decide : (1 : Int32).toInt = ((1 : Nat) : Int)) (by omega)
          refine lv_iload_n hx hb dX9_takes_23 rfl (lv_at hl 3 rfl) ?_
          refine lv_iadd hx hb dX9_takes_24 ?_
          refine lv_topi (fun y3 ey3 => ?_)
          have ty3 : y3.toInt = ((((a + 1) + i) : Nat) : Int) := i_addN ey3 ty2 hx3 (by omega)
          refine r_iald (j := ((a + 1) + i)) hx hb w (by have := D.1; omega) D.c11 ty3 (by omega) dX9_takes_25 ?_
          refine r_iast (j := i) hx hb w (by have := D.1; omega) D.c1 hx3 (by omega) dX9_takes_26 (fun h4 H locs eh4 w => ?_)
          have D := D.s1 eh4
          generalize egz5 : upd ga1 i (gs (((a + 1) + i))) = gz5 at D
          have hfr : ∀ k_, ¬ (r ≤ k_ ∧ k_ < r + 14) → h4 k_ = h k_ := fun k_ hk_ => by rw [eh4, va_up_ne _ _ (by omega)]; exact hfr k_ hk_
          refine lv_aload_n hx hb dX9_takes_27 rfl (lv_at hl 0 rfl) ?_
          refine r_get (C := RX9) (T := TX9) (N := 20) (ci := 7) hx hb hts inX9_takes_X9 hown w (by have := D.1; omega) D.c0 rfl 2 (by decide) (hts (Cond.fieldLink RX9 13 "EarlyValuesModel" "kindOf" "[I") (List.mem_of_getElem? (i := 3) (by decide +kernel))) rfl rfl dX9_takes_28 ?_
          refine lv_iload_n hx hb dX9_takes_31 rfl (lv_at hl 3 rfl) ?_
          refine lv_aload_n hx hb dX9_takes_32 rfl (lv_at hl 1 rfl) ?_
          refine lv_iload_n hx hb dX9_takes_33 rfl (lv_at hl 2 rfl) ?_
          refine lv_iconst (v := 5) hx hb dX9_takes_34 (by decide) ?_
          refine lv_iadd hx hb dX9_takes_35 ?_
          refine lv_topi (fun y6 ey6 => ?_)
          have ty6 : y6.toInt = (((a + 5) : Nat) : Int) := i_addN ey6 hp1 (by decide : (5 : Int32).toInt = ((5 : Nat) : Int)) (by omega)
          refine lv_iload_n hx hb dX9_takes_36 rfl (lv_at hl 3 rfl) ?_
          refine lv_iadd hx hb dX9_takes_37 ?_
          refine lv_topi (fun y7 ey7 => ?_)
          have ty7 : y7.toInt = ((((a + 5) + i) : Nat) : Int) := i_addN ey7 ty6 hx3 (by omega)
          refine r_iald (j := ((a + 5) + i)) hx hb w (by have := D.1; omega) D.c11 ty7 (by omega) dX9_takes_38 ?_
          refine r_iast (j := i) hx hb w (by have := D.1; omega) D.c2 hx3 (by omega) dX9_takes_39 (fun h8 H locs eh8 w => ?_)
          have D := D.s2 eh8
          generalize egz9 : upd gk1 i (gs (((a + 5) + i))) = gz9 at D
          have hfr : ∀ k_, ¬ (r ≤ k_ ∧ k_ < r + 14) → h8 k_ = h k_ := fun k_ hk_ => by rw [eh8, va_up_ne _ _ (by omega)]; exact hfr k_ hk_
          refine lv_aload_n hx hb dX9_takes_40 rfl (lv_at hl 0 rfl) ?_
          refine r_get (C := RX9) (T := TX9) (N := 20) (ci := 7) hx hb hts inX9_takes_X9 hown w (by have := D.1; omega) D.c0 rfl 3 (by decide) (hts (Cond.fieldLink RX9 16 "EarlyValuesModel" "longOf" "[I") (List.mem_of_getElem? (i := 4) (by decide +kernel))) rfl rfl dX9_takes_41 ?_
          refine lv_iload_n hx hb dX9_takes_44 rfl (lv_at hl 3 rfl) ?_
          refine lv_aload_n hx hb dX9_takes_45 rfl (lv_at hl 1 rfl) ?_
          refine lv_iload_n hx hb dX9_takes_46 rfl (lv_at hl 2 rfl) ?_
          refine lv_bipush (v := 9) hx hb dX9_takes_47 (by decide) ?_
          refine lv_iadd hx hb dX9_takes_49 ?_
          refine lv_topi (fun y10 ey10 => ?_)
          have ty10 : y10.toInt = (((a + 9) : Nat) : Int) := i_addN ey10 hp1 (by decide : (9 : Int32).toInt = ((9 : Nat) : Int)) (by omega)
          refine lv_iload_n hx hb dX9_takes_50 rfl (lv_at hl 3 rfl) ?_
          refine lv_iadd hx hb dX9_takes_51 ?_
          refine lv_topi (fun y11 ey11 => ?_)
          have ty11 : y11.toInt = ((((a + 9) + i) : Nat) : Int) := i_addN ey11 ty10 hx3 (by omega)
          refine r_iald (j := ((a + 9) + i)) hx hb w (by have := D.1; omega) D.c11 ty11 (by omega) dX9_takes_52 ?_
          refine r_iast (j := i) hx hb w (by have := D.1; omega) D.c3 hx3 (by omega) dX9_takes_53 (fun h12 H locs eh12 w => ?_)
          have D := D.s3 eh12
          generalize egz13 : upd gl1 i (gs (((a + 9) + i))) = gz13 at D
          have hfr : ∀ k_, ¬ (r ≤ k_ ∧ k_ < r + 14) → h12 k_ = h k_ := fun k_ hk_ => by rw [eh12, va_up_ne _ _ (by omega)]; exact hfr k_ hk_
          obtain ⟨y14, ey14⟩ : ∃ y : Int32, y = x3 + (1) := ⟨_, rfl⟩
          have ty14 : y14.toInt = (((i + 1) : Nat) : Int) := i_addN ey14 hx3 (by decide : (1 : Int32).toInt = ((1 : Nat) : Int)) (by omega)
          refine lv_iinc (v := y14) (lv' := [(3, .int y14), (0, .ref (g.2.2.1 r)), (1, .ref (g.2.2.1 (r + 11))), (2, .int p1)]) hx hb dX9_takes_54 hl (k := 3) rfl (by rw [ey14]; rfl) (by decide) rfl (fun ls hl => ?_)
          refine lv_goto (tgt := 9) hx hb dX9_takes_57 (by decide) ?_
          exact ih9 (i + 1) y14 gz5 gz9 gz13 h12 _ _ _ w (lv_sub hl [1, 2, 3, 0] rfl) (by omega) ty14 (htk.up egz5 egz9 egz13) D hfr (by omega)
      · intro i x3 ga1 gk1 gl1 gB1 hc H locs ls w hl hi hx3 htk htb D hfr hN_
        refine lv_iload_n hx hb dX9_takes_62 rfl (lv_at hl 3 rfl) ?_
        refine lv_bipush (v := 96) hx hb dX9_takes_63 (by decide) ?_
        refine lv_icmp_ge (tgt := 88) hx hb dX9_takes_65 (by decide) (fun c15 => ?_) (fun c15 => ?_)
        · have c15 : ((96 : Nat) : Int) ≤ ((i : Nat) : Int) := (i_le (by decide : (96 : Int32).toInt = ((96 : Nat) : Int)) hx3).mp c15
          refine lv_aload_n hx hb dX9_takes_88 rfl (lv_at hl 0 rfl) ?_
          refine lv_iconst (v := 0) hx hb dX9_takes_89 (by decide) ?_
          refine r_put (ty := .boolean) (C := RX9) (T := TX9) (N := 20) (ci := 7) hx hb hts inX9_takes_X9 tyX9 tyX9_ok nmX9 hown w (by have := D.1; omega) D.c0 rfl 8 (by decide) (hts (Cond.fieldLink RX9 121 "EarlyValuesModel" "isKnown" "Z") (List.mem_of_getElem? (i := 6) (by decide +kernel))) rfl rfl (by decide +kernel) (by first | rfl | exact rfl) (by first | rfl | exact Bq.fit rfl) (Nat.le_of_ble_eq_true rfl) dX9_takes_90 (fun h16 H locs eh16 w => ?_)
          have D := D.s0 eh16
          have hfr : ∀ k_, ¬ (r ≤ k_ ∧ k_ < r + 14) → h16 k_ = h k_ := fun k_ hk_ => by rw [eh16, va_up_ne _ _ (by omega)]; exact hfr k_ hk_
          refine r_vret hx hb hr hlocks w dX9_takes_93 ?_
          exact ⟨hfr, _, _, _, _, _, D, rfl, htk, fun k_ hk_ => htb k_ (by omega)⟩
        · have c15 : ¬ (((96 : Nat) : Int) ≤ ((i : Nat) : Int)) := fun q => c15 ((i_le (by decide : (96 : Int32).toInt = ((96 : Nat) : Int)) hx3).mpr q)
          refine lv_aload_n hx hb dX9_takes_68 rfl (lv_at hl 0 rfl) ?_
          refine r_get (C := RX9) (T := TX9) (N := 20) (ci := 7) hx hb hts inX9_takes_X9 hown w (by have := D.1; omega) D.c0 rfl 4 (by decide) (hts (Cond.fieldLink RX9 19 "EarlyValuesModel" "body" "[I") (List.mem_of_getElem? (i := 5) (by decide +kernel))) rfl rfl dX9_takes_69 ?_
          refine lv_iload_n hx hb dX9_takes_72 rfl (lv_at hl 3 rfl) ?_
          refine lv_aload_n hx hb dX9_takes_73 rfl (lv_at hl 1 rfl) ?_
          refine lv_iload_n hx hb dX9_takes_74 rfl (lv_at hl 2 rfl) ?_
          refine lv_bipush (v := 13) hx hb dX9_takes_75 (by decide) ?_
          refine lv_iadd hx hb dX9_takes_77 ?_
          refine lv_topi (fun y17 ey17 => ?_)
          have ty17 : y17.toInt = (((a + 13) : Nat) : Int) := i_addN ey17 hp1 (by decide : (13 : Int32).toInt = ((13 : Nat) : Int)) (by omega)
          refine lv_iload_n hx hb dX9_takes_78 rfl (lv_at hl 3 rfl) ?_
          refine lv_iadd hx hb dX9_takes_79 ?_
          refine lv_topi (fun y18 ey18 => ?_)
          have ty18 : y18.toInt = ((((a + 13) + i) : Nat) : Int) := i_addN ey18 ty17 hx3 (by omega)
          refine r_iald (j := ((a + 13) + i)) hx hb w (by have := D.1; omega) D.c11 ty18 (by omega) dX9_takes_80 ?_
          refine r_iast (j := i) hx hb w (by have := D.1; omega) D.c4 hx3 (by omega) dX9_takes_81 (fun h19 H locs eh19 w => ?_)
          have D := D.s4 eh19
          generalize egz20 : upd gB1 i (gs (((a + 13) + i))) = gz20 at D
          have hfr : ∀ k_, ¬ (r ≤ k_ ∧ k_ < r + 14) → h19 k_ = h k_ := fun k_ hk_ => by rw [eh19, va_up_ne _ _ (by omega)]; exact hfr k_ hk_
          obtain ⟨y21, ey21⟩ : ∃ y : Int32, y = x3 + (1) := ⟨_, rfl⟩
          have ty21 : y21.toInt = (((i + 1) : Nat) : Int) := i_addN ey21 hx3 (by decide : (1 : Int32).toInt = ((1 : Nat) : Int)) (by omega)
          refine lv_iinc (v := y21) (lv' := [(3, .int y21), (0, .ref (g.2.2.1 r)), (1, .ref (g.2.2.1 (r + 11))), (2, .int p1)]) hx hb dX9_takes_82 hl (k := 3) rfl (by rw [ey21]; rfl) (by decide) rfl (fun ls hl => ?_)
          refine lv_goto (tgt := 62) hx hb dX9_takes_85 (by decide) ?_
          exact ih62 (i + 1) y21 ga1 gk1 gl1 gz20 h19 _ _ _ w (lv_sub hl [1, 2, 3, 0] rfl) (by omega) ty21 htk (tkb_up htb egz20) D hfr (by omega)
  have cut0 := cuts (200)
  obtain ⟨ih9, ih62⟩ := cut0
  refine lv_aload_n hx hb dX9_takes_0 rfl (lv_at hl 0 rfl) ?_
  refine lv_aload_n hx hb dX9_takes_1 rfl (lv_at hl 1 rfl) ?_
  refine lv_iload_n hx hb dX9_takes_2 rfl (lv_at hl 2 rfl) ?_
  refine r_iald (j := a) hx hb w (by have := D.1; omega) D.c11 hp1 (by omega) dX9_takes_3 ?_
  refine r_put (ty := .int) (C := RX9) (T := TX9) (N := 20) (ci := 7) hx hb hts inX9_takes_X9 tyX9 tyX9_ok nmX9 hown w (by have := D.1; omega) D.c0 rfl 0 (by decide) (hts (Cond.fieldLink RX9 49 "EarlyValuesModel" "many" "I") (List.mem_of_getElem? (i := 1) (by decide +kernel))) rfl rfl (by decide +kernel) rfl rfl (Nat.le_of_ble_eq_true rfl) dX9_takes_4 (fun h22 H locs eh22 w => ?_)
  have D := D.s0 eh22
  have hfr : ∀ k_, ¬ (r ≤ k_ ∧ k_ < r + 14) → h22 k_ = h k_ := fun k_ hk_ => by rw [eh22, va_up_ne _ _ (by omega)]
  refine lv_iconst (v := 0) hx hb dX9_takes_7 (by decide) ?_
  refine lv_istore_n (lv' := [(3, .int 0), (0, .ref (g.2.2.1 r)), (1, .ref (g.2.2.1 (r + 11))), (2, .int p1)]) hx hb dX9_takes_8 rfl hl (by decide) rfl (fun ls hl => ?_)
  exact ih9 0 0 ga gk gl h22 _ _ _ w (lv_sub hl [1, 2, 3, 0] rfl) (Nat.zero_le _) ((by decide : (0 : Int32).toInt = ((0 : Nat) : Int))) (fun j_ hj_ => absurd hj_ (Nat.not_lt_zero _)) D hfr (by omega)

set_option maxHeartbeats 4000000 in
set_option maxRecDepth 100000 in
theorem c_X9_takes_gf (l : Launch) {g : GE} {h : Nat → va_E} {r : Nat} {nm kn um sv sz ra rm : Int32} {ga gk gl gB gt gn gr gp gh gv gs gx gf : Nat → Int32} (D : MdA g h r nm kn um sv sz ra rm ga gk gl gB gt gn gr gp gh gv gs gx gf) {a : Nat} (p1 : Int32) (hp1 : p1.toInt = (a : Int)) (hal : a + 109 ≤ 109) : MV l yX9_takes wsX9_takes rm_X9_takes [.ref (g.2.2.1 r), .ref (g.2.2.1 (r + 13)), .int p1] g h (fun h2 => (∀ k, ¬ (r ≤ k ∧ k < r + 14) → h2 k = h k) ∧ ∃ (nm2 : Int32) (ga2 gk2 gl2 gB2 : Nat → Int32), MdA g h2 r nm2 0 um sv sz ra rm ga2 gk2 gl2 gB2 gt gn gr gp gh gv gs gx gf ∧ SnapE gf a nm2 ga2 gk2 gl2 gB2) := by
  refine Met.ofW (cc := cX9_takes) (maxL := 4) (ret := none) (by decide) rfl ?_
  intro p e s m args below meth c s₁ B hml hv
  obtain ⟨rfl, w0⟩ := hv
  have hx := B.exec
  have hb := B.bytes
  have hr := B.returns
  have hts := atoms_spec (ws := wsX9_takes) B.pre
  have hown : s.vm.findClass RX9 = some m.cls := findClass_of_methodNamed B.named
  have hlocks := B.notSynchronized
  have w := w0.start
  clear w0
  have hl := lv_entry ([.ref (g.2.2.1 r), .ref (g.2.2.1 (r + 13)), .int p1]) (n := 4) (Nat.le_of_ble_eq_true rfl)
  rw [lg_entry_eq]
  generalize (lg_sl ([.ref (g.2.2.1 r), .ref (g.2.2.1 (r + 13)), .int p1]) ++ List.replicate (4 - (lg_sl ([.ref (g.2.2.1 r), .ref (g.2.2.1 (r + 13)), .int p1])).length) Slot.unset).toArray = ls at hl ⊢
  have hl : lv_has ls 4 [(0, .ref (g.2.2.1 r)), (1, .ref (g.2.2.1 (r + 13))), (2, .int p1)] := hl
  have cuts : ∀ N : Nat, (∀ (i : Nat) (x3 : Int32) (ga1 : Nat → Int32) (gk1 : Nat → Int32) (gl1 : Nat → Int32) (hc : Nat → va_E) (H : Heap) (locs : List Loc) (ls : Array Slot), WD g (inW g) s hc H locs → lv_has ls 4 [(0, .ref (g.2.2.1 r)), (1, .ref (g.2.2.1 (r + 13))), (2, .int p1), (3, .int x3)] → (i ≤ 4) → (x3.toInt = ((i : Nat) : Int)) → (TkA gf a i ga1 gk1 gl1) → (MdA g hc r (gf a) kn um sv sz ra rm ga1 gk1 gl1 gB gt gn gr gp gh gv gs gx gf) → (∀ k, ¬ (r ≤ k ∧ k < r + 14) → hc k = h k) → 110 - i < N → W p l e (headSpec wsX9_takes rm_X9_takes).room s m ([.ref (g.2.2.1 r), .ref (g.2.2.1 (r + 13)), .int p1] : List Value).toArray below meth c H locs 0 0 (MQ below (va_Qv (fun h2 => (∀ k, ¬ (r ≤ k ∧ k < r + 14) → h2 k = h k) ∧ ∃ (nm2 : Int32) (ga2 gk2 gl2 gB2 : Nat → Int32), MdA g h2 r nm2 0 um sv sz ra rm ga2 gk2 gl2 gB2 gt gn gr gp gh gv gs gx gf ∧ SnapE gf a nm2 ga2 gk2 gl2 gB2) (Wd g) (inW g)) ([.ref (g.2.2.1 r), .ref (g.2.2.1 (r + 13)), .int p1] : List Value).toArray s 0 0 (inW g)) (F0 m 9 ls [])) ∧ (∀ (i : Nat) (x3 : Int32) (ga1 : Nat → Int32) (gk1 : Nat → Int32) (gl1 : Nat → Int32) (gB1 : Nat → Int32) (hc : Nat → va_E) (H : Heap) (locs : List Loc) (ls : Array Slot), WD g (inW g) s hc H locs → lv_has ls 4 [(0, .ref (g.2.2.1 r)), (1, .ref (g.2.2.1 (r + 13))), (2, .int p1), (3, .int x3)] → (i ≤ 96) → (x3.toInt = ((i : Nat) : Int)) → (TkA gf a 4 ga1 gk1 gl1) → (∀ k, k < i → gf (a + 13 + k) = gB1 k) → (MdA g hc r (gf a) kn um sv sz ra rm ga1 gk1 gl1 gB1 gt gn gr gp gh gv gs gx gf) → (∀ k, ¬ (r ≤ k ∧ k < r + 14) → hc k = h k) → 100 - i < N → W p l e (headSpec wsX9_takes rm_X9_takes).room s m ([.ref (g.2.2.1 r), .ref (g.2.2.1 (r + 13)), .int p1] : List Value).toArray below meth c H locs 0 0 (MQ below (va_Qv (fun h2 => (∀ k, ¬ (r ≤ k ∧ k < r + 14) → h2 k = h k) ∧ ∃ (nm2 : Int32) (ga2 gk2 gl2 gB2 : Nat → Int32), MdA g h2 r nm2 0 um sv sz ra rm ga2 gk2 gl2 gB2 gt gn gr gp gh gv gs gx gf ∧ SnapE gf a nm2 ga2 gk2 gl2 gB2) (Wd g) (inW g)) ([.ref (g.2.2.1 r), .ref (g.2.2.1 (r + 13)), .int p1] : List Value).toArray s 0 0 (inW g)) (F0 m 62 ls [])) := by
    intro N
    induction N with
    | zero => exact ⟨by intros; omega, by intros; omega⟩
    | succ N ih =>
      obtain ⟨ih9, ih62⟩ := ih
      refine ⟨?_, ?_⟩
      · intro i x3 ga1 gk1 gl1 hc H locs ls w hl hi hx3 htk D hfr hN_
        refine lv_iload_n hx hb dX9_takes_9 rfl (lv_at hl 3 rfl) ?_
        refine lv_iconst (v := 4) hx hb dX9_takes_10 (by decide) ?_
        refine lv_icmp_ge (tgt := 60) hx hb dX9_takes_11 (by decide) (fun c1 => ?_) (fun c1 => ?_)
        · have c1 : ((4 : Nat) : Int) ≤ ((i : Nat) : Int) := (i_le (by decide : (4 : Int32).toInt = ((4 : Nat) : Int)) hx3).mp c1
          refine lv_iconst (v := 0) hx hb dX9_takes_60 (by decide) ?_
          refine lv_istore_n (lv' := [(3, .int 0), (0, .ref (g.2.2.1 r)), (1, .ref (g.2.2.1 (r + 13))), (2, .int p1)]) hx hb dX9_takes_61 rfl hl (by decide) rfl (fun ls hl => ?_)
          exact ih62 0 0 ga1 gk1 gl1 gB hc _ _ _ w (lv_sub hl [1, 2, 3, 0] rfl) (Nat.zero_le _) ((by decide : (0 : Int32).toInt = ((0 : Nat) : Int))) (by rw [show 4 = i by omega]; exact htk) (fun j_ hj_ => absurd hj_ (Nat.not_lt_zero _)) D hfr (by omega)
        · have c1 : ¬ (((4 : Nat) : Int) ≤ ((i : Nat) : Int)) := fun q => c1 ((i_le (by decide : (4 : Int32).toInt = ((4 : Nat) : Int)) hx3).mpr q)
          refine lv_aload_n hx hb dX9_takes_14 rfl (lv_at hl 0 rfl) ?_
          refine r_get (C := RX9) (T := TX9) (N := 20) (ci := 7) hx hb hts inX9_takes_X9 hown w (by have := D.1; omega) D.c0 rfl 1 (by decide) (hts (Cond.fieldLink RX9 7 "EarlyValuesModel" "argsOf" "[I") (List.mem_of_getElem? (i := 2) (by decide +kernel))) rfl rfl dX9_takes_15 ?_
          refine lv_iload_n hx hb dX9_takes_18 rfl (lv_at hl 3 rfl) ?_
          refine lv_aload_n hx hb dX9_takes_19 rfl (lv_at hl 1 rfl) ?_
          refine lv_iload_n hx hb dX9_takes_20 rfl (lv_at hl 2 rfl) ?_
          refine lv_iconst (v := 1) hx hb dX9_takes_21 (by decide) ?_
          refine lv_iadd hx hb dX9_takes_22 ?_
          refine lv_topi (fun y2 ey2 => ?_)
          have ty2 : y2.toInt = (((a + 1) : Nat) : Int) := i_addN ey2 hp1 (by decide : (1 : Int32).toInt = ((1 : Nat) : Int)) (by omega)
          refine lv_iload_n hx hb dX9_takes_23 rfl (lv_at hl 3 rfl) ?_
          refine lv_iadd hx hb dX9_takes_24 ?_
          refine lv_topi (fun y3 ey3 => ?_)
          have ty3 : y3.toInt = ((((a + 1) + i) : Nat) : Int) := i_addN ey3 ty2 hx3 (by omega)
          refine r_iald (j := ((a + 1) + i)) hx hb w (by have := D.1; omega) D.c13 ty3 (by omega) dX9_takes_25 ?_
          refine r_iast (j := i) hx hb w (by have := D.1; omega) D.c1 hx3 (by omega) dX9_takes_26 (fun h4 H locs eh4 w => ?_)
          have D := D.s1 eh4
          generalize egz5 : upd ga1 i (gf (((a + 1) + i))) = gz5 at D
          have hfr : ∀ k_, ¬ (r ≤ k_ ∧ k_ < r + 14) → h4 k_ = h k_ := fun k_ hk_ => by rw [eh4, va_up_ne _ _ (by omega)]; exact hfr k_ hk_
          refine lv_aload_n hx hb dX9_takes_27 rfl (lv_at hl 0 rfl) ?_
          refine r_get (C := RX9) (T := TX9) (N := 20) (ci := 7) hx hb hts inX9_takes_X9 hown w (by have := D.1; omega) D.c0 rfl 2 (by decide) (hts (Cond.fieldLink RX9 13 "EarlyValuesModel" "kindOf" "[I") (List.mem_of_getElem? (i := 3) (by decide +kernel))) rfl rfl dX9_takes_28 ?_
          refine lv_iload_n hx hb dX9_takes_31 rfl (lv_at hl 3 rfl) ?_
          refine lv_aload_n hx hb dX9_takes_32 rfl (lv_at hl 1 rfl) ?_
          refine lv_iload_n hx hb dX9_takes_33 rfl (lv_at hl 2 rfl) ?_
          refine lv_iconst (v := 5) hx hb dX9_takes_34 (by decide) ?_
          refine lv_iadd hx hb dX9_takes_35 ?_
          refine lv_topi (fun y6 ey6 => ?_)
          have ty6 : y6.toInt = (((a + 5) : Nat) : Int) := i_addN ey6 hp1 (by decide : (5 : Int32).toInt = ((5 : Nat) : Int)) (by omega)
          refine lv_iload_n hx hb dX9_takes_36 rfl (lv_at hl 3 rfl) ?_
          refine lv_iadd hx hb dX9_takes_37 ?_
          refine lv_topi (fun y7 ey7 => ?_)
          have ty7 : y7.toInt = ((((a + 5) + i) : Nat) : Int) := i_addN ey7 ty6 hx3 (by omega)
          refine r_iald (j := ((a + 5) + i)) hx hb w (by have := D.1; omega) D.c13 ty7 (by omega) dX9_takes_38 ?_
          refine r_iast (j := i) hx hb w (by have := D.1; omega) D.c2 hx3 (by omega) dX9_takes_39 (fun h8 H locs eh8 w => ?_)
          have D := D.s2 eh8
          generalize egz9 : upd gk1 i (gf (((a + 5) + i))) = gz9 at D
          have hfr : ∀ k_, ¬ (r ≤ k_ ∧ k_ < r + 14) → h8 k_ = h k_ := fun k_ hk_ => by rw [eh8, va_up_ne _ _ (by omega)]; exact hfr k_ hk_
          refine lv_aload_n hx hb dX9_takes_40 rfl (lv_at hl 0 rfl) ?_
          refine r_get (C := RX9) (T := TX9) (N := 20) (ci := 7) hx hb hts inX9_takes_X9 hown w (by have := D.1; omega) D.c0 rfl 3 (by decide) (hts (Cond.fieldLink RX9 16 "EarlyValuesModel" "longOf" "[I") (List.mem_of_getElem? (i := 4) (by decide +kernel))) rfl rfl dX9_takes_41 ?_
          refine lv_iload_n hx hb dX9_takes_44 rfl (lv_at hl 3 rfl) ?_
          refine lv_aload_n hx hb dX9_takes_45 rfl (lv_at hl 1 rfl) ?_
          refine lv_iload_n hx hb dX9_takes_46 rfl (lv_at hl 2 rfl) ?_
          refine lv_bipush (v := 9) hx hb dX9_takes_47 (by decide) ?_
          refine lv_iadd hx hb dX9_takes_49 ?_
          refine lv_topi (fun y10 ey10 => ?_)
          have ty10 : y10.toInt = (((a + 9) : Nat) : Int) := i_addN ey10 hp1 (by decide : (9 : Int32).toInt = ((9 : Nat) : Int)) (by omega)
          refine lv_iload_n hx hb dX9_takes_50 rfl (lv_at hl 3 rfl) ?_
          refine lv_iadd hx hb dX9_takes_51 ?_
          refine lv_topi (fun y11 ey11 => ?_)
          have ty11 : y11.toInt = ((((a + 9) + i) : Nat) : Int) := i_addN ey11 ty10 hx3 (by omega)
          refine r_iald (j := ((a + 9) + i)) hx hb w (by have := D.1; omega) D.c13 ty11 (by omega) dX9_takes_52 ?_
          refine r_iast (j := i) hx hb w (by have := D.1; omega) D.c3 hx3 (by omega) dX9_takes_53 (fun h12 H locs eh12 w => ?_)
          have D := D.s3 eh12
          generalize egz13 : upd gl1 i (gf (((a + 9) + i))) = gz13 at D
          have hfr : ∀ k_, ¬ (r ≤ k_ ∧ k_ < r + 14) → h12 k_ = h k_ := fun k_ hk_ => by rw [eh12, va_up_ne _ _ (by omega)]; exact hfr k_ hk_
          obtain ⟨y14, ey14⟩ : ∃ y : Int32, y = x3 + (1) := ⟨_, rfl⟩
          have ty14 : y14.toInt = (((i + 1) : Nat) : Int) := i_addN ey14 hx3 (by decide : (1 : Int32).toInt = ((1 : Nat) : Int)) (by omega)
          refine lv_iinc (v := y14) (lv' := [(3, .int y14), (0, .ref (g.2.2.1 r)), (1, .ref (g.2.2.1 (r + 13))), (2, .int p1)]) hx hb dX9_takes_54 hl (k := 3) rfl (by rw [ey14]; rfl) (by decide) rfl (fun ls hl => ?_)
          refine lv_goto (tgt := 9) hx hb dX9_takes_57 (by decide) ?_
          exact ih9 (i + 1) y14 gz5 gz9 gz13 h12 _ _ _ w (lv_sub hl [1, 2, 3, 0] rfl) (by omega) ty14 (htk.up egz5 egz9 egz13) D hfr (by omega)
      · intro i x3 ga1 gk1 gl1 gB1 hc H locs ls w hl hi hx3 htk htb D hfr hN_
        refine lv_iload_n hx hb dX9_takes_62 rfl (lv_at hl 3 rfl) ?_
        refine lv_bipush (v := 96) hx hb dX9_takes_63 (by decide) ?_
        refine lv_icmp_ge (tgt := 88) hx hb dX9_takes_65 (by decide) (fun c15 => ?_) (fun c15 => ?_)
        · have c15 : ((96 : Nat) : Int) ≤ ((i : Nat) : Int) := (i_le (by decide : (96 : Int32).toInt = ((96 : Nat) : Int)) hx3).mp c15
          refine lv_aload_n hx hb dX9_takes_88 rfl (lv_at hl 0 rfl) ?_
          refine lv_iconst (v := 0) hx hb dX9_takes_89 (by decide) ?_
          refine r_put (ty := .boolean) (C := RX9) (T := TX9) (N := 20) (ci := 7) hx hb hts inX9_takes_X9 tyX9 tyX9_ok nmX9 hown w (by have := D.1; omega) D.c0 rfl 8 (by decide) (hts (Cond.fieldLink RX9 121 "EarlyValuesModel" "isKnown" "Z") (List.mem_of_getElem? (i := 6) (by decide +kernel))) rfl rfl (by decide +kernel) (by first | rfl | exact rfl) (by first | rfl | exact Bq.fit rfl) (Nat.le_of_ble_eq_true rfl) dX9_takes_90 (fun h16 H locs eh16 w => ?_)
          have D := D.s0 eh16
          have hfr : ∀ k_, ¬ (r ≤ k_ ∧ k_ < r + 14) → h16 k_ = h k_ := fun k_ hk_ => by rw [eh16, va_up_ne _ _ (by omega)]; exact hfr k_ hk_
          refine r_vret hx hb hr hlocks w dX9_takes_93 ?_
          exact ⟨hfr, _, _, _, _, _, D, rfl, htk, fun k_ hk_ => htb k_ (by omega)⟩
        · have c15 : ¬ (((96 : Nat) : Int) ≤ ((i : Nat) : Int)) := fun q => c15 ((i_le (by decide : (96 : Int32).toInt = ((96 : Nat) : Int)) hx3).mpr q)
          refine lv_aload_n hx hb dX9_takes_68 rfl (lv_at hl 0 rfl) ?_
          refine r_get (C := RX9) (T := TX9) (N := 20) (ci := 7) hx hb hts inX9_takes_X9 hown w (by have := D.1; omega) D.c0 rfl 4 (by decide) (hts (Cond.fieldLink RX9 19 "EarlyValuesModel" "body" "[I") (List.mem_of_getElem? (i := 5) (by decide +kernel))) rfl rfl dX9_takes_69 ?_
          refine lv_iload_n hx hb dX9_takes_72 rfl (lv_at hl 3 rfl) ?_
          refine lv_aload_n hx hb dX9_takes_73 rfl (lv_at hl 1 rfl) ?_
          refine lv_iload_n hx hb dX9_takes_74 rfl (lv_at hl 2 rfl) ?_
          refine lv_bipush (v := 13) hx hb dX9_takes_75 (by decide) ?_
          refine lv_iadd hx hb dX9_takes_77 ?_
          refine lv_topi (fun y17 ey17 => ?_)
          have ty17 : y17.toInt = (((a + 13) : Nat) : Int) := i_addN ey17 hp1 (by decide : (13 : Int32).toInt = ((13 : Nat) : Int)) (by omega)
          refine lv_iload_n hx hb dX9_takes_78 rfl (lv_at hl 3 rfl) ?_
          refine lv_iadd hx hb dX9_takes_79 ?_
          refine lv_topi (fun y18 ey18 => ?_)
          have ty18 : y18.toInt = ((((a + 13) + i) : Nat) : Int) := i_addN ey18 ty17 hx3 (by omega)
          refine r_iald (j := ((a + 13) + i)) hx hb w (by have := D.1; omega) D.c13 ty18 (by omega) dX9_takes_80 ?_
          refine r_iast (j := i) hx hb w (by have := D.1; omega) D.c4 hx3 (by omega) dX9_takes_81 (fun h19 H locs eh19 w => ?_)
          have D := D.s4 eh19
          generalize egz20 : upd gB1 i (gf (((a + 13) + i))) = gz20 at D
          have hfr : ∀ k_, ¬ (r ≤ k_ ∧ k_ < r + 14) → h19 k_ = h k_ := fun k_ hk_ => by rw [eh19, va_up_ne _ _ (by omega)]; exact hfr k_ hk_
          obtain ⟨y21, ey21⟩ : ∃ y : Int32, y = x3 + (1) := ⟨_, rfl⟩
          have ty21 : y21.toInt = (((i + 1) : Nat) : Int) := i_addN ey21 hx3 (by decide : (1 : Int32).toInt = ((1 : Nat) : Int)) (by omega)
          refine lv_iinc (v := y21) (lv' := [(3, .int y21), (0, .ref (g.2.2.1 r)), (1, .ref (g.2.2.1 (r + 13))), (2, .int p1)]) hx hb dX9_takes_82 hl (k := 3) rfl (by rw [ey21]; rfl) (by decide) rfl (fun ls hl => ?_)
          refine lv_goto (tgt := 62) hx hb dX9_takes_85 (by decide) ?_
          exact ih62 (i + 1) y21 ga1 gk1 gl1 gz20 h19 _ _ _ w (lv_sub hl [1, 2, 3, 0] rfl) (by omega) ty21 htk (tkb_up htb egz20) D hfr (by omega)
  have cut0 := cuts (200)
  obtain ⟨ih9, ih62⟩ := cut0
  refine lv_aload_n hx hb dX9_takes_0 rfl (lv_at hl 0 rfl) ?_
  refine lv_aload_n hx hb dX9_takes_1 rfl (lv_at hl 1 rfl) ?_
  refine lv_iload_n hx hb dX9_takes_2 rfl (lv_at hl 2 rfl) ?_
  refine r_iald (j := a) hx hb w (by have := D.1; omega) D.c13 hp1 (by omega) dX9_takes_3 ?_
  refine r_put (ty := .int) (C := RX9) (T := TX9) (N := 20) (ci := 7) hx hb hts inX9_takes_X9 tyX9 tyX9_ok nmX9 hown w (by have := D.1; omega) D.c0 rfl 0 (by decide) (hts (Cond.fieldLink RX9 49 "EarlyValuesModel" "many" "I") (List.mem_of_getElem? (i := 1) (by decide +kernel))) rfl rfl (by decide +kernel) rfl rfl (Nat.le_of_ble_eq_true rfl) dX9_takes_4 (fun h22 H locs eh22 w => ?_)
  have D := D.s0 eh22
  have hfr : ∀ k_, ¬ (r ≤ k_ ∧ k_ < r + 14) → h22 k_ = h k_ := fun k_ hk_ => by rw [eh22, va_up_ne _ _ (by omega)]
  refine lv_iconst (v := 0) hx hb dX9_takes_7 (by decide) ?_
  refine lv_istore_n (lv' := [(3, .int 0), (0, .ref (g.2.2.1 r)), (1, .ref (g.2.2.1 (r + 13))), (2, .int p1)]) hx hb dX9_takes_8 rfl hl (by decide) rfl (fun ls hl => ?_)
  exact ih9 0 0 ga gk gl h22 _ _ _ w (lv_sub hl [1, 2, 3, 0] rfl) (Nat.zero_le _) ((by decide : (0 : Int32).toInt = ((0 : Nat) : Int))) (fun j_ hj_ => absurd hj_ (Nat.not_lt_zero _)) D hfr (by omega)

