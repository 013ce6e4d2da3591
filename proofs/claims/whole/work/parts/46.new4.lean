-- ===== THE REFERENCE'S START =====
def BgQ (gl gB : Nat → Int32) (cs : Nat → List Nat) : Prop := ∀ f, f < 3 → (gl f).toInt = (((cs f).length : Nat) : Int) ∧ (cs f).length ≤ 24 ∧ ∀ j, j < (cs f).length → (gB (24 * f + j)).toInt = (((cs f).getD j 0 : Nat) : Int)
def bgN (cs : Nat → List Nat) (f q : Nat) : Nat → List Nat := fun i => if i = f ∧ 0 < q then cs i ++ [q] else cs i
theorem bgN_0 {cs : Nat → List Nat} {f q : Nat} (h : ¬ 0 < q) : bgN cs f q = cs := by
  funext i
  exact if_neg (fun z => h z.2)
theorem bgN_len {cs : Nat → List Nat} {f q n : Nat} (h : (cs f).length + (n + 1) ≤ 24) : (bgN cs f q f).length + n ≤ 24 := by
  unfold bgN
  split
  · rw [List.length_append]; show (cs f).length + 1 + n ≤ 24; omega
  · omega
theorem BgQ.up {gl gB gl2 gB2 : Nat → Int32} {cs : Nat → List Nat} {f q : Nat} {x y : Int32} (h : BgQ gl gB cs) (hf : f < 3) (hq : 0 < q) (hl : (cs f).length < 24) (hx : x.toInt = ((q : Nat) : Int)) (hy : y.toInt = (((cs f).length + 1 : Nat) : Int)) (e1 : upd gB (24 * f + (cs f).length) x = gB2) (e2 : upd gl f y = gl2) : BgQ gl2 gB2 (bgN cs f q) := by
  subst e1 e2
  intro i hi
  have hb : bgN cs f q i = if i = f ∧ 0 < q then cs i ++ [q] else cs i := rfl
  by_cases z : i = f
  · subst z
    rw [hb, if_pos ⟨rfl, hq⟩]
    refine ⟨?_, ?_, fun j hj => ?_⟩
    · rw [pk_us, hy, List.length_append]; rfl
    · rw [List.length_append]; show (cs i).length + 1 ≤ 24; omega
    · have hj2 : j < (cs i).length + 1 := by rw [List.length_append] at hj; exact hj
      by_cases y2 : j = (cs i).length
      · rw [y2, pk_us, hx, List.getD_eq_getElem?_getD, List.getElem?_append_right (Nat.le_refl _), Nat.sub_self]; rfl
      · have hj3 : j < (cs i).length := by omega
        rw [pk_un (by omega), List.getD_eq_getElem?_getD, List.getElem?_append_left hj3, ← List.getD_eq_getElem?_getD]
        exact (h i hi).2.2 j hj3
  · rw [hb, if_neg (fun w => z w.1)]
    obtain ⟨a, b, c⟩ := h i hi
    refine ⟨by rw [pk_un z]; exact a, b, fun j hj => ?_⟩
    rw [pk_un (by omega)]; exact c j hj
def cs0 : Nat → List Nat := fun _ => []
def bg4 (cs : Nat → List Nat) (f a b c d : Nat) : Nat → List Nat := bgN (bgN (bgN (bgN cs f a) f b) f c) f d
def csF : Nat → List Nat := bg4 (bg4 (bg4 (bg4 (bg4 (bg4 (bg4 cs0 0 63 97 48 109) 0 97 98 111 0) 1 43 97 63 97) 1 49 109 97 111) 2 63 97 98 50) 2 109 98 43 97) 2 98 0 0 0
theorem csF_all : (List.range 3).all (fun i => decide ((csF i).length = pL startM i) && (List.range (pL startM i)).all fun j => (csF i).getD j 0 == mCode (pB startM i j)) = true := by decide +kernel
theorem csF_ok {i : Nat} (hi : i < 3) : (csF i).length = pL startM i ∧ ∀ j, j < pL startM i → (csF i).getD j 0 = mCode (pB startM i j) := by
  have h := all_range csF_all hi
  rw [Bool.and_eq_true, decide_eq_true_eq] at h
  exact ⟨h.1, fun j hj => eq_of_beq (all_range h.2 hj)⟩
theorem startM_N : pN startM = 3 := rfl
theorem startM_A : ∀ i, i < 3 → pA startM i = [2, 1, 2].getD i 0 := by
  intro i hi
  rcases (show i = 0 ∨ i = 1 ∨ i = 2 by omega) with rfl | rfl | rfl <;> decide +kernel
theorem startM_K : ∀ i, i < 3 → pK startM i = [0, 0, 1].getD i 0 := by
  intro i hi
  rcases (show i = 0 ∨ i = 1 ∨ i = 2 by omega) with rfl | rfl | rfl <;> decide +kernel
theorem start_rs {nm : Int32} {ga gk gl gB : Nat → Int32} (h1 : nm = 3) (h2 : ga = upd (upd (upd (fun _ => 0) 0 2) 1 1) 2 2) (h3 : gk = upd (fun _ => 0) 2 1) (hB : BgQ gl gB csF) : RS startM nm ga gk gl gB := by
  subst h1 h2 h3
  refine ⟨by rw [startM_N]; rfl, fun i hi => ?_, fun i hi => ?_, fun i hi => ?_, fun i hi j hj => ?_⟩
  · have hi' : i < 3 := hi
    rw [startM_A i hi']
    rcases (show i = 0 ∨ i = 1 ∨ i = 2 by omega) with rfl | rfl | rfl <;> decide +kernel
  · have hi' : i < 3 := hi
    rw [startM_K i hi']
    rcases (show i = 0 ∨ i = 1 ∨ i = 2 by omega) with rfl | rfl | rfl <;> decide +kernel
  · rw [(hB i hi).1, (csF_ok hi).1]
  · rw [(hB i hi).2.2 j (by rw [(csF_ok hi).1]; exact hj), (csF_ok hi).2 j hj]
theorem inX9_begin_X9 : ∀ w ∈ wsX90, w ∈ wsX9_begin := by decide +kernel
abbrev rm_X9_begin : Room := { frames := 0, cells := 0, slots := 0, locals := 0 }
set_option maxHeartbeats 4000000 in
set_option maxRecDepth 100000 in
theorem c_X9_begin (l : Launch) {g : GE} {h : Nat → va_E} {r : Nat} {nm kn um sv sz ra rm : Int32} {ga gk gl gB gt gn gr gp gh gv gs gx gf : Nat → Int32} (D : MdA g h r nm kn um sv sz ra rm ga gk gl gB gt gn gr gp gh gv gs gx gf) {cs : Nat → List Nat} (hBg : BgQ gl gB cs) (p0 p1 : Int32) {f q : Nat} (hp0 : p0.toInt = (f : Int)) (hp1 : p1.toInt = (q : Int)) (hf : f < 3) (hl24 : (cs f).length < 24) : MV l yX9_begin wsX9_begin rm_X9_begin [.ref (g.2.2.1 r), .int p0, .int p1] g h (fun h2 => (∀ k, ¬ (r ≤ k ∧ k < r + 14) → h2 k = h k) ∧ ∃ (gl2 gB2 : Nat → Int32), MdA g h2 r nm kn um sv sz ra rm ga gk gl2 gB2 gt gn gr gp gh gv gs gx gf ∧ BgQ gl2 gB2 (bgN cs f q)) := by
  refine Met.ofW (cc := cX9_begin) (maxL := 3) (ret := none) (by decide) rfl ?_
  intro p e s m args below meth c s₁ B hml hv
  obtain ⟨rfl, w0⟩ := hv
  have hx := B.exec
  have hb := B.bytes
  have hr := B.returns
  have hts := atoms_spec (ws := wsX9_begin) B.pre
  have hown : s.vm.findClass RX9 = some m.cls := findClass_of_methodNamed B.named
  have hlocks := B.notSynchronized
  have w := w0.start
  clear w0
  have hl := lv_entry ([.ref (g.2.2.1 r), .int p0, .int p1]) (n := 3) (Nat.le_of_ble_eq_true rfl)
  rw [lg_entry_eq]
  generalize (lg_sl ([.ref (g.2.2.1 r), .int p0, .int p1]) ++ List.replicate (3 - (lg_sl ([.ref (g.2.2.1 r), .int p0, .int p1])).length) Slot.unset).toArray = ls at hl ⊢
  have hl : lv_has ls 3 [(0, .ref (g.2.2.1 r)), (1, .int p0), (2, .int p1)] := hl
  have hglf_ := (hBg f hf).1
  refine lv_iload_n hx hb dX9_begin_0 rfl (lv_at hl 2 rfl) ?_
  refine lv_if_le (tgt := 31) hx hb dX9_begin_1 (by decide) (fun c1 => ?_) (fun c1 => ?_)
  · have c1 : ((q : Nat) : Int) ≤ (0 : Int) := (i_le hp1 (rfl : (0 : Int32).toInt = 0)).mp c1
    refine r_vret hx hb hr hlocks w dX9_begin_31 ?_
    rw [bgN_0 (by omega)]
    exact ⟨fun _ _ => rfl, _, _, D, hBg⟩
  · have c1 : ¬ (((q : Nat) : Int) ≤ (0 : Int)) := fun q => c1 ((i_le hp1 (rfl : (0 : Int32).toInt = 0)).mpr q)
    refine lv_aload_n hx hb dX9_begin_4 rfl (lv_at hl 0 rfl) ?_
    refine r_get (C := RX9) (T := TX9) (N := 20) (ci := 7) hx hb hts inX9_begin_X9 hown w (by have := D.1; omega) D.c0 rfl 4 (by decide) (hts (Cond.fieldLink RX9 19 "EarlyValuesModel" "body" "[I") (List.mem_of_getElem? (i := 1) (by decide +kernel))) rfl rfl dX9_begin_5 ?_
    refine lv_bipush (v := 24) hx hb dX9_begin_8 (by decide) ?_
    refine lv_iload_n hx hb dX9_begin_10 rfl (lv_at hl 1 rfl) ?_
    refine lv_imul hx hb dX9_begin_11 ?_
    refine lv_topi (fun y2 ey2 => ?_)
    have ty2 : y2.toInt = (((24 * f) : Nat) : Int) := i_mulN ey2 (by decide : (24 : Int32).toInt = ((24 : Nat) : Int)) hp0 (by omega)
    refine lv_aload_n hx hb dX9_begin_12 rfl (lv_at hl 0 rfl) ?_
    refine r_get (C := RX9) (T := TX9) (N := 20) (ci := 7) hx hb hts inX9_begin_X9 hown w (by have := D.1; omega) D.c0 rfl 3 (by decide) (hts (Cond.fieldLink RX9 16 "EarlyValuesModel" "longOf" "[I") (List.mem_of_getElem? (i := 2) (by decide +kernel))) rfl rfl dX9_begin_13 ?_
    refine lv_iload_n hx hb dX9_begin_16 rfl (lv_at hl 1 rfl) ?_
    refine r_iald (j := f) hx hb w (by have := D.1; omega) D.c3 hp0 (by omega) dX9_begin_17 ?_
    refine lv_iadd hx hb dX9_begin_18 ?_
    refine lv_topi (fun y3 ey3 => ?_)
    have ty3 : y3.toInt = ((((24 * f) + (cs f).length) : Nat) : Int) := i_addN ey3 ty2 hglf_ (by omega)
    refine lv_iload_n hx hb dX9_begin_19 rfl (lv_at hl 2 rfl) ?_
    refine r_iast (j := ((24 * f) + (cs f).length)) hx hb w (by have := D.1; omega) D.c4 ty3 (by omega) dX9_begin_20 (fun h4 H locs eh4 w => ?_)
    have D := D.s4 eh4
    generalize egz5 : upd gB (((24 * f) + (cs f).length)) p1 = gz5 at D
    have hfr : ∀ k_, ¬ (r ≤ k_ ∧ k_ < r + 14) → h4 k_ = h k_ := fun k_ hk_ => by rw [eh4, va_up_ne _ _ (by omega)]
    refine lv_aload_n hx hb dX9_begin_21 rfl (lv_at hl 0 rfl) ?_
    refine r_get (C := RX9) (T := TX9) (N := 20) (ci := 7) hx hb hts inX9_begin_X9 hown w (by have := D.1; omega) D.c0 rfl 3 (by decide) (hts (Cond.fieldLink RX9 16 "EarlyValuesModel" "longOf" "[I") (List.mem_of_getElem? (i := 2) (by decide +kernel))) rfl rfl dX9_begin_22 ?_
    refine lv_iload_n hx hb dX9_begin_25 rfl (lv_at hl 1 rfl) ?_
    refine lv_dup2_11 hx hb dX9_begin_26 rfl rfl ?_
    refine r_iald (j := f) hx hb w (by have := D.1; omega) D.c3 hp0 (by omega) dX9_begin_27 ?_
    refine lv_iconst (v := 1) hx hb dX9_begin_28 (by decide) ?_
    refine lv_iadd hx hb dX9_begin_29 ?_
    refine lv_topi (fun y6 ey6 => ?_)
    have ty6 : y6.toInt = ((((cs f).length + 1) : Nat) : Int) := i_addN ey6 hglf_ (by decide : (1 : Int32).toInt = ((1 : Nat) : Int)) (by omega)
    refine r_iast (j := f) hx hb w (by have := D.1; omega) D.c3 hp0 (by omega) dX9_begin_30 (fun h7 H locs eh7 w => ?_)
    have D := D.s3 eh7
    generalize egz8 : upd gl f y6 = gz8 at D
    have hfr : ∀ k_, ¬ (r ≤ k_ ∧ k_ < r + 14) → h7 k_ = h k_ := fun k_ hk_ => by rw [eh7, va_up_ne _ _ (by omega)]; exact hfr k_ hk_
    refine r_vret hx hb hr hlocks w dX9_begin_31 ?_
    exact ⟨hfr, _, _, D, hBg.up hf (by omega) hl24 hp1 ty6 egz5 egz8⟩

abbrev rm_X9_begins : Room := { frames := 1, cells := 0, slots := 0, locals := 22 }
set_option maxHeartbeats 4000000 in
set_option maxRecDepth 100000 in
theorem c_X9_begins (l : Launch) {g : GE} {h : Nat → va_E} {r : Nat} {nm kn um sv sz ra rm : Int32} {ga gk gl gB gt gn gr gp gh gv gs gx gf : Nat → Int32} (D : MdA g h r nm kn um sv sz ra rm ga gk gl gB gt gn gr gp gh gv gs gx gf) {cs : Nat → List Nat} (hBg : BgQ gl gB cs) (p0 p1 p2 p3 p4 : Int32) {f q1 q2 q3 q4 : Nat} (hp0 : p0.toInt = (f : Int)) (hp1 : p1.toInt = (q1 : Int)) (hp2 : p2.toInt = (q2 : Int)) (hp3 : p3.toInt = (q3 : Int)) (hp4 : p4.toInt = (q4 : Int)) (hf : f < 3) (hl4 : (cs f).length + (3 + 1) ≤ 24) : MV l yX9_begins wsX9_begins rm_X9_begins [.ref (g.2.2.1 r), .int p0, .int p1, .int p2, .int p3, .int p4] g h (fun h2 => (∀ k, ¬ (r ≤ k ∧ k < r + 14) → h2 k = h k) ∧ ∃ (gl2 gB2 : Nat → Int32), MdA g h2 r nm kn um sv sz ra rm ga gk gl2 gB2 gt gn gr gp gh gv gs gx gf ∧ BgQ gl2 gB2 (bg4 cs f q1 q2 q3 q4)) := by
  refine Met.ofW (cc := cX9_begins) (maxL := 6) (ret := none) (by decide) rfl ?_
  intro p e s m args below meth c s₁ B hml hv
  obtain ⟨rfl, w0⟩ := hv
  have hx := B.exec
  have hb := B.bytes
  have hr := B.returns
  have hts := atoms_spec (ws := wsX9_begins) B.pre
  have hown : s.vm.findClass RX9 = some m.cls := findClass_of_methodNamed B.named
  have hlocks := B.notSynchronized
  have w := w0.start
  clear w0
  have hl := lv_entry ([.ref (g.2.2.1 r), .int p0, .int p1, .int p2, .int p3, .int p4]) (n := 6) (Nat.le_of_ble_eq_true rfl)
  rw [lg_entry_eq]
  generalize (lg_sl ([.ref (g.2.2.1 r), .int p0, .int p1, .int p2, .int p3, .int p4]) ++ List.replicate (6 - (lg_sl ([.ref (g.2.2.1 r), .int p0, .int p1, .int p2, .int p3, .int p4])).length) Slot.unset).toArray = ls at hl ⊢
  have hl : lv_has ls 6 [(0, .ref (g.2.2.1 r)), (1, .int p0), (2, .int p1), (3, .int p2), (4, .int p3), (5, .int p4)] := hl
  have hl0_ := hl4
  refine lv_aload_n hx hb dX9_begins_0 rfl (lv_at hl 0 rfl) ?_
  refine lv_iload_n hx hb dX9_begins_1 rfl (lv_at hl 1 rfl) ?_
  refine lv_iload_n hx hb dX9_begins_2 rfl (lv_at hl 2 rfl) ?_
  refine r_callV w (va_runV (As := [.int p0, .int p1]) (rest := []) ⟨hx, hb, hml, hown, hts⟩ (c_X9_begin l D hBg p0 p1 hp0 hp1 hf (by omega)) (cwV 2 hts gX9_begins_X9_begin rfl rfl rfl (by decide +kernel) ⟨Nat.le_of_ble_eq_true rfl, Nat.le_of_ble_eq_true rfl⟩) (r_preV w (by have := D.1; omega) D.c0 rfl) rfl rfl hl.1 rfl (lv_room (Nat.le_of_ble_eq_true rfl)) dX9_begins_3 ⟨Nat.zero_le _, Nat.zero_le _⟩) (fun h1 H locs hp w => ?_)
  obtain ⟨hfk2, glk2, gBk2, D, hBg⟩ := hp
  have hfr : ∀ k_, ¬ (r ≤ k_ ∧ k_ < r + 14) → h1 k_ = h k_ := fun k_ hk_ => (hfk2 k_ (by omega))
  have hl1_ := bgN_len (q := q1) (n := 3) hl0_
  refine lv_aload_n hx hb dX9_begins_6 rfl (lv_at hl 0 rfl) ?_
  refine lv_iload_n hx hb dX9_begins_7 rfl (lv_at hl 1 rfl) ?_
  refine lv_iload_n hx hb dX9_begins_8 rfl (lv_at hl 3 rfl) ?_
  refine r_callV w (va_runV (As := [.int p0, .int p2]) (rest := []) ⟨hx, hb, hml, hown, hts⟩ (c_X9_begin l D hBg p0 p2 hp0 hp2 hf (by omega)) (cwV 2 hts gX9_begins_X9_begin rfl rfl rfl (by decide +kernel) ⟨Nat.le_of_ble_eq_true rfl, Nat.le_of_ble_eq_true rfl⟩) (r_preV w (by have := D.1; omega) D.c0 rfl) rfl rfl hl.1 rfl (lv_room (Nat.le_of_ble_eq_true rfl)) dX9_begins_9 ⟨Nat.zero_le _, Nat.zero_le _⟩) (fun h3 H locs hp w => ?_)
  obtain ⟨hfk4, glk4, gBk4, D, hBg⟩ := hp
  have hfr : ∀ k_, ¬ (r ≤ k_ ∧ k_ < r + 14) → h3 k_ = h k_ := fun k_ hk_ => (hfk4 k_ (by omega)).trans (hfr k_ hk_)
  have hl2_ := bgN_len (q := q2) (n := 2) hl1_
  refine lv_aload_n hx hb dX9_begins_12 rfl (lv_at hl 0 rfl) ?_
  refine lv_iload_n hx hb dX9_begins_13 rfl (lv_at hl 1 rfl) ?_
  refine lv_iload hx hb dX9_begins_14 (lv_at hl 4 rfl) ?_
  refine r_callV w (va_runV (As := [.int p0, .int p3]) (rest := []) ⟨hx, hb, hml, hown, hts⟩ (c_X9_begin l D hBg p0 p3 hp0 hp3 hf (by omega)) (cwV 2 hts gX9_begins_X9_begin rfl rfl rfl (by decide +kernel) ⟨Nat.le_of_ble_eq_true rfl, Nat.le_of_ble_eq_true rfl⟩) (r_preV w (by have := D.1; omega) D.c0 rfl) rfl rfl hl.1 rfl (lv_room (Nat.le_of_ble_eq_true rfl)) dX9_begins_16 ⟨Nat.zero_le _, Nat.zero_le _⟩) (fun h5 H locs hp w => ?_)
  obtain ⟨hfk6, glk6, gBk6, D, hBg⟩ := hp
  have hfr : ∀ k_, ¬ (r ≤ k_ ∧ k_ < r + 14) → h5 k_ = h k_ := fun k_ hk_ => (hfk6 k_ (by omega)).trans (hfr k_ hk_)
  have hl3_ := bgN_len (q := q3) (n := 1) hl2_
  refine lv_aload_n hx hb dX9_begins_19 rfl (lv_at hl 0 rfl) ?_
  refine lv_iload_n hx hb dX9_begins_20 rfl (lv_at hl 1 rfl) ?_
  refine lv_iload hx hb dX9_begins_21 (lv_at hl 5 rfl) ?_
  refine r_callV w (va_runV (As := [.int p0, .int p4]) (rest := []) ⟨hx, hb, hml, hown, hts⟩ (c_X9_begin l D hBg p0 p4 hp0 hp4 hf (by omega)) (cwV 2 hts gX9_begins_X9_begin rfl rfl rfl (by decide +kernel) ⟨Nat.le_of_ble_eq_true rfl, Nat.le_of_ble_eq_true rfl⟩) (r_preV w (by have := D.1; omega) D.c0 rfl) rfl rfl hl.1 rfl (lv_room (Nat.le_of_ble_eq_true rfl)) dX9_begins_23 ⟨Nat.zero_le _, Nat.zero_le _⟩) (fun h7 H locs hp w => ?_)
  obtain ⟨hfk8, glk8, gBk8, D, hBg⟩ := hp
  have hfr : ∀ k_, ¬ (r ≤ k_ ∧ k_ < r + 14) → h7 k_ = h k_ := fun k_ hk_ => (hfk8 k_ (by omega)).trans (hfr k_ hk_)
  refine r_vret hx hb hr hlocks w dX9_begins_26 ?_
  exact ⟨hfr, _, _, D, hBg⟩

theorem inX9_init_X9 : ∀ w ∈ wsX90, w ∈ wsX9_init := by decide +kernel
abbrev rm_X9_init : Room := { frames := 2, cells := 13, slots := 3651, locals := 47 }
set_option maxHeartbeats 8000000 in
set_option maxRecDepth 100000 in
theorem c_X9_init (l : Launch) {g0 : GE} {h0 : Nat → va_E} {sz r : Nat} (ho : r + 1 = g0.2.2.2) (hO : h0 r = .inr (7, [.int 0, .null, .null, .null, .null, .null, .null, .null, .int 0, .null, .null, .int 0, .null, .int 0, .null, .null, .int 0, .int 0, .int 0, .null])) : MN l yX9_init wsX9_init rm_X9_init [.ref (g0.2.2.1 r)] g0 h0 sz (fun u_ : GE × (Nat → va_E) => (fun g2 h2 => g2.2.2.2 = r + 14 ∧ (∀ k, k < r → h2 k = h0 k) ∧ RefA g2 h2 r stS) u_.1 u_.2) (13) (3651) := by
  refine Met.ofW (cc := cX9_init) (maxL := 1) (ret := none) (by decide) rfl ?_
  intro p e s m args below meth c s₁ B hml hv
  obtain ⟨rfl, hPN⟩ := hv
  have hx := B.exec
  have hb := B.bytes
  have hr := B.returns
  have hts := atoms_spec (ws := wsX9_init) B.pre
  have hown : s.vm.findClass RX9 = some m.cls := findClass_of_methodNamed B.named
  have hlocks := B.notSynchronized
  have hin2 : meth.name = "<init>" := (name_of_methodNamed B.named B.method).1
  have hsz : s.heap.size = sz := hPN.1
  subst hsz
  obtain ⟨w, hX, hA⟩ := hPN.start
  have hl := lv_entry ([.ref (g0.2.2.1 r)]) (n := 1) (Nat.le_of_ble_eq_true rfl)
  rw [lg_entry_eq]
  generalize (lg_sl ([.ref (g0.2.2.1 r)]) ++ List.replicate (1 - (lg_sl ([.ref (g0.2.2.1 r)])).length) Slot.unset).toArray = ls at hl ⊢
  have hl : lv_has ls 1 [(0, .ref (g0.2.2.1 r))] := hl
  obtain ⟨g, hg9⟩ : ∃ g_ : GE, g_ = g0 := ⟨_, rfl⟩
  obtain ⟨h, hh9⟩ : ∃ h_ : Nat → va_E, h_ = h0 := ⟨_, rfl⟩
  have hfr : ∀ k_, k_ < r → h k_ = h0 k_ := fun _ _ => by rw [hh9]
  have hE0 : Ext g0 g := by rw [hg9]; exact Ext.rf
  have w : WD g (inA g0 s.heap.size) s h s.heap [] := by rw [hg9, hh9]; exact w
  have hl : lv_has ls 1 [(0, .ref (g.2.2.1 r))] := by rw [hg9]; exact hl
  have hO : h r = .inr (7, [.int 0, .null, .null, .null, .null, .null, .null, .null, .int 0, .null, .null, .int 0, .null, .int 0, .null, .null, .int 0, .int 0, .int 0, .null]) := by rw [hh9]; (try rw [hg9]); exact hO
  have hN : g.2.2.2 = r + 1 := by rw [hg9]; omega
  refine lv_aload_n hx hb dX9_init_0 rfl (lv_at hl 0 rfl) ?_
  refine W.objInit hx hb hown (hts (Cond.methodLink RX9 1 objectInit) (List.mem_of_getElem? (i := 1) (by decide +kernel))) (hts (Cond.instanceMethod objectInit) (List.mem_of_getElem? (i := 2) (by decide +kernel))) (hts (Cond.code objectInit ⟨#[0xb1]⟩ 1 none) (List.mem_of_getElem? (i := 3) (by decide +kernel))) rfl (by rw [hml]; exact hl.1) rfl dX9_init_1 (Nat.le_of_ble_eq_true rfl) (Nat.le_of_ble_eq_true rfl) ?_
  refine W.eq (g2 := F0 m 4 ls []) rfl ?_
  refine lv_aload_n hx hb dX9_init_4 rfl (lv_at hl 0 rfl) ?_
  refine lv_iconst (v := 4) hx hb dX9_init_5 (by decide) ?_
  refine r_newi hx hb (hts (Cond.arrayClass .int) (List.mem_of_getElem? (i := 4) (by decide +kernel))) w hA (by decide : (4 : Int32).toInt = ((4 : Nat) : Int)) (Nat.le_of_ble_eq_true rfl) (Nat.le_of_ble_eq_true rfl) (Nat.le_of_ble_eq_true rfl) dX9_init_6 (fun g1 h2 H hEk3 hNk3 hfk3 hck3 w2_ => ?_)
  replace w := w2_
  clear w2_
  rw [hN] at hck3 hNk3 hfk3
  rw [hN]
  rw [← hEk3.at (k := r) (by omega)]
  replace hl : lv_has ls 1 [(0, .ref (g1.2.2.1 r))] := by rw [hEk3.at (k := r) (by omega)]; exact hl
  replace hO : h2 r = .inr (7, [.int 0, .null, .null, .null, .null, .null, .null, .null, .int 0, .null, .null, .int 0, .null, .int 0, .null, .null, .int 0, .int 0, .int 0, .null]) := by rw [hfk3 _ (by omega), hO]
  replace hfr : ∀ k_, k_ < r → h2 k_ = h0 k_ := fun k_ hk_ => (hfk3 k_ (by omega)).trans (hfr k_ hk_)
  replace hE0 := hE0.trans hEk3
  clear hEk3 hfk3
  replace hN : g1.2.2.2 = r + 2 := by omega
  clear hNk3
  refine r_putF (ty := .array .int) (C := RX9) (T := TX9) (N := 20) (ci := 7) hx hb hts inX9_init_X9 tyX9 tyX9_ok nmX9 hown w (by omega) hO rfl 1 (by decide) (hts (Cond.fieldLink RX9 7 "EarlyValuesModel" "argsOf" "[I") (List.mem_of_getElem? (i := 5) (by decide +kernel))) rfl rfl hin2 rfl (by decide +kernel) rfl rfl (Nat.le_of_ble_eq_true rfl) dX9_init_8 (fun h4 H locs eh4 w2_ => ?_)
  replace w := w2_
  clear w2_
  replace hO : h4 r = .inr (7, [.int 0, .ref (g1.2.2.1 (r + 1)), .null, .null, .null, .null, .null, .null, .int 0, .null, .null, .int 0, .null, .int 0, .null, .null, .int 0, .int 0, .int 0, .null]) := by rw [eh4, va_up_self]; (try rfl)
  replace hck3 : h4 (r + 1) = .inl (g1.2.1 0, 4, .inl ((fun _ => 0))) := by rw [eh4, va_up_ne _ _ (by omega)]; exact hck3
  replace hfr : ∀ k_, k_ < r → h4 k_ = h0 k_ := fun k_ hk_ => by rw [eh4, va_up_ne _ _ (by omega)]; exact hfr k_ hk_
  refine lv_aload_n hx hb dX9_init_11 rfl (lv_at hl 0 rfl) ?_
  refine lv_iconst (v := 4) hx hb dX9_init_12 (by decide) ?_
  refine r_newi hx hb (hts (Cond.arrayClass .int) (List.mem_of_getElem? (i := 4) (by decide +kernel))) w hA (by decide : (4 : Int32).toInt = ((4 : Nat) : Int)) (Nat.le_of_ble_eq_true rfl) (Nat.le_of_ble_eq_true rfl) (Nat.le_of_ble_eq_true rfl) dX9_init_13 (fun g5 h6 H hEk7 hNk7 hfk7 hck7 w2_ => ?_)
  replace w := w2_
  clear w2_
  rw [hN] at hck7 hNk7 hfk7
  rw [hN]
  rw [← hEk7.at (k := r) (by omega)]
  replace hl : lv_has ls 1 [(0, .ref (g5.2.2.1 r))] := by rw [hEk7.at (k := r) (by omega)]; exact hl
  replace hO : h6 r = .inr (7, [.int 0, .ref (g5.2.2.1 (r + 1)), .null, .null, .null, .null, .null, .null, .int 0, .null, .null, .int 0, .null, .int 0, .null, .null, .int 0, .int 0, .int 0, .null]) := by rw [hfk7 _ (by omega), hO, hEk7.at (k := (r + 1)) (by omega)]
  replace hck3 : h6 (r + 1) = .inl (g5.2.1 0, 4, .inl ((fun _ => 0))) := by rw [hfk7 _ (by omega), hck3, hEk7.ct 0]
  replace hfr : ∀ k_, k_ < r → h6 k_ = h0 k_ := fun k_ hk_ => (hfk7 k_ (by omega)).trans (hfr k_ hk_)
  replace hE0 := hE0.trans hEk7
  clear hEk7 hfk7
  replace hN : g5.2.2.2 = r + 3 := by omega
  clear hNk7
  refine r_putF (ty := .array .int) (C := RX9) (T := TX9) (N := 20) (ci := 7) hx hb hts inX9_init_X9 tyX9 tyX9_ok nmX9 hown w (by omega) hO rfl 2 (by decide) (hts (Cond.fieldLink RX9 13 "EarlyValuesModel" "kindOf" "[I") (List.mem_of_getElem? (i := 6) (by decide +kernel))) rfl rfl hin2 rfl (by decide +kernel) rfl rfl (Nat.le_of_ble_eq_true rfl) dX9_init_15 (fun h8 H locs eh8 w2_ => ?_)
  replace w := w2_
  clear w2_
  replace hO : h8 r = .inr (7, [.int 0, .ref (g5.2.2.1 (r + 1)), .ref (g5.2.2.1 (r + 2)), .null, .null, .null, .null, .null, .int 0, .null, .null, .int 0, .null, .int 0, .null, .null, .int 0, .int 0, .int 0, .null]) := by rw [eh8, va_up_self]; (try rfl)
  replace hck3 : h8 (r + 1) = .inl (g5.2.1 0, 4, .inl ((fun _ => 0))) := by rw [eh8, va_up_ne _ _ (by omega)]; exact hck3
  replace hck7 : h8 (r + 2) = .inl (g5.2.1 0, 4, .inl ((fun _ => 0))) := by rw [eh8, va_up_ne _ _ (by omega)]; exact hck7
  replace hfr : ∀ k_, k_ < r → h8 k_ = h0 k_ := fun k_ hk_ => by rw [eh8, va_up_ne _ _ (by omega)]; exact hfr k_ hk_
  refine lv_aload_n hx hb dX9_init_18 rfl (lv_at hl 0 rfl) ?_
  refine lv_iconst (v := 4) hx hb dX9_init_19 (by decide) ?_
  refine r_newi hx hb (hts (Cond.arrayClass .int) (List.mem_of_getElem? (i := 4) (by decide +kernel))) w hA (by decide : (4 : Int32).toInt = ((4 : Nat) : Int)) (Nat.le_of_ble_eq_true rfl) (Nat.le_of_ble_eq_true rfl) (Nat.le_of_ble_eq_true rfl) dX9_init_20 (fun g9 h10 H hEk11 hNk11 hfk11 hck11 w2_ => ?_)
  replace w := w2_
  clear w2_
  rw [hN] at hck11 hNk11 hfk11
  rw [hN]
  rw [← hEk11.at (k := r) (by omega)]
  replace hl : lv_has ls 1 [(0, .ref (g9.2.2.1 r))] := by rw [hEk11.at (k := r) (by omega)]; exact hl
  replace hO : h10 r = .inr (7, [.int 0, .ref (g9.2.2.1 (r + 1)), .ref (g9.2.2.1 (r + 2)), .null, .null, .null, .null, .null, .int 0, .null, .null, .int 0, .null, .int 0, .null, .null, .int 0, .int 0, .int 0, .null]) := by rw [hfk11 _ (by omega), hO, hEk11.at (k := (r + 1)) (by omega), hEk11.at (k := (r + 2)) (by omega)]
  replace hck3 : h10 (r + 1) = .inl (g9.2.1 0, 4, .inl ((fun _ => 0))) := by rw [hfk11 _ (by omega), hck3, hEk11.ct 0]
  replace hck7 : h10 (r + 2) = .inl (g9.2.1 0, 4, .inl ((fun _ => 0))) := by rw [hfk11 _ (by omega), hck7, hEk11.ct 0]
  replace hfr : ∀ k_, k_ < r → h10 k_ = h0 k_ := fun k_ hk_ => (hfk11 k_ (by omega)).trans (hfr k_ hk_)
  replace hE0 := hE0.trans hEk11
  clear hEk11 hfk11
  replace hN : g9.2.2.2 = r + 4 := by omega
  clear hNk11
  refine r_putF (ty := .array .int) (C := RX9) (T := TX9) (N := 20) (ci := 7) hx hb hts inX9_init_X9 tyX9 tyX9_ok nmX9 hown w (by omega) hO rfl 3 (by decide) (hts (Cond.fieldLink RX9 16 "EarlyValuesModel" "longOf" "[I") (List.mem_of_getElem? (i := 7) (by decide +kernel))) rfl rfl hin2 rfl (by decide +kernel) rfl rfl (Nat.le_of_ble_eq_true rfl) dX9_init_22 (fun h12 H locs eh12 w2_ => ?_)
  replace w := w2_
  clear w2_
  replace hO : h12 r = .inr (7, [.int 0, .ref (g9.2.2.1 (r + 1)), .ref (g9.2.2.1 (r + 2)), .ref (g9.2.2.1 (r + 3)), .null, .null, .null, .null, .int 0, .null, .null, .int 0, .null, .int 0, .null, .null, .int 0, .int 0, .int 0, .null]) := by rw [eh12, va_up_self]; (try rfl)
  replace hck3 : h12 (r + 1) = .inl (g9.2.1 0, 4, .inl ((fun _ => 0))) := by rw [eh12, va_up_ne _ _ (by omega)]; exact hck3
  replace hck7 : h12 (r + 2) = .inl (g9.2.1 0, 4, .inl ((fun _ => 0))) := by rw [eh12, va_up_ne _ _ (by omega)]; exact hck7
  replace hck11 : h12 (r + 3) = .inl (g9.2.1 0, 4, .inl ((fun _ => 0))) := by rw [eh12, va_up_ne _ _ (by omega)]; exact hck11
  replace hfr : ∀ k_, k_ < r → h12 k_ = h0 k_ := fun k_ hk_ => by rw [eh12, va_up_ne _ _ (by omega)]; exact hfr k_ hk_
  refine lv_aload_n hx hb dX9_init_25 rfl (lv_at hl 0 rfl) ?_
  refine lv_bipush (v := 96) hx hb dX9_init_26 (by decide) ?_
  refine r_newi hx hb (hts (Cond.arrayClass .int) (List.mem_of_getElem? (i := 4) (by decide +kernel))) w hA (by decide : (96 : Int32).toInt = ((96 : Nat) : Int)) (Nat.le_of_ble_eq_true rfl) (Nat.le_of_ble_eq_true rfl) (Nat.le_of_ble_eq_true rfl) dX9_init_28 (fun g13 h14 H hEk15 hNk15 hfk15 hck15 w2_ => ?_)
  replace w := w2_
  clear w2_
  rw [hN] at hck15 hNk15 hfk15
  rw [hN]
  rw [← hEk15.at (k := r) (by omega)]
  replace hl : lv_has ls 1 [(0, .ref (g13.2.2.1 r))] := by rw [hEk15.at (k := r) (by omega)]; exact hl
  replace hO : h14 r = .inr (7, [.int 0, .ref (g13.2.2.1 (r + 1)), .ref (g13.2.2.1 (r + 2)), .ref (g13.2.2.1 (r + 3)), .null, .null, .null, .null, .int 0, .null, .null, .int 0, .null, .int 0, .null, .null, .int 0, .int 0, .int 0, .null]) := by rw [hfk15 _ (by omega), hO, hEk15.at (k := (r + 1)) (by omega), hEk15.at (k := (r + 2)) (by omega), hEk15.at (k := (r + 3)) (by omega)]
  replace hck3 : h14 (r + 1) = .inl (g13.2.1 0, 4, .inl ((fun _ => 0))) := by rw [hfk15 _ (by omega), hck3, hEk15.ct 0]
  replace hck7 : h14 (r + 2) = .inl (g13.2.1 0, 4, .inl ((fun _ => 0))) := by rw [hfk15 _ (by omega), hck7, hEk15.ct 0]
  replace hck11 : h14 (r + 3) = .inl (g13.2.1 0, 4, .inl ((fun _ => 0))) := by rw [hfk15 _ (by omega), hck11, hEk15.ct 0]
  replace hfr : ∀ k_, k_ < r → h14 k_ = h0 k_ := fun k_ hk_ => (hfk15 k_ (by omega)).trans (hfr k_ hk_)
  replace hE0 := hE0.trans hEk15
  clear hEk15 hfk15
  replace hN : g13.2.2.2 = r + 5 := by omega
  clear hNk15
  refine r_putF (ty := .array .int) (C := RX9) (T := TX9) (N := 20) (ci := 7) hx hb hts inX9_init_X9 tyX9 tyX9_ok nmX9 hown w (by omega) hO rfl 4 (by decide) (hts (Cond.fieldLink RX9 19 "EarlyValuesModel" "body" "[I") (List.mem_of_getElem? (i := 8) (by decide +kernel))) rfl rfl hin2 rfl (by decide +kernel) rfl rfl (Nat.le_of_ble_eq_true rfl) dX9_init_30 (fun h16 H locs eh16 w2_ => ?_)
  replace w := w2_
  clear w2_
  replace hO : h16 r = .inr (7, [.int 0, .ref (g13.2.2.1 (r + 1)), .ref (g13.2.2.1 (r + 2)), .ref (g13.2.2.1 (r + 3)), .ref (g13.2.2.1 (r + 4)), .null, .null, .null, .int 0, .null, .null, .int 0, .null, .int 0, .null, .null, .int 0, .int 0, .int 0, .null]) := by rw [eh16, va_up_self]; (try rfl)
  replace hck3 : h16 (r + 1) = .inl (g13.2.1 0, 4, .inl ((fun _ => 0))) := by rw [eh16, va_up_ne _ _ (by omega)]; exact hck3
  replace hck7 : h16 (r + 2) = .inl (g13.2.1 0, 4, .inl ((fun _ => 0))) := by rw [eh16, va_up_ne _ _ (by omega)]; exact hck7
  replace hck11 : h16 (r + 3) = .inl (g13.2.1 0, 4, .inl ((fun _ => 0))) := by rw [eh16, va_up_ne _ _ (by omega)]; exact hck11
  replace hck15 : h16 (r + 4) = .inl (g13.2.1 0, 96, .inl ((fun _ => 0))) := by rw [eh16, va_up_ne _ _ (by omega)]; exact hck15
  replace hfr : ∀ k_, k_ < r → h16 k_ = h0 k_ := fun k_ hk_ => by rw [eh16, va_up_ne _ _ (by omega)]; exact hfr k_ hk_
  refine lv_aload_n hx hb dX9_init_33 rfl (lv_at hl 0 rfl) ?_
  refine lv_sipush (v := 1500) hx hb dX9_init_34 (by decide) ?_
  refine r_newi hx hb (hts (Cond.arrayClass .int) (List.mem_of_getElem? (i := 4) (by decide +kernel))) w hA (by decide : (1500 : Int32).toInt = ((1500 : Nat) : Int)) (Nat.le_of_ble_eq_true rfl) (Nat.le_of_ble_eq_true rfl) (Nat.le_of_ble_eq_true rfl) dX9_init_37 (fun g17 h18 H hEk19 hNk19 hfk19 hck19 w2_ => ?_)
  replace w := w2_
  clear w2_
  rw [hN] at hck19 hNk19 hfk19
  rw [hN]
  rw [← hEk19.at (k := r) (by omega)]
  replace hl : lv_has ls 1 [(0, .ref (g17.2.2.1 r))] := by rw [hEk19.at (k := r) (by omega)]; exact hl
  replace hO : h18 r = .inr (7, [.int 0, .ref (g17.2.2.1 (r + 1)), .ref (g17.2.2.1 (r + 2)), .ref (g17.2.2.1 (r + 3)), .ref (g17.2.2.1 (r + 4)), .null, .null, .null, .int 0, .null, .null, .int 0, .null, .int 0, .null, .null, .int 0, .int 0, .int 0, .null]) := by rw [hfk19 _ (by omega), hO, hEk19.at (k := (r + 1)) (by omega), hEk19.at (k := (r + 2)) (by omega), hEk19.at (k := (r + 3)) (by omega), hEk19.at (k := (r + 4)) (by omega)]
  replace hck3 : h18 (r + 1) = .inl (g17.2.1 0, 4, .inl ((fun _ => 0))) := by rw [hfk19 _ (by omega), hck3, hEk19.ct 0]
  replace hck7 : h18 (r + 2) = .inl (g17.2.1 0, 4, .inl ((fun _ => 0))) := by rw [hfk19 _ (by omega), hck7, hEk19.ct 0]
  replace hck11 : h18 (r + 3) = .inl (g17.2.1 0, 4, .inl ((fun _ => 0))) := by rw [hfk19 _ (by omega), hck11, hEk19.ct 0]
  replace hck15 : h18 (r + 4) = .inl (g17.2.1 0, 96, .inl ((fun _ => 0))) := by rw [hfk19 _ (by omega), hck15, hEk19.ct 0]
  replace hfr : ∀ k_, k_ < r → h18 k_ = h0 k_ := fun k_ hk_ => (hfk19 k_ (by omega)).trans (hfr k_ hk_)
  replace hE0 := hE0.trans hEk19
  clear hEk19 hfk19
  replace hN : g17.2.2.2 = r + 6 := by omega
  clear hNk19
  refine r_putF (ty := .array .int) (C := RX9) (T := TX9) (N := 20) (ci := 7) hx hb hts inX9_init_X9 tyX9 tyX9_ok nmX9 hown w (by omega) hO rfl 5 (by decide) (hts (Cond.fieldLink RX9 22 "EarlyValuesModel" "table" "[I") (List.mem_of_getElem? (i := 9) (by decide +kernel))) rfl rfl hin2 rfl (by decide +kernel) rfl rfl (Nat.le_of_ble_eq_true rfl) dX9_init_39 (fun h20 H locs eh20 w2_ => ?_)
  replace w := w2_
  clear w2_
  replace hO : h20 r = .inr (7, [.int 0, .ref (g17.2.2.1 (r + 1)), .ref (g17.2.2.1 (r + 2)), .ref (g17.2.2.1 (r + 3)), .ref (g17.2.2.1 (r + 4)), .ref (g17.2.2.1 (r + 5)), .null, .null, .int 0, .null, .null, .int 0, .null, .int 0, .null, .null, .int 0, .int 0, .int 0, .null]) := by rw [eh20, va_up_self]; (try rfl)
  replace hck3 : h20 (r + 1) = .inl (g17.2.1 0, 4, .inl ((fun _ => 0))) := by rw [eh20, va_up_ne _ _ (by omega)]; exact hck3
  replace hck7 : h20 (r + 2) = .inl (g17.2.1 0, 4, .inl ((fun _ => 0))) := by rw [eh20, va_up_ne _ _ (by omega)]; exact hck7
  replace hck11 : h20 (r + 3) = .inl (g17.2.1 0, 4, .inl ((fun _ => 0))) := by rw [eh20, va_up_ne _ _ (by omega)]; exact hck11
  replace hck15 : h20 (r + 4) = .inl (g17.2.1 0, 96, .inl ((fun _ => 0))) := by rw [eh20, va_up_ne _ _ (by omega)]; exact hck15
  replace hck19 : h20 (r + 5) = .inl (g17.2.1 0, 1500, .inl ((fun _ => 0))) := by rw [eh20, va_up_ne _ _ (by omega)]; exact hck19
  replace hfr : ∀ k_, k_ < r → h20 k_ = h0 k_ := fun k_ hk_ => by rw [eh20, va_up_ne _ _ (by omega)]; exact hfr k_ hk_
  refine lv_aload_n hx hb dX9_init_42 rfl (lv_at hl 0 rfl) ?_
  refine lv_sipush (v := 500) hx hb dX9_init_43 (by decide) ?_
  refine r_newi hx hb (hts (Cond.arrayClass .int) (List.mem_of_getElem? (i := 4) (by decide +kernel))) w hA (by decide : (500 : Int32).toInt = ((500 : Nat) : Int)) (Nat.le_of_ble_eq_true rfl) (Nat.le_of_ble_eq_true rfl) (Nat.le_of_ble_eq_true rfl) dX9_init_46 (fun g21 h22 H hEk23 hNk23 hfk23 hck23 w2_ => ?_)
  replace w := w2_
  clear w2_
  rw [hN] at hck23 hNk23 hfk23
  rw [hN]
  rw [← hEk23.at (k := r) (by omega)]
  replace hl : lv_has ls 1 [(0, .ref (g21.2.2.1 r))] := by rw [hEk23.at (k := r) (by omega)]; exact hl
  replace hO : h22 r = .inr (7, [.int 0, .ref (g21.2.2.1 (r + 1)), .ref (g21.2.2.1 (r + 2)), .ref (g21.2.2.1 (r + 3)), .ref (g21.2.2.1 (r + 4)), .ref (g21.2.2.1 (r + 5)), .null, .null, .int 0, .null, .null, .int 0, .null, .int 0, .null, .null, .int 0, .int 0, .int 0, .null]) := by rw [hfk23 _ (by omega), hO, hEk23.at (k := (r + 1)) (by omega), hEk23.at (k := (r + 2)) (by omega), hEk23.at (k := (r + 3)) (by omega), hEk23.at (k := (r + 4)) (by omega), hEk23.at (k := (r + 5)) (by omega)]
  replace hck3 : h22 (r + 1) = .inl (g21.2.1 0, 4, .inl ((fun _ => 0))) := by rw [hfk23 _ (by omega), hck3, hEk23.ct 0]
  replace hck7 : h22 (r + 2) = .inl (g21.2.1 0, 4, .inl ((fun _ => 0))) := by rw [hfk23 _ (by omega), hck7, hEk23.ct 0]
  replace hck11 : h22 (r + 3) = .inl (g21.2.1 0, 4, .inl ((fun _ => 0))) := by rw [hfk23 _ (by omega), hck11, hEk23.ct 0]
  replace hck15 : h22 (r + 4) = .inl (g21.2.1 0, 96, .inl ((fun _ => 0))) := by rw [hfk23 _ (by omega), hck15, hEk23.ct 0]
  replace hck19 : h22 (r + 5) = .inl (g21.2.1 0, 1500, .inl ((fun _ => 0))) := by rw [hfk23 _ (by omega), hck19, hEk23.ct 0]
  replace hfr : ∀ k_, k_ < r → h22 k_ = h0 k_ := fun k_ hk_ => (hfk23 k_ (by omega)).trans (hfr k_ hk_)
  replace hE0 := hE0.trans hEk23
  clear hEk23 hfk23
  replace hN : g21.2.2.2 = r + 7 := by omega
  clear hNk23
  refine r_putF (ty := .array .int) (C := RX9) (T := TX9) (N := 20) (ci := 7) hx hb hts inX9_init_X9 tyX9 tyX9_ok nmX9 hown w (by omega) hO rfl 6 (by decide) (hts (Cond.fieldLink RX9 25 "EarlyValuesModel" "then" "[I") (List.mem_of_getElem? (i := 10) (by decide +kernel))) rfl rfl hin2 rfl (by decide +kernel) rfl rfl (Nat.le_of_ble_eq_true rfl) dX9_init_48 (fun h24 H locs eh24 w2_ => ?_)
  replace w := w2_
  clear w2_
  replace hO : h24 r = .inr (7, [.int 0, .ref (g21.2.2.1 (r + 1)), .ref (g21.2.2.1 (r + 2)), .ref (g21.2.2.1 (r + 3)), .ref (g21.2.2.1 (r + 4)), .ref (g21.2.2.1 (r + 5)), .ref (g21.2.2.1 (r + 6)), .null, .int 0, .null, .null, .int 0, .null, .int 0, .null, .null, .int 0, .int 0, .int 0, .null]) := by rw [eh24, va_up_self]; (try rfl)
  replace hck3 : h24 (r + 1) = .inl (g21.2.1 0, 4, .inl ((fun _ => 0))) := by rw [eh24, va_up_ne _ _ (by omega)]; exact hck3
  replace hck7 : h24 (r + 2) = .inl (g21.2.1 0, 4, .inl ((fun _ => 0))) := by rw [eh24, va_up_ne _ _ (by omega)]; exact hck7
  replace hck11 : h24 (r + 3) = .inl (g21.2.1 0, 4, .inl ((fun _ => 0))) := by rw [eh24, va_up_ne _ _ (by omega)]; exact hck11
  replace hck15 : h24 (r + 4) = .inl (g21.2.1 0, 96, .inl ((fun _ => 0))) := by rw [eh24, va_up_ne _ _ (by omega)]; exact hck15
  replace hck19 : h24 (r + 5) = .inl (g21.2.1 0, 1500, .inl ((fun _ => 0))) := by rw [eh24, va_up_ne _ _ (by omega)]; exact hck19
  replace hck23 : h24 (r + 6) = .inl (g21.2.1 0, 500, .inl ((fun _ => 0))) := by rw [eh24, va_up_ne _ _ (by omega)]; exact hck23
  replace hfr : ∀ k_, k_ < r → h24 k_ = h0 k_ := fun k_ hk_ => by rw [eh24, va_up_ne _ _ (by omega)]; exact hfr k_ hk_
  refine lv_aload_n hx hb dX9_init_51 rfl (lv_at hl 0 rfl) ?_
  refine lv_iconst (v := 3) hx hb dX9_init_52 (by decide) ?_
  refine r_newi hx hb (hts (Cond.arrayClass .int) (List.mem_of_getElem? (i := 4) (by decide +kernel))) w hA (by decide : (3 : Int32).toInt = ((3 : Nat) : Int)) (Nat.le_of_ble_eq_true rfl) (Nat.le_of_ble_eq_true rfl) (Nat.le_of_ble_eq_true rfl) dX9_init_53 (fun g25 h26 H hEk27 hNk27 hfk27 hck27 w2_ => ?_)
  replace w := w2_
  clear w2_
  rw [hN] at hck27 hNk27 hfk27
  rw [hN]
  rw [← hEk27.at (k := r) (by omega)]
  replace hl : lv_has ls 1 [(0, .ref (g25.2.2.1 r))] := by rw [hEk27.at (k := r) (by omega)]; exact hl
  replace hO : h26 r = .inr (7, [.int 0, .ref (g25.2.2.1 (r + 1)), .ref (g25.2.2.1 (r + 2)), .ref (g25.2.2.1 (r + 3)), .ref (g25.2.2.1 (r + 4)), .ref (g25.2.2.1 (r + 5)), .ref (g25.2.2.1 (r + 6)), .null, .int 0, .null, .null, .int 0, .null, .int 0, .null, .null, .int 0, .int 0, .int 0, .null]) := by rw [hfk27 _ (by omega), hO, hEk27.at (k := (r + 1)) (by omega), hEk27.at (k := (r + 2)) (by omega), hEk27.at (k := (r + 3)) (by omega), hEk27.at (k := (r + 4)) (by omega), hEk27.at (k := (r + 5)) (by omega), hEk27.at (k := (r + 6)) (by omega)]
  replace hck3 : h26 (r + 1) = .inl (g25.2.1 0, 4, .inl ((fun _ => 0))) := by rw [hfk27 _ (by omega), hck3, hEk27.ct 0]
  replace hck7 : h26 (r + 2) = .inl (g25.2.1 0, 4, .inl ((fun _ => 0))) := by rw [hfk27 _ (by omega), hck7, hEk27.ct 0]
  replace hck11 : h26 (r + 3) = .inl (g25.2.1 0, 4, .inl ((fun _ => 0))) := by rw [hfk27 _ (by omega), hck11, hEk27.ct 0]
  replace hck15 : h26 (r + 4) = .inl (g25.2.1 0, 96, .inl ((fun _ => 0))) := by rw [hfk27 _ (by omega), hck15, hEk27.ct 0]
  replace hck19 : h26 (r + 5) = .inl (g25.2.1 0, 1500, .inl ((fun _ => 0))) := by rw [hfk27 _ (by omega), hck19, hEk27.ct 0]
  replace hck23 : h26 (r + 6) = .inl (g25.2.1 0, 500, .inl ((fun _ => 0))) := by rw [hfk27 _ (by omega), hck23, hEk27.ct 0]
  replace hfr : ∀ k_, k_ < r → h26 k_ = h0 k_ := fun k_ hk_ => (hfk27 k_ (by omega)).trans (hfr k_ hk_)
  replace hE0 := hE0.trans hEk27
  clear hEk27 hfk27
  replace hN : g25.2.2.2 = r + 8 := by omega
  clear hNk27
  refine r_putF (ty := .array .int) (C := RX9) (T := TX9) (N := 20) (ci := 7) hx hb hts inX9_init_X9 tyX9 tyX9_ok nmX9 hown w (by omega) hO rfl 7 (by decide) (hts (Cond.fieldLink RX9 28 "EarlyValuesModel" "roundsOf" "[I") (List.mem_of_getElem? (i := 11) (by decide +kernel))) rfl rfl hin2 rfl (by decide +kernel) rfl rfl (Nat.le_of_ble_eq_true rfl) dX9_init_55 (fun h28 H locs eh28 w2_ => ?_)
  replace w := w2_
  clear w2_
  replace hO : h28 r = .inr (7, [.int 0, .ref (g25.2.2.1 (r + 1)), .ref (g25.2.2.1 (r + 2)), .ref (g25.2.2.1 (r + 3)), .ref (g25.2.2.1 (r + 4)), .ref (g25.2.2.1 (r + 5)), .ref (g25.2.2.1 (r + 6)), .ref (g25.2.2.1 (r + 7)), .int 0, .null, .null, .int 0, .null, .int 0, .null, .null, .int 0, .int 0, .int 0, .null]) := by rw [eh28, va_up_self]; (try rfl)
  replace hck3 : h28 (r + 1) = .inl (g25.2.1 0, 4, .inl ((fun _ => 0))) := by rw [eh28, va_up_ne _ _ (by omega)]; exact hck3
  replace hck7 : h28 (r + 2) = .inl (g25.2.1 0, 4, .inl ((fun _ => 0))) := by rw [eh28, va_up_ne _ _ (by omega)]; exact hck7
  replace hck11 : h28 (r + 3) = .inl (g25.2.1 0, 4, .inl ((fun _ => 0))) := by rw [eh28, va_up_ne _ _ (by omega)]; exact hck11
  replace hck15 : h28 (r + 4) = .inl (g25.2.1 0, 96, .inl ((fun _ => 0))) := by rw [eh28, va_up_ne _ _ (by omega)]; exact hck15
  replace hck19 : h28 (r + 5) = .inl (g25.2.1 0, 1500, .inl ((fun _ => 0))) := by rw [eh28, va_up_ne _ _ (by omega)]; exact hck19
  replace hck23 : h28 (r + 6) = .inl (g25.2.1 0, 500, .inl ((fun _ => 0))) := by rw [eh28, va_up_ne _ _ (by omega)]; exact hck23
  replace hck27 : h28 (r + 7) = .inl (g25.2.1 0, 3, .inl ((fun _ => 0))) := by rw [eh28, va_up_ne _ _ (by omega)]; exact hck27
  replace hfr : ∀ k_, k_ < r → h28 k_ = h0 k_ := fun k_ hk_ => by rw [eh28, va_up_ne _ _ (by omega)]; exact hfr k_ hk_
  refine lv_aload_n hx hb dX9_init_58 rfl (lv_at hl 0 rfl) ?_
  refine lv_bipush (v := 32) hx hb dX9_init_59 (by decide) ?_
  refine r_newi hx hb (hts (Cond.arrayClass .int) (List.mem_of_getElem? (i := 4) (by decide +kernel))) w hA (by decide : (32 : Int32).toInt = ((32 : Nat) : Int)) (Nat.le_of_ble_eq_true rfl) (Nat.le_of_ble_eq_true rfl) (Nat.le_of_ble_eq_true rfl) dX9_init_61 (fun g29 h30 H hEk31 hNk31 hfk31 hck31 w2_ => ?_)
  replace w := w2_
  clear w2_
  rw [hN] at hck31 hNk31 hfk31
  rw [hN]
  rw [← hEk31.at (k := r) (by omega)]
  replace hl : lv_has ls 1 [(0, .ref (g29.2.2.1 r))] := by rw [hEk31.at (k := r) (by omega)]; exact hl
  replace hO : h30 r = .inr (7, [.int 0, .ref (g29.2.2.1 (r + 1)), .ref (g29.2.2.1 (r + 2)), .ref (g29.2.2.1 (r + 3)), .ref (g29.2.2.1 (r + 4)), .ref (g29.2.2.1 (r + 5)), .ref (g29.2.2.1 (r + 6)), .ref (g29.2.2.1 (r + 7)), .int 0, .null, .null, .int 0, .null, .int 0, .null, .null, .int 0, .int 0, .int 0, .null]) := by rw [hfk31 _ (by omega), hO, hEk31.at (k := (r + 1)) (by omega), hEk31.at (k := (r + 2)) (by omega), hEk31.at (k := (r + 3)) (by omega), hEk31.at (k := (r + 4)) (by omega), hEk31.at (k := (r + 5)) (by omega), hEk31.at (k := (r + 6)) (by omega), hEk31.at (k := (r + 7)) (by omega)]
  replace hck3 : h30 (r + 1) = .inl (g29.2.1 0, 4, .inl ((fun _ => 0))) := by rw [hfk31 _ (by omega), hck3, hEk31.ct 0]
  replace hck7 : h30 (r + 2) = .inl (g29.2.1 0, 4, .inl ((fun _ => 0))) := by rw [hfk31 _ (by omega), hck7, hEk31.ct 0]
  replace hck11 : h30 (r + 3) = .inl (g29.2.1 0, 4, .inl ((fun _ => 0))) := by rw [hfk31 _ (by omega), hck11, hEk31.ct 0]
  replace hck15 : h30 (r + 4) = .inl (g29.2.1 0, 96, .inl ((fun _ => 0))) := by rw [hfk31 _ (by omega), hck15, hEk31.ct 0]
  replace hck19 : h30 (r + 5) = .inl (g29.2.1 0, 1500, .inl ((fun _ => 0))) := by rw [hfk31 _ (by omega), hck19, hEk31.ct 0]
  replace hck23 : h30 (r + 6) = .inl (g29.2.1 0, 500, .inl ((fun _ => 0))) := by rw [hfk31 _ (by omega), hck23, hEk31.ct 0]
  replace hck27 : h30 (r + 7) = .inl (g29.2.1 0, 3, .inl ((fun _ => 0))) := by rw [hfk31 _ (by omega), hck27, hEk31.ct 0]
  replace hfr : ∀ k_, k_ < r → h30 k_ = h0 k_ := fun k_ hk_ => (hfk31 k_ (by omega)).trans (hfr k_ hk_)
  replace hE0 := hE0.trans hEk31
  clear hEk31 hfk31
  replace hN : g29.2.2.2 = r + 9 := by omega
  clear hNk31
  refine r_putF (ty := .array .int) (C := RX9) (T := TX9) (N := 20) (ci := 7) hx hb hts inX9_init_X9 tyX9 tyX9_ok nmX9 hown w (by omega) hO rfl 9 (by decide) (hts (Cond.fieldLink RX9 31 "EarlyValuesModel" "parts" "[I") (List.mem_of_getElem? (i := 12) (by decide +kernel))) rfl rfl hin2 rfl (by decide +kernel) rfl rfl (Nat.le_of_ble_eq_true rfl) dX9_init_63 (fun h32 H locs eh32 w2_ => ?_)
  replace w := w2_
  clear w2_
  replace hO : h32 r = .inr (7, [.int 0, .ref (g29.2.2.1 (r + 1)), .ref (g29.2.2.1 (r + 2)), .ref (g29.2.2.1 (r + 3)), .ref (g29.2.2.1 (r + 4)), .ref (g29.2.2.1 (r + 5)), .ref (g29.2.2.1 (r + 6)), .ref (g29.2.2.1 (r + 7)), .int 0, .ref (g29.2.2.1 (r + 8)), .null, .int 0, .null, .int 0, .null, .null, .int 0, .int 0, .int 0, .null]) := by rw [eh32, va_up_self]; (try rfl)
  replace hck3 : h32 (r + 1) = .inl (g29.2.1 0, 4, .inl ((fun _ => 0))) := by rw [eh32, va_up_ne _ _ (by omega)]; exact hck3
  replace hck7 : h32 (r + 2) = .inl (g29.2.1 0, 4, .inl ((fun _ => 0))) := by rw [eh32, va_up_ne _ _ (by omega)]; exact hck7
  replace hck11 : h32 (r + 3) = .inl (g29.2.1 0, 4, .inl ((fun _ => 0))) := by rw [eh32, va_up_ne _ _ (by omega)]; exact hck11
  replace hck15 : h32 (r + 4) = .inl (g29.2.1 0, 96, .inl ((fun _ => 0))) := by rw [eh32, va_up_ne _ _ (by omega)]; exact hck15
  replace hck19 : h32 (r + 5) = .inl (g29.2.1 0, 1500, .inl ((fun _ => 0))) := by rw [eh32, va_up_ne _ _ (by omega)]; exact hck19
  replace hck23 : h32 (r + 6) = .inl (g29.2.1 0, 500, .inl ((fun _ => 0))) := by rw [eh32, va_up_ne _ _ (by omega)]; exact hck23
  replace hck27 : h32 (r + 7) = .inl (g29.2.1 0, 3, .inl ((fun _ => 0))) := by rw [eh32, va_up_ne _ _ (by omega)]; exact hck27
  replace hck31 : h32 (r + 8) = .inl (g29.2.1 0, 32, .inl ((fun _ => 0))) := by rw [eh32, va_up_ne _ _ (by omega)]; exact hck31
  replace hfr : ∀ k_, k_ < r → h32 k_ = h0 k_ := fun k_ hk_ => by rw [eh32, va_up_ne _ _ (by omega)]; exact hfr k_ hk_
  refine lv_aload_n hx hb dX9_init_66 rfl (lv_at hl 0 rfl) ?_
  refine lv_sipush (v := 872) hx hb dX9_init_67 (by decide) ?_
  refine r_newi hx hb (hts (Cond.arrayClass .int) (List.mem_of_getElem? (i := 4) (by decide +kernel))) w hA (by decide : (872 : Int32).toInt = ((872 : Nat) : Int)) (Nat.le_of_ble_eq_true rfl) (Nat.le_of_ble_eq_true rfl) (Nat.le_of_ble_eq_true rfl) dX9_init_70 (fun g33 h34 H hEk35 hNk35 hfk35 hck35 w2_ => ?_)
  replace w := w2_
  clear w2_
  rw [hN] at hck35 hNk35 hfk35
  rw [hN]
  rw [← hEk35.at (k := r) (by omega)]
  replace hl : lv_has ls 1 [(0, .ref (g33.2.2.1 r))] := by rw [hEk35.at (k := r) (by omega)]; exact hl
  replace hO : h34 r = .inr (7, [.int 0, .ref (g33.2.2.1 (r + 1)), .ref (g33.2.2.1 (r + 2)), .ref (g33.2.2.1 (r + 3)), .ref (g33.2.2.1 (r + 4)), .ref (g33.2.2.1 (r + 5)), .ref (g33.2.2.1 (r + 6)), .ref (g33.2.2.1 (r + 7)), .int 0, .ref (g33.2.2.1 (r + 8)), .null, .int 0, .null, .int 0, .null, .null, .int 0, .int 0, .int 0, .null]) := by rw [hfk35 _ (by omega), hO, hEk35.at (k := (r + 1)) (by omega), hEk35.at (k := (r + 2)) (by omega), hEk35.at (k := (r + 3)) (by omega), hEk35.at (k := (r + 4)) (by omega), hEk35.at (k := (r + 5)) (by omega), hEk35.at (k := (r + 6)) (by omega), hEk35.at (k := (r + 7)) (by omega), hEk35.at (k := (r + 8)) (by omega)]
  replace hck3 : h34 (r + 1) = .inl (g33.2.1 0, 4, .inl ((fun _ => 0))) := by rw [hfk35 _ (by omega), hck3, hEk35.ct 0]
  replace hck7 : h34 (r + 2) = .inl (g33.2.1 0, 4, .inl ((fun _ => 0))) := by rw [hfk35 _ (by omega), hck7, hEk35.ct 0]
  replace hck11 : h34 (r + 3) = .inl (g33.2.1 0, 4, .inl ((fun _ => 0))) := by rw [hfk35 _ (by omega), hck11, hEk35.ct 0]
  replace hck15 : h34 (r + 4) = .inl (g33.2.1 0, 96, .inl ((fun _ => 0))) := by rw [hfk35 _ (by omega), hck15, hEk35.ct 0]
  replace hck19 : h34 (r + 5) = .inl (g33.2.1 0, 1500, .inl ((fun _ => 0))) := by rw [hfk35 _ (by omega), hck19, hEk35.ct 0]
  replace hck23 : h34 (r + 6) = .inl (g33.2.1 0, 500, .inl ((fun _ => 0))) := by rw [hfk35 _ (by omega), hck23, hEk35.ct 0]
  replace hck27 : h34 (r + 7) = .inl (g33.2.1 0, 3, .inl ((fun _ => 0))) := by rw [hfk35 _ (by omega), hck27, hEk35.ct 0]
  replace hck31 : h34 (r + 8) = .inl (g33.2.1 0, 32, .inl ((fun _ => 0))) := by rw [hfk35 _ (by omega), hck31, hEk35.ct 0]
  replace hfr : ∀ k_, k_ < r → h34 k_ = h0 k_ := fun k_ hk_ => (hfk35 k_ (by omega)).trans (hfr k_ hk_)
  replace hE0 := hE0.trans hEk35
  clear hEk35 hfk35
  replace hN : g33.2.2.2 = r + 10 := by omega
  clear hNk35
  refine r_putF (ty := .array .int) (C := RX9) (T := TX9) (N := 20) (ci := 7) hx hb hts inX9_init_X9 tyX9 tyX9_ok nmX9 hown w (by omega) hO rfl 10 (by decide) (hts (Cond.fieldLink RX9 34 "EarlyValuesModel" "ahead" "[I") (List.mem_of_getElem? (i := 13) (by decide +kernel))) rfl rfl hin2 rfl (by decide +kernel) rfl rfl (Nat.le_of_ble_eq_true rfl) dX9_init_72 (fun h36 H locs eh36 w2_ => ?_)
  replace w := w2_
  clear w2_
  replace hO : h36 r = .inr (7, [.int 0, .ref (g33.2.2.1 (r + 1)), .ref (g33.2.2.1 (r + 2)), .ref (g33.2.2.1 (r + 3)), .ref (g33.2.2.1 (r + 4)), .ref (g33.2.2.1 (r + 5)), .ref (g33.2.2.1 (r + 6)), .ref (g33.2.2.1 (r + 7)), .int 0, .ref (g33.2.2.1 (r + 8)), .ref (g33.2.2.1 (r + 9)), .int 0, .null, .int 0, .null, .null, .int 0, .int 0, .int 0, .null]) := by rw [eh36, va_up_self]; (try rfl)
  replace hck3 : h36 (r + 1) = .inl (g33.2.1 0, 4, .inl ((fun _ => 0))) := by rw [eh36, va_up_ne _ _ (by omega)]; exact hck3
  replace hck7 : h36 (r + 2) = .inl (g33.2.1 0, 4, .inl ((fun _ => 0))) := by rw [eh36, va_up_ne _ _ (by omega)]; exact hck7
  replace hck11 : h36 (r + 3) = .inl (g33.2.1 0, 4, .inl ((fun _ => 0))) := by rw [eh36, va_up_ne _ _ (by omega)]; exact hck11
  replace hck15 : h36 (r + 4) = .inl (g33.2.1 0, 96, .inl ((fun _ => 0))) := by rw [eh36, va_up_ne _ _ (by omega)]; exact hck15
  replace hck19 : h36 (r + 5) = .inl (g33.2.1 0, 1500, .inl ((fun _ => 0))) := by rw [eh36, va_up_ne _ _ (by omega)]; exact hck19
  replace hck23 : h36 (r + 6) = .inl (g33.2.1 0, 500, .inl ((fun _ => 0))) := by rw [eh36, va_up_ne _ _ (by omega)]; exact hck23
  replace hck27 : h36 (r + 7) = .inl (g33.2.1 0, 3, .inl ((fun _ => 0))) := by rw [eh36, va_up_ne _ _ (by omega)]; exact hck27
  replace hck31 : h36 (r + 8) = .inl (g33.2.1 0, 32, .inl ((fun _ => 0))) := by rw [eh36, va_up_ne _ _ (by omega)]; exact hck31
  replace hck35 : h36 (r + 9) = .inl (g33.2.1 0, 872, .inl ((fun _ => 0))) := by rw [eh36, va_up_ne _ _ (by omega)]; exact hck35
  replace hfr : ∀ k_, k_ < r → h36 k_ = h0 k_ := fun k_ hk_ => by rw [eh36, va_up_ne _ _ (by omega)]; exact hfr k_ hk_
  refine lv_aload_n hx hb dX9_init_75 rfl (lv_at hl 0 rfl) ?_
  refine lv_sipush (v := 218) hx hb dX9_init_76 (by decide) ?_
  refine r_newi hx hb (hts (Cond.arrayClass .int) (List.mem_of_getElem? (i := 4) (by decide +kernel))) w hA (by decide : (218 : Int32).toInt = ((218 : Nat) : Int)) (Nat.le_of_ble_eq_true rfl) (Nat.le_of_ble_eq_true rfl) (Nat.le_of_ble_eq_true rfl) dX9_init_79 (fun g37 h38 H hEk39 hNk39 hfk39 hck39 w2_ => ?_)
  replace w := w2_
  clear w2_
  rw [hN] at hck39 hNk39 hfk39
  rw [hN]
  rw [← hEk39.at (k := r) (by omega)]
  replace hl : lv_has ls 1 [(0, .ref (g37.2.2.1 r))] := by rw [hEk39.at (k := r) (by omega)]; exact hl
  replace hO : h38 r = .inr (7, [.int 0, .ref (g37.2.2.1 (r + 1)), .ref (g37.2.2.1 (r + 2)), .ref (g37.2.2.1 (r + 3)), .ref (g37.2.2.1 (r + 4)), .ref (g37.2.2.1 (r + 5)), .ref (g37.2.2.1 (r + 6)), .ref (g37.2.2.1 (r + 7)), .int 0, .ref (g37.2.2.1 (r + 8)), .ref (g37.2.2.1 (r + 9)), .int 0, .null, .int 0, .null, .null, .int 0, .int 0, .int 0, .null]) := by rw [hfk39 _ (by omega), hO, hEk39.at (k := (r + 1)) (by omega), hEk39.at (k := (r + 2)) (by omega), hEk39.at (k := (r + 3)) (by omega), hEk39.at (k := (r + 4)) (by omega), hEk39.at (k := (r + 5)) (by omega), hEk39.at (k := (r + 6)) (by omega), hEk39.at (k := (r + 7)) (by omega), hEk39.at (k := (r + 8)) (by omega), hEk39.at (k := (r + 9)) (by omega)]
  replace hck3 : h38 (r + 1) = .inl (g37.2.1 0, 4, .inl ((fun _ => 0))) := by rw [hfk39 _ (by omega), hck3, hEk39.ct 0]
  replace hck7 : h38 (r + 2) = .inl (g37.2.1 0, 4, .inl ((fun _ => 0))) := by rw [hfk39 _ (by omega), hck7, hEk39.ct 0]
  replace hck11 : h38 (r + 3) = .inl (g37.2.1 0, 4, .inl ((fun _ => 0))) := by rw [hfk39 _ (by omega), hck11, hEk39.ct 0]
  replace hck15 : h38 (r + 4) = .inl (g37.2.1 0, 96, .inl ((fun _ => 0))) := by rw [hfk39 _ (by omega), hck15, hEk39.ct 0]
  replace hck19 : h38 (r + 5) = .inl (g37.2.1 0, 1500, .inl ((fun _ => 0))) := by rw [hfk39 _ (by omega), hck19, hEk39.ct 0]
  replace hck23 : h38 (r + 6) = .inl (g37.2.1 0, 500, .inl ((fun _ => 0))) := by rw [hfk39 _ (by omega), hck23, hEk39.ct 0]
  replace hck27 : h38 (r + 7) = .inl (g37.2.1 0, 3, .inl ((fun _ => 0))) := by rw [hfk39 _ (by omega), hck27, hEk39.ct 0]
  replace hck31 : h38 (r + 8) = .inl (g37.2.1 0, 32, .inl ((fun _ => 0))) := by rw [hfk39 _ (by omega), hck31, hEk39.ct 0]
  replace hck35 : h38 (r + 9) = .inl (g37.2.1 0, 872, .inl ((fun _ => 0))) := by rw [hfk39 _ (by omega), hck35, hEk39.ct 0]
  replace hfr : ∀ k_, k_ < r → h38 k_ = h0 k_ := fun k_ hk_ => (hfk39 k_ (by omega)).trans (hfr k_ hk_)
  replace hE0 := hE0.trans hEk39
  clear hEk39 hfk39
  replace hN : g37.2.2.2 = r + 11 := by omega
  clear hNk39
  refine r_putF (ty := .array .int) (C := RX9) (T := TX9) (N := 20) (ci := 7) hx hb hts inX9_init_X9 tyX9 tyX9_ok nmX9 hown w (by omega) hO rfl 12 (by decide) (hts (Cond.fieldLink RX9 37 "EarlyValuesModel" "saved" "[I") (List.mem_of_getElem? (i := 14) (by decide +kernel))) rfl rfl hin2 rfl (by decide +kernel) rfl rfl (Nat.le_of_ble_eq_true rfl) dX9_init_81 (fun h40 H locs eh40 w2_ => ?_)
  replace w := w2_
  clear w2_
  replace hO : h40 r = .inr (7, [.int 0, .ref (g37.2.2.1 (r + 1)), .ref (g37.2.2.1 (r + 2)), .ref (g37.2.2.1 (r + 3)), .ref (g37.2.2.1 (r + 4)), .ref (g37.2.2.1 (r + 5)), .ref (g37.2.2.1 (r + 6)), .ref (g37.2.2.1 (r + 7)), .int 0, .ref (g37.2.2.1 (r + 8)), .ref (g37.2.2.1 (r + 9)), .int 0, .ref (g37.2.2.1 (r + 10)), .int 0, .null, .null, .int 0, .int 0, .int 0, .null]) := by rw [eh40, va_up_self]; (try rfl)
  replace hck3 : h40 (r + 1) = .inl (g37.2.1 0, 4, .inl ((fun _ => 0))) := by rw [eh40, va_up_ne _ _ (by omega)]; exact hck3
  replace hck7 : h40 (r + 2) = .inl (g37.2.1 0, 4, .inl ((fun _ => 0))) := by rw [eh40, va_up_ne _ _ (by omega)]; exact hck7
  replace hck11 : h40 (r + 3) = .inl (g37.2.1 0, 4, .inl ((fun _ => 0))) := by rw [eh40, va_up_ne _ _ (by omega)]; exact hck11
  replace hck15 : h40 (r + 4) = .inl (g37.2.1 0, 96, .inl ((fun _ => 0))) := by rw [eh40, va_up_ne _ _ (by omega)]; exact hck15
  replace hck19 : h40 (r + 5) = .inl (g37.2.1 0, 1500, .inl ((fun _ => 0))) := by rw [eh40, va_up_ne _ _ (by omega)]; exact hck19
  replace hck23 : h40 (r + 6) = .inl (g37.2.1 0, 500, .inl ((fun _ => 0))) := by rw [eh40, va_up_ne _ _ (by omega)]; exact hck23
  replace hck27 : h40 (r + 7) = .inl (g37.2.1 0, 3, .inl ((fun _ => 0))) := by rw [eh40, va_up_ne _ _ (by omega)]; exact hck27
  replace hck31 : h40 (r + 8) = .inl (g37.2.1 0, 32, .inl ((fun _ => 0))) := by rw [eh40, va_up_ne _ _ (by omega)]; exact hck31
  replace hck35 : h40 (r + 9) = .inl (g37.2.1 0, 872, .inl ((fun _ => 0))) := by rw [eh40, va_up_ne _ _ (by omega)]; exact hck35
  replace hck39 : h40 (r + 10) = .inl (g37.2.1 0, 218, .inl ((fun _ => 0))) := by rw [eh40, va_up_ne _ _ (by omega)]; exact hck39
  replace hfr : ∀ k_, k_ < r → h40 k_ = h0 k_ := fun k_ hk_ => by rw [eh40, va_up_ne _ _ (by omega)]; exact hfr k_ hk_
  refine lv_aload_n hx hb dX9_init_84 rfl (lv_at hl 0 rfl) ?_
  refine lv_bipush (v := 109) hx hb dX9_init_85 (by decide) ?_
  refine r_newi hx hb (hts (Cond.arrayClass .int) (List.mem_of_getElem? (i := 4) (by decide +kernel))) w hA (by decide : (109 : Int32).toInt = ((109 : Nat) : Int)) (Nat.le_of_ble_eq_true rfl) (Nat.le_of_ble_eq_true rfl) (Nat.le_of_ble_eq_true rfl) dX9_init_87 (fun g41 h42 H hEk43 hNk43 hfk43 hck43 w2_ => ?_)
  replace w := w2_
  clear w2_
  rw [hN] at hck43 hNk43 hfk43
  rw [hN]
  rw [← hEk43.at (k := r) (by omega)]
  replace hl : lv_has ls 1 [(0, .ref (g41.2.2.1 r))] := by rw [hEk43.at (k := r) (by omega)]; exact hl
  replace hO : h42 r = .inr (7, [.int 0, .ref (g41.2.2.1 (r + 1)), .ref (g41.2.2.1 (r + 2)), .ref (g41.2.2.1 (r + 3)), .ref (g41.2.2.1 (r + 4)), .ref (g41.2.2.1 (r + 5)), .ref (g41.2.2.1 (r + 6)), .ref (g41.2.2.1 (r + 7)), .int 0, .ref (g41.2.2.1 (r + 8)), .ref (g41.2.2.1 (r + 9)), .int 0, .ref (g41.2.2.1 (r + 10)), .int 0, .null, .null, .int 0, .int 0, .int 0, .null]) := by rw [hfk43 _ (by omega), hO, hEk43.at (k := (r + 1)) (by omega), hEk43.at (k := (r + 2)) (by omega), hEk43.at (k := (r + 3)) (by omega), hEk43.at (k := (r + 4)) (by omega), hEk43.at (k := (r + 5)) (by omega), hEk43.at (k := (r + 6)) (by omega), hEk43.at (k := (r + 7)) (by omega), hEk43.at (k := (r + 8)) (by omega), hEk43.at (k := (r + 9)) (by omega), hEk43.at (k := (r + 10)) (by omega)]
  replace hck3 : h42 (r + 1) = .inl (g41.2.1 0, 4, .inl ((fun _ => 0))) := by rw [hfk43 _ (by omega), hck3, hEk43.ct 0]
  replace hck7 : h42 (r + 2) = .inl (g41.2.1 0, 4, .inl ((fun _ => 0))) := by rw [hfk43 _ (by omega), hck7, hEk43.ct 0]
  replace hck11 : h42 (r + 3) = .inl (g41.2.1 0, 4, .inl ((fun _ => 0))) := by rw [hfk43 _ (by omega), hck11, hEk43.ct 0]
  replace hck15 : h42 (r + 4) = .inl (g41.2.1 0, 96, .inl ((fun _ => 0))) := by rw [hfk43 _ (by omega), hck15, hEk43.ct 0]
  replace hck19 : h42 (r + 5) = .inl (g41.2.1 0, 1500, .inl ((fun _ => 0))) := by rw [hfk43 _ (by omega), hck19, hEk43.ct 0]
  replace hck23 : h42 (r + 6) = .inl (g41.2.1 0, 500, .inl ((fun _ => 0))) := by rw [hfk43 _ (by omega), hck23, hEk43.ct 0]
  replace hck27 : h42 (r + 7) = .inl (g41.2.1 0, 3, .inl ((fun _ => 0))) := by rw [hfk43 _ (by omega), hck27, hEk43.ct 0]
  replace hck31 : h42 (r + 8) = .inl (g41.2.1 0, 32, .inl ((fun _ => 0))) := by rw [hfk43 _ (by omega), hck31, hEk43.ct 0]
  replace hck35 : h42 (r + 9) = .inl (g41.2.1 0, 872, .inl ((fun _ => 0))) := by rw [hfk43 _ (by omega), hck35, hEk43.ct 0]
  replace hck39 : h42 (r + 10) = .inl (g41.2.1 0, 218, .inl ((fun _ => 0))) := by rw [hfk43 _ (by omega), hck39, hEk43.ct 0]
  replace hfr : ∀ k_, k_ < r → h42 k_ = h0 k_ := fun k_ hk_ => (hfk43 k_ (by omega)).trans (hfr k_ hk_)
  replace hE0 := hE0.trans hEk43
  clear hEk43 hfk43
  replace hN : g41.2.2.2 = r + 12 := by omega
  clear hNk43
  refine r_putF (ty := .array .int) (C := RX9) (T := TX9) (N := 20) (ci := 7) hx hb hts inX9_init_X9 tyX9 tyX9_ok nmX9 hown w (by omega) hO rfl 14 (by decide) (hts (Cond.fieldLink RX9 40 "EarlyValuesModel" "aside" "[I") (List.mem_of_getElem? (i := 15) (by decide +kernel))) rfl rfl hin2 rfl (by decide +kernel) rfl rfl (Nat.le_of_ble_eq_true rfl) dX9_init_89 (fun h44 H locs eh44 w2_ => ?_)
  replace w := w2_
  clear w2_
  replace hO : h44 r = .inr (7, [.int 0, .ref (g41.2.2.1 (r + 1)), .ref (g41.2.2.1 (r + 2)), .ref (g41.2.2.1 (r + 3)), .ref (g41.2.2.1 (r + 4)), .ref (g41.2.2.1 (r + 5)), .ref (g41.2.2.1 (r + 6)), .ref (g41.2.2.1 (r + 7)), .int 0, .ref (g41.2.2.1 (r + 8)), .ref (g41.2.2.1 (r + 9)), .int 0, .ref (g41.2.2.1 (r + 10)), .int 0, .ref (g41.2.2.1 (r + 11)), .null, .int 0, .int 0, .int 0, .null]) := by rw [eh44, va_up_self]; (try rfl)
  replace hck3 : h44 (r + 1) = .inl (g41.2.1 0, 4, .inl ((fun _ => 0))) := by rw [eh44, va_up_ne _ _ (by omega)]; exact hck3
  replace hck7 : h44 (r + 2) = .inl (g41.2.1 0, 4, .inl ((fun _ => 0))) := by rw [eh44, va_up_ne _ _ (by omega)]; exact hck7
  replace hck11 : h44 (r + 3) = .inl (g41.2.1 0, 4, .inl ((fun _ => 0))) := by rw [eh44, va_up_ne _ _ (by omega)]; exact hck11
  replace hck15 : h44 (r + 4) = .inl (g41.2.1 0, 96, .inl ((fun _ => 0))) := by rw [eh44, va_up_ne _ _ (by omega)]; exact hck15
  replace hck19 : h44 (r + 5) = .inl (g41.2.1 0, 1500, .inl ((fun _ => 0))) := by rw [eh44, va_up_ne _ _ (by omega)]; exact hck19
  replace hck23 : h44 (r + 6) = .inl (g41.2.1 0, 500, .inl ((fun _ => 0))) := by rw [eh44, va_up_ne _ _ (by omega)]; exact hck23
  replace hck27 : h44 (r + 7) = .inl (g41.2.1 0, 3, .inl ((fun _ => 0))) := by rw [eh44, va_up_ne _ _ (by omega)]; exact hck27
  replace hck31 : h44 (r + 8) = .inl (g41.2.1 0, 32, .inl ((fun _ => 0))) := by rw [eh44, va_up_ne _ _ (by omega)]; exact hck31
  replace hck35 : h44 (r + 9) = .inl (g41.2.1 0, 872, .inl ((fun _ => 0))) := by rw [eh44, va_up_ne _ _ (by omega)]; exact hck35
  replace hck39 : h44 (r + 10) = .inl (g41.2.1 0, 218, .inl ((fun _ => 0))) := by rw [eh44, va_up_ne _ _ (by omega)]; exact hck39
  replace hck43 : h44 (r + 11) = .inl (g41.2.1 0, 109, .inl ((fun _ => 0))) := by rw [eh44, va_up_ne _ _ (by omega)]; exact hck43
  replace hfr : ∀ k_, k_ < r → h44 k_ = h0 k_ := fun k_ hk_ => by rw [eh44, va_up_ne _ _ (by omega)]; exact hfr k_ hk_
  refine lv_aload_n hx hb dX9_init_92 rfl (lv_at hl 0 rfl) ?_
  refine lv_sipush (v := 200) hx hb dX9_init_93 (by decide) ?_
  refine r_newi hx hb (hts (Cond.arrayClass .int) (List.mem_of_getElem? (i := 4) (by decide +kernel))) w hA (by decide : (200 : Int32).toInt = ((200 : Nat) : Int)) (Nat.le_of_ble_eq_true rfl) (Nat.le_of_ble_eq_true rfl) (Nat.le_of_ble_eq_true rfl) dX9_init_96 (fun g45 h46 H hEk47 hNk47 hfk47 hck47 w2_ => ?_)
  replace w := w2_
  clear w2_
  rw [hN] at hck47 hNk47 hfk47
  rw [hN]
  rw [← hEk47.at (k := r) (by omega)]
  replace hl : lv_has ls 1 [(0, .ref (g45.2.2.1 r))] := by rw [hEk47.at (k := r) (by omega)]; exact hl
  replace hO : h46 r = .inr (7, [.int 0, .ref (g45.2.2.1 (r + 1)), .ref (g45.2.2.1 (r + 2)), .ref (g45.2.2.1 (r + 3)), .ref (g45.2.2.1 (r + 4)), .ref (g45.2.2.1 (r + 5)), .ref (g45.2.2.1 (r + 6)), .ref (g45.2.2.1 (r + 7)), .int 0, .ref (g45.2.2.1 (r + 8)), .ref (g45.2.2.1 (r + 9)), .int 0, .ref (g45.2.2.1 (r + 10)), .int 0, .ref (g45.2.2.1 (r + 11)), .null, .int 0, .int 0, .int 0, .null]) := by rw [hfk47 _ (by omega), hO, hEk47.at (k := (r + 1)) (by omega), hEk47.at (k := (r + 2)) (by omega), hEk47.at (k := (r + 3)) (by omega), hEk47.at (k := (r + 4)) (by omega), hEk47.at (k := (r + 5)) (by omega), hEk47.at (k := (r + 6)) (by omega), hEk47.at (k := (r + 7)) (by omega), hEk47.at (k := (r + 8)) (by omega), hEk47.at (k := (r + 9)) (by omega), hEk47.at (k := (r + 10)) (by omega), hEk47.at (k := (r + 11)) (by omega)]
  replace hck3 : h46 (r + 1) = .inl (g45.2.1 0, 4, .inl ((fun _ => 0))) := by rw [hfk47 _ (by omega), hck3, hEk47.ct 0]
  replace hck7 : h46 (r + 2) = .inl (g45.2.1 0, 4, .inl ((fun _ => 0))) := by rw [hfk47 _ (by omega), hck7, hEk47.ct 0]
  replace hck11 : h46 (r + 3) = .inl (g45.2.1 0, 4, .inl ((fun _ => 0))) := by rw [hfk47 _ (by omega), hck11, hEk47.ct 0]
  replace hck15 : h46 (r + 4) = .inl (g45.2.1 0, 96, .inl ((fun _ => 0))) := by rw [hfk47 _ (by omega), hck15, hEk47.ct 0]
  replace hck19 : h46 (r + 5) = .inl (g45.2.1 0, 1500, .inl ((fun _ => 0))) := by rw [hfk47 _ (by omega), hck19, hEk47.ct 0]
  replace hck23 : h46 (r + 6) = .inl (g45.2.1 0, 500, .inl ((fun _ => 0))) := by rw [hfk47 _ (by omega), hck23, hEk47.ct 0]
  replace hck27 : h46 (r + 7) = .inl (g45.2.1 0, 3, .inl ((fun _ => 0))) := by rw [hfk47 _ (by omega), hck27, hEk47.ct 0]
  replace hck31 : h46 (r + 8) = .inl (g45.2.1 0, 32, .inl ((fun _ => 0))) := by rw [hfk47 _ (by omega), hck31, hEk47.ct 0]
  replace hck35 : h46 (r + 9) = .inl (g45.2.1 0, 872, .inl ((fun _ => 0))) := by rw [hfk47 _ (by omega), hck35, hEk47.ct 0]
  replace hck39 : h46 (r + 10) = .inl (g45.2.1 0, 218, .inl ((fun _ => 0))) := by rw [hfk47 _ (by omega), hck39, hEk47.ct 0]
  replace hck43 : h46 (r + 11) = .inl (g45.2.1 0, 109, .inl ((fun _ => 0))) := by rw [hfk47 _ (by omega), hck43, hEk47.ct 0]
  replace hfr : ∀ k_, k_ < r → h46 k_ = h0 k_ := fun k_ hk_ => (hfk47 k_ (by omega)).trans (hfr k_ hk_)
  replace hE0 := hE0.trans hEk47
  clear hEk47 hfk47
  replace hN : g45.2.2.2 = r + 13 := by omega
  clear hNk47
  refine r_putF (ty := .array .int) (C := RX9) (T := TX9) (N := 20) (ci := 7) hx hb hts inX9_init_X9 tyX9 tyX9_ok nmX9 hown w (by omega) hO rfl 15 (by decide) (hts (Cond.fieldLink RX9 43 "EarlyValuesModel" "text" "[I") (List.mem_of_getElem? (i := 16) (by decide +kernel))) rfl rfl hin2 rfl (by decide +kernel) rfl rfl (Nat.le_of_ble_eq_true rfl) dX9_init_98 (fun h48 H locs eh48 w2_ => ?_)
  replace w := w2_
  clear w2_
  replace hO : h48 r = .inr (7, [.int 0, .ref (g45.2.2.1 (r + 1)), .ref (g45.2.2.1 (r + 2)), .ref (g45.2.2.1 (r + 3)), .ref (g45.2.2.1 (r + 4)), .ref (g45.2.2.1 (r + 5)), .ref (g45.2.2.1 (r + 6)), .ref (g45.2.2.1 (r + 7)), .int 0, .ref (g45.2.2.1 (r + 8)), .ref (g45.2.2.1 (r + 9)), .int 0, .ref (g45.2.2.1 (r + 10)), .int 0, .ref (g45.2.2.1 (r + 11)), .ref (g45.2.2.1 (r + 12)), .int 0, .int 0, .int 0, .null]) := by rw [eh48, va_up_self]; (try rfl)
  replace hck3 : h48 (r + 1) = .inl (g45.2.1 0, 4, .inl ((fun _ => 0))) := by rw [eh48, va_up_ne _ _ (by omega)]; exact hck3
  replace hck7 : h48 (r + 2) = .inl (g45.2.1 0, 4, .inl ((fun _ => 0))) := by rw [eh48, va_up_ne _ _ (by omega)]; exact hck7
  replace hck11 : h48 (r + 3) = .inl (g45.2.1 0, 4, .inl ((fun _ => 0))) := by rw [eh48, va_up_ne _ _ (by omega)]; exact hck11
  replace hck15 : h48 (r + 4) = .inl (g45.2.1 0, 96, .inl ((fun _ => 0))) := by rw [eh48, va_up_ne _ _ (by omega)]; exact hck15
  replace hck19 : h48 (r + 5) = .inl (g45.2.1 0, 1500, .inl ((fun _ => 0))) := by rw [eh48, va_up_ne _ _ (by omega)]; exact hck19
  replace hck23 : h48 (r + 6) = .inl (g45.2.1 0, 500, .inl ((fun _ => 0))) := by rw [eh48, va_up_ne _ _ (by omega)]; exact hck23
  replace hck27 : h48 (r + 7) = .inl (g45.2.1 0, 3, .inl ((fun _ => 0))) := by rw [eh48, va_up_ne _ _ (by omega)]; exact hck27
  replace hck31 : h48 (r + 8) = .inl (g45.2.1 0, 32, .inl ((fun _ => 0))) := by rw [eh48, va_up_ne _ _ (by omega)]; exact hck31
  replace hck35 : h48 (r + 9) = .inl (g45.2.1 0, 872, .inl ((fun _ => 0))) := by rw [eh48, va_up_ne _ _ (by omega)]; exact hck35
  replace hck39 : h48 (r + 10) = .inl (g45.2.1 0, 218, .inl ((fun _ => 0))) := by rw [eh48, va_up_ne _ _ (by omega)]; exact hck39
  replace hck43 : h48 (r + 11) = .inl (g45.2.1 0, 109, .inl ((fun _ => 0))) := by rw [eh48, va_up_ne _ _ (by omega)]; exact hck43
  replace hck47 : h48 (r + 12) = .inl (g45.2.1 0, 200, .inl ((fun _ => 0))) := by rw [eh48, va_up_ne _ _ (by omega)]; exact hck47
  replace hfr : ∀ k_, k_ < r → h48 k_ = h0 k_ := fun k_ hk_ => by rw [eh48, va_up_ne _ _ (by omega)]; exact hfr k_ hk_
  refine lv_aload_n hx hb dX9_init_101 rfl (lv_at hl 0 rfl) ?_
  refine lv_bipush (v := 109) hx hb dX9_init_102 (by decide) ?_
  refine r_newi hx hb (hts (Cond.arrayClass .int) (List.mem_of_getElem? (i := 4) (by decide +kernel))) w hA (by decide : (109 : Int32).toInt = ((109 : Nat) : Int)) (Nat.le_of_ble_eq_true rfl) (Nat.le_of_ble_eq_true rfl) (Nat.le_of_ble_eq_true rfl) dX9_init_104 (fun g49 h50 H hEk51 hNk51 hfk51 hck51 w2_ => ?_)
  replace w := w2_
  clear w2_
  rw [hN] at hck51 hNk51 hfk51
  rw [hN]
  rw [← hEk51.at (k := r) (by omega)]
  replace hl : lv_has ls 1 [(0, .ref (g49.2.2.1 r))] := by rw [hEk51.at (k := r) (by omega)]; exact hl
  replace hO : h50 r = .inr (7, [.int 0, .ref (g49.2.2.1 (r + 1)), .ref (g49.2.2.1 (r + 2)), .ref (g49.2.2.1 (r + 3)), .ref (g49.2.2.1 (r + 4)), .ref (g49.2.2.1 (r + 5)), .ref (g49.2.2.1 (r + 6)), .ref (g49.2.2.1 (r + 7)), .int 0, .ref (g49.2.2.1 (r + 8)), .ref (g49.2.2.1 (r + 9)), .int 0, .ref (g49.2.2.1 (r + 10)), .int 0, .ref (g49.2.2.1 (r + 11)), .ref (g49.2.2.1 (r + 12)), .int 0, .int 0, .int 0, .null]) := by rw [hfk51 _ (by omega), hO, hEk51.at (k := (r + 1)) (by omega), hEk51.at (k := (r + 2)) (by omega), hEk51.at (k := (r + 3)) (by omega), hEk51.at (k := (r + 4)) (by omega), hEk51.at (k := (r + 5)) (by omega), hEk51.at (k := (r + 6)) (by omega), hEk51.at (k := (r + 7)) (by omega), hEk51.at (k := (r + 8)) (by omega), hEk51.at (k := (r + 9)) (by omega), hEk51.at (k := (r + 10)) (by omega), hEk51.at (k := (r + 11)) (by omega), hEk51.at (k := (r + 12)) (by omega)]
  replace hck3 : h50 (r + 1) = .inl (g49.2.1 0, 4, .inl ((fun _ => 0))) := by rw [hfk51 _ (by omega), hck3, hEk51.ct 0]
  replace hck7 : h50 (r + 2) = .inl (g49.2.1 0, 4, .inl ((fun _ => 0))) := by rw [hfk51 _ (by omega), hck7, hEk51.ct 0]
  replace hck11 : h50 (r + 3) = .inl (g49.2.1 0, 4, .inl ((fun _ => 0))) := by rw [hfk51 _ (by omega), hck11, hEk51.ct 0]
  replace hck15 : h50 (r + 4) = .inl (g49.2.1 0, 96, .inl ((fun _ => 0))) := by rw [hfk51 _ (by omega), hck15, hEk51.ct 0]
  replace hck19 : h50 (r + 5) = .inl (g49.2.1 0, 1500, .inl ((fun _ => 0))) := by rw [hfk51 _ (by omega), hck19, hEk51.ct 0]
  replace hck23 : h50 (r + 6) = .inl (g49.2.1 0, 500, .inl ((fun _ => 0))) := by rw [hfk51 _ (by omega), hck23, hEk51.ct 0]
  replace hck27 : h50 (r + 7) = .inl (g49.2.1 0, 3, .inl ((fun _ => 0))) := by rw [hfk51 _ (by omega), hck27, hEk51.ct 0]
  replace hck31 : h50 (r + 8) = .inl (g49.2.1 0, 32, .inl ((fun _ => 0))) := by rw [hfk51 _ (by omega), hck31, hEk51.ct 0]
  replace hck35 : h50 (r + 9) = .inl (g49.2.1 0, 872, .inl ((fun _ => 0))) := by rw [hfk51 _ (by omega), hck35, hEk51.ct 0]
  replace hck39 : h50 (r + 10) = .inl (g49.2.1 0, 218, .inl ((fun _ => 0))) := by rw [hfk51 _ (by omega), hck39, hEk51.ct 0]
  replace hck43 : h50 (r + 11) = .inl (g49.2.1 0, 109, .inl ((fun _ => 0))) := by rw [hfk51 _ (by omega), hck43, hEk51.ct 0]
  replace hck47 : h50 (r + 12) = .inl (g49.2.1 0, 200, .inl ((fun _ => 0))) := by rw [hfk51 _ (by omega), hck47, hEk51.ct 0]
  replace hfr : ∀ k_, k_ < r → h50 k_ = h0 k_ := fun k_ hk_ => (hfk51 k_ (by omega)).trans (hfr k_ hk_)
  replace hE0 := hE0.trans hEk51
  clear hEk51 hfk51
  replace hN : g49.2.2.2 = r + 14 := by omega
  clear hNk51
  refine r_putF (ty := .array .int) (C := RX9) (T := TX9) (N := 20) (ci := 7) hx hb hts inX9_init_X9 tyX9 tyX9_ok nmX9 hown w (by omega) hO rfl 19 (by decide) (hts (Cond.fieldLink RX9 46 "EarlyValuesModel" "before" "[I") (List.mem_of_getElem? (i := 17) (by decide +kernel))) rfl rfl hin2 rfl (by decide +kernel) rfl rfl (Nat.le_of_ble_eq_true rfl) dX9_init_106 (fun h52 H locs eh52 w2_ => ?_)
  replace w := w2_
  clear w2_
  replace hO : h52 r = .inr (7, [.int 0, .ref (g49.2.2.1 (r + 1)), .ref (g49.2.2.1 (r + 2)), .ref (g49.2.2.1 (r + 3)), .ref (g49.2.2.1 (r + 4)), .ref (g49.2.2.1 (r + 5)), .ref (g49.2.2.1 (r + 6)), .ref (g49.2.2.1 (r + 7)), .int 0, .ref (g49.2.2.1 (r + 8)), .ref (g49.2.2.1 (r + 9)), .int 0, .ref (g49.2.2.1 (r + 10)), .int 0, .ref (g49.2.2.1 (r + 11)), .ref (g49.2.2.1 (r + 12)), .int 0, .int 0, .int 0, .ref (g49.2.2.1 (r + 13))]) := by rw [eh52, va_up_self]; (try rfl)
  replace hck3 : h52 (r + 1) = .inl (g49.2.1 0, 4, .inl ((fun _ => 0))) := by rw [eh52, va_up_ne _ _ (by omega)]; exact hck3
  replace hck7 : h52 (r + 2) = .inl (g49.2.1 0, 4, .inl ((fun _ => 0))) := by rw [eh52, va_up_ne _ _ (by omega)]; exact hck7
  replace hck11 : h52 (r + 3) = .inl (g49.2.1 0, 4, .inl ((fun _ => 0))) := by rw [eh52, va_up_ne _ _ (by omega)]; exact hck11
  replace hck15 : h52 (r + 4) = .inl (g49.2.1 0, 96, .inl ((fun _ => 0))) := by rw [eh52, va_up_ne _ _ (by omega)]; exact hck15
  replace hck19 : h52 (r + 5) = .inl (g49.2.1 0, 1500, .inl ((fun _ => 0))) := by rw [eh52, va_up_ne _ _ (by omega)]; exact hck19
  replace hck23 : h52 (r + 6) = .inl (g49.2.1 0, 500, .inl ((fun _ => 0))) := by rw [eh52, va_up_ne _ _ (by omega)]; exact hck23
  replace hck27 : h52 (r + 7) = .inl (g49.2.1 0, 3, .inl ((fun _ => 0))) := by rw [eh52, va_up_ne _ _ (by omega)]; exact hck27
  replace hck31 : h52 (r + 8) = .inl (g49.2.1 0, 32, .inl ((fun _ => 0))) := by rw [eh52, va_up_ne _ _ (by omega)]; exact hck31
  replace hck35 : h52 (r + 9) = .inl (g49.2.1 0, 872, .inl ((fun _ => 0))) := by rw [eh52, va_up_ne _ _ (by omega)]; exact hck35
  replace hck39 : h52 (r + 10) = .inl (g49.2.1 0, 218, .inl ((fun _ => 0))) := by rw [eh52, va_up_ne _ _ (by omega)]; exact hck39
  replace hck43 : h52 (r + 11) = .inl (g49.2.1 0, 109, .inl ((fun _ => 0))) := by rw [eh52, va_up_ne _ _ (by omega)]; exact hck43
  replace hck47 : h52 (r + 12) = .inl (g49.2.1 0, 200, .inl ((fun _ => 0))) := by rw [eh52, va_up_ne _ _ (by omega)]; exact hck47
  replace hck51 : h52 (r + 13) = .inl (g49.2.1 0, 109, .inl ((fun _ => 0))) := by rw [eh52, va_up_ne _ _ (by omega)]; exact hck51
  replace hfr : ∀ k_, k_ < r → h52 k_ = h0 k_ := fun k_ hk_ => by rw [eh52, va_up_ne _ _ (by omega)]; exact hfr k_ hk_
  refine lv_aload_n hx hb dX9_init_109 rfl (lv_at hl 0 rfl) ?_
  refine lv_iconst (v := 3) hx hb dX9_init_110 (by decide) ?_
  refine r_put (ty := .int) (C := RX9) (T := TX9) (N := 20) (ci := 7) hx hb hts inX9_init_X9 tyX9 tyX9_ok nmX9 hown w (by omega) hO rfl 0 (by decide) (hts (Cond.fieldLink RX9 49 "EarlyValuesModel" "many" "I") (List.mem_of_getElem? (i := 18) (by decide +kernel))) rfl rfl (by decide +kernel) rfl rfl (Nat.le_of_ble_eq_true rfl) dX9_init_111 (fun h53 H locs eh53 w2_ => ?_)
  replace w := w2_
  clear w2_
  replace hO : h53 r = .inr (7, [.int 3, .ref (g49.2.2.1 (r + 1)), .ref (g49.2.2.1 (r + 2)), .ref (g49.2.2.1 (r + 3)), .ref (g49.2.2.1 (r + 4)), .ref (g49.2.2.1 (r + 5)), .ref (g49.2.2.1 (r + 6)), .ref (g49.2.2.1 (r + 7)), .int 0, .ref (g49.2.2.1 (r + 8)), .ref (g49.2.2.1 (r + 9)), .int 0, .ref (g49.2.2.1 (r + 10)), .int 0, .ref (g49.2.2.1 (r + 11)), .ref (g49.2.2.1 (r + 12)), .int 0, .int 0, .int 0, .ref (g49.2.2.1 (r + 13))]) := by rw [eh53, va_up_self]; (try rfl)
  replace hck3 : h53 (r + 1) = .inl (g49.2.1 0, 4, .inl ((fun _ => 0))) := by rw [eh53, va_up_ne _ _ (by omega)]; exact hck3
  replace hck7 : h53 (r + 2) = .inl (g49.2.1 0, 4, .inl ((fun _ => 0))) := by rw [eh53, va_up_ne _ _ (by omega)]; exact hck7
  replace hck11 : h53 (r + 3) = .inl (g49.2.1 0, 4, .inl ((fun _ => 0))) := by rw [eh53, va_up_ne _ _ (by omega)]; exact hck11
  replace hck15 : h53 (r + 4) = .inl (g49.2.1 0, 96, .inl ((fun _ => 0))) := by rw [eh53, va_up_ne _ _ (by omega)]; exact hck15
  replace hck19 : h53 (r + 5) = .inl (g49.2.1 0, 1500, .inl ((fun _ => 0))) := by rw [eh53, va_up_ne _ _ (by omega)]; exact hck19
  replace hck23 : h53 (r + 6) = .inl (g49.2.1 0, 500, .inl ((fun _ => 0))) := by rw [eh53, va_up_ne _ _ (by omega)]; exact hck23
  replace hck27 : h53 (r + 7) = .inl (g49.2.1 0, 3, .inl ((fun _ => 0))) := by rw [eh53, va_up_ne _ _ (by omega)]; exact hck27
  replace hck31 : h53 (r + 8) = .inl (g49.2.1 0, 32, .inl ((fun _ => 0))) := by rw [eh53, va_up_ne _ _ (by omega)]; exact hck31
  replace hck35 : h53 (r + 9) = .inl (g49.2.1 0, 872, .inl ((fun _ => 0))) := by rw [eh53, va_up_ne _ _ (by omega)]; exact hck35
  replace hck39 : h53 (r + 10) = .inl (g49.2.1 0, 218, .inl ((fun _ => 0))) := by rw [eh53, va_up_ne _ _ (by omega)]; exact hck39
  replace hck43 : h53 (r + 11) = .inl (g49.2.1 0, 109, .inl ((fun _ => 0))) := by rw [eh53, va_up_ne _ _ (by omega)]; exact hck43
  replace hck47 : h53 (r + 12) = .inl (g49.2.1 0, 200, .inl ((fun _ => 0))) := by rw [eh53, va_up_ne _ _ (by omega)]; exact hck47
  replace hck51 : h53 (r + 13) = .inl (g49.2.1 0, 109, .inl ((fun _ => 0))) := by rw [eh53, va_up_ne _ _ (by omega)]; exact hck51
  replace hfr : ∀ k_, k_ < r → h53 k_ = h0 k_ := fun k_ hk_ => by rw [eh53, va_up_ne _ _ (by omega)]; exact hfr k_ hk_
  refine lv_aload_n hx hb dX9_init_114 rfl (lv_at hl 0 rfl) ?_
  refine r_get (C := RX9) (T := TX9) (N := 20) (ci := 7) hx hb hts inX9_init_X9 hown w (by omega) hO rfl 2 (by decide) (hts (Cond.fieldLink RX9 13 "EarlyValuesModel" "kindOf" "[I") (List.mem_of_getElem? (i := 6) (by decide +kernel))) rfl rfl dX9_init_115 ?_
  refine lv_iconst (v := 2) hx hb dX9_init_118 (by decide) ?_
  refine lv_iconst (v := 1) hx hb dX9_init_119 (by decide) ?_
  refine r_iast (j := 2) hx hb w (by omega) hck7 (by decide : (2 : Int32).toInt = ((2 : Nat) : Int)) (by omega) dX9_init_120 (fun h54 H locs eh54 w2_ => ?_)
  obtain ⟨gz55, egz55⟩ : ∃ z_, z_ = upd ((fun _ => 0)) 2 1 := ⟨_, rfl⟩
  rw [← egz55] at eh54
  replace w := w2_
  clear w2_
  replace hO : h54 r = .inr (7, [.int 3, .ref (g49.2.2.1 (r + 1)), .ref (g49.2.2.1 (r + 2)), .ref (g49.2.2.1 (r + 3)), .ref (g49.2.2.1 (r + 4)), .ref (g49.2.2.1 (r + 5)), .ref (g49.2.2.1 (r + 6)), .ref (g49.2.2.1 (r + 7)), .int 0, .ref (g49.2.2.1 (r + 8)), .ref (g49.2.2.1 (r + 9)), .int 0, .ref (g49.2.2.1 (r + 10)), .int 0, .ref (g49.2.2.1 (r + 11)), .ref (g49.2.2.1 (r + 12)), .int 0, .int 0, .int 0, .ref (g49.2.2.1 (r + 13))]) := by rw [eh54, va_up_ne _ _ (by omega)]; exact hO
  replace hck3 : h54 (r + 1) = .inl (g49.2.1 0, 4, .inl ((fun _ => 0))) := by rw [eh54, va_up_ne _ _ (by omega)]; exact hck3
  replace hck7 : h54 (r + 2) = .inl (g49.2.1 0, 4, .inl gz55) := by rw [eh54, va_up_self]; (try rfl)
  replace hck11 : h54 (r + 3) = .inl (g49.2.1 0, 4, .inl ((fun _ => 0))) := by rw [eh54, va_up_ne _ _ (by omega)]; exact hck11
  replace hck15 : h54 (r + 4) = .inl (g49.2.1 0, 96, .inl ((fun _ => 0))) := by rw [eh54, va_up_ne _ _ (by omega)]; exact hck15
  replace hck19 : h54 (r + 5) = .inl (g49.2.1 0, 1500, .inl ((fun _ => 0))) := by rw [eh54, va_up_ne _ _ (by omega)]; exact hck19
  replace hck23 : h54 (r + 6) = .inl (g49.2.1 0, 500, .inl ((fun _ => 0))) := by rw [eh54, va_up_ne _ _ (by omega)]; exact hck23
  replace hck27 : h54 (r + 7) = .inl (g49.2.1 0, 3, .inl ((fun _ => 0))) := by rw [eh54, va_up_ne _ _ (by omega)]; exact hck27
  replace hck31 : h54 (r + 8) = .inl (g49.2.1 0, 32, .inl ((fun _ => 0))) := by rw [eh54, va_up_ne _ _ (by omega)]; exact hck31
  replace hck35 : h54 (r + 9) = .inl (g49.2.1 0, 872, .inl ((fun _ => 0))) := by rw [eh54, va_up_ne _ _ (by omega)]; exact hck35
  replace hck39 : h54 (r + 10) = .inl (g49.2.1 0, 218, .inl ((fun _ => 0))) := by rw [eh54, va_up_ne _ _ (by omega)]; exact hck39
  replace hck43 : h54 (r + 11) = .inl (g49.2.1 0, 109, .inl ((fun _ => 0))) := by rw [eh54, va_up_ne _ _ (by omega)]; exact hck43
  replace hck47 : h54 (r + 12) = .inl (g49.2.1 0, 200, .inl ((fun _ => 0))) := by rw [eh54, va_up_ne _ _ (by omega)]; exact hck47
  replace hck51 : h54 (r + 13) = .inl (g49.2.1 0, 109, .inl ((fun _ => 0))) := by rw [eh54, va_up_ne _ _ (by omega)]; exact hck51
  replace hfr : ∀ k_, k_ < r → h54 k_ = h0 k_ := fun k_ hk_ => by rw [eh54, va_up_ne _ _ (by omega)]; exact hfr k_ hk_
  refine lv_aload_n hx hb dX9_init_121 rfl (lv_at hl 0 rfl) ?_
  refine r_get (C := RX9) (T := TX9) (N := 20) (ci := 7) hx hb hts inX9_init_X9 hown w (by omega) hO rfl 1 (by decide) (hts (Cond.fieldLink RX9 7 "EarlyValuesModel" "argsOf" "[I") (List.mem_of_getElem? (i := 5) (by decide +kernel))) rfl rfl dX9_init_122 ?_
  refine lv_iconst (v := 0) hx hb dX9_init_125 (by decide) ?_
  refine lv_iconst (v := 2) hx hb dX9_init_126 (by decide) ?_
  refine r_iast (j := 0) hx hb w (by omega) hck3 (by decide : (0 : Int32).toInt = ((0 : Nat) : Int)) (by omega) dX9_init_127 (fun h56 H locs eh56 w2_ => ?_)
  obtain ⟨gz57, egz57⟩ : ∃ z_, z_ = upd ((fun _ => 0)) 0 2 := ⟨_, rfl⟩
  rw [← egz57] at eh56
  replace w := w2_
  clear w2_
  replace hO : h56 r = .inr (7, [.int 3, .ref (g49.2.2.1 (r + 1)), .ref (g49.2.2.1 (r + 2)), .ref (g49.2.2.1 (r + 3)), .ref (g49.2.2.1 (r + 4)), .ref (g49.2.2.1 (r + 5)), .ref (g49.2.2.1 (r + 6)), .ref (g49.2.2.1 (r + 7)), .int 0, .ref (g49.2.2.1 (r + 8)), .ref (g49.2.2.1 (r + 9)), .int 0, .ref (g49.2.2.1 (r + 10)), .int 0, .ref (g49.2.2.1 (r + 11)), .ref (g49.2.2.1 (r + 12)), .int 0, .int 0, .int 0, .ref (g49.2.2.1 (r + 13))]) := by rw [eh56, va_up_ne _ _ (by omega)]; exact hO
  replace hck3 : h56 (r + 1) = .inl (g49.2.1 0, 4, .inl gz57) := by rw [eh56, va_up_self]; (try rfl)
  replace hck7 : h56 (r + 2) = .inl (g49.2.1 0, 4, .inl gz55) := by rw [eh56, va_up_ne _ _ (by omega)]; exact hck7
  replace hck11 : h56 (r + 3) = .inl (g49.2.1 0, 4, .inl ((fun _ => 0))) := by rw [eh56, va_up_ne _ _ (by omega)]; exact hck11
  replace hck15 : h56 (r + 4) = .inl (g49.2.1 0, 96, .inl ((fun _ => 0))) := by rw [eh56, va_up_ne _ _ (by omega)]; exact hck15
  replace hck19 : h56 (r + 5) = .inl (g49.2.1 0, 1500, .inl ((fun _ => 0))) := by rw [eh56, va_up_ne _ _ (by omega)]; exact hck19
  replace hck23 : h56 (r + 6) = .inl (g49.2.1 0, 500, .inl ((fun _ => 0))) := by rw [eh56, va_up_ne _ _ (by omega)]; exact hck23
  replace hck27 : h56 (r + 7) = .inl (g49.2.1 0, 3, .inl ((fun _ => 0))) := by rw [eh56, va_up_ne _ _ (by omega)]; exact hck27
  replace hck31 : h56 (r + 8) = .inl (g49.2.1 0, 32, .inl ((fun _ => 0))) := by rw [eh56, va_up_ne _ _ (by omega)]; exact hck31
  replace hck35 : h56 (r + 9) = .inl (g49.2.1 0, 872, .inl ((fun _ => 0))) := by rw [eh56, va_up_ne _ _ (by omega)]; exact hck35
  replace hck39 : h56 (r + 10) = .inl (g49.2.1 0, 218, .inl ((fun _ => 0))) := by rw [eh56, va_up_ne _ _ (by omega)]; exact hck39
  replace hck43 : h56 (r + 11) = .inl (g49.2.1 0, 109, .inl ((fun _ => 0))) := by rw [eh56, va_up_ne _ _ (by omega)]; exact hck43
  replace hck47 : h56 (r + 12) = .inl (g49.2.1 0, 200, .inl ((fun _ => 0))) := by rw [eh56, va_up_ne _ _ (by omega)]; exact hck47
  replace hck51 : h56 (r + 13) = .inl (g49.2.1 0, 109, .inl ((fun _ => 0))) := by rw [eh56, va_up_ne _ _ (by omega)]; exact hck51
  replace hfr : ∀ k_, k_ < r → h56 k_ = h0 k_ := fun k_ hk_ => by rw [eh56, va_up_ne _ _ (by omega)]; exact hfr k_ hk_
  refine lv_aload_n hx hb dX9_init_128 rfl (lv_at hl 0 rfl) ?_
  refine r_get (C := RX9) (T := TX9) (N := 20) (ci := 7) hx hb hts inX9_init_X9 hown w (by omega) hO rfl 1 (by decide) (hts (Cond.fieldLink RX9 7 "EarlyValuesModel" "argsOf" "[I") (List.mem_of_getElem? (i := 5) (by decide +kernel))) rfl rfl dX9_init_129 ?_
  refine lv_iconst (v := 1) hx hb dX9_init_132 (by decide) ?_
  refine lv_iconst (v := 1) hx hb dX9_init_133 (by decide) ?_
  refine r_iast (j := 1) hx hb w (by omega) hck3 (by decide : (1 : Int32).toInt = ((1 : Nat) : Int)) (by omega) dX9_init_134 (fun h58 H locs eh58 w2_ => ?_)
  obtain ⟨gz59, egz59⟩ : ∃ z_, z_ = upd gz57 1 1 := ⟨_, rfl⟩
  rw [← egz59] at eh58
  replace w := w2_
  clear w2_
  replace hO : h58 r = .inr (7, [.int 3, .ref (g49.2.2.1 (r + 1)), .ref (g49.2.2.1 (r + 2)), .ref (g49.2.2.1 (r + 3)), .ref (g49.2.2.1 (r + 4)), .ref (g49.2.2.1 (r + 5)), .ref (g49.2.2.1 (r + 6)), .ref (g49.2.2.1 (r + 7)), .int 0, .ref (g49.2.2.1 (r + 8)), .ref (g49.2.2.1 (r + 9)), .int 0, .ref (g49.2.2.1 (r + 10)), .int 0, .ref (g49.2.2.1 (r + 11)), .ref (g49.2.2.1 (r + 12)), .int 0, .int 0, .int 0, .ref (g49.2.2.1 (r + 13))]) := by rw [eh58, va_up_ne _ _ (by omega)]; exact hO
  replace hck3 : h58 (r + 1) = .inl (g49.2.1 0, 4, .inl gz59) := by rw [eh58, va_up_self]; (try rfl)
  replace hck7 : h58 (r + 2) = .inl (g49.2.1 0, 4, .inl gz55) := by rw [eh58, va_up_ne _ _ (by omega)]; exact hck7
  replace hck11 : h58 (r + 3) = .inl (g49.2.1 0, 4, .inl ((fun _ => 0))) := by rw [eh58, va_up_ne _ _ (by omega)]; exact hck11
  replace hck15 : h58 (r + 4) = .inl (g49.2.1 0, 96, .inl ((fun _ => 0))) := by rw [eh58, va_up_ne _ _ (by omega)]; exact hck15
  replace hck19 : h58 (r + 5) = .inl (g49.2.1 0, 1500, .inl ((fun _ => 0))) := by rw [eh58, va_up_ne _ _ (by omega)]; exact hck19
  replace hck23 : h58 (r + 6) = .inl (g49.2.1 0, 500, .inl ((fun _ => 0))) := by rw [eh58, va_up_ne _ _ (by omega)]; exact hck23
  replace hck27 : h58 (r + 7) = .inl (g49.2.1 0, 3, .inl ((fun _ => 0))) := by rw [eh58, va_up_ne _ _ (by omega)]; exact hck27
  replace hck31 : h58 (r + 8) = .inl (g49.2.1 0, 32, .inl ((fun _ => 0))) := by rw [eh58, va_up_ne _ _ (by omega)]; exact hck31
  replace hck35 : h58 (r + 9) = .inl (g49.2.1 0, 872, .inl ((fun _ => 0))) := by rw [eh58, va_up_ne _ _ (by omega)]; exact hck35
  replace hck39 : h58 (r + 10) = .inl (g49.2.1 0, 218, .inl ((fun _ => 0))) := by rw [eh58, va_up_ne _ _ (by omega)]; exact hck39
  replace hck43 : h58 (r + 11) = .inl (g49.2.1 0, 109, .inl ((fun _ => 0))) := by rw [eh58, va_up_ne _ _ (by omega)]; exact hck43
  replace hck47 : h58 (r + 12) = .inl (g49.2.1 0, 200, .inl ((fun _ => 0))) := by rw [eh58, va_up_ne _ _ (by omega)]; exact hck47
  replace hck51 : h58 (r + 13) = .inl (g49.2.1 0, 109, .inl ((fun _ => 0))) := by rw [eh58, va_up_ne _ _ (by omega)]; exact hck51
  replace hfr : ∀ k_, k_ < r → h58 k_ = h0 k_ := fun k_ hk_ => by rw [eh58, va_up_ne _ _ (by omega)]; exact hfr k_ hk_
  refine lv_aload_n hx hb dX9_init_135 rfl (lv_at hl 0 rfl) ?_
  refine r_get (C := RX9) (T := TX9) (N := 20) (ci := 7) hx hb hts inX9_init_X9 hown w (by omega) hO rfl 1 (by decide) (hts (Cond.fieldLink RX9 7 "EarlyValuesModel" "argsOf" "[I") (List.mem_of_getElem? (i := 5) (by decide +kernel))) rfl rfl dX9_init_136 ?_
  refine lv_iconst (v := 2) hx hb dX9_init_139 (by decide) ?_
  refine lv_iconst (v := 2) hx hb dX9_init_140 (by decide) ?_
  refine r_iast (j := 2) hx hb w (by omega) hck3 (by decide : (2 : Int32).toInt = ((2 : Nat) : Int)) (by omega) dX9_init_141 (fun h60 H locs eh60 w2_ => ?_)
  obtain ⟨gz61, egz61⟩ : ∃ z_, z_ = upd gz59 2 2 := ⟨_, rfl⟩
  rw [← egz61] at eh60
  replace w := w2_
  clear w2_
  replace hO : h60 r = .inr (7, [.int 3, .ref (g49.2.2.1 (r + 1)), .ref (g49.2.2.1 (r + 2)), .ref (g49.2.2.1 (r + 3)), .ref (g49.2.2.1 (r + 4)), .ref (g49.2.2.1 (r + 5)), .ref (g49.2.2.1 (r + 6)), .ref (g49.2.2.1 (r + 7)), .int 0, .ref (g49.2.2.1 (r + 8)), .ref (g49.2.2.1 (r + 9)), .int 0, .ref (g49.2.2.1 (r + 10)), .int 0, .ref (g49.2.2.1 (r + 11)), .ref (g49.2.2.1 (r + 12)), .int 0, .int 0, .int 0, .ref (g49.2.2.1 (r + 13))]) := by rw [eh60, va_up_ne _ _ (by omega)]; exact hO
  replace hck3 : h60 (r + 1) = .inl (g49.2.1 0, 4, .inl gz61) := by rw [eh60, va_up_self]; (try rfl)
  replace hck7 : h60 (r + 2) = .inl (g49.2.1 0, 4, .inl gz55) := by rw [eh60, va_up_ne _ _ (by omega)]; exact hck7
  replace hck11 : h60 (r + 3) = .inl (g49.2.1 0, 4, .inl ((fun _ => 0))) := by rw [eh60, va_up_ne _ _ (by omega)]; exact hck11
  replace hck15 : h60 (r + 4) = .inl (g49.2.1 0, 96, .inl ((fun _ => 0))) := by rw [eh60, va_up_ne _ _ (by omega)]; exact hck15
  replace hck19 : h60 (r + 5) = .inl (g49.2.1 0, 1500, .inl ((fun _ => 0))) := by rw [eh60, va_up_ne _ _ (by omega)]; exact hck19
  replace hck23 : h60 (r + 6) = .inl (g49.2.1 0, 500, .inl ((fun _ => 0))) := by rw [eh60, va_up_ne _ _ (by omega)]; exact hck23
  replace hck27 : h60 (r + 7) = .inl (g49.2.1 0, 3, .inl ((fun _ => 0))) := by rw [eh60, va_up_ne _ _ (by omega)]; exact hck27
  replace hck31 : h60 (r + 8) = .inl (g49.2.1 0, 32, .inl ((fun _ => 0))) := by rw [eh60, va_up_ne _ _ (by omega)]; exact hck31
  replace hck35 : h60 (r + 9) = .inl (g49.2.1 0, 872, .inl ((fun _ => 0))) := by rw [eh60, va_up_ne _ _ (by omega)]; exact hck35
  replace hck39 : h60 (r + 10) = .inl (g49.2.1 0, 218, .inl ((fun _ => 0))) := by rw [eh60, va_up_ne _ _ (by omega)]; exact hck39
  replace hck43 : h60 (r + 11) = .inl (g49.2.1 0, 109, .inl ((fun _ => 0))) := by rw [eh60, va_up_ne _ _ (by omega)]; exact hck43
  replace hck47 : h60 (r + 12) = .inl (g49.2.1 0, 200, .inl ((fun _ => 0))) := by rw [eh60, va_up_ne _ _ (by omega)]; exact hck47
  replace hck51 : h60 (r + 13) = .inl (g49.2.1 0, 109, .inl ((fun _ => 0))) := by rw [eh60, va_up_ne _ _ (by omega)]; exact hck51
  replace hfr : ∀ k_, k_ < r → h60 k_ = h0 k_ := fun k_ hk_ => by rw [eh60, va_up_ne _ _ (by omega)]; exact hfr k_ hk_
  refine lv_aload_n hx hb dX9_init_142 rfl (lv_at hl 0 rfl) ?_
  refine lv_iconst (v := 0) hx hb dX9_init_143 (by decide) ?_
  refine lv_bipush (v := 63) hx hb dX9_init_144 (by decide) ?_
  refine lv_bipush (v := 97) hx hb dX9_init_146 (by decide) ?_
  refine lv_bipush (v := 48) hx hb dX9_init_148 (by decide) ?_
  refine lv_bipush (v := 109) hx hb dX9_init_150 (by decide) ?_
  have D : MdA g49 h60 r 3 0 0 0 0 0 0 gz61 gz55 ((fun _ => 0)) ((fun _ => 0)) ((fun _ => 0)) ((fun _ => 0)) ((fun _ => 0)) ((fun _ => 0)) ((fun _ => 0)) ((fun _ => 0)) ((fun _ => 0)) ((fun _ => 0)) ((fun _ => 0)) := ⟨by omega, hO, hck3, hck7, hck11, hck15, hck19, hck23, hck27, hck31, hck35, hck39, hck43, hck47, hck51⟩
  have hBg : BgQ ((fun _ => 0)) ((fun _ => 0)) cs0 := fun f_ _ => ⟨rfl, (by show 0 ≤ 24; decide), fun j_ hj_ => absurd hj_ (Nat.not_lt_zero _)⟩
  refine r_callV w (va_runV (As := [.int 0, .int 63, .int 97, .int 48, .int 109]) (rest := []) ⟨hx, hb, hml, hown, hts⟩ (c_X9_begins l D hBg 0 63 97 48 109 (by decide : (0 : Int32).toInt = ((0 : Nat) : Int)) (by decide : (63 : Int32).toInt = ((63 : Nat) : Int)) (by decide : (97 : Int32).toInt = ((97 : Nat) : Int)) (by decide : (48 : Int32).toInt = ((48 : Nat) : Int)) (by decide : (109 : Int32).toInt = ((109 : Nat) : Int)) (by decide) (by decide +kernel)) (cwV 5 hts gX9_init_X9_begins rfl rfl rfl (by decide +kernel) ⟨Nat.le_of_ble_eq_true rfl, Nat.le_of_ble_eq_true rfl⟩) (r_preV w (by omega) D.c0 rfl) rfl rfl hl.1 rfl (lv_room (Nat.le_of_ble_eq_true rfl)) dX9_init_152 ⟨Nat.le_of_ble_eq_true rfl, Nat.le_of_ble_eq_true rfl⟩) (fun h62 H locs hp w2_ => ?_)
  replace w := w2_
  clear w2_
  replace D := hp.2
  obtain ⟨glk63, gBk63, D, hBg⟩ := D
  replace hfr : ∀ k_, k_ < r → h62 k_ = h0 k_ := fun k_ hk_ => (hp.1 k_ (by omega)).trans (hfr k_ hk_)
  clear hp
  refine lv_aload_n hx hb dX9_init_155 rfl (lv_at hl 0 rfl) ?_
  refine lv_iconst (v := 0) hx hb dX9_init_156 (by decide) ?_
  refine lv_bipush (v := 97) hx hb dX9_init_157 (by decide) ?_
  refine lv_bipush (v := 98) hx hb dX9_init_159 (by decide) ?_
  refine lv_bipush (v := 111) hx hb dX9_init_161 (by decide) ?_
  refine lv_iconst (v := 0) hx hb dX9_init_163 (by decide) ?_
  refine r_callV w (va_runV (As := [.int 0, .int 97, .int 98, .int 111, .int 0]) (rest := []) ⟨hx, hb, hml, hown, hts⟩ (c_X9_begins l D hBg 0 97 98 111 0 (by decide : (0 : Int32).toInt = ((0 : Nat) : Int)) (by decide : (97 : Int32).toInt = ((97 : Nat) : Int)) (by decide : (98 : Int32).toInt = ((98 : Nat) : Int)) (by decide : (111 : Int32).toInt = ((111 : Nat) : Int)) (by decide : (0 : Int32).toInt = ((0 : Nat) : Int)) (by decide) (by decide +kernel)) (cwV 5 hts gX9_init_X9_begins rfl rfl rfl (by decide +kernel) ⟨Nat.le_of_ble_eq_true rfl, Nat.le_of_ble_eq_true rfl⟩) (r_preV w (by omega) D.c0 rfl) rfl rfl hl.1 rfl (lv_room (Nat.le_of_ble_eq_true rfl)) dX9_init_164 ⟨Nat.le_of_ble_eq_true rfl, Nat.le_of_ble_eq_true rfl⟩) (fun h64 H locs hp w2_ => ?_)
  replace w := w2_
  clear w2_
  replace D := hp.2
  obtain ⟨glk65, gBk65, D, hBg⟩ := D
  replace hfr : ∀ k_, k_ < r → h64 k_ = h0 k_ := fun k_ hk_ => (hp.1 k_ (by omega)).trans (hfr k_ hk_)
  clear hp
  refine lv_aload_n hx hb dX9_init_167 rfl (lv_at hl 0 rfl) ?_
  refine lv_iconst (v := 1) hx hb dX9_init_168 (by decide) ?_
  refine lv_bipush (v := 43) hx hb dX9_init_169 (by decide) ?_
  refine lv_bipush (v := 97) hx hb dX9_init_171 (by decide) ?_
  refine lv_bipush (v := 63) hx hb dX9_init_173 (by decide) ?_
  refine lv_bipush (v := 97) hx hb dX9_init_175 (by decide) ?_
  refine r_callV w (va_runV (As := [.int 1, .int 43, .int 97, .int 63, .int 97]) (rest := []) ⟨hx, hb, hml, hown, hts⟩ (c_X9_begins l D hBg 1 43 97 63 97 (by decide : (1 : Int32).toInt = ((1 : Nat) : Int)) (by decide : (43 : Int32).toInt = ((43 : Nat) : Int)) (by decide : (97 : Int32).toInt = ((97 : Nat) : Int)) (by decide : (63 : Int32).toInt = ((63 : Nat) : Int)) (by decide : (97 : Int32).toInt = ((97 : Nat) : Int)) (by decide) (by decide +kernel)) (cwV 5 hts gX9_init_X9_begins rfl rfl rfl (by decide +kernel) ⟨Nat.le_of_ble_eq_true rfl, Nat.le_of_ble_eq_true rfl⟩) (r_preV w (by omega) D.c0 rfl) rfl rfl hl.1 rfl (lv_room (Nat.le_of_ble_eq_true rfl)) dX9_init_177 ⟨Nat.le_of_ble_eq_true rfl, Nat.le_of_ble_eq_true rfl⟩) (fun h66 H locs hp w2_ => ?_)
  replace w := w2_
  clear w2_
  replace D := hp.2
  obtain ⟨glk67, gBk67, D, hBg⟩ := D
  replace hfr : ∀ k_, k_ < r → h66 k_ = h0 k_ := fun k_ hk_ => (hp.1 k_ (by omega)).trans (hfr k_ hk_)
  clear hp
  refine lv_aload_n hx hb dX9_init_180 rfl (lv_at hl 0 rfl) ?_
  refine lv_iconst (v := 1) hx hb dX9_init_181 (by decide) ?_
  refine lv_bipush (v := 49) hx hb dX9_init_182 (by decide) ?_
  refine lv_bipush (v := 109) hx hb dX9_init_184 (by decide) ?_
  refine lv_bipush (v := 97) hx hb dX9_init_186 (by decide) ?_
  refine lv_bipush (v := 111) hx hb dX9_init_188 (by decide) ?_
  refine r_callV w (va_runV (As := [.int 1, .int 49, .int 109, .int 97, .int 111]) (rest := []) ⟨hx, hb, hml, hown, hts⟩ (c_X9_begins l D hBg 1 49 109 97 111 (by decide : (1 : Int32).toInt = ((1 : Nat) : Int)) (by decide : (49 : Int32).toInt = ((49 : Nat) : Int)) (by decide : (109 : Int32).toInt = ((109 : Nat) : Int)) (by decide : (97 : Int32).toInt = ((97 : Nat) : Int)) (by decide : (111 : Int32).toInt = ((111 : Nat) : Int)) (by decide) (by decide +kernel)) (cwV 5 hts gX9_init_X9_begins rfl rfl rfl (by decide +kernel) ⟨Nat.le_of_ble_eq_true rfl, Nat.le_of_ble_eq_true rfl⟩) (r_preV w (by omega) D.c0 rfl) rfl rfl hl.1 rfl (lv_room (Nat.le_of_ble_eq_true rfl)) dX9_init_190 ⟨Nat.le_of_ble_eq_true rfl, Nat.le_of_ble_eq_true rfl⟩) (fun h68 H locs hp w2_ => ?_)
  replace w := w2_
  clear w2_
  replace D := hp.2
  obtain ⟨glk69, gBk69, D, hBg⟩ := D
  replace hfr : ∀ k_, k_ < r → h68 k_ = h0 k_ := fun k_ hk_ => (hp.1 k_ (by omega)).trans (hfr k_ hk_)
  clear hp
  refine lv_aload_n hx hb dX9_init_193 rfl (lv_at hl 0 rfl) ?_
  refine lv_iconst (v := 2) hx hb dX9_init_194 (by decide) ?_
  refine lv_bipush (v := 63) hx hb dX9_init_195 (by decide) ?_
  refine lv_bipush (v := 97) hx hb dX9_init_197 (by decide) ?_
  refine lv_bipush (v := 98) hx hb dX9_init_199 (by decide) ?_
  refine lv_bipush (v := 50) hx hb dX9_init_201 (by decide) ?_
  refine r_callV w (va_runV (As := [.int 2, .int 63, .int 97, .int 98, .int 50]) (rest := []) ⟨hx, hb, hml, hown, hts⟩ (c_X9_begins l D hBg 2 63 97 98 50 (by decide : (2 : Int32).toInt = ((2 : Nat) : Int)) (by decide : (63 : Int32).toInt = ((63 : Nat) : Int)) (by decide : (97 : Int32).toInt = ((97 : Nat) : Int)) (by decide : (98 : Int32).toInt = ((98 : Nat) : Int)) (by decide : (50 : Int32).toInt = ((50 : Nat) : Int)) (by decide) (by decide +kernel)) (cwV 5 hts gX9_init_X9_begins rfl rfl rfl (by decide +kernel) ⟨Nat.le_of_ble_eq_true rfl, Nat.le_of_ble_eq_true rfl⟩) (r_preV w (by omega) D.c0 rfl) rfl rfl hl.1 rfl (lv_room (Nat.le_of_ble_eq_true rfl)) dX9_init_203 ⟨Nat.le_of_ble_eq_true rfl, Nat.le_of_ble_eq_true rfl⟩) (fun h70 H locs hp w2_ => ?_)
  replace w := w2_
  clear w2_
  replace D := hp.2
  obtain ⟨glk71, gBk71, D, hBg⟩ := D
  replace hfr : ∀ k_, k_ < r → h70 k_ = h0 k_ := fun k_ hk_ => (hp.1 k_ (by omega)).trans (hfr k_ hk_)
  clear hp
  refine lv_aload_n hx hb dX9_init_206 rfl (lv_at hl 0 rfl) ?_
  refine lv_iconst (v := 2) hx hb dX9_init_207 (by decide) ?_
  refine lv_bipush (v := 109) hx hb dX9_init_208 (by decide) ?_
  refine lv_bipush (v := 98) hx hb dX9_init_210 (by decide) ?_
  refine lv_bipush (v := 43) hx hb dX9_init_212 (by decide) ?_
  refine lv_bipush (v := 97) hx hb dX9_init_214 (by decide) ?_
  refine r_callV w (va_runV (As := [.int 2, .int 109, .int 98, .int 43, .int 97]) (rest := []) ⟨hx, hb, hml, hown, hts⟩ (c_X9_begins l D hBg 2 109 98 43 97 (by decide : (2 : Int32).toInt = ((2 : Nat) : Int)) (by decide : (109 : Int32).toInt = ((109 : Nat) : Int)) (by decide : (98 : Int32).toInt = ((98 : Nat) : Int)) (by decide : (43 : Int32).toInt = ((43 : Nat) : Int)) (by decide : (97 : Int32).toInt = ((97 : Nat) : Int)) (by decide) (by decide +kernel)) (cwV 5 hts gX9_init_X9_begins rfl rfl rfl (by decide +kernel) ⟨Nat.le_of_ble_eq_true rfl, Nat.le_of_ble_eq_true rfl⟩) (r_preV w (by omega) D.c0 rfl) rfl rfl hl.1 rfl (lv_room (Nat.le_of_ble_eq_true rfl)) dX9_init_216 ⟨Nat.le_of_ble_eq_true rfl, Nat.le_of_ble_eq_true rfl⟩) (fun h72 H locs hp w2_ => ?_)
  replace w := w2_
  clear w2_
  replace D := hp.2
  obtain ⟨glk73, gBk73, D, hBg⟩ := D
  replace hfr : ∀ k_, k_ < r → h72 k_ = h0 k_ := fun k_ hk_ => (hp.1 k_ (by omega)).trans (hfr k_ hk_)
  clear hp
  refine lv_aload_n hx hb dX9_init_219 rfl (lv_at hl 0 rfl) ?_
  refine lv_iconst (v := 2) hx hb dX9_init_220 (by decide) ?_
  refine lv_bipush (v := 98) hx hb dX9_init_221 (by decide) ?_
  refine lv_iconst (v := 0) hx hb dX9_init_223 (by decide) ?_
  refine lv_iconst (v := 0) hx hb dX9_init_224 (by decide) ?_
  refine lv_iconst (v := 0) hx hb dX9_init_225 (by decide) ?_
  refine r_callV w (va_runV (As := [.int 2, .int 98, .int 0, .int 0, .int 0]) (rest := []) ⟨hx, hb, hml, hown, hts⟩ (c_X9_begins l D hBg 2 98 0 0 0 (by decide : (2 : Int32).toInt = ((2 : Nat) : Int)) (by decide : (98 : Int32).toInt = ((98 : Nat) : Int)) (by decide : (0 : Int32).toInt = ((0 : Nat) : Int)) (by decide : (0 : Int32).toInt = ((0 : Nat) : Int)) (by decide : (0 : Int32).toInt = ((0 : Nat) : Int)) (by decide) (by decide +kernel)) (cwV 5 hts gX9_init_X9_begins rfl rfl rfl (by decide +kernel) ⟨Nat.le_of_ble_eq_true rfl, Nat.le_of_ble_eq_true rfl⟩) (r_preV w (by omega) D.c0 rfl) rfl rfl hl.1 rfl (lv_room (Nat.le_of_ble_eq_true rfl)) dX9_init_226 ⟨Nat.le_of_ble_eq_true rfl, Nat.le_of_ble_eq_true rfl⟩) (fun h74 H locs hp w2_ => ?_)
  replace w := w2_
  clear w2_
  replace D := hp.2
  obtain ⟨glk75, gBk75, D, hBg⟩ := D
  replace hfr : ∀ k_, k_ < r → h74 k_ = h0 k_ := fun k_ hk_ => (hp.1 k_ (by omega)).trans (hfr k_ hk_)
  clear hp
  refine W.widen (k := 13) (n := 3651) (Nat.le_of_ble_eq_true rfl) (Nat.le_of_ble_eq_true rfl) ?_
  refine r_nret hx hb hr hlocks w dX9_init_229 hE0 ?_
  dsimp only
  have hRS : RS startM 3 gz61 gz55 glk75 gBk75 := start_rs rfl (by rw [egz61, egz59, egz57]) (by rw [egz55]) hBg
  exact ⟨hN, hfr, _, _, _, _, _, _, _, _, _, _, _, _, _, _, _, _, _, _, _, _, D, stS_ok, hRS, Or.inl rfl, rfl, fun i_ hi_ => absurd hi_ (Nat.not_lt_zero _), rfl, fun i_ hi_ => absurd hi_ (Nat.not_lt_zero _), rfl, fun i_ hi_ => absurd hi_ (Nat.not_lt_zero _)⟩

