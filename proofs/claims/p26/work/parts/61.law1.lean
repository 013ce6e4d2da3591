-- ===== THE LAW'S OWN METHODS: what they stand on =====
def lowF (v : Int32) (n : Nat) : Nat := v.toBitVec.toNat % 2 ^ 31 % n
theorem lowF_lt {v : Int32} {n : Nat} (h : 0 < n) : lowF v n < n := Nat.mod_lt _ h
theorem low_and {x y : Int32} (e : y = x &&& 2147483647) : y.toInt = ((x.toBitVec.toNat % 2 ^ 31 : Nat) : Int) := by
  rw [e, pk_and x 31 (by decide), nI_toInt (Nat.mod_lt _ (by decide))]
theorem RaA.fr {g : GE} {h h' : Nat → va_E} {k t n : Nat} {gz : Nat → Int32} (A : RaA g h k t n gz) (hf : ∀ k_, k ≤ k_ → k_ < k + 1 → h' k_ = h k_) : RaA g h' k t n gz :=
  ⟨A.1, by rw [hf k (Nat.le_refl _) (by omega)]; exact A.2⟩
theorem mNum_le (c : Int) : mNum c ≤ 14 := by have := mNum_c c; omega
/-- the script, which lies outside of what is written -/
def ScA (A : Nat → Prop) (U : State) (sa sL : Nat) (sx : Nat → Int32) : Prop := va_X sa sL sx U U.heap ∧ sa < U.heap.size ∧ ¬ A sa ∧ sL ≤ 260
abbrev MIs (l : Launch) (y : MethodName) (ws : List Cond) (rm : Room) (as : List Value) (g : GE) (h : Nat → va_E) (sa sL : Nat) (sx : Nat → Int32) (post : Int32 → (Nat → va_E) → Prop) : Prop :=
  Met l y ws rm (va_Pc as (fun U => Wd g h U ∧ ScA (inW g) U sa sL sx)) (va_Qi post (Wd g) (inW g)) 0 0 (inW g)
theorem ScA.to {g : GE} {A B : Nat → Prop} {s U : State} {H : Heap} {h : Nat → va_E} {locs : List Loc} {sa sL : Nat} {sx : Nat → Int32} (z : ScA A s sa sL sx) (hS : va_S A s.heap H locs) (hU : U.heap = H) (hW : s.WarmedH U.vm) (hB : ∀ q, B q → A q) : ScA B U sa sL sx := by
  obtain ⟨z1, z2, z3, z4⟩ := z
  refine ⟨?_, by rw [hU]; exact Nat.lt_of_lt_of_le z2 hS.1, fun q => z3 (hB _ q), z4⟩
  rw [hU]
  exact va_X.moved hW.alike (z1.kept (hS.2.1 sa z2 z3))
theorem r_preSs {s : State} {A : Nat → Prop} {g : GE} {h : Nat → va_E} {H : Heap} {locs : List Loc} {sa sL : Nat} {sx : Nat → Int32} {As : List Value} (w : WD g A s h H locs) (z : ScA A s sa sL sx) : PreS s H (va_Pc As (fun U => Wd g h U ∧ ScA (inW g) U sa sL sx)) As :=
  ⟨fun a U g' mk q => ⟨q.1, ⟨q.2.1.1, va_K.moved (u := U) (U := U.calling g' mk a) (Vm.Alike.refl U.vm) q.2.1.2.1, q.2.1.2.2.1, EV.same (u := U) (U := U.calling g' mk a) rfl q.2.1.2.2.2⟩, ⟨va_X.moved (u := U) (U := U.calling g' mk a) (Vm.Alike.refl U.vm) q.2.2.1, q.2.2.2⟩⟩, fun U hU hW => ⟨rfl, ⟨by rw [hU]; exact w.2.1, va_K.moved hW.alike w.1, w.2.2.1.weaken (fun _ _ _ _ => trivial), w.2.2.2.2.step w.2.2.2.1 hU hW w.sub⟩, z.to (g := g) (h := h) w.2.2.2.1 hU hW w.sub⟩⟩
/-- the place of a letter, so far -/
def PlQ (c : Int) (i : Nat) (x : Int) : Prop := (x = 14 ∧ ∀ j, j < i → ((mCode j : Nat) : Int) ≠ c) ∨ ∃ j, j < i ∧ ((mCode j : Nat) : Int) = c ∧ x = ((j : Nat) : Int)
theorem PlQ.z {c : Int} : PlQ c 0 14 := Or.inl ⟨rfl, fun j hj => absurd hj (Nat.not_lt_zero _)⟩
theorem PlQ.no {c : Int} {i : Nat} {x : Int} (h : PlQ c i x) (q : ¬ ((mCode i : Nat) : Int) = c) : PlQ c (i + 1) x := by
  rcases h with ⟨h1, h2⟩ | ⟨j, h1, h2⟩
  · refine Or.inl ⟨h1, fun j hj => ?_⟩
    rcases Nat.lt_succ_iff_lt_or_eq.mp hj with z | z
    · exact h2 j z
    · rw [z]; exact q
  · exact Or.inr ⟨j, by omega, h2⟩
theorem PlQ.yes {c : Int} {i : Nat} (q : ((mCode i : Nat) : Int) = c) : PlQ c (i + 1) ((i : Nat) : Int) := Or.inr ⟨i, by omega, q, rfl⟩
theorem PlQ.fin {c : Int} {x : Int} (h : PlQ c 14 x) : x = ((mNum c : Nat) : Int) := by
  rcases h with ⟨h1, h2⟩ | ⟨j, h1, h2, h3⟩
  · have h4 : ¬ mNum c < 14 := fun q => h2 _ q (mCode_num q)
    have h5 := mNum_le c
    rw [h1]; omega
  · rw [h3, ← h2, mNum_code h1]
/-- parts of a letter, such as it may stand -/
def PtQ (N : Nat) (A : Nat → Nat) (f k : Nat) (r : Int) : Prop := (k < 14 ∧ mMay N A f k ∧ r = ((mParts N A k : Nat) : Int)) ∨ (¬ (k < 14 ∧ mMay N A f k) ∧ r = -1)
/-- parts that are missing behind letters -/
def dpF (N : Nat) (A : Nat → Nat) (bb : Nat → Nat) : Nat → Nat
  | 0 => 1
  | p + 1 => dpF N A bb p + mParts N A (bb p) - 1
theorem dpF_cg {N : Nat} {A bb bb' : Nat → Nat} : ∀ {n : Nat}, (∀ j, j < n → bb' j = bb j) → dpF N A bb' n = dpF N A bb n
  | 0, _ => rfl
  | n + 1, h => by
    show dpF N A bb' n + mParts N A (bb' n) - 1 = dpF N A bb n + mParts N A (bb n) - 1
    rw [dpF_cg (n := n) (fun j hj => h j (by omega)), h n (by omega)]
/-- a body so far: n letters, q parts missing -/
def BdI (N : Nat) (A : Nat → Nat) (f : Nat) (bb : Nat → Nat) (gb : Nat → Int32) (n : Nat) : Prop := ∀ j, j < n → (gb (16 * f + j)).toInt = ((mCode (bb j) : Nat) : Int) ∧ bb j < 14 ∧ mMay N A f (bb j) ∧ 1 ≤ dpF N A bb j
theorem BdI.up {N : Nat} {A : Nat → Nat} {f : Nat} {bb : Nat → Nat} {gb gb2 : Nat → Int32} {n k : Nat} {x : Int32} (h : BdI N A f bb gb n) (hx : x.toInt = ((mCode k : Nat) : Int)) (hk : k < 14) (hm : mMay N A f k) (hq : 1 ≤ dpF N A bb n) (e : upd gb (16 * f + n) x = gb2) :
    BdI N A f (fun j => if j = n then k else bb j) gb2 (n + 1) ∧ dpF N A (fun j => if j = n then k else bb j) (n + 1) = dpF N A bb n + mParts N A k - 1 := by
  have e0 : ∀ m, m ≤ n → dpF N A (fun j => if j = n then k else bb j) m = dpF N A bb m := fun m hm => dpF_cg (fun j hj => if_neg (by omega))
  refine ⟨fun j hj => ?_, ?_⟩
  · rw [e0 j (by omega)]
    dsimp only
    rcases Nat.lt_succ_iff_lt_or_eq.mp hj with z | z
    · rw [if_neg (by omega), ← e, pk_un (by omega)]
      exact h j z
    · subst z
      rw [if_pos rfl, ← e, pk_us]
      exact ⟨hx, hk, hm, hq⟩
  · show dpF N A (fun j => if j = n then k else bb j) n + mParts N A (if n = n then k else bb n) - 1 = _
    rw [e0 n (Nat.le_refl _), if_pos rfl]
theorem may_arg {N : Nat} {A : Nat → Nat} {f a : Nat} (h : a < A f) (h3 : A f ≤ 3) : mMay N A f (3 + a) ∧ mCode (3 + a) = 97 + a ∧ mParts N A (3 + a) = 0 := by
  refine ⟨⟨fun q => by omega, fun _ => by omega⟩, ?_, ?_⟩
  · rcases (show a = 0 ∨ a = 1 ∨ a = 2 by omega) with rfl | rfl | rfl <;> rfl
  · unfold mParts; rw [if_neg (by omega), if_neg (by omega), if_neg (by omega), if_neg (by omega)]
theorem may_01 {N : Nat} {A : Nat → Nat} {f k : Nat} (h : k < 2) : mMay N A f k ∧ mParts N A k = 0 := by
  refine ⟨⟨fun q => by omega, fun _ => by omega⟩, ?_⟩
  unfold mParts; rw [if_neg (by omega), if_neg (by omega), if_neg (by omega), if_neg (by omega)]
abbrev rm_L_low : Room := { frames := 0, cells := 0, slots := 0, locals := 0 }
set_option maxHeartbeats 4000000 in
set_option maxRecDepth 100000 in
theorem c_L_low (l : Launch) {g : GE} {h : Nat → va_E} (p0 p1 : Int32) {n : Nat} (hn : p1.toInt = (n : Int)) (h0 : 0 < n) : MI l yL_low wsL_low rm_L_low [.int p0, .int p1] g h (fun r h2 => h2 = h ∧ r.toInt = ((lowF p0 n : Nat) : Int)) := by
  refine Met.ofW (cc := cL_low) (maxL := 2) (ret := (some .int)) (by decide) rfl ?_
  intro p e s m args below meth c s₁ B hml hv
  obtain ⟨rfl, w0⟩ := hv
  have hx := B.exec
  have hb := B.bytes
  have hr := B.returns
  have hts := atoms_spec (ws := wsL_low) B.pre
  have hown : s.vm.findClass RL = some m.cls := findClass_of_methodNamed B.named
  have hlocks := B.notSynchronized
  have w := w0.start
  clear w0
  have hl := lv_entry ([.int p0, .int p1]) (n := 2) (Nat.le_of_ble_eq_true rfl)
  rw [lg_entry_eq]
  generalize (lg_sl ([.int p0, .int p1]) ++ List.replicate (2 - (lg_sl ([.int p0, .int p1])).length) Slot.unset).toArray = ls at hl ⊢
  have hl : lv_has ls 2 [(0, .int p0), (1, .int p1)] := hl
  refine lv_iload_n hx hb dL_low_0 rfl (lv_at hl 0 rfl) ?_
  refine lv_ldc (v := 2147483647) hx hb hown (hts (Cond.constant RL 7 (2147483647)) (List.mem_of_getElem? (i := 1) (by decide +kernel))) dL_low_1 ?_
  refine lv_iand hx hb dL_low_3 ?_
  refine lv_topi (fun y1 ey1 => ?_)
  have ty1 : y1.toInt = ((p0.toBitVec.toNat % 2 ^ 31 : Nat) : Int) := low_and ey1
  refine lv_iload_n hx hb dL_low_4 rfl (lv_at hl 1 rfl) ?_
  refine lv_irem hx hb dL_low_5 (fun q => absurd ((i_eq hn (by decide : (0 : Int32).toInt = (0 : Int))).mp q) (by omega)) ?_
  refine lv_topi (fun y2 ey2 => ?_)
  have ty2 : y2.toInt = ((((p0.toBitVec.toNat % 2 ^ 31) % n) : Nat) : Int) := i_remN ey2 ty1 hn (by omega)
  refine r_iret (v := y2) hx hb hr hlocks w dL_low_6 ?_
  exact ⟨rfl, ty2⟩

abbrev rm_L_cell : Room := { frames := 0, cells := 0, slots := 0, locals := 0 }
set_option maxHeartbeats 4000000 in
set_option maxRecDepth 100000 in
theorem c_L_cell (l : Launch) {g : GE} {h : Nat → va_E} {sa sL : Nat} {sx : Nat → Int32} (p1 : Int32) {k : Nat} (hk : p1.toInt = (k : Int)) : MIs l yL_cell wsL_cell rm_L_cell [.ref sa, .int p1] g h sa sL sx (fun r h2 => h2 = h) := by
  refine Met.ofW (cc := cL_cell) (maxL := 2) (ret := (some .int)) (by decide) rfl ?_
  intro p e s m args below meth c s₁ B hml hv
  obtain ⟨rfl, w0, hsc⟩ := hv
  have hx := B.exec
  have hb := B.bytes
  have hr := B.returns
  have hts := atoms_spec (ws := wsL_cell) B.pre
  have hown : s.vm.findClass RL = some m.cls := findClass_of_methodNamed B.named
  have hlocks := B.notSynchronized
  have w := w0.start
  clear w0
  have hl := lv_entry ([.ref sa, .int p1]) (n := 2) (Nat.le_of_ble_eq_true rfl)
  rw [lg_entry_eq]
  generalize (lg_sl ([.ref sa, .int p1]) ++ List.replicate (2 - (lg_sl ([.ref sa, .int p1])).length) Slot.unset).toArray = ls at hl ⊢
  have hl : lv_has ls 2 [(0, .ref sa), (1, .int p1)] := hl
  refine lv_iload_n hx hb dL_cell_0 rfl (lv_at hl 1 rfl) ?_
  refine lv_aload_n hx hb dL_cell_1 rfl (lv_at hl 0 rfl) ?_
  refine va_slen hx hb hsc.1 hsc.2.1 hsc.2.2.1 w.2.2.2.1 dL_cell_2 ?_
  refine lv_icmp_ge (tgt := 12) hx hb dL_cell_3 (by decide) (fun c1 => ?_) (fun c1 => ?_)
  · have c1 : ((sL : Nat) : Int) ≤ ((k : Nat) : Int) := (i_le (Int32.toInt_ofNat_of_lt (by have := hsc.2.2.2; omega)) hk).mp c1
    refine lv_ldc (v := 40503) hx hb hown (hts (Cond.constant RL 8 (40503)) (List.mem_of_getElem? (i := 1) (by decide +kernel))) dL_cell_12 ?_
    refine lv_iload_n hx hb dL_cell_14 rfl (lv_at hl 1 rfl) ?_
    refine lv_imul hx hb dL_cell_15 ?_
    refine lv_topi (fun y2 ey2 => ?_)
    refine lv_sipush (v := 977) hx hb dL_cell_16 (by decide) ?_
    refine lv_iadd hx hb dL_cell_19 ?_
    refine lv_topi (fun y3 ey3 => ?_)
    refine r_iret (v := y3) hx hb hr hlocks w dL_cell_20 ?_
    exact rfl
  · have c1 : ¬ (((sL : Nat) : Int) ≤ ((k : Nat) : Int)) := fun q => c1 ((i_le (Int32.toInt_ofNat_of_lt (by have := hsc.2.2.2; omega)) hk).mpr q)
    refine lv_aload_n hx hb dL_cell_6 rfl (lv_at hl 0 rfl) ?_
    refine lv_iload_n hx hb dL_cell_7 rfl (lv_at hl 1 rfl) ?_
    refine va_sld hx hb hsc.1 hsc.2.1 hsc.2.2.1 w.2.2.2.1 (i_in hk (by omega)) dL_cell_8 ?_
    refine lv_goto (tgt := 20) hx hb dL_cell_9 (by decide) ?_
    refine r_iret (v := (sx p1.toNatClampNeg)) hx hb hr hlocks w dL_cell_20 ?_
    exact rfl

abbrev rm_L_letter : Room := { frames := 0, cells := 0, slots := 0, locals := 0 }
set_option maxHeartbeats 4000000 in
set_option maxRecDepth 100000 in
theorem c_L_letter (l : Launch) {g : GE} {h : Nat → va_E} (p0 : Int32) {k : Nat} (hk : p0.toInt = (k : Int)) (hk14 : k < 14) : MI l yL_letter wsL_letter rm_L_letter [.int p0] g h (fun r h2 => h2 = h ∧ r.toInt = ((mCode k : Nat) : Int)) := by
  refine Met.ofW (cc := cL_letter) (maxL := 1) (ret := (some .int)) (by decide) rfl ?_
  intro p e s m args below meth c s₁ B hml hv
  obtain ⟨rfl, w0⟩ := hv
  have hx := B.exec
  have hb := B.bytes
  have hr := B.returns
  have hts := atoms_spec (ws := wsL_letter) B.pre
  have hown : s.vm.findClass RL = some m.cls := findClass_of_methodNamed B.named
  have hlocks := B.notSynchronized
  have w := w0.start
  clear w0
  have hl := lv_entry ([.int p0]) (n := 1) (Nat.le_of_ble_eq_true rfl)
  rw [lg_entry_eq]
  generalize (lg_sl ([.int p0]) ++ List.replicate (1 - (lg_sl ([.int p0])).length) Slot.unset).toArray = ls at hl ⊢
  have hl : lv_has ls 1 [(0, .int p0)] := hl
  refine lv_iload_n hx hb dL_letter_0 rfl (lv_at hl 0 rfl) ?_
  refine lv_if_ne (tgt := 9) hx hb dL_letter_1 (by decide) (fun c1 => ?_) (fun c1 => ?_)
  · have c1 : ¬ (((k : Nat) : Int) = (0 : Int)) := fun q => c1 ((i_eq hk (rfl : (0 : Int32).toInt = 0)).mpr q)
    refine lv_iload_n hx hb dL_letter_9 rfl (lv_at hl 0 rfl) ?_
    refine lv_iconst (v := 1) hx hb dL_letter_10 (by decide) ?_
    refine lv_icmp_ne (tgt := 19) hx hb dL_letter_11 (by decide) (fun c2 => ?_) (fun c2 => ?_)
    · have c2 : ¬ (((k : Nat) : Int) = ((1 : Nat) : Int)) := fun q => c2 ((i_eq hk (by decide : (1 : Int32).toInt = ((1 : Nat) : Int))).mpr q)
      refine lv_iload_n hx hb dL_letter_19 rfl (lv_at hl 0 rfl) ?_
      refine lv_iconst (v := 2) hx hb dL_letter_20 (by decide) ?_
      refine lv_icmp_ne (tgt := 29) hx hb dL_letter_21 (by decide) (fun c3 => ?_) (fun c3 => ?_)
      · have c3 : ¬ (((k : Nat) : Int) = ((2 : Nat) : Int)) := fun q => c3 ((i_eq hk (by decide : (2 : Int32).toInt = ((2 : Nat) : Int))).mpr q)
        refine lv_iload_n hx hb dL_letter_29 rfl (lv_at hl 0 rfl) ?_
        refine lv_bipush (v := 6) hx hb dL_letter_30 (by decide) ?_
        refine lv_icmp_ge (tgt := 44) hx hb dL_letter_32 (by decide) (fun c4 => ?_) (fun c4 => ?_)
        · have c4 : ((6 : Nat) : Int) ≤ ((k : Nat) : Int) := (i_le (by decide : (6 : Int32).toInt = ((6 : Nat) : Int)) hk).mp c4
          refine lv_iload_n hx hb dL_letter_44 rfl (lv_at hl 0 rfl) ?_
          refine lv_bipush (v := 6) hx hb dL_letter_45 (by decide) ?_
          refine lv_icmp_ne (tgt := 55) hx hb dL_letter_47 (by decide) (fun c5 => ?_) (fun c5 => ?_)
          · have c5 : ¬ (((k : Nat) : Int) = ((6 : Nat) : Int)) := fun q => c5 ((i_eq hk (by decide : (6 : Int32).toInt = ((6 : Nat) : Int))).mpr q)
            refine lv_iload_n hx hb dL_letter_55 rfl (lv_at hl 0 rfl) ?_
            refine lv_bipush (v := 7) hx hb dL_letter_56 (by decide) ?_
            refine lv_icmp_ne (tgt := 66) hx hb dL_letter_58 (by decide) (fun c6 => ?_) (fun c6 => ?_)
            · have c6 : ¬ (((k : Nat) : Int) = ((7 : Nat) : Int)) := fun q => c6 ((i_eq hk (by decide : (7 : Int32).toInt = ((7 : Nat) : Int))).mpr q)
              refine lv_iload_n hx hb dL_letter_66 rfl (lv_at hl 0 rfl) ?_
              refine lv_bipush (v := 8) hx hb dL_letter_67 (by decide) ?_
              refine lv_icmp_ne (tgt := 77) hx hb dL_letter_69 (by decide) (fun c7 => ?_) (fun c7 => ?_)
              · have c7 : ¬ (((k : Nat) : Int) = ((8 : Nat) : Int)) := fun q => c7 ((i_eq hk (by decide : (8 : Int32).toInt = ((8 : Nat) : Int))).mpr q)
                refine lv_iload_n hx hb dL_letter_77 rfl (lv_at hl 0 rfl) ?_
                refine lv_bipush (v := 9) hx hb dL_letter_78 (by decide) ?_
                refine lv_icmp_ne (tgt := 88) hx hb dL_letter_80 (by decide) (fun c8 => ?_) (fun c8 => ?_)
                · have c8 : ¬ (((k : Nat) : Int) = ((9 : Nat) : Int)) := fun q => c8 ((i_eq hk (by decide : (9 : Int32).toInt = ((9 : Nat) : Int))).mpr q)
                  refine lv_bipush (v := 48) hx hb dL_letter_88 (by decide) ?_
                  refine lv_iload_n hx hb dL_letter_90 rfl (lv_at hl 0 rfl) ?_
                  refine lv_iadd hx hb dL_letter_91 ?_
                  refine lv_topi (fun y9 ey9 => ?_)
                  have ty9 : y9.toInt = (((48 + k) : Nat) : Int) := i_addN ey9 (by decide : (48 : Int32).toInt = ((48 : Nat) : Int)) hk (by omega)
                  refine lv_bipush (v := 10) hx hb dL_letter_92 (by decide) ?_
                  refine lv_isub hx hb dL_letter_94 ?_
                  refine lv_topi (fun y10 ey10 => ?_)
                  have ty10 : y10.toInt = ((((48 + k) - 10) : Nat) : Int) := i_subN ey10 ty9 (by decide : (10 : Int32).toInt = ((10 : Nat) : Int)) (by omega)
                  refine r_iret (v := y10) hx hb hr hlocks w dL_letter_95 ?_
                  exact ⟨rfl, ty10.trans (by have := mCode_c hk14; omega)⟩
                · have c8 : ((k : Nat) : Int) = ((9 : Nat) : Int) := (i_eq hk (by decide : (9 : Int32).toInt = ((9 : Nat) : Int))).mp c8
                  refine lv_bipush (v := 63) hx hb dL_letter_83 (by decide) ?_
                  refine lv_goto (tgt := 95) hx hb dL_letter_85 (by decide) ?_
                  refine r_iret (v := 63) hx hb hr hlocks w dL_letter_95 ?_
                  exact ⟨rfl, (by decide : (63 : Int32).toInt = ((63 : Nat) : Int)).trans (by have := mCode_c hk14; omega)⟩
              · have c7 : ((k : Nat) : Int) = ((8 : Nat) : Int) := (i_eq hk (by decide : (8 : Int32).toInt = ((8 : Nat) : Int))).mp c7
                refine lv_bipush (v := 38) hx hb dL_letter_72 (by decide) ?_
                refine lv_goto (tgt := 95) hx hb dL_letter_74 (by decide) ?_
                refine r_iret (v := 38) hx hb hr hlocks w dL_letter_95 ?_
                exact ⟨rfl, (by decide : (38 : Int32).toInt = ((38 : Nat) : Int)).trans (by have := mCode_c hk14; omega)⟩
            · have c6 : ((k : Nat) : Int) = ((7 : Nat) : Int) := (i_eq hk (by decide : (7 : Int32).toInt = ((7 : Nat) : Int))).mp c6
              refine lv_bipush (v := 43) hx hb dL_letter_61 (by decide) ?_
              refine lv_goto (tgt := 95) hx hb dL_letter_63 (by decide) ?_
              refine r_iret (v := 43) hx hb hr hlocks w dL_letter_95 ?_
              exact ⟨rfl, (by decide : (43 : Int32).toInt = ((43 : Nat) : Int)).trans (by have := mCode_c hk14; omega)⟩
          · have c5 : ((k : Nat) : Int) = ((6 : Nat) : Int) := (i_eq hk (by decide : (6 : Int32).toInt = ((6 : Nat) : Int))).mp c5
            refine lv_bipush (v := 109) hx hb dL_letter_50 (by decide) ?_
            refine lv_goto (tgt := 95) hx hb dL_letter_52 (by decide) ?_
            refine r_iret (v := 109) hx hb hr hlocks w dL_letter_95 ?_
            exact ⟨rfl, (by decide : (109 : Int32).toInt = ((109 : Nat) : Int)).trans (by have := mCode_c hk14; omega)⟩
        · have c4 : ¬ (((6 : Nat) : Int) ≤ ((k : Nat) : Int)) := fun q => c4 ((i_le (by decide : (6 : Int32).toInt = ((6 : Nat) : Int)) hk).mpr q)
          refine lv_bipush (v := 97) hx hb dL_letter_35 (by decide) ?_
          refine lv_iload_n hx hb dL_letter_37 rfl (lv_at hl 0 rfl) ?_
          refine lv_iadd hx hb dL_letter_38 ?_
          refine lv_topi (fun y11 ey11 => ?_)
          have ty11 : y11.toInt = (((97 + k) : Nat) : Int) := i_addN ey11 (by decide : (97 : Int32).toInt = ((97 : Nat) : Int)) hk (by omega)
          refine lv_iconst (v := 3) hx hb dL_letter_39 (by decide) ?_
          refine lv_isub hx hb dL_letter_40 ?_
          refine lv_topi (fun y12 ey12 => ?_)
          have ty12 : y12.toInt = ((((97 + k) - 3) : Nat) : Int) := i_subN ey12 ty11 (by decide : (3 : Int32).toInt = ((3 : Nat) : Int)) (by omega)
          refine lv_goto (tgt := 95) hx hb dL_letter_41 (by decide) ?_
          refine r_iret (v := y12) hx hb hr hlocks w dL_letter_95 ?_
          exact ⟨rfl, ty12.trans (by have := mCode_c hk14; omega)⟩
      · have c3 : ((k : Nat) : Int) = ((2 : Nat) : Int) := (i_eq hk (by decide : (2 : Int32).toInt = ((2 : Nat) : Int))).mp c3
        refine lv_bipush (v := 119) hx hb dL_letter_24 (by decide) ?_
        refine lv_goto (tgt := 95) hx hb dL_letter_26 (by decide) ?_
        refine r_iret (v := 119) hx hb hr hlocks w dL_letter_95 ?_
        exact ⟨rfl, (by decide : (119 : Int32).toInt = ((119 : Nat) : Int)).trans (by have := mCode_c hk14; omega)⟩
    · have c2 : ((k : Nat) : Int) = ((1 : Nat) : Int) := (i_eq hk (by decide : (1 : Int32).toInt = ((1 : Nat) : Int))).mp c2
      refine lv_bipush (v := 105) hx hb dL_letter_14 (by decide) ?_
      refine lv_goto (tgt := 95) hx hb dL_letter_16 (by decide) ?_
      refine r_iret (v := 105) hx hb hr hlocks w dL_letter_95 ?_
      exact ⟨rfl, (by decide : (105 : Int32).toInt = ((105 : Nat) : Int)).trans (by have := mCode_c hk14; omega)⟩
  · have c1 : ((k : Nat) : Int) = (0 : Int) := (i_eq hk (rfl : (0 : Int32).toInt = 0)).mp c1
    refine lv_bipush (v := 111) hx hb dL_letter_4 (by decide) ?_
    refine lv_goto (tgt := 95) hx hb dL_letter_6 (by decide) ?_
    refine r_iret (v := 111) hx hb hr hlocks w dL_letter_95 ?_
    exact ⟨rfl, (by decide : (111 : Int32).toInt = ((111 : Nat) : Int)).trans (by have := mCode_c hk14; omega)⟩

abbrev rm_L_place : Room := { frames := 1, cells := 0, slots := 0, locals := 20 }
set_option maxHeartbeats 4000000 in
set_option maxRecDepth 100000 in
theorem c_L_place (l : Launch) {g : GE} {h : Nat → va_E} (p0 : Int32) : MI l yL_place wsL_place rm_L_place [.int p0] g h (fun r h2 => h2 = h ∧ r.toInt = ((mNum p0.toInt : Nat) : Int)) := by
  refine Met.ofW (cc := cL_place) (maxL := 3) (ret := (some .int)) (by decide) rfl ?_
  intro p e s m args below meth c s₁ B hml hv
  obtain ⟨rfl, w0⟩ := hv
  have hx := B.exec
  have hb := B.bytes
  have hr := B.returns
  have hts := atoms_spec (ws := wsL_place) B.pre
  have hown : s.vm.findClass RL = some m.cls := findClass_of_methodNamed B.named
  have hlocks := B.notSynchronized
  have w := w0.start
  clear w0
  have hl := lv_entry ([.int p0]) (n := 3) (Nat.le_of_ble_eq_true rfl)
  rw [lg_entry_eq]
  generalize (lg_sl ([.int p0]) ++ List.replicate (3 - (lg_sl ([.int p0])).length) Slot.unset).toArray = ls at hl ⊢
  have hl : lv_has ls 3 [(0, .int p0)] := hl
  have cuts : ∀ N : Nat, (∀ (i : Nat) (x1 : Int32) (x2 : Int32) (hc : Nat → va_E) (H : Heap) (locs : List Loc) (ls : Array Slot), WD g (inW g) s hc H locs → lv_has ls 3 [(0, .int p0), (1, .int x1), (2, .int x2)] → (i ≤ 14) → (x2.toInt = ((i : Nat) : Int)) → (PlQ p0.toInt i x1.toInt) → (hc = h) → 14 - i < N → W p l e (headSpec wsL_place rm_L_place).room s m ([.int p0] : List Value).toArray below meth c H locs 0 0 (MQ below (va_Qi (fun r h2 => h2 = h ∧ r.toInt = ((mNum p0.toInt : Nat) : Int)) (Wd g) (inW g)) ([.int p0] : List Value).toArray s 0 0 (inW g)) (F0 m 5 ls [])) := by
    intro N
    induction N with
    | zero => exact by intros; omega
    | succ N ih =>
      have ih5 := ih
      · intro i x1 x2 hc H locs ls w hl hi hx2 hat hh hN_
        refine lv_iload_n hx hb dL_place_5 rfl (lv_at hl 2 rfl) ?_
        refine lv_bipush (v := 14) hx hb dL_place_6 (by decide) ?_
        refine lv_icmp_ge (tgt := 31) hx hb dL_place_8 (by decide) (fun c1 => ?_) (fun c1 => ?_)
        · have c1 : ((14 : Nat) : Int) ≤ ((i : Nat) : Int) := (i_le (by decide : (14 : Int32).toInt = ((14 : Nat) : Int)) hx2).mp c1
          refine lv_iload_n hx hb dL_place_31 rfl (lv_at hl 1 rfl) ?_
          refine r_iret (v := x1) hx hb hr hlocks w dL_place_32 ?_
          rw [show i = 14 by omega] at hat
          exact ⟨hh, hat.fin⟩
        · have c1 : ¬ (((14 : Nat) : Int) ≤ ((i : Nat) : Int)) := fun q => c1 ((i_le (by decide : (14 : Int32).toInt = ((14 : Nat) : Int)) hx2).mpr q)
          refine lv_iload_n hx hb dL_place_11 rfl (lv_at hl 2 rfl) ?_
          refine r_callI w (va_runS (As := [.int x2]) (rest := []) ⟨hx, hb, hml, hown, hts⟩ (c_L_letter l (g := g) (h := hc) x2 hx2 (by omega)) (va_cwS 1 hts gL_place_L_letter rfl rfl rfl (by decide +kernel) ⟨Nat.le_of_ble_eq_true rfl, Nat.le_of_ble_eq_true rfl⟩) (r_preS w) rfl rfl hl.1 rfl (lv_room (Nat.le_of_ble_eq_true rfl)) dL_place_12 ⟨Nat.zero_le _, Nat.zero_le _⟩) (fun r3 h2 H locs hp w => ?_)
          obtain ⟨eh_, qq4⟩ := hp
          have eh_ := eh_.symm
          subst eh_
          refine lv_iload_n hx hb dL_place_15 rfl (lv_at hl 0 rfl) ?_
          refine lv_icmp_ne (tgt := 23) hx hb dL_place_16 (by decide) (fun c5 => ?_) (fun c5 => ?_)
          · have c5 : ¬ ((((mCode i) : Nat) : Int) = p0.toInt) := fun q => c5 ((i_eq qq4 (rfl : p0.toInt = p0.toInt)).mpr q)
            refine lv_iload_n hx hb dL_place_23 rfl (lv_at hl 1 rfl) ?_
            refine lv_istore_n (lv' := [(1, .int x1), (0, .int p0), (2, .int x2)]) hx hb dL_place_24 rfl hl (by decide) rfl (fun ls hl => ?_)
            obtain ⟨y6, ey6⟩ : ∃ y : Int32, y = x2 + (1) := ⟨_, rfl⟩
            have ty6 : y6.toInt = (((i + 1) : Nat) : Int) := i_addN ey6 hx2 (by decide : (1 : Int32).toInt = ((1 : Nat) : Int)) (by omega)
            refine lv_iinc (v := y6) (lv' := [(2, .int y6), (1, .int x1), (0, .int p0)]) hx hb dL_place_25 hl (k := 2) rfl (by rw [ey6]; rfl) (by decide) rfl (fun ls hl => ?_)
            refine lv_goto (tgt := 5) hx hb dL_place_28 (by decide) ?_
            exact ih5 (i + 1) x1 y6 hc _ _ _ w (lv_sub hl [2, 1, 0] rfl) (by omega) ty6 (hat.no c5) hh (by omega)
          · have c5 : (((mCode i) : Nat) : Int) = p0.toInt := (i_eq qq4 (rfl : p0.toInt = p0.toInt)).mp c5
            refine lv_iload_n hx hb dL_place_19 rfl (lv_at hl 2 rfl) ?_
            refine lv_goto (tgt := 24) hx hb dL_place_20 (by decide) ?_
            refine lv_istore_n (lv' := [(1, .int x2), (0, .int p0), (2, .int x2)]) hx hb dL_place_24 rfl hl (by decide) rfl (fun ls hl => ?_)
            obtain ⟨y7, ey7⟩ : ∃ y : Int32, y = x2 + (1) := ⟨_, rfl⟩
            have ty7 : y7.toInt = (((i + 1) : Nat) : Int) := i_addN ey7 hx2 (by decide : (1 : Int32).toInt = ((1 : Nat) : Int)) (by omega)
            refine lv_iinc (v := y7) (lv' := [(2, .int y7), (1, .int x2), (0, .int p0)]) hx hb dL_place_25 hl (k := 2) rfl (by rw [ey7]; rfl) (by decide) rfl (fun ls hl => ?_)
            refine lv_goto (tgt := 5) hx hb dL_place_28 (by decide) ?_
            exact ih5 (i + 1) x2 y7 hc _ _ _ w (lv_sub hl [2, 1, 0] rfl) (by omega) ty7 (by rw [hx2]; exact PlQ.yes c5) hh (by omega)
  have ih5 := cuts (15)
  refine lv_bipush (v := 14) hx hb dL_place_0 (by decide) ?_
  refine lv_istore_n (lv' := [(1, .int 14), (0, .int p0)]) hx hb dL_place_2 rfl hl (by decide) rfl (fun ls hl => ?_)
  refine lv_iconst (v := 0) hx hb dL_place_3 (by decide) ?_
  refine lv_istore_n (lv' := [(2, .int 0), (1, .int 14), (0, .int p0)]) hx hb dL_place_4 rfl hl (by decide) rfl (fun ls hl => ?_)
  exact ih5 0 14 0 h _ _ _ w (lv_sub hl [2, 1, 0] rfl) (Nat.zero_le _) rfl PlQ.z rfl (by omega)

abbrev rm_L_parts : Room := { frames := 2, cells := 0, slots := 0, locals := 42 }
set_option maxHeartbeats 4000000 in
set_option maxRecDepth 100000 in
theorem c_L_parts (l : Launch) {g : GE} {h : Nat → va_E} {kd : Nat} {gd : Nat → Int32} (D : RaA g h kd 0 13 gd) {N : Nat} {A : Nat → Nat} (hN : (gd 12).toInt = (N : Int)) (hN4 : N ≤ 4) (hA : ∀ i, i < N → (gd i).toInt = (A i : Int) ∧ A i ≤ 3) (p1 p2 : Int32) {f : Nat} (hp1 : p1.toInt = (f : Int)) (hf : f < N) : MI l yL_parts wsL_parts rm_L_parts [.ref (g.2.2.1 kd), .int p1, .int p2] g h (fun r h2 => h2 = h ∧ PtQ N A f (mNum p2.toInt) r.toInt) := by
  refine Met.ofW (cc := cL_parts) (maxL := 4) (ret := (some .int)) (by decide) rfl ?_
  intro p e s m args below meth c s₁ B hml hv
  obtain ⟨rfl, w0⟩ := hv
  have hx := B.exec
  have hb := B.bytes
  have hr := B.returns
  have hts := atoms_spec (ws := wsL_parts) B.pre
  have hown : s.vm.findClass RL = some m.cls := findClass_of_methodNamed B.named
  have hlocks := B.notSynchronized
  have w := w0.start
  clear w0
  have hl := lv_entry ([.ref (g.2.2.1 kd), .int p1, .int p2]) (n := 4) (Nat.le_of_ble_eq_true rfl)
  rw [lg_entry_eq]
  generalize (lg_sl ([.ref (g.2.2.1 kd), .int p1, .int p2]) ++ List.replicate (4 - (lg_sl ([.ref (g.2.2.1 kd), .int p1, .int p2])).length) Slot.unset).toArray = ls at hl ⊢
  have hl : lv_has ls 4 [(0, .ref (g.2.2.1 kd)), (1, .int p1), (2, .int p2)] := hl
  have hAf := hA f hf
  refine lv_iload_n hx hb dL_parts_0 rfl (lv_at hl 2 rfl) ?_
  refine r_callI w (va_runS (As := [.int p2]) (rest := []) ⟨hx, hb, hml, hown, hts⟩ (c_L_place l (g := g) (h := h) p2) (va_cwS 1 hts gL_parts_L_place rfl rfl rfl (by decide +kernel) ⟨Nat.le_of_ble_eq_true rfl, Nat.le_of_ble_eq_true rfl⟩) (r_preS w) rfl rfl hl.1 rfl (lv_room (Nat.le_of_ble_eq_true rfl)) dL_parts_1 ⟨Nat.zero_le _, Nat.zero_le _⟩) (fun r2 h1 H locs hp w => ?_)
  obtain ⟨eh_, qq3⟩ := hp
  have eh_ := eh_.symm
  subst eh_
  have hle_r2 := mNum_le (p2).toInt
  refine lv_istore_n (lv' := [(3, .int r2), (0, .ref (g.2.2.1 kd)), (1, .int p1), (2, .int p2)]) hx hb dL_parts_4 rfl hl (by decide) rfl (fun ls hl => ?_)
  refine lv_iload_n hx hb dL_parts_5 rfl (lv_at hl 0 rfl) ?_
  refine lv_iconst (v := 3) hx hb dL_parts_6 (by decide) ?_
  refine lv_icmp_ge (tgt := 14) hx hb dL_parts_7 (by decide) (fun c4 => ?_) (fun c4 => ?_)
  · have c4 : ((3 : Nat) : Int) ≤ (((mNum p2.toInt) : Nat) : Int) := (i_le (by decide : (3 : Int32).toInt = ((3 : Nat) : Int)) qq3).mp c4
    refine lv_iload_n hx hb dL_parts_14 rfl (lv_at hl 0 rfl) ?_
    refine lv_bipush (v := 6) hx hb dL_parts_15 (by decide) ?_
    refine lv_icmp_ge (tgt := 37) hx hb dL_parts_17 (by decide) (fun c5 => ?_) (fun c5 => ?_)
    · have c5 : ((6 : Nat) : Int) ≤ (((mNum p2.toInt) : Nat) : Int) := (i_le (by decide : (6 : Int32).toInt = ((6 : Nat) : Int)) qq3).mp c5
      refine lv_iload_n hx hb dL_parts_37 rfl (lv_at hl 0 rfl) ?_
      refine lv_bipush (v := 6) hx hb dL_parts_38 (by decide) ?_
      refine lv_icmp_ne (tgt := 47) hx hb dL_parts_40 (by decide) (fun c6 => ?_) (fun c6 => ?_)
      · have c6 : ¬ ((((mNum p2.toInt) : Nat) : Int) = ((6 : Nat) : Int)) := fun q => c6 ((i_eq qq3 (by decide : (6 : Int32).toInt = ((6 : Nat) : Int))).mpr q)
        refine lv_iload_n hx hb dL_parts_47 rfl (lv_at hl 0 rfl) ?_
        refine lv_bipush (v := 9) hx hb dL_parts_48 (by decide) ?_
        refine lv_icmp_ge (tgt := 57) hx hb dL_parts_50 (by decide) (fun c7 => ?_) (fun c7 => ?_)
        · have c7 : ((9 : Nat) : Int) ≤ (((mNum p2.toInt) : Nat) : Int) := (i_le (by decide : (9 : Int32).toInt = ((9 : Nat) : Int)) qq3).mp c7
          refine lv_iload_n hx hb dL_parts_57 rfl (lv_at hl 0 rfl) ?_
          refine lv_bipush (v := 9) hx hb dL_parts_58 (by decide) ?_
          refine lv_icmp_ne (tgt := 67) hx hb dL_parts_60 (by decide) (fun c8 => ?_) (fun c8 => ?_)
          · have c8 : ¬ ((((mNum p2.toInt) : Nat) : Int) = ((9 : Nat) : Int)) := fun q => c8 ((i_eq qq3 (by decide : (9 : Int32).toInt = ((9 : Nat) : Int))).mpr q)
            refine lv_iload_n hx hb dL_parts_67 rfl (lv_at hl 0 rfl) ?_
            refine lv_bipush (v := 14) hx hb dL_parts_68 (by decide) ?_
            refine lv_icmp_ge (tgt := 93) hx hb dL_parts_70 (by decide) (fun c9 => ?_) (fun c9 => ?_)
            · have c9 : ((14 : Nat) : Int) ≤ (((mNum p2.toInt) : Nat) : Int) := (i_le (by decide : (14 : Int32).toInt = ((14 : Nat) : Int)) qq3).mp c9
              refine lv_iconst (v := (-1)) hx hb dL_parts_93 (by decide) ?_
              refine r_iret (v := (-1)) hx hb hr hlocks w dL_parts_94 ?_
              refine ⟨rfl, ?_⟩
              have hr_ := (by decide : (-1 : Int32).toInt = (-1 : Int))
              unfold PtQ mMay
              first | exact Or.inr ⟨by omega, by rw [hr_]; (try rfl)⟩ | refine Or.inl ⟨by omega, by omega, ?_⟩
              all_goals (unfold mParts; rw [hr_]; split <;> (try split) <;> (try split) <;> (try split) <;> first | rfl | omega | (congr 2; omega) | (exfalso; omega))
            · have c9 : ¬ (((14 : Nat) : Int) ≤ (((mNum p2.toInt) : Nat) : Int)) := fun q => c9 ((i_le (by decide : (14 : Int32).toInt = ((14 : Nat) : Int)) qq3).mpr q)
              refine lv_iload_n hx hb dL_parts_73 rfl (lv_at hl 0 rfl) ?_
              refine lv_bipush (v := 10) hx hb dL_parts_74 (by decide) ?_
              refine lv_isub hx hb dL_parts_76 ?_
              refine lv_topi (fun y10 ey10 => ?_)
              have ty10 : y10.toInt = ((((mNum p2.toInt) - 10) : Nat) : Int) := i_subN ey10 qq3 (by decide : (10 : Int32).toInt = ((10 : Nat) : Int)) (by omega)
              refine lv_aload_n hx hb dL_parts_77 rfl (lv_at hl 1 rfl) ?_
              refine lv_bipush (v := 12) hx hb dL_parts_78 (by decide) ?_
              refine r_iald (j := 12) hx hb w D.1 D.2 (by decide : (12 : Int32).toInt = ((12 : Nat) : Int)) (by omega) dL_parts_80 ?_
              refine lv_icmp_ge (tgt := 93) hx hb dL_parts_81 (by decide) (fun c11 => ?_) (fun c11 => ?_)
              · have c11 : ((N : Nat) : Int) ≤ ((((mNum p2.toInt) - 10) : Nat) : Int) := (i_le hN ty10).mp c11
                refine lv_iconst (v := (-1)) hx hb dL_parts_93 (by decide) ?_
                refine r_iret (v := (-1)) hx hb hr hlocks w dL_parts_94 ?_
                refine ⟨rfl, ?_⟩
                have hr_ := (by decide : (-1 : Int32).toInt = (-1 : Int))
                unfold PtQ mMay
                first | exact Or.inr ⟨by omega, by rw [hr_]; (try rfl)⟩ | refine Or.inl ⟨by omega, by omega, ?_⟩
                all_goals (unfold mParts; rw [hr_]; split <;> (try split) <;> (try split) <;> (try split) <;> first | rfl | omega | (congr 2; omega) | (exfalso; omega))
              · have c11 : ¬ (((N : Nat) : Int) ≤ ((((mNum p2.toInt) - 10) : Nat) : Int)) := fun q => c11 ((i_le hN ty10).mpr q)
                refine lv_aload_n hx hb dL_parts_84 rfl (lv_at hl 1 rfl) ?_
                refine lv_iload_n hx hb dL_parts_85 rfl (lv_at hl 0 rfl) ?_
                refine lv_bipush (v := 10) hx hb dL_parts_86 (by decide) ?_
                refine lv_isub hx hb dL_parts_88 ?_
                refine lv_topi (fun y12 ey12 => ?_)
                have ty12 : y12.toInt = ((((mNum p2.toInt) - 10) : Nat) : Int) := i_subN ey12 qq3 (by decide : (10 : Int32).toInt = ((10 : Nat) : Int)) (by omega)
                refine r_iald (j := ((mNum p2.toInt) - 10)) hx hb w D.1 D.2 ty12 (by omega) dL_parts_89 ?_
                refine lv_goto (tgt := 94) hx hb dL_parts_90 (by decide) ?_
                refine r_iret (v := gd (((mNum p2.toInt) - 10))) hx hb hr hlocks w dL_parts_94 ?_
                refine ⟨rfl, ?_⟩
                have hr_ := (hA (((mNum p2.toInt) - 10)) (by omega)).1
                unfold PtQ mMay
                first | exact Or.inr ⟨by omega, by rw [hr_]; (try rfl)⟩ | refine Or.inl ⟨by omega, by omega, ?_⟩
                all_goals (unfold mParts; rw [hr_]; split <;> (try split) <;> (try split) <;> (try split) <;> first | rfl | omega | (congr 2; omega) | (exfalso; omega))
          · have c8 : (((mNum p2.toInt) : Nat) : Int) = ((9 : Nat) : Int) := (i_eq qq3 (by decide : (9 : Int32).toInt = ((9 : Nat) : Int))).mp c8
            refine lv_iconst (v := 3) hx hb dL_parts_63 (by decide) ?_
            refine lv_goto (tgt := 94) hx hb dL_parts_64 (by decide) ?_
            refine r_iret (v := 3) hx hb hr hlocks w dL_parts_94 ?_
            refine ⟨rfl, ?_⟩
            have hr_ := (by decide : (3 : Int32).toInt = ((3 : Nat) : Int))
            unfold PtQ mMay
            first | exact Or.inr ⟨by omega, by rw [hr_]; (try rfl)⟩ | refine Or.inl ⟨by omega, by omega, ?_⟩
            all_goals (unfold mParts; rw [hr_]; split <;> (try split) <;> (try split) <;> (try split) <;> first | rfl | omega | (congr 2; omega) | (exfalso; omega))
        · have c7 : ¬ (((9 : Nat) : Int) ≤ (((mNum p2.toInt) : Nat) : Int)) := fun q => c7 ((i_le (by decide : (9 : Int32).toInt = ((9 : Nat) : Int)) qq3).mpr q)
          refine lv_iconst (v := 2) hx hb dL_parts_53 (by decide) ?_
          refine lv_goto (tgt := 94) hx hb dL_parts_54 (by decide) ?_
          refine r_iret (v := 2) hx hb hr hlocks w dL_parts_94 ?_
          refine ⟨rfl, ?_⟩
          have hr_ := (by decide : (2 : Int32).toInt = ((2 : Nat) : Int))
          unfold PtQ mMay
          first | exact Or.inr ⟨by omega, by rw [hr_]; (try rfl)⟩ | refine Or.inl ⟨by omega, by omega, ?_⟩
          all_goals (unfold mParts; rw [hr_]; split <;> (try split) <;> (try split) <;> (try split) <;> first | rfl | omega | (congr 2; omega) | (exfalso; omega))
      · have c6 : (((mNum p2.toInt) : Nat) : Int) = ((6 : Nat) : Int) := (i_eq qq3 (by decide : (6 : Int32).toInt = ((6 : Nat) : Int))).mp c6
        refine lv_iconst (v := 1) hx hb dL_parts_43 (by decide) ?_
        refine lv_goto (tgt := 94) hx hb dL_parts_44 (by decide) ?_
        refine r_iret (v := 1) hx hb hr hlocks w dL_parts_94 ?_
        refine ⟨rfl, ?_⟩
        have hr_ := (by decide : (1 : Int32).toInt = ((1 : Nat) : Int))
        unfold PtQ mMay
        first | exact Or.inr ⟨by omega, by rw [hr_]; (try rfl)⟩ | refine Or.inl ⟨by omega, by omega, ?_⟩
        all_goals (unfold mParts; rw [hr_]; split <;> (try split) <;> (try split) <;> (try split) <;> first | rfl | omega | (congr 2; omega) | (exfalso; omega))
    · have c5 : ¬ (((6 : Nat) : Int) ≤ (((mNum p2.toInt) : Nat) : Int)) := fun q => c5 ((i_le (by decide : (6 : Int32).toInt = ((6 : Nat) : Int)) qq3).mpr q)
      refine lv_iload_n hx hb dL_parts_20 rfl (lv_at hl 0 rfl) ?_
      refine lv_iconst (v := 3) hx hb dL_parts_21 (by decide) ?_
      refine lv_isub hx hb dL_parts_22 ?_
      refine lv_topi (fun y13 ey13 => ?_)
      have ty13 : y13.toInt = (((mNum p2.toInt) : Nat) : Int) - ((3 : Nat) : Int) := i_sub ey13 qq3 (by decide : (3 : Int32).toInt = ((3 : Nat) : Int)) (by omega)
      refine lv_aload_n hx hb dL_parts_23 rfl (lv_at hl 1 rfl) ?_
      refine lv_iload_n hx hb dL_parts_24 rfl (lv_at hl 2 rfl) ?_
      refine r_iald (j := f) hx hb w D.1 D.2 hp1 (by omega) dL_parts_25 ?_
      refine lv_icmp_ge (tgt := 33) hx hb dL_parts_26 (by decide) (fun c14 => ?_) (fun c14 => ?_)
      · have c14 : (((A f) : Nat) : Int) ≤ ((((mNum p2.toInt) : Nat) : Int) - ((3 : Nat) : Int)) := (i_le (hA f (by omega)).1 ty13).mp c14
        refine lv_iconst (v := (-1)) hx hb dL_parts_33 (by decide) ?_
        refine lv_goto (tgt := 94) hx hb dL_parts_34 (by decide) ?_
        refine r_iret (v := (-1)) hx hb hr hlocks w dL_parts_94 ?_
        refine ⟨rfl, ?_⟩
        have hr_ := (by decide : (-1 : Int32).toInt = (-1 : Int))
        unfold PtQ mMay
        first | exact Or.inr ⟨by omega, by rw [hr_]; (try rfl)⟩ | refine Or.inl ⟨by omega, by omega, ?_⟩
        all_goals (unfold mParts; rw [hr_]; split <;> (try split) <;> (try split) <;> (try split) <;> first | rfl | omega | (congr 2; omega) | (exfalso; omega))
      · have c14 : ¬ ((((A f) : Nat) : Int) ≤ ((((mNum p2.toInt) : Nat) : Int) - ((3 : Nat) : Int))) := fun q => c14 ((i_le (hA f (by omega)).1 ty13).mpr q)
        refine lv_iconst (v := 0) hx hb dL_parts_29 (by decide) ?_
        refine lv_goto (tgt := 94) hx hb dL_parts_30 (by decide) ?_
        refine r_iret (v := 0) hx hb hr hlocks w dL_parts_94 ?_
        refine ⟨rfl, ?_⟩
        have hr_ := (by decide : (0 : Int32).toInt = ((0 : Nat) : Int))
        unfold PtQ mMay
        first | exact Or.inr ⟨by omega, by rw [hr_]; (try rfl)⟩ | refine Or.inl ⟨by omega, by omega, ?_⟩
        all_goals (unfold mParts; rw [hr_]; split <;> (try split) <;> (try split) <;> (try split) <;> first | rfl | omega | (congr 2; omega) | (exfalso; omega))
  · have c4 : ¬ (((3 : Nat) : Int) ≤ (((mNum p2.toInt) : Nat) : Int)) := fun q => c4 ((i_le (by decide : (3 : Int32).toInt = ((3 : Nat) : Int)) qq3).mpr q)
    refine lv_iconst (v := 0) hx hb dL_parts_10 (by decide) ?_
    refine lv_goto (tgt := 94) hx hb dL_parts_11 (by decide) ?_
    refine r_iret (v := 0) hx hb hr hlocks w dL_parts_94 ?_
    refine ⟨rfl, ?_⟩
    have hr_ := (by decide : (0 : Int32).toInt = ((0 : Nat) : Int))
    unfold PtQ mMay
    first | exact Or.inr ⟨by omega, by rw [hr_]; (try rfl)⟩ | refine Or.inl ⟨by omega, by omega, ?_⟩
    all_goals (unfold mParts; rw [hr_]; split <;> (try split) <;> (try split) <;> (try split) <;> first | rfl | omega | (congr 2; omega) | (exfalso; omega))

