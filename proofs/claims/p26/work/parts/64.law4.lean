-- ===== FUNCTIONS ARE DRAWN, WRITTEN, LAID =====
theorem wipe_0 {s s2 : ST} {r : Int32} (A : AnWipe s r s2) : TxL s2 [] := by
  rw [A.2]
  exact ⟨rfl, fun i hi => absurd hi (Nat.not_lt_zero _)⟩
theorem wipe_pos {s s2 : ST} {r : Int32} (A : AnWipe s r s2) (h : 0 < sL s) : ¬ r.toInt ≤ 0 ∧ sM s2 = sM s ∧ sV s2 = sV s := by
  refine ⟨by have := A.1; omega, ?_, ?_⟩ <;> rw [A.2]
/-- functions told so far by the arrays -/
def BLQ (nf : Nat) (A L : Nat → Nat) (B : Nat → Nat → Nat) (gd gb : Nat → Int32) (f : Nat) : Prop := ∀ i, i < f → (gd (8 + i)).toInt = ((L i : Nat) : Int) ∧ 1 ≤ L i ∧ L i ≤ 14 ∧ BdI nf A i (B i) gb (L i) ∧ dpF nf A (B i) (L i) = 0
theorem BLQ.up {nf : Nat} {A L : Nat → Nat} {B : Nat → Nat → Nat} {gd gb gd2 gb2 : Nat → Int32} {f n : Nat} {bb : Nat → Nat} (h : BLQ nf A L B gd gb f) (h1 : (gd2 (8 + f)).toInt = ((n : Nat) : Int)) (h2 : ∀ q, q ≠ 8 + f → gd2 q = gd q) (h3 : 1 ≤ n) (h4 : n ≤ 14) (h5 : BdI nf A f bb gb2 n) (h6 : dpF nf A bb n = 0) (h7 : ∀ q, ¬ (16 * f ≤ q ∧ q < 16 * f + 16) → gb2 q = gb q) :
    BLQ nf A (fun i => if i = f then n else L i) (fun i => if i = f then bb else B i) gd2 gb2 (f + 1) := by
  intro i hi
  dsimp only
  by_cases q : i = f
  · subst q
    rw [if_pos rfl, if_pos rfl]
    exact ⟨h1, h3, h4, h5, h6⟩
  · rw [if_neg q, if_neg q]
    obtain ⟨a, b, c, d, e⟩ := h i (by omega)
    exact ⟨by rw [h2 _ (by omega)]; exact a, b, c, d.fr q (by omega) h7, e⟩
def txH (nf : Nat) (A K L : Nat → Nat) (B : Nat → Nat → Nat) (f : Nat) : List Nat := hdrD A nf ++ [59] ++ fnsT K L B f
def txK (nf : Nat) (A K L : Nat → Nat) (B : Nat → Nat → Nat) (f k : Nat) : List Nat := txH nf A K L B f ++ [102] ++ [48 + K f] ++ [44] ++ (List.range k).map (fun j => mCode (B f j))
section TXH
variable {nf : Nat} {A K L : Nat → Nat} {B : Nat → Nat → Nat} {f k : Nat} {gd gb : Nat → Int32}
theorem txH_len (hf : f ≤ 4) (hL : BLQ nf A L B gd gb f) : (txH nf A K L B f).length ≤ nf + 2 + 18 * f := by
  have := fnsT_len (K := K) (L := L) (B := B) (f := f) (fun i hi => (hL i hi).2.2.1)
  unfold txH
  simp only [List.length_append, hdrD_len, List.length_cons, List.length_nil]; omega
theorem txK_len (hf : f ≤ 4) (hL : BLQ nf A L B gd gb f) : (txK nf A K L B f k).length ≤ nf + 5 + 18 * f + k := by
  have := txH_len (K := K) hf hL
  unfold txK
  simp only [List.length_append, List.length_map, List.length_range, List.length_cons, List.length_nil]; omega
theorem txK_up : txK nf A K L B f (k + 1) = txK nf A K L B f k ++ [mCode (B f k)] := by
  unfold txK
  rw [List.range_succ, List.map_append, ← List.append_assoc]; rfl
theorem txK_end : txK nf A K L B f (L f) ++ [59] = txH nf A K L B (f + 1) := by
  show _ = hdrD A nf ++ [59] ++ (fnsT K L B f ++ fnT (K f) (L f) (B f))
  unfold fnT txK txH
  simp [List.append_assoc]
theorem txK_0 : txK nf A K L B f 0 = txH nf A K L B f ++ [102] ++ [48 + K f] ++ [44] := by
  unfold txK; simp
theorem txH_cg {n : Nat} {bb : Nat → Nat} : txH nf A K (fun i => if i = f then n else L i) (fun i => if i = f then bb else B i) f = txH nf A K L B f := by
  unfold txH
  rw [fnsT_cg]
  intro i hi
  exact ⟨if_neg (by omega), if_neg (by omega)⟩
theorem drawn (h1 : 1 ≤ nf) (h4 : nf ≤ 4) (hA : ∀ i, i < nf → (gd i).toInt = ((A i : Nat) : Int) ∧ A i ≤ 3) (hK : ∀ i, i < nf → (gd (4 + i)).toInt = ((K i : Nat) : Int) ∧ K i ≤ 3) (hL : BLQ nf A L B gd gb nf) : DrQ nf A K L B := by
  refine ⟨h1, h4, fun i hi => ?_⟩
  obtain ⟨a, b, c, d, e⟩ := hL i hi
  exact ⟨(hA i hi).2, (hK i hi).2, b, c, fun j hj => ⟨(d j hj).2.1, (d j hj).2.2.1, (d j hj).2.2.2⟩, e⟩
theorem drawn_D {M : PRG} (h4 : nf ≤ 4) (h12 : (gd 12).toInt = ((nf : Nat) : Int)) (hA : ∀ i, i < nf → (gd i).toInt = ((A i : Nat) : Int) ∧ A i ≤ 3) (hK : ∀ i, i < nf → (gd (4 + i)).toInt = ((K i : Nat) : Int) ∧ K i ≤ 3) (hL : BLQ nf A L B gd gb nf) (e1 : pN M = nf) (e2 : ∀ i, i < nf → pA M i = A i) (e3 : ∀ i, i < nf → pK M i = K i ∧ pL M i = L i ∧ ∀ j, j < L i → pB M i j = B i j) : AlD M gd ∧ AlB M gb := by
  refine ⟨⟨by rw [e1]; exact h12, fun i hi => ?_⟩, fun i j hi hj => ?_⟩
  · rw [e1] at hi
    rw [e2 i hi, (e3 i hi).1, (e3 i hi).2.1]
    exact ⟨(hA i hi).1, (hK i hi).1, (hL i hi).1, (hL i hi).2.2.1⟩
  · rw [e1] at hi
    rw [(e3 i hi).2.1] at hj
    rw [(e3 i hi).2.2 j hj]
    exact ((hL i hi).2.2.2.1 j hj).1
end TXH
abbrev rm_L_functions : Room := { frames := 10, cells := 0, slots := 0, locals := 218 }
set_option maxHeartbeats 4000000 in
set_option maxRecDepth 100000 in
theorem c_L_functions (l : Launch) {g : GE} {h : Nat → va_E} {sa sL : Nat} {sx : Nat → Int32} {x : Nat} {st0 : ST} (C : ClsA g h x st0) {kd kb : Nat} {gd gb : Nat → Int32} (D : RaA g h kd 0 13 gd) (Bt : RaA g h kb 0 64 gb) (hkd : x + 143 ≤ kd) (hkb : x + 143 ≤ kb) (hdb : kd ≠ kb) : MIs l yL_functions wsL_functions rm_L_functions [.ref (g.2.2.1 x), .ref sa, .ref (g.2.2.1 kd), .ref (g.2.2.1 kb)] g h sa sL sx (fun r h2 => (∀ k_, ¬ (x ≤ k_ ∧ k_ < x + 143 ∨ k_ = kd ∨ k_ = kb) → h2 k_ = h k_) ∧ r = 1 ∧ ∃ (s2 : ST) (gd2 gb2 : Nat → Int32), ClsA g h2 x s2 ∧ RaA g h2 kd 0 13 gd2 ∧ RaA g h2 kb 0 64 gb2 ∧ AlD (sM s2) gd2 ∧ AlB (sM s2) gb2 ∧ sV s2 = 0) := by
  refine Met.ofW (cc := cL_functions) (maxL := 7) (ret := (some .boolean)) (by decide) rfl ?_
  intro p e s m args below meth c s₁ B hml hv
  obtain ⟨rfl, w0, hsc⟩ := hv
  have hx := B.exec
  have hb := B.bytes
  have hr := B.returns
  have hts := atoms_spec (ws := wsL_functions) B.pre
  have hown : s.vm.findClass RL = some m.cls := findClass_of_methodNamed B.named
  have hlocks := B.notSynchronized
  have w := w0.start
  clear w0
  have hl := lv_entry ([.ref (g.2.2.1 x), .ref sa, .ref (g.2.2.1 kd), .ref (g.2.2.1 kb)]) (n := 7) (Nat.le_of_ble_eq_true rfl)
  rw [lg_entry_eq]
  generalize (lg_sl ([.ref (g.2.2.1 x), .ref sa, .ref (g.2.2.1 kd), .ref (g.2.2.1 kb)]) ++ List.replicate (7 - (lg_sl ([.ref (g.2.2.1 x), .ref sa, .ref (g.2.2.1 kd), .ref (g.2.2.1 kb)])).length) Slot.unset).toArray = ls at hl ⊢
  have hl : lv_has ls 7 [(0, .ref (g.2.2.1 x)), (1, .ref sa), (2, .ref (g.2.2.1 kd)), (3, .ref (g.2.2.1 kb))] := hl
  have hfr : ∀ k_, ¬ (x ≤ k_ ∧ k_ < x + 143 ∨ k_ = kd ∨ k_ = kb) → h k_ = h k_ := fun _ _ => rfl
  have cuts : ∀ N : Nat, (∀ (nf : Nat) (st1 : ST) (A : Nat → Nat) (K : Nat → Nat) (gd1 : Nat → Int32) (x4 : Int32) (x5 : Int32) (f : Nat) (hc : Nat → va_E) (H : Heap) (locs : List Loc) (ls : Array Slot), WD g (inW g) s hc H locs → lv_has ls 7 [(0, .ref (g.2.2.1 x)), (1, .ref sa), (2, .ref (g.2.2.1 kd)), (3, .ref (g.2.2.1 kb)), (4, .int x4), (5, .int x5)] → (1 ≤ nf) → (nf ≤ 4) → ((gd1 12).toInt = ((nf : Nat) : Int)) → (x5.toInt = ((f : Nat) : Int)) → (f ≤ nf) → (TxL st1 (hdrD A f)) → (∀ j_, j_ < f → (gd1 j_).toInt = ((A j_ : Nat) : Int) ∧ A j_ ≤ 3 ∧ (gd1 (4 + j_)).toInt = ((K j_ : Nat) : Int) ∧ K j_ ≤ 3) → (ClsA g hc x st1) → (RaA g hc kd 0 13 gd1) → (RaA g hc kb 0 64 gb) → (∀ k_, ¬ (x ≤ k_ ∧ k_ < x + 143 ∨ k_ = kd ∨ k_ = kb) → hc k_ = h k_) → 200 + 4 * (nf - f) < N → W p l e (headSpec wsL_functions rm_L_functions).room s m ([.ref (g.2.2.1 x), .ref sa, .ref (g.2.2.1 kd), .ref (g.2.2.1 kb)] : List Value).toArray below meth c H locs 0 0 (MQ below (va_Qi (fun r h2 => (∀ k_, ¬ (x ≤ k_ ∧ k_ < x + 143 ∨ k_ = kd ∨ k_ = kb) → h2 k_ = h k_) ∧ r = 1 ∧ ∃ (s2 : ST) (gd2 gb2 : Nat → Int32), ClsA g h2 x s2 ∧ RaA g h2 kd 0 13 gd2 ∧ RaA g h2 kb 0 64 gb2 ∧ AlD (sM s2) gd2 ∧ AlB (sM s2) gb2 ∧ sV s2 = 0) (Wd g) (inW g)) ([.ref (g.2.2.1 x), .ref sa, .ref (g.2.2.1 kd), .ref (g.2.2.1 kb)] : List Value).toArray s 0 0 (inW g)) (F0 m 34 ls [])) ∧ (∀ (nf : Nat) (st1 : ST) (A : Nat → Nat) (K : Nat → Nat) (gd1 : Nat → Int32) (x4 : Int32) (x5 : Int32) (f : Nat) (L : Nat → Nat) (Bf : Nat → Nat → Nat) (gb1 : Nat → Int32) (hc : Nat → va_E) (H : Heap) (locs : List Loc) (ls : Array Slot), WD g (inW g) s hc H locs → lv_has ls 7 [(0, .ref (g.2.2.1 x)), (1, .ref sa), (2, .ref (g.2.2.1 kd)), (3, .ref (g.2.2.1 kb)), (4, .int x4), (5, .int x5)] → (1 ≤ nf) → (nf ≤ 4) → ((gd1 12).toInt = ((nf : Nat) : Int)) → (x5.toInt = ((f : Nat) : Int)) → (f ≤ nf) → (∀ j_, j_ < nf → (gd1 j_).toInt = ((A j_ : Nat) : Int) ∧ A j_ ≤ 3) → (∀ j_, j_ < nf → (gd1 (4 + j_)).toInt = ((K j_ : Nat) : Int) ∧ K j_ ≤ 3) → (BLQ nf A L Bf gd1 gb1 f) → (TxL st1 (txH nf A K L Bf f)) → (ClsA g hc x st1) → (RaA g hc kd 0 13 gd1) → (RaA g hc kb 0 64 gb1) → (∀ k_, ¬ (x ≤ k_ ∧ k_ < x + 143 ∨ k_ = kd ∨ k_ = kb) → hc k_ = h k_) → 20 * (nf - f) + 19 < N → W p l e (headSpec wsL_functions rm_L_functions).room s m ([.ref (g.2.2.1 x), .ref sa, .ref (g.2.2.1 kd), .ref (g.2.2.1 kb)] : List Value).toArray below meth c H locs 0 0 (MQ below (va_Qi (fun r h2 => (∀ k_, ¬ (x ≤ k_ ∧ k_ < x + 143 ∨ k_ = kd ∨ k_ = kb) → h2 k_ = h k_) ∧ r = 1 ∧ ∃ (s2 : ST) (gd2 gb2 : Nat → Int32), ClsA g h2 x s2 ∧ RaA g h2 kd 0 13 gd2 ∧ RaA g h2 kb 0 64 gb2 ∧ AlD (sM s2) gd2 ∧ AlB (sM s2) gb2 ∧ sV s2 = 0) (Wd g) (inW g)) ([.ref (g.2.2.1 x), .ref sa, .ref (g.2.2.1 kd), .ref (g.2.2.1 kb)] : List Value).toArray s 0 0 (inW g)) (F0 m 152 ls [])) ∧ (∀ (nf : Nat) (st1 : ST) (A : Nat → Nat) (K : Nat → Nat) (gd1 : Nat → Int32) (x4 : Int32) (x5 : Int32) (f : Nat) (L : Nat → Nat) (Bf : Nat → Nat → Nat) (gb1 : Nat → Int32) (k : Nat) (x6 : Int32) (hc : Nat → va_E) (H : Heap) (locs : List Loc) (ls : Array Slot), WD g (inW g) s hc H locs → lv_has ls 7 [(0, .ref (g.2.2.1 x)), (1, .ref sa), (2, .ref (g.2.2.1 kd)), (3, .ref (g.2.2.1 kb)), (4, .int x4), (5, .int x5), (6, .int x6)] → (1 ≤ nf) → (nf ≤ 4) → ((gd1 12).toInt = ((nf : Nat) : Int)) → (x5.toInt = ((f : Nat) : Int)) → (f < nf) → (∀ j_, j_ < nf → (gd1 j_).toInt = ((A j_ : Nat) : Int) ∧ A j_ ≤ 3) → (∀ j_, j_ < nf → (gd1 (4 + j_)).toInt = ((K j_ : Nat) : Int) ∧ K j_ ≤ 3) → (BLQ nf A L Bf gd1 gb1 (f + 1)) → (x6.toInt = ((k : Nat) : Int)) → (k ≤ L f) → (TxL st1 (txK nf A K L Bf f k)) → (ClsA g hc x st1) → (RaA g hc kd 0 13 gd1) → (RaA g hc kb 0 64 gb1) → (∀ k_, ¬ (x ≤ k_ ∧ k_ < x + 143 ∨ k_ = kd ∨ k_ = kb) → hc k_ = h k_) → 20 * (nf - f) + (L f - k) < N → W p l e (headSpec wsL_functions rm_L_functions).room s m ([.ref (g.2.2.1 x), .ref sa, .ref (g.2.2.1 kd), .ref (g.2.2.1 kb)] : List Value).toArray below meth c H locs 0 0 (MQ below (va_Qi (fun r h2 => (∀ k_, ¬ (x ≤ k_ ∧ k_ < x + 143 ∨ k_ = kd ∨ k_ = kb) → h2 k_ = h k_) ∧ r = 1 ∧ ∃ (s2 : ST) (gd2 gb2 : Nat → Int32), ClsA g h2 x s2 ∧ RaA g h2 kd 0 13 gd2 ∧ RaA g h2 kb 0 64 gb2 ∧ AlD (sM s2) gd2 ∧ AlB (sM s2) gb2 ∧ sV s2 = 0) (Wd g) (inW g)) ([.ref (g.2.2.1 x), .ref sa, .ref (g.2.2.1 kd), .ref (g.2.2.1 kb)] : List Value).toArray s 0 0 (inW g)) (F0 m 215 ls [])) := by
    intro N
    induction N with
    | zero => exact ⟨by intros; omega, by intros; omega, by intros; omega⟩
    | succ N ih =>
      obtain ⟨ih34, ih152, ih215⟩ := ih
      refine ⟨?_, ?_, ?_⟩
      · intro nf st1 A K gd1 x4 x5 f hc H locs ls w hl h1n hn4 h12 hx5 hf hTx hAK C D Bt hfr hN_
        have hT_ := hTx
        refine lv_iload hx hb dL_functions_34 (lv_at hl 5 rfl) ?_
        refine lv_aload_n hx hb dL_functions_36 rfl (lv_at hl 2 rfl) ?_
        refine lv_bipush (v := 12) hx hb dL_functions_37 (by decide) ?_
        refine r_iald (j := 12) hx hb w D.1 D.2 (by decide : (12 : Int32).toInt = ((12 : Nat) : Int)) (by omega) dL_functions_39 ?_
        refine lv_icmp_ge (tgt := 142) hx hb dL_functions_40 (by decide) (fun c1 => ?_) (fun c1 => ?_)
        · have c1 : ((nf : Nat) : Int) ≤ ((f : Nat) : Int) := (i_le h12 hx5).mp c1
          refine lv_aload_n hx hb dL_functions_142 rfl (lv_at hl 0 rfl) ?_
          refine lv_bipush (v := 59) hx hb dL_functions_143 (by decide) ?_
          refine r_callI w (va_runV (As := [.int 59]) (rest := []) ⟨hx, hb, hml, hown, hts⟩ (c_X8_write l C 59) (cwV 1 hts gL_functions_X8_write rfl rfl rfl (by decide +kernel) ⟨Nat.le_of_ble_eq_true rfl, Nat.le_of_ble_eq_true rfl⟩) (r_preV w (by have := C.hN; omega) C.ob.choose_spec rfl) rfl rfl hl.1 rfl (lv_room (Nat.le_of_ble_eq_true rfl)) dL_functions_145 ⟨Nat.zero_le _, Nat.zero_le _⟩) (fun r3 h2 H locs hp w => ?_)
          obtain ⟨hfk4, sk4, C, Ak4⟩ := hp
          have D := D.fr (h' := h2) (fun k_ h1_ h2_ => hfk4 k_ (by omega))
          have Bt := Bt.fr (h' := h2) (fun k_ h1_ h2_ => hfk4 k_ (by omega))
          have hfr : ∀ k_, ¬ (x ≤ k_ ∧ k_ < x + 143 ∨ k_ = kd ∨ k_ = kb) → h2 k_ = h k_ := fun k_ hk_ => (hfk4 k_ (by omega)).trans (hfr k_ hk_)
          have hTx5 := hTx.wr Ak4 (by decide : (59 : Int32).toInt = ((59 : Nat) : Int)) (by omega) (by rw [hdrD_len]; omega)
          refine lv_pop hx hb dL_functions_148 rfl ?_
          refine lv_iconst (v := 0) hx hb dL_functions_149 (by decide) ?_
          refine lv_istore (lv' := [(5, .int 0), (0, .ref (g.2.2.1 x)), (1, .ref sa), (2, .ref (g.2.2.1 kd)), (3, .ref (g.2.2.1 kb)), (4, .int x4)]) hx hb dL_functions_150 hl (by decide) rfl (fun ls hl => ?_)
          exact ih152 nf sk4 A K gd1 x4 0 0 ((fun _ => 0)) ((fun _ _ => 0)) gb h2 _ _ _ w (lv_sub hl [1, 2, 3, 4, 5, 0] rfl) h1n hn4 h12 ((by decide : (0 : Int32).toInt = ((0 : Nat) : Int))) (Nat.zero_le _) (fun j_ hj_ => ⟨(hAK j_ (by omega)).1, (hAK j_ (by omega)).2.1⟩) (fun j_ hj_ => ⟨(hAK j_ (by omega)).2.2.1, (hAK j_ (by omega)).2.2.2⟩) (fun j_ hj_ => absurd hj_ (Nat.not_lt_zero _)) ((by show TxL _ (hdrD A nf ++ [59] ++ []); rw [List.append_nil]; rw [show f = nf by omega] at hTx5; exact hTx5)) C D Bt hfr (by omega)
        · have c1 : ¬ (((nf : Nat) : Int) ≤ ((f : Nat) : Int)) := fun q => c1 ((i_le h12 hx5).mpr q)
          refine lv_aload_n hx hb dL_functions_43 rfl (lv_at hl 2 rfl) ?_
          refine lv_iload hx hb dL_functions_44 (lv_at hl 5 rfl) ?_
          refine lv_iload hx hb dL_functions_46 (lv_at hl 4 rfl) ?_
          refine lv_iconst (v := 3) hx hb dL_functions_48 (by decide) ?_
          refine lv_iconst (v := 2) hx hb dL_functions_49 (by decide) ?_
          refine lv_iload hx hb dL_functions_50 (lv_at hl 5 rfl) ?_
          refine lv_imul hx hb dL_functions_52 ?_
          refine lv_topi (fun y6 ey6 => ?_)
          have ty6 : y6.toInt = (((2 * f) : Nat) : Int) := i_mulN ey6 (by decide : (2 : Int32).toInt = ((2 : Nat) : Int)) hx5 (by omega)
          refine lv_iadd hx hb dL_functions_53 ?_
          refine lv_topi (fun y7 ey7 => ?_)
          have ty7 : y7.toInt = (((3 + (2 * f)) : Nat) : Int) := i_addN ey7 (by decide : (3 : Int32).toInt = ((3 : Nat) : Int)) ty6 (by omega)
          refine lv_ishr hx hb dL_functions_54 ?_
          refine lv_topi (fun y8 ey8 => ?_)
          subst ey8
          refine lv_bipush (v := 9) hx hb dL_functions_55 (by decide) ?_
          refine r_callI w (va_runS (As := [.int ((x4 >>> ((y7 : Int32) &&& 31))), .int 9]) (rest := [.int x5, .ref (g.2.2.1 kd)]) ⟨hx, hb, hml, hown, hts⟩ (c_L_low l (g := g) (h := hc) ((x4 >>> ((y7 : Int32) &&& 31))) 9 (by decide : (9 : Int32).toInt = ((9 : Nat) : Int)) (by omega)) (va_cwS 2 hts gL_functions_L_low rfl rfl rfl (by decide +kernel) ⟨Nat.le_of_ble_eq_true rfl, Nat.le_of_ble_eq_true rfl⟩) (r_preS w) rfl rfl hl.1 rfl (lv_room (Nat.le_of_ble_eq_true rfl)) dL_functions_57 ⟨Nat.zero_le _, Nat.zero_le _⟩) (fun r10 h9 H locs hp w => ?_)
          obtain ⟨eh_, qq11⟩ := hp
          have eh_ := eh_.symm
          subst eh_
          have hlt_r10 := lowF_lt (v := (x4 >>> ((y7 : Int32) &&& 31))) (n := 9) (by omega)
          refine lv_bipush (v := 6) hx hb dL_functions_60 (by decide) ?_
          refine lv_icmp_le (tgt := 69) hx hb dL_functions_62 (by decide) (fun c12 => ?_) (fun c12 => ?_)
          · have c12 : (((lowF ((x4 >>> ((y7 : Int32) &&& 31))) 9) : Nat) : Int) ≤ ((6 : Nat) : Int) := (i_le qq11 (by decide : (6 : Int32).toInt = ((6 : Nat) : Int))).mp c12
            refine lv_iload hx hb dL_functions_69 (lv_at hl 4 rfl) ?_
            refine lv_iconst (v := 3) hx hb dL_functions_71 (by decide) ?_
            refine lv_iconst (v := 3) hx hb dL_functions_72 (by decide) ?_
            refine lv_iload hx hb dL_functions_73 (lv_at hl 5 rfl) ?_
            refine lv_imul hx hb dL_functions_75 ?_
            refine lv_topi (fun y13 ey13 => ?_)
            have ty13 : y13.toInt = (((3 * f) : Nat) : Int) := i_mulN ey13 (by decide : (3 : Int32).toInt = ((3 : Nat) : Int)) hx5 (by omega)
            refine lv_iadd hx hb dL_functions_76 ?_
            refine lv_topi (fun y14 ey14 => ?_)
            have ty14 : y14.toInt = (((3 + (3 * f)) : Nat) : Int) := i_addN ey14 (by decide : (3 : Int32).toInt = ((3 : Nat) : Int)) ty13 (by omega)
            refine lv_ishr hx hb dL_functions_77 ?_
            refine lv_topi (fun y15 ey15 => ?_)
            subst ey15
            refine lv_iconst (v := 3) hx hb dL_functions_78 (by decide) ?_
            refine r_callI w (va_runS (As := [.int ((x4 >>> ((y14 : Int32) &&& 31))), .int 3]) (rest := [.int x5, .ref (g.2.2.1 kd)]) ⟨hx, hb, hml, hown, hts⟩ (c_L_low l (g := g) (h := hc) ((x4 >>> ((y14 : Int32) &&& 31))) 3 (by decide : (3 : Int32).toInt = ((3 : Nat) : Int)) (by omega)) (va_cwS 2 hts gL_functions_L_low rfl rfl rfl (by decide +kernel) ⟨Nat.le_of_ble_eq_true rfl, Nat.le_of_ble_eq_true rfl⟩) (r_preS w) rfl rfl hl.1 rfl (lv_room (Nat.le_of_ble_eq_true rfl)) dL_functions_79 ⟨Nat.zero_le _, Nat.zero_le _⟩) (fun r17 h16 H locs hp w => ?_)
            obtain ⟨eh_, qq18⟩ := hp
            have eh_ := eh_.symm
            subst eh_
            have hlt_r17 := lowF_lt (v := (x4 >>> ((y14 : Int32) &&& 31))) (n := 3) (by omega)
            refine r_iast (j := f) hx hb w D.1 D.2 hx5 (by omega) dL_functions_82 (fun h19 H locs eh19 w => ?_)
            have D := D.s eh19
            generalize egz20 : upd gd1 f r17 = gz20 at D
            have hfr : ∀ k_, ¬ (x ≤ k_ ∧ k_ < x + 143 ∨ k_ = kd ∨ k_ = kb) → h19 k_ = h k_ := fun k_ hk_ => by rw [eh19, va_up_ne _ _ (by omega)]; exact hfr k_ hk_
            have C := C.fr (h' := h19) (fun k_ h1_ h2_ => by rw [eh19, va_up_ne _ _ (by omega)])
            have Bt := Bt.fr (h' := h19) (fun k_ h1_ h2_ => by rw [eh19, va_up_ne _ _ (by omega)])
            refine lv_aload_n hx hb dL_functions_83 rfl (lv_at hl 2 rfl) ?_
            refine lv_iconst (v := 4) hx hb dL_functions_84 (by decide) ?_
            refine lv_iload hx hb dL_functions_85 (lv_at hl 5 rfl) ?_
            refine lv_iadd hx hb dL_functions_87 ?_
            refine lv_topi (fun y21 ey21 => ?_)
            have ty21 : y21.toInt = (((4 + f) : Nat) : Int) := i_addN ey21 (by decide : (4 : Int32).toInt = ((4 : Nat) : Int)) hx5 (by omega)
            refine lv_iload hx hb dL_functions_88 (lv_at hl 4 rfl) ?_
            refine lv_bipush (v := 15) hx hb dL_functions_90 (by decide) ?_
            refine lv_iconst (v := 2) hx hb dL_functions_92 (by decide) ?_
            refine lv_iload hx hb dL_functions_93 (lv_at hl 5 rfl) ?_
            refine lv_imul hx hb dL_functions_95 ?_
            refine lv_topi (fun y22 ey22 => ?_)
            have ty22 : y22.toInt = (((2 * f) : Nat) : Int) := i_mulN ey22 (by decide : (2 : Int32).toInt = ((2 : Nat) : Int)) hx5 (by omega)
            refine lv_iadd hx hb dL_functions_96 ?_
            refine lv_topi (fun y23 ey23 => ?_)
            have ty23 : y23.toInt = (((15 + (2 * f)) : Nat) : Int) := i_addN ey23 (by decide : (15 : Int32).toInt = ((15 : Nat) : Int)) ty22 (by omega)
            refine lv_ishr hx hb dL_functions_97 ?_
            refine lv_topi (fun y24 ey24 => ?_)
            subst ey24
            refine lv_iconst (v := 2) hx hb dL_functions_98 (by decide) ?_
            refine r_callI w (va_runS (As := [.int ((x4 >>> ((y23 : Int32) &&& 31))), .int 2]) (rest := [.int y21, .ref (g.2.2.1 kd)]) ⟨hx, hb, hml, hown, hts⟩ (c_L_low l (g := g) (h := h19) ((x4 >>> ((y23 : Int32) &&& 31))) 2 (by decide : (2 : Int32).toInt = ((2 : Nat) : Int)) (by omega)) (va_cwS 2 hts gL_functions_L_low rfl rfl rfl (by decide +kernel) ⟨Nat.le_of_ble_eq_true rfl, Nat.le_of_ble_eq_true rfl⟩) (r_preS w) rfl rfl hl.1 rfl (lv_room (Nat.le_of_ble_eq_true rfl)) dL_functions_99 ⟨Nat.zero_le _, Nat.zero_le _⟩) (fun r26 h25 H locs hp w => ?_)
            obtain ⟨eh_, qq27⟩ := hp
            have eh_ := eh_.symm
            subst eh_
            have hlt_r26 := lowF_lt (v := (x4 >>> ((y23 : Int32) &&& 31))) (n := 2) (by omega)
            refine lv_if_ne (tgt := 109) hx hb dL_functions_102 (by decide) (fun c28 => ?_) (fun c28 => ?_)
            · have c28 : ¬ ((((lowF ((x4 >>> ((y23 : Int32) &&& 31))) 2) : Nat) : Int) = (0 : Int)) := fun q => c28 ((i_eq qq27 (rfl : (0 : Int32).toInt = 0)).mpr q)
              refine lv_iload hx hb dL_functions_109 (lv_at hl 4 rfl) ?_
              refine lv_bipush (v := 17) hx hb dL_functions_111 (by decide) ?_
              refine lv_iconst (v := 2) hx hb dL_functions_113 (by decide) ?_
              refine lv_iload hx hb dL_functions_114 (lv_at hl 5 rfl) ?_
              refine lv_imul hx hb dL_functions_116 ?_
              refine lv_topi (fun y29 ey29 => ?_)
              have ty29 : y29.toInt = (((2 * f) : Nat) : Int) := i_mulN ey29 (by decide : (2 : Int32).toInt = ((2 : Nat) : Int)) hx5 (by omega)
              refine lv_iadd hx hb dL_functions_117 ?_
              refine lv_topi (fun y30 ey30 => ?_)
              have ty30 : y30.toInt = (((17 + (2 * f)) : Nat) : Int) := i_addN ey30 (by decide : (17 : Int32).toInt = ((17 : Nat) : Int)) ty29 (by omega)
              refine lv_ishr hx hb dL_functions_118 ?_
              refine lv_topi (fun y31 ey31 => ?_)
              subst ey31
              refine lv_iconst (v := 4) hx hb dL_functions_119 (by decide) ?_
              refine r_callI w (va_runS (As := [.int ((x4 >>> ((y30 : Int32) &&& 31))), .int 4]) (rest := [.int y21, .ref (g.2.2.1 kd)]) ⟨hx, hb, hml, hown, hts⟩ (c_L_low l (g := g) (h := h19) ((x4 >>> ((y30 : Int32) &&& 31))) 4 (by decide : (4 : Int32).toInt = ((4 : Nat) : Int)) (by omega)) (va_cwS 2 hts gL_functions_L_low rfl rfl rfl (by decide +kernel) ⟨Nat.le_of_ble_eq_true rfl, Nat.le_of_ble_eq_true rfl⟩) (r_preS w) rfl rfl hl.1 rfl (lv_room (Nat.le_of_ble_eq_true rfl)) dL_functions_120 ⟨Nat.zero_le _, Nat.zero_le _⟩) (fun r33 h32 H locs hp w => ?_)
              obtain ⟨eh_, qq34⟩ := hp
              have eh_ := eh_.symm
              subst eh_
              have hlt_r33 := lowF_lt (v := (x4 >>> ((y30 : Int32) &&& 31))) (n := 4) (by omega)
              refine r_iast (j := (4 + f)) hx hb w D.1 D.2 ty21 (by omega) dL_functions_123 (fun h35 H locs eh35 w => ?_)
              have D := D.s eh35
              generalize egz36 : upd gz20 ((4 + f)) r33 = gz36 at D
              have hfr : ∀ k_, ¬ (x ≤ k_ ∧ k_ < x + 143 ∨ k_ = kd ∨ k_ = kb) → h35 k_ = h k_ := fun k_ hk_ => by rw [eh35, va_up_ne _ _ (by omega)]; exact hfr k_ hk_
              have C := C.fr (h' := h35) (fun k_ h1_ h2_ => by rw [eh35, va_up_ne _ _ (by omega)])
              have Bt := Bt.fr (h' := h35) (fun k_ h1_ h2_ => by rw [eh35, va_up_ne _ _ (by omega)])
              have haf_ : (gz36 f).toInt = (((lowF ((x4 >>> ((y14 : Int32) &&& 31))) 3) : Nat) : Int) := by rw [← egz36, pk_un (by omega), ← egz20, pk_us]; exact qq18
              refine lv_aload_n hx hb dL_functions_124 rfl (lv_at hl 0 rfl) ?_
              refine lv_bipush (v := 48) hx hb dL_functions_125 (by decide) ?_
              refine lv_aload_n hx hb dL_functions_127 rfl (lv_at hl 2 rfl) ?_
              refine lv_iload hx hb dL_functions_128 (lv_at hl 5 rfl) ?_
              refine r_iald (j := f) hx hb w D.1 D.2 hx5 (by omega) dL_functions_130 ?_
              refine lv_iadd hx hb dL_functions_131 ?_
              refine lv_topi (fun y37 ey37 => ?_)
              have ty37 : y37.toInt = (((48 + (lowF ((x4 >>> ((y14 : Int32) &&& 31))) 3)) : Nat) : Int) := i_addN ey37 (by decide : (48 : Int32).toInt = ((48 : Nat) : Int)) haf_ (by omega)
              refine r_callI w (va_runV (As := [.int y37]) (rest := []) ⟨hx, hb, hml, hown, hts⟩ (c_X8_write l C y37) (cwV 1 hts gL_functions_X8_write rfl rfl rfl (by decide +kernel) ⟨Nat.le_of_ble_eq_true rfl, Nat.le_of_ble_eq_true rfl⟩) (r_preV w (by have := C.hN; omega) C.ob.choose_spec rfl) rfl rfl hl.1 rfl (lv_room (Nat.le_of_ble_eq_true rfl)) dL_functions_132 ⟨Nat.zero_le _, Nat.zero_le _⟩) (fun r39 h38 H locs hp w => ?_)
              obtain ⟨hfk40, sk40, C, Ak40⟩ := hp
              have D := D.fr (h' := h38) (fun k_ h1_ h2_ => hfk40 k_ (by omega))
              have Bt := Bt.fr (h' := h38) (fun k_ h1_ h2_ => hfk40 k_ (by omega))
              have hfr : ∀ k_, ¬ (x ≤ k_ ∧ k_ < x + 143 ∨ k_ = kd ∨ k_ = kb) → h38 k_ = h k_ := fun k_ hk_ => (hfk40 k_ (by omega)).trans (hfr k_ hk_)
              have hTx41 := hTx.wr Ak40 ty37 (by omega) (by rw [hdrD_len]; omega)
              refine lv_pop hx hb dL_functions_135 rfl ?_
              obtain ⟨y42, ey42⟩ : ∃ y : Int32, y = x5 + (1) := ⟨_, rfl⟩
              have ty42 : y42.toInt = (((f + 1) : Nat) : Int) := i_addN ey42 hx5 (by decide : (1 : Int32).toInt = ((1 : Nat) : Int)) (by omega)
              refine lv_iinc (v := y42) (lv' := [(5, .int y42), (0, .ref (g.2.2.1 x)), (1, .ref sa), (2, .ref (g.2.2.1 kd)), (3, .ref (g.2.2.1 kb)), (4, .int x4)]) hx hb dL_functions_136 hl (k := 5) rfl (by rw [ey42]; rfl) (by decide) rfl (fun ls hl => ?_)
              refine lv_goto (tgt := 34) hx hb dL_functions_139 (by decide) ?_
              have hgn_ : ∀ q_, q_ ≠ f → q_ ≠ 4 + f → gz36 q_ = gd1 q_ := fun q_ z1_ z2_ => by rw [← egz36, pk_un z2_, ← egz20, pk_un z1_]
              exact ih34 nf sk40 ((fun j_ => if j_ = f then (lowF ((x4 >>> ((y14 : Int32) &&& 31))) 3) else A j_)) ((fun j_ => if j_ = f then (lowF ((x4 >>> ((y30 : Int32) &&& 31))) 4) else K j_)) gz36 x4 y42 (f + 1) h38 _ _ _ w (lv_sub hl [1, 2, 3, 4, 5, 0] rfl) h1n hn4 (by rw [hgn_ 12 (by omega) (by omega)]; exact h12) ty42 (by omega) (by rw [hdrD_up]; exact hTx41) (fun j_ hj_ => by by_cases q_ : j_ = f; (rw [if_pos q_, if_pos q_, q_]; exact ⟨haf_, by omega, by rw [← egz36, pk_us]; exact qq34, by omega⟩); (rw [if_neg q_, if_neg q_, hgn_ j_ (by omega) (by omega), hgn_ (4 + j_) (by omega) (by omega)]; exact hAK j_ (by omega))) C D Bt hfr (by omega)
            · have c28 : (((lowF ((x4 >>> ((y23 : Int32) &&& 31))) 2) : Nat) : Int) = (0 : Int) := (i_eq qq27 (rfl : (0 : Int32).toInt = 0)).mp c28
              refine lv_iconst (v := 0) hx hb dL_functions_105 (by decide) ?_
              refine lv_goto (tgt := 123) hx hb dL_functions_106 (by decide) ?_
              refine r_iast (j := (4 + f)) hx hb w D.1 D.2 ty21 (by omega) dL_functions_123 (fun h43 H locs eh43 w => ?_)
              have D := D.s eh43
              generalize egz44 : upd gz20 ((4 + f)) 0 = gz44 at D
              have hfr : ∀ k_, ¬ (x ≤ k_ ∧ k_ < x + 143 ∨ k_ = kd ∨ k_ = kb) → h43 k_ = h k_ := fun k_ hk_ => by rw [eh43, va_up_ne _ _ (by omega)]; exact hfr k_ hk_
              have C := C.fr (h' := h43) (fun k_ h1_ h2_ => by rw [eh43, va_up_ne _ _ (by omega)])
              have Bt := Bt.fr (h' := h43) (fun k_ h1_ h2_ => by rw [eh43, va_up_ne _ _ (by omega)])
              have haf_ : (gz44 f).toInt = (((lowF ((x4 >>> ((y14 : Int32) &&& 31))) 3) : Nat) : Int) := by rw [← egz44, pk_un (by omega), ← egz20, pk_us]; exact qq18
              refine lv_aload_n hx hb dL_functions_124 rfl (lv_at hl 0 rfl) ?_
              refine lv_bipush (v := 48) hx hb dL_functions_125 (by decide) ?_
              refine lv_aload_n hx hb dL_functions_127 rfl (lv_at hl 2 rfl) ?_
              refine lv_iload hx hb dL_functions_128 (lv_at hl 5 rfl) ?_
              refine r_iald (j := f) hx hb w D.1 D.2 hx5 (by omega) dL_functions_130 ?_
              refine lv_iadd hx hb dL_functions_131 ?_
              refine lv_topi (fun y45 ey45 => ?_)
              have ty45 : y45.toInt = (((48 + (lowF ((x4 >>> ((y14 : Int32) &&& 31))) 3)) : Nat) : Int) := i_addN ey45 (by decide : (48 : Int32).toInt = ((48 : Nat) : Int)) haf_ (by omega)
              refine r_callI w (va_runV (As := [.int y45]) (rest := []) ⟨hx, hb, hml, hown, hts⟩ (c_X8_write l C y45) (cwV 1 hts gL_functions_X8_write rfl rfl rfl (by decide +kernel) ⟨Nat.le_of_ble_eq_true rfl, Nat.le_of_ble_eq_true rfl⟩) (r_preV w (by have := C.hN; omega) C.ob.choose_spec rfl) rfl rfl hl.1 rfl (lv_room (Nat.le_of_ble_eq_true rfl)) dL_functions_132 ⟨Nat.zero_le _, Nat.zero_le _⟩) (fun r47 h46 H locs hp w => ?_)
              obtain ⟨hfk48, sk48, C, Ak48⟩ := hp
              have D := D.fr (h' := h46) (fun k_ h1_ h2_ => hfk48 k_ (by omega))
              have Bt := Bt.fr (h' := h46) (fun k_ h1_ h2_ => hfk48 k_ (by omega))
              have hfr : ∀ k_, ¬ (x ≤ k_ ∧ k_ < x + 143 ∨ k_ = kd ∨ k_ = kb) → h46 k_ = h k_ := fun k_ hk_ => (hfk48 k_ (by omega)).trans (hfr k_ hk_)
              have hTx49 := hTx.wr Ak48 ty45 (by omega) (by rw [hdrD_len]; omega)
              refine lv_pop hx hb dL_functions_135 rfl ?_
              obtain ⟨y50, ey50⟩ : ∃ y : Int32, y = x5 + (1) := ⟨_, rfl⟩
              have ty50 : y50.toInt = (((f + 1) : Nat) : Int) := i_addN ey50 hx5 (by decide : (1 : Int32).toInt = ((1 : Nat) : Int)) (by omega)
              refine lv_iinc (v := y50) (lv' := [(5, .int y50), (0, .ref (g.2.2.1 x)), (1, .ref sa), (2, .ref (g.2.2.1 kd)), (3, .ref (g.2.2.1 kb)), (4, .int x4)]) hx hb dL_functions_136 hl (k := 5) rfl (by rw [ey50]; rfl) (by decide) rfl (fun ls hl => ?_)
              refine lv_goto (tgt := 34) hx hb dL_functions_139 (by decide) ?_
              have hgn_ : ∀ q_, q_ ≠ f → q_ ≠ 4 + f → gz44 q_ = gd1 q_ := fun q_ z1_ z2_ => by rw [← egz44, pk_un z2_, ← egz20, pk_un z1_]
              exact ih34 nf sk48 ((fun j_ => if j_ = f then (lowF ((x4 >>> ((y14 : Int32) &&& 31))) 3) else A j_)) ((fun j_ => if j_ = f then 0 else K j_)) gz44 x4 y50 (f + 1) h46 _ _ _ w (lv_sub hl [1, 2, 3, 4, 5, 0] rfl) h1n hn4 (by rw [hgn_ 12 (by omega) (by omega)]; exact h12) ty50 (by omega) (by rw [hdrD_up]; exact hTx49) (fun j_ hj_ => by by_cases q_ : j_ = f; (rw [if_pos q_, if_pos q_, q_]; exact ⟨haf_, by omega, by rw [← egz44, pk_us]; exact (by decide : (0 : Int32).toInt = ((0 : Nat) : Int)), by omega⟩); (rw [if_neg q_, if_neg q_, hgn_ j_ (by omega) (by omega), hgn_ (4 + j_) (by omega) (by omega)]; exact hAK j_ (by omega))) C D Bt hfr (by omega)
          · have c12 : ¬ ((((lowF ((x4 >>> ((y7 : Int32) &&& 31))) 9) : Nat) : Int) ≤ ((6 : Nat) : Int)) := fun q => c12 ((i_le qq11 (by decide : (6 : Int32).toInt = ((6 : Nat) : Int))).mpr q)
            refine lv_iconst (v := 3) hx hb dL_functions_65 (by decide) ?_
            refine lv_goto (tgt := 82) hx hb dL_functions_66 (by decide) ?_
            refine r_iast (j := f) hx hb w D.1 D.2 hx5 (by omega) dL_functions_82 (fun h51 H locs eh51 w => ?_)
            have D := D.s eh51
            generalize egz52 : upd gd1 f 3 = gz52 at D
            have hfr : ∀ k_, ¬ (x ≤ k_ ∧ k_ < x + 143 ∨ k_ = kd ∨ k_ = kb) → h51 k_ = h k_ := fun k_ hk_ => by rw [eh51, va_up_ne _ _ (by omega)]; exact hfr k_ hk_
            have C := C.fr (h' := h51) (fun k_ h1_ h2_ => by rw [eh51, va_up_ne _ _ (by omega)])
            have Bt := Bt.fr (h' := h51) (fun k_ h1_ h2_ => by rw [eh51, va_up_ne _ _ (by omega)])
            refine lv_aload_n hx hb dL_functions_83 rfl (lv_at hl 2 rfl) ?_
            refine lv_iconst (v := 4) hx hb dL_functions_84 (by decide) ?_
            refine lv_iload hx hb dL_functions_85 (lv_at hl 5 rfl) ?_
            refine lv_iadd hx hb dL_functions_87 ?_
            refine lv_topi (fun y53 ey53 => ?_)
            have ty53 : y53.toInt = (((4 + f) : Nat) : Int) := i_addN ey53 (by decide : (4 : Int32).toInt = ((4 : Nat) : Int)) hx5 (by omega)
            refine lv_iload hx hb dL_functions_88 (lv_at hl 4 rfl) ?_
            refine lv_bipush (v := 15) hx hb dL_functions_90 (by decide) ?_
            refine lv_iconst (v := 2) hx hb dL_functions_92 (by decide) ?_
            refine lv_iload hx hb dL_functions_93 (lv_at hl 5 rfl) ?_
            refine lv_imul hx hb dL_functions_95 ?_
            refine lv_topi (fun y54 ey54 => ?_)
            have ty54 : y54.toInt = (((2 * f) : Nat) : Int) := i_mulN ey54 (by decide : (2 : Int32).toInt = ((2 : Nat) : Int)) hx5 (by omega)
            refine lv_iadd hx hb dL_functions_96 ?_
            refine lv_topi (fun y55 ey55 => ?_)
            have ty55 : y55.toInt = (((15 + (2 * f)) : Nat) : Int) := i_addN ey55 (by decide : (15 : Int32).toInt = ((15 : Nat) : Int)) ty54 (by omega)
            refine lv_ishr hx hb dL_functions_97 ?_
            refine lv_topi (fun y56 ey56 => ?_)
            subst ey56
            refine lv_iconst (v := 2) hx hb dL_functions_98 (by decide) ?_
            refine r_callI w (va_runS (As := [.int ((x4 >>> ((y55 : Int32) &&& 31))), .int 2]) (rest := [.int y53, .ref (g.2.2.1 kd)]) ⟨hx, hb, hml, hown, hts⟩ (c_L_low l (g := g) (h := h51) ((x4 >>> ((y55 : Int32) &&& 31))) 2 (by decide : (2 : Int32).toInt = ((2 : Nat) : Int)) (by omega)) (va_cwS 2 hts gL_functions_L_low rfl rfl rfl (by decide +kernel) ⟨Nat.le_of_ble_eq_true rfl, Nat.le_of_ble_eq_true rfl⟩) (r_preS w) rfl rfl hl.1 rfl (lv_room (Nat.le_of_ble_eq_true rfl)) dL_functions_99 ⟨Nat.zero_le _, Nat.zero_le _⟩) (fun r58 h57 H locs hp w => ?_)
            obtain ⟨eh_, qq59⟩ := hp
            have eh_ := eh_.symm
            subst eh_
            have hlt_r58 := lowF_lt (v := (x4 >>> ((y55 : Int32) &&& 31))) (n := 2) (by omega)
            refine lv_if_ne (tgt := 109) hx hb dL_functions_102 (by decide) (fun c60 => ?_) (fun c60 => ?_)
            · have c60 : ¬ ((((lowF ((x4 >>> ((y55 : Int32) &&& 31))) 2) : Nat) : Int) = (0 : Int)) := fun q => c60 ((i_eq qq59 (rfl : (0 : Int32).toInt = 0)).mpr q)
              refine lv_iload hx hb dL_functions_109 (lv_at hl 4 rfl) ?_
              refine lv_bipush (v := 17) hx hb dL_functions_111 (by decide) ?_
              refine lv_iconst (v := 2) hx hb dL_functions_113 (by decide) ?_
              refine lv_iload hx hb dL_functions_114 (lv_at hl 5 rfl) ?_
              refine lv_imul hx hb dL_functions_116 ?_
              refine lv_topi (fun y61 ey61 => ?_)
              have ty61 : y61.toInt = (((2 * f) : Nat) : Int) := i_mulN ey61 (by decide : (2 : Int32).toInt = ((2 : Nat) : Int)) hx5 (by omega)
              refine lv_iadd hx hb dL_functions_117 ?_
              refine lv_topi (fun y62 ey62 => ?_)
              have ty62 : y62.toInt = (((17 + (2 * f)) : Nat) : Int) := i_addN ey62 (by decide : (17 : Int32).toInt = ((17 : Nat) : Int)) ty61 (by omega)
              refine lv_ishr hx hb dL_functions_118 ?_
              refine lv_topi (fun y63 ey63 => ?_)
              subst ey63
              refine lv_iconst (v := 4) hx hb dL_functions_119 (by decide) ?_
              refine r_callI w (va_runS (As := [.int ((x4 >>> ((y62 : Int32) &&& 31))), .int 4]) (rest := [.int y53, .ref (g.2.2.1 kd)]) ⟨hx, hb, hml, hown, hts⟩ (c_L_low l (g := g) (h := h51) ((x4 >>> ((y62 : Int32) &&& 31))) 4 (by decide : (4 : Int32).toInt = ((4 : Nat) : Int)) (by omega)) (va_cwS 2 hts gL_functions_L_low rfl rfl rfl (by decide +kernel) ⟨Nat.le_of_ble_eq_true rfl, Nat.le_of_ble_eq_true rfl⟩) (r_preS w) rfl rfl hl.1 rfl (lv_room (Nat.le_of_ble_eq_true rfl)) dL_functions_120 ⟨Nat.zero_le _, Nat.zero_le _⟩) (fun r65 h64 H locs hp w => ?_)
              obtain ⟨eh_, qq66⟩ := hp
              have eh_ := eh_.symm
              subst eh_
              have hlt_r65 := lowF_lt (v := (x4 >>> ((y62 : Int32) &&& 31))) (n := 4) (by omega)
              refine r_iast (j := (4 + f)) hx hb w D.1 D.2 ty53 (by omega) dL_functions_123 (fun h67 H locs eh67 w => ?_)
              have D := D.s eh67
              generalize egz68 : upd gz52 ((4 + f)) r65 = gz68 at D
              have hfr : ∀ k_, ¬ (x ≤ k_ ∧ k_ < x + 143 ∨ k_ = kd ∨ k_ = kb) → h67 k_ = h k_ := fun k_ hk_ => by rw [eh67, va_up_ne _ _ (by omega)]; exact hfr k_ hk_
              have C := C.fr (h' := h67) (fun k_ h1_ h2_ => by rw [eh67, va_up_ne _ _ (by omega)])
              have Bt := Bt.fr (h' := h67) (fun k_ h1_ h2_ => by rw [eh67, va_up_ne _ _ (by omega)])
              have haf_ : (gz68 f).toInt = ((3 : Nat) : Int) := by rw [← egz68, pk_un (by omega), ← egz52, pk_us]; exact (by decide : (3 : Int32).toInt = ((3 : Nat) : Int))
              refine lv_aload_n hx hb dL_functions_124 rfl (lv_at hl 0 rfl) ?_
              refine lv_bipush (v := 48) hx hb dL_functions_125 (by decide) ?_
              refine lv_aload_n hx hb dL_functions_127 rfl (lv_at hl 2 rfl) ?_
              refine lv_iload hx hb dL_functions_128 (lv_at hl 5 rfl) ?_
              refine r_iald (j := f) hx hb w D.1 D.2 hx5 (by omega) dL_functions_130 ?_
              refine lv_iadd hx hb dL_functions_131 ?_
              refine lv_topi (fun y69 ey69 => ?_)
              have ty69 : y69.toInt = (((48 + 3) : Nat) : Int) := i_addN ey69 (by decide : (48 : Int32).toInt = ((48 : Nat) : Int)) haf_ (by omega)
              refine r_callI w (va_runV (As := [.int y69]) (rest := []) ⟨hx, hb, hml, hown, hts⟩ (c_X8_write l C y69) (cwV 1 hts gL_functions_X8_write rfl rfl rfl (by decide +kernel) ⟨Nat.le_of_ble_eq_true rfl, Nat.le_of_ble_eq_true rfl⟩) (r_preV w (by have := C.hN; omega) C.ob.choose_spec rfl) rfl rfl hl.1 rfl (lv_room (Nat.le_of_ble_eq_true rfl)) dL_functions_132 ⟨Nat.zero_le _, Nat.zero_le _⟩) (fun r71 h70 H locs hp w => ?_)
              obtain ⟨hfk72, sk72, C, Ak72⟩ := hp
              have D := D.fr (h' := h70) (fun k_ h1_ h2_ => hfk72 k_ (by omega))
              have Bt := Bt.fr (h' := h70) (fun k_ h1_ h2_ => hfk72 k_ (by omega))
              have hfr : ∀ k_, ¬ (x ≤ k_ ∧ k_ < x + 143 ∨ k_ = kd ∨ k_ = kb) → h70 k_ = h k_ := fun k_ hk_ => (hfk72 k_ (by omega)).trans (hfr k_ hk_)
              have hTx73 := hTx.wr Ak72 ty69 (by omega) (by rw [hdrD_len]; omega)
              refine lv_pop hx hb dL_functions_135 rfl ?_
              obtain ⟨y74, ey74⟩ : ∃ y : Int32, y = x5 + (1) := ⟨_, rfl⟩
              have ty74 : y74.toInt = (((f + 1) : Nat) : Int) := i_addN ey74 hx5 (by decide : (1 : Int32).toInt = ((1 : Nat) : Int)) (by omega)
              refine lv_iinc (v := y74) (lv' := [(5, .int y74), (0, .ref (g.2.2.1 x)), (1, .ref sa), (2, .ref (g.2.2.1 kd)), (3, .ref (g.2.2.1 kb)), (4, .int x4)]) hx hb dL_functions_136 hl (k := 5) rfl (by rw [ey74]; rfl) (by decide) rfl (fun ls hl => ?_)
              refine lv_goto (tgt := 34) hx hb dL_functions_139 (by decide) ?_
              have hgn_ : ∀ q_, q_ ≠ f → q_ ≠ 4 + f → gz68 q_ = gd1 q_ := fun q_ z1_ z2_ => by rw [← egz68, pk_un z2_, ← egz52, pk_un z1_]
              exact ih34 nf sk72 ((fun j_ => if j_ = f then 3 else A j_)) ((fun j_ => if j_ = f then (lowF ((x4 >>> ((y62 : Int32) &&& 31))) 4) else K j_)) gz68 x4 y74 (f + 1) h70 _ _ _ w (lv_sub hl [1, 2, 3, 4, 5, 0] rfl) h1n hn4 (by rw [hgn_ 12 (by omega) (by omega)]; exact h12) ty74 (by omega) (by rw [hdrD_up]; exact hTx73) (fun j_ hj_ => by by_cases q_ : j_ = f; (rw [if_pos q_, if_pos q_, q_]; exact ⟨haf_, by omega, by rw [← egz68, pk_us]; exact qq66, by omega⟩); (rw [if_neg q_, if_neg q_, hgn_ j_ (by omega) (by omega), hgn_ (4 + j_) (by omega) (by omega)]; exact hAK j_ (by omega))) C D Bt hfr (by omega)
            · have c60 : (((lowF ((x4 >>> ((y55 : Int32) &&& 31))) 2) : Nat) : Int) = (0 : Int) := (i_eq qq59 (rfl : (0 : Int32).toInt = 0)).mp c60
              refine lv_iconst (v := 0) hx hb dL_functions_105 (by decide) ?_
              refine lv_goto (tgt := 123) hx hb dL_functions_106 (by decide) ?_
              refine r_iast (j := (4 + f)) hx hb w D.1 D.2 ty53 (by omega) dL_functions_123 (fun h75 H locs eh75 w => ?_)
              have D := D.s eh75
              generalize egz76 : upd gz52 ((4 + f)) 0 = gz76 at D
              have hfr : ∀ k_, ¬ (x ≤ k_ ∧ k_ < x + 143 ∨ k_ = kd ∨ k_ = kb) → h75 k_ = h k_ := fun k_ hk_ => by rw [eh75, va_up_ne _ _ (by omega)]; exact hfr k_ hk_
              have C := C.fr (h' := h75) (fun k_ h1_ h2_ => by rw [eh75, va_up_ne _ _ (by omega)])
              have Bt := Bt.fr (h' := h75) (fun k_ h1_ h2_ => by rw [eh75, va_up_ne _ _ (by omega)])
              have haf_ : (gz76 f).toInt = ((3 : Nat) : Int) := by rw [← egz76, pk_un (by omega), ← egz52, pk_us]; exact (by decide : (3 : Int32).toInt = ((3 : Nat) : Int))
              refine lv_aload_n hx hb dL_functions_124 rfl (lv_at hl 0 rfl) ?_
              refine lv_bipush (v := 48) hx hb dL_functions_125 (by decide) ?_
              refine lv_aload_n hx hb dL_functions_127 rfl (lv_at hl 2 rfl) ?_
              refine lv_iload hx hb dL_functions_128 (lv_at hl 5 rfl) ?_
              refine r_iald (j := f) hx hb w D.1 D.2 hx5 (by omega) dL_functions_130 ?_
              refine lv_iadd hx hb dL_functions_131 ?_
              refine lv_topi (fun y77 ey77 => ?_)
              have ty77 : y77.toInt = (((48 + 3) : Nat) : Int) := i_addN ey77 (by decide : (48 : Int32).toInt = ((48 : Nat) : Int)) haf_ (by omega)
              refine r_callI w (va_runV (As := [.int y77]) (rest := []) ⟨hx, hb, hml, hown, hts⟩ (c_X8_write l C y77) (cwV 1 hts gL_functions_X8_write rfl rfl rfl (by decide +kernel) ⟨Nat.le_of_ble_eq_true rfl, Nat.le_of_ble_eq_true rfl⟩) (r_preV w (by have := C.hN; omega) C.ob.choose_spec rfl) rfl rfl hl.1 rfl (lv_room (Nat.le_of_ble_eq_true rfl)) dL_functions_132 ⟨Nat.zero_le _, Nat.zero_le _⟩) (fun r79 h78 H locs hp w => ?_)
              obtain ⟨hfk80, sk80, C, Ak80⟩ := hp
              have D := D.fr (h' := h78) (fun k_ h1_ h2_ => hfk80 k_ (by omega))
              have Bt := Bt.fr (h' := h78) (fun k_ h1_ h2_ => hfk80 k_ (by omega))
              have hfr : ∀ k_, ¬ (x ≤ k_ ∧ k_ < x + 143 ∨ k_ = kd ∨ k_ = kb) → h78 k_ = h k_ := fun k_ hk_ => (hfk80 k_ (by omega)).trans (hfr k_ hk_)
              have hTx81 := hTx.wr Ak80 ty77 (by omega) (by rw [hdrD_len]; omega)
              refine lv_pop hx hb dL_functions_135 rfl ?_
              obtain ⟨y82, ey82⟩ : ∃ y : Int32, y = x5 + (1) := ⟨_, rfl⟩
              have ty82 : y82.toInt = (((f + 1) : Nat) : Int) := i_addN ey82 hx5 (by decide : (1 : Int32).toInt = ((1 : Nat) : Int)) (by omega)
              refine lv_iinc (v := y82) (lv' := [(5, .int y82), (0, .ref (g.2.2.1 x)), (1, .ref sa), (2, .ref (g.2.2.1 kd)), (3, .ref (g.2.2.1 kb)), (4, .int x4)]) hx hb dL_functions_136 hl (k := 5) rfl (by rw [ey82]; rfl) (by decide) rfl (fun ls hl => ?_)
              refine lv_goto (tgt := 34) hx hb dL_functions_139 (by decide) ?_
              have hgn_ : ∀ q_, q_ ≠ f → q_ ≠ 4 + f → gz76 q_ = gd1 q_ := fun q_ z1_ z2_ => by rw [← egz76, pk_un z2_, ← egz52, pk_un z1_]
              exact ih34 nf sk80 ((fun j_ => if j_ = f then 3 else A j_)) ((fun j_ => if j_ = f then 0 else K j_)) gz76 x4 y82 (f + 1) h78 _ _ _ w (lv_sub hl [1, 2, 3, 4, 5, 0] rfl) h1n hn4 (by rw [hgn_ 12 (by omega) (by omega)]; exact h12) ty82 (by omega) (by rw [hdrD_up]; exact hTx81) (fun j_ hj_ => by by_cases q_ : j_ = f; (rw [if_pos q_, if_pos q_, q_]; exact ⟨haf_, by omega, by rw [← egz76, pk_us]; exact (by decide : (0 : Int32).toInt = ((0 : Nat) : Int)), by omega⟩); (rw [if_neg q_, if_neg q_, hgn_ j_ (by omega) (by omega), hgn_ (4 + j_) (by omega) (by omega)]; exact hAK j_ (by omega))) C D Bt hfr (by omega)
      · intro nf st1 A K gd1 x4 x5 f L Bf gb1 hc H locs ls w hl h1n hn4 h12 hx5 hf hA hK hBL hTx C D Bt hfr hN_
        refine lv_iload hx hb dL_functions_152 (lv_at hl 5 rfl) ?_
        refine lv_aload_n hx hb dL_functions_154 rfl (lv_at hl 2 rfl) ?_
        refine lv_bipush (v := 12) hx hb dL_functions_155 (by decide) ?_
        refine r_iald (j := 12) hx hb w D.1 D.2 (by decide : (12 : Int32).toInt = ((12 : Nat) : Int)) (by omega) dL_functions_157 ?_
        refine lv_icmp_ge (tgt := 261) hx hb dL_functions_158 (by decide) (fun c83 => ?_) (fun c83 => ?_)
        · have c83 : ((nf : Nat) : Int) ≤ ((f : Nat) : Int) := (i_le h12 hx5).mp c83
          refine lv_aload_n hx hb dL_functions_261 rfl (lv_at hl 0 rfl) ?_
          refine r_callI w (va_runV (As := []) (rest := []) ⟨hx, hb, hml, hown, hts⟩ (c_X8_fault l C ) (cwV 0 hts gL_functions_X8_fault rfl rfl rfl (by decide +kernel) ⟨Nat.le_of_ble_eq_true rfl, Nat.le_of_ble_eq_true rfl⟩) (r_preV w (by have := C.hN; omega) C.ob.choose_spec rfl) rfl rfl hl.1 rfl (lv_room (Nat.le_of_ble_eq_true rfl)) dL_functions_262 ⟨Nat.zero_le _, Nat.zero_le _⟩) (fun r85 h84 H locs hp w => ?_)
          obtain ⟨hfk86, C, Ak86⟩ := hp
          have D := D.fr (h' := h84) (fun k_ h1_ h2_ => hfk86 k_ (by omega))
          have Bt := Bt.fr (h' := h84) (fun k_ h1_ h2_ => hfk86 k_ (by omega))
          have hfr : ∀ k_, ¬ (x ≤ k_ ∧ k_ < x + 143 ∨ k_ = kd ∨ k_ = kb) → h84 k_ = h k_ := fun k_ hk_ => (hfk86 k_ (by omega)).trans (hfr k_ hk_)
          have hDr_ := drawn h1n hn4 hA hK (by rw [show f = nf by omega] at hBL; exact hBL)
          have hTa_ : TxL st1 (allT nf A K L Bf) := by rw [show f = nf by omega] at hTx; exact hTx
          have tr85 : r85.toInt = -4 := fault_ok Ak86 hTa_ hDr_
          refine lv_bipush (v := (-4)) hx hb dL_functions_265 (by decide) ?_
          refine lv_icmp_ne (tgt := 292) hx hb dL_functions_267 (by decide) (fun c87 => ?_) (fun c87 => ?_)
          · have c87 : ¬ ((-4 : Int) = (-4 : Int)) := fun q => c87 ((i_eq tr85 (by decide : (-4 : Int32).toInt = (-4 : Int))).mpr q)
            exfalso; omega
          · have c87 : (-4 : Int) = (-4 : Int) := (i_eq tr85 (by decide : (-4 : Int32).toInt = (-4 : Int))).mp c87
            refine lv_aload_n hx hb dL_functions_270 rfl (lv_at hl 0 rfl) ?_
            refine r_callI w (va_runV (As := []) (rest := []) ⟨hx, hb, hml, hown, hts⟩ (c_X8_lay l C ) (cwV 0 hts gL_functions_X8_lay rfl rfl rfl (by decide +kernel) ⟨Nat.le_of_ble_eq_true rfl, Nat.le_of_ble_eq_true rfl⟩) (r_preV w (by have := C.hN; omega) C.ob.choose_spec rfl) rfl rfl hl.1 rfl (lv_room (Nat.le_of_ble_eq_true rfl)) dL_functions_271 ⟨Nat.zero_le _, Nat.zero_le _⟩) (fun r89 h88 H locs hp w => ?_)
            obtain ⟨hfk90, sk90, C, Ak90⟩ := hp
            have D := D.fr (h' := h88) (fun k_ h1_ h2_ => hfk90 k_ (by omega))
            have Bt := Bt.fr (h' := h88) (fun k_ h1_ h2_ => hfk90 k_ (by omega))
            have hfr : ∀ k_, ¬ (x ≤ k_ ∧ k_ < x + 143 ∨ k_ = kd ∨ k_ = kb) → h88 k_ = h k_ := fun k_ hk_ => (hfk90 k_ (by omega)).trans (hfr k_ hk_)
            obtain ⟨tr89, hv9_, hl9_, y1_, y2_, y3_⟩ := lay_ok Ak90 hTa_ hDr_
            have hs9_ := hTa_.1
            rw [allT_len] at hs9_
            refine lv_aload_n hx hb dL_functions_274 rfl (lv_at hl 2 rfl) ?_
            refine lv_bipush (v := 12) hx hb dL_functions_275 (by decide) ?_
            refine r_iald (j := 12) hx hb w D.1 D.2 (by decide : (12 : Int32).toInt = ((12 : Nat) : Int)) (by omega) dL_functions_277 ?_
            refine lv_icmp_ne (tgt := 292) hx hb dL_functions_278 (by decide) (fun c91 => ?_) (fun c91 => ?_)
            · have c91 : ¬ (((nf : Nat) : Int) = ((nf : Nat) : Int)) := fun q => c91 ((i_eq tr89 h12).mpr q)
              exfalso; omega
            · have c91 : ((nf : Nat) : Int) = ((nf : Nat) : Int) := (i_eq tr89 h12).mp c91
              refine lv_aload_n hx hb dL_functions_281 rfl (lv_at hl 0 rfl) ?_
              refine r_callI w (va_runV (As := []) (rest := []) ⟨hx, hb, hml, hown, hts⟩ (c_X8_wipe l C ) (cwV 0 hts gL_functions_X8_wipe rfl rfl rfl (by decide +kernel) ⟨Nat.le_of_ble_eq_true rfl, Nat.le_of_ble_eq_true rfl⟩) (r_preV w (by have := C.hN; omega) C.ob.choose_spec rfl) rfl rfl hl.1 rfl (lv_room (Nat.le_of_ble_eq_true rfl)) dL_functions_282 ⟨Nat.zero_le _, Nat.zero_le _⟩) (fun r93 h92 H locs hp w => ?_)
              obtain ⟨hfk94, sk94, C, Ak94⟩ := hp
              have D := D.fr (h' := h92) (fun k_ h1_ h2_ => hfk94 k_ (by omega))
              have Bt := Bt.fr (h' := h92) (fun k_ h1_ h2_ => hfk94 k_ (by omega))
              have hfr : ∀ k_, ¬ (x ≤ k_ ∧ k_ < x + 143 ∨ k_ = kd ∨ k_ = kb) → h92 k_ = h k_ := fun k_ hk_ => (hfk94 k_ (by omega)).trans (hfr k_ hk_)
              obtain ⟨hr9_, hm9_, hw9_⟩ := wipe_pos Ak94 (by omega)
              refine lv_if_le (tgt := 292) hx hb dL_functions_285 (by decide) (fun c95 => ?_) (fun c95 => ?_)
              · have c95 : r93.toInt ≤ (0 : Int) := (i_le (rfl : r93.toInt = r93.toInt) (rfl : (0 : Int32).toInt = 0)).mp c95
                exfalso; omega
              · have c95 : ¬ (r93.toInt ≤ (0 : Int)) := fun q => c95 ((i_le (rfl : r93.toInt = r93.toInt) (rfl : (0 : Int32).toInt = 0)).mpr q)
                refine lv_iconst (v := 1) hx hb dL_functions_288 (by decide) ?_
                refine lv_goto (tgt := 293) hx hb dL_functions_289 (by decide) ?_
                refine r_zret (v := 1) hx hb hr rfl hlocks w dL_functions_293 ?_
                rw [← hm9_] at y1_ y2_ y3_
                obtain ⟨aD_, aB_⟩ := drawn_D hn4 h12 hA hK (by rw [show f = nf by omega] at hBL; exact hBL) y1_ y2_ y3_
                exact ⟨hfr, rfl, sk94, gd1, gb1, C, D, Bt, aD_, aB_, hw9_.trans hv9_⟩
        · have c83 : ¬ (((nf : Nat) : Int) ≤ ((f : Nat) : Int)) := fun q => c83 ((i_le h12 hx5).mpr q)
          refine lv_aload_n hx hb dL_functions_161 rfl (lv_at hl 2 rfl) ?_
          refine lv_aload_n hx hb dL_functions_162 rfl (lv_at hl 3 rfl) ?_
          refine lv_iload hx hb dL_functions_163 (lv_at hl 5 rfl) ?_
          refine lv_aload_n hx hb dL_functions_165 rfl (lv_at hl 1 rfl) ?_
          refine lv_iconst (v := 1) hx hb dL_functions_166 (by decide) ?_
          refine lv_iload hx hb dL_functions_167 (lv_at hl 5 rfl) ?_
          refine lv_iadd hx hb dL_functions_169 ?_
          refine lv_topi (fun y96 ey96 => ?_)
          have ty96 : y96.toInt = (((1 + f) : Nat) : Int) := i_addN ey96 (by decide : (1 : Int32).toInt = ((1 : Nat) : Int)) hx5 (by omega)
          refine r_callI w (va_runS (As := [.ref sa, .int y96]) (rest := [.int x5, .ref (g.2.2.1 kb), .ref (g.2.2.1 kd)]) ⟨hx, hb, hml, hown, hts⟩ (c_L_cell l (g := g) (h := hc) (sa := sa) (sL := sL) (sx := sx) y96 ty96) (va_cwS 2 hts gL_functions_L_cell rfl rfl rfl (by decide +kernel) ⟨Nat.le_of_ble_eq_true rfl, Nat.le_of_ble_eq_true rfl⟩) (r_preSs w hsc) rfl rfl hl.1 rfl (lv_room (Nat.le_of_ble_eq_true rfl)) dL_functions_170 ⟨Nat.zero_le _, Nat.zero_le _⟩) (fun r98 h97 H locs hp w => ?_)
          have eh_ := hp.symm
          subst eh_
          refine lv_aload_n hx hb dL_functions_173 rfl (lv_at hl 1 rfl) ?_
          refine lv_iconst (v := 5) hx hb dL_functions_174 (by decide) ?_
          refine lv_iload hx hb dL_functions_175 (lv_at hl 5 rfl) ?_
          refine lv_iadd hx hb dL_functions_177 ?_
          refine lv_topi (fun y99 ey99 => ?_)
          have ty99 : y99.toInt = (((5 + f) : Nat) : Int) := i_addN ey99 (by decide : (5 : Int32).toInt = ((5 : Nat) : Int)) hx5 (by omega)
          refine r_callI w (va_runS (As := [.ref sa, .int y99]) (rest := [.int r98, .int x5, .ref (g.2.2.1 kb), .ref (g.2.2.1 kd)]) ⟨hx, hb, hml, hown, hts⟩ (c_L_cell l (g := g) (h := hc) (sa := sa) (sL := sL) (sx := sx) y99 ty99) (va_cwS 2 hts gL_functions_L_cell rfl rfl rfl (by decide +kernel) ⟨Nat.le_of_ble_eq_true rfl, Nat.le_of_ble_eq_true rfl⟩) (r_preSs w hsc) rfl rfl hl.1 rfl (lv_room (Nat.le_of_ble_eq_true rfl)) dL_functions_178 ⟨Nat.zero_le _, Nat.zero_le _⟩) (fun r101 h100 H locs hp w => ?_)
          have eh_ := hp.symm
          subst eh_
          refine r_callV w (va_runS (As := [.ref (g.2.2.1 kd), .ref (g.2.2.1 kb), .int x5, .int r98, .int r101]) (rest := []) ⟨hx, hb, hml, hown, hts⟩ (c_L_body l D Bt hdb h12 hn4 hA x5 r98 r101 hx5 (by omega)) (va_cwS 5 hts gL_functions_L_body rfl rfl rfl (by decide +kernel) ⟨Nat.le_of_ble_eq_true rfl, Nat.le_of_ble_eq_true rfl⟩) (r_preS w) rfl rfl hl.1 rfl (lv_room (Nat.le_of_ble_eq_true rfl)) dL_functions_181 ⟨Nat.zero_le _, Nat.zero_le _⟩) (fun h102 H locs hp w => ?_)
          obtain ⟨hfk103, gdk103, gbk103, bbk103, nk103, D, Bt, z1_, z2_, z3_, z4_, z5_, z6_, z7_⟩ := hp
          have C := C.fr (h' := h102) (fun k_ h1_ h2_ => hfk103 k_ (by omega))
          have hfr : ∀ k_, ¬ (x ≤ k_ ∧ k_ < x + 143 ∨ k_ = kd ∨ k_ = kb) → h102 k_ = h k_ := fun k_ hk_ => (hfk103 k_ (by omega)).trans (hfr k_ hk_)
          have hBLu_ := hBL.up z1_ z2_ z3_ z4_ z5_ z6_ z7_
          have hcg_ := txH_cg (nf := nf) (A := A) (K := K) (L := L) (B := Bf) (f := f) (n := nk103) (bb := bbk103)
          obtain ⟨L2_, eL2_⟩ : ∃ L_ : Nat → Nat, L_ = fun i => if i = f then nk103 else L i := ⟨_, rfl⟩
          obtain ⟨B2_, eB2_⟩ : ∃ B_ : Nat → Nat → Nat, B_ = fun i => if i = f then bbk103 else Bf i := ⟨_, rfl⟩
          rw [← eL2_, ← eB2_] at hBLu_ hcg_
          have hBL2_ := hBLu_
          rw [← hcg_] at hTx
          have h12_ : (gdk103 12).toInt = ((nf : Nat) : Int) := by rw [z2_ 12 (by omega)]; exact h12
          have hA_ : ∀ j_, j_ < nf → (gdk103 j_).toInt = ((A j_ : Nat) : Int) ∧ A j_ ≤ 3 := fun j_ hj_ => by rw [z2_ j_ (by omega)]; exact hA j_ hj_
          have hK_ : ∀ j_, j_ < nf → (gdk103 (4 + j_)).toInt = ((K j_ : Nat) : Int) ∧ K j_ ≤ 3 := fun j_ hj_ => by rw [z2_ (4 + j_) (by omega)]; exact hK j_ hj_
          have hlen_ := txH_len (K := K) (L := L2_) (B := B2_) (nf := nf) (A := A) (f := f) (gd := gdk103) (gb := gbk103) (by omega) (fun i_ hi_ => hBL2_ i_ (by omega))
          have hKf_ := (hK f (by omega)).2
          have hL14_ := (hBL2_ f (by omega)).2.2.1
          refine lv_aload_n hx hb dL_functions_184 rfl (lv_at hl 0 rfl) ?_
          refine lv_bipush (v := 102) hx hb dL_functions_185 (by decide) ?_
          refine r_callI w (va_runV (As := [.int 102]) (rest := []) ⟨hx, hb, hml, hown, hts⟩ (c_X8_write l C 102) (cwV 1 hts gL_functions_X8_write rfl rfl rfl (by decide +kernel) ⟨Nat.le_of_ble_eq_true rfl, Nat.le_of_ble_eq_true rfl⟩) (r_preV w (by have := C.hN; omega) C.ob.choose_spec rfl) rfl rfl hl.1 rfl (lv_room (Nat.le_of_ble_eq_true rfl)) dL_functions_187 ⟨Nat.zero_le _, Nat.zero_le _⟩) (fun r105 h104 H locs hp w => ?_)
          obtain ⟨hfk106, sk106, C, Ak106⟩ := hp
          have D := D.fr (h' := h104) (fun k_ h1_ h2_ => hfk106 k_ (by omega))
          have Bt := Bt.fr (h' := h104) (fun k_ h1_ h2_ => hfk106 k_ (by omega))
          have hfr : ∀ k_, ¬ (x ≤ k_ ∧ k_ < x + 143 ∨ k_ = kd ∨ k_ = kb) → h104 k_ = h k_ := fun k_ hk_ => (hfk106 k_ (by omega)).trans (hfr k_ hk_)
          have hTx107 := hTx.wr Ak106 (by decide : (102 : Int32).toInt = ((102 : Nat) : Int)) (by omega) (by omega)
          refine lv_pop hx hb dL_functions_190 rfl ?_
          refine lv_aload_n hx hb dL_functions_191 rfl (lv_at hl 0 rfl) ?_
          refine lv_bipush (v := 48) hx hb dL_functions_192 (by decide) ?_
          refine lv_aload_n hx hb dL_functions_194 rfl (lv_at hl 2 rfl) ?_
          refine lv_iconst (v := 4) hx hb dL_functions_195 (by decide) ?_
          refine lv_iload hx hb dL_functions_196 (lv_at hl 5 rfl) ?_
          refine lv_iadd hx hb dL_functions_198 ?_
          refine lv_topi (fun y108 ey108 => ?_)
          have ty108 : y108.toInt = (((4 + f) : Nat) : Int) := i_addN ey108 (by decide : (4 : Int32).toInt = ((4 : Nat) : Int)) hx5 (by omega)
          refine r_iald (j := (4 + f)) hx hb w D.1 D.2 ty108 (by omega) dL_functions_199 ?_
          refine lv_iadd hx hb dL_functions_200 ?_
          refine lv_topi (fun y109 ey109 => ?_)
          have ty109 : y109.toInt = (((48 + (K f)) : Nat) : Int) := i_addN ey109 (by decide : (48 : Int32).toInt = ((48 : Nat) : Int)) (hK_ f (by omega)).1 (by omega)
          refine r_callI w (va_runV (As := [.int y109]) (rest := []) ⟨hx, hb, hml, hown, hts⟩ (c_X8_write l C y109) (cwV 1 hts gL_functions_X8_write rfl rfl rfl (by decide +kernel) ⟨Nat.le_of_ble_eq_true rfl, Nat.le_of_ble_eq_true rfl⟩) (r_preV w (by have := C.hN; omega) C.ob.choose_spec rfl) rfl rfl hl.1 rfl (lv_room (Nat.le_of_ble_eq_true rfl)) dL_functions_201 ⟨Nat.zero_le _, Nat.zero_le _⟩) (fun r111 h110 H locs hp w => ?_)
          obtain ⟨hfk112, sk112, C, Ak112⟩ := hp
          have D := D.fr (h' := h110) (fun k_ h1_ h2_ => hfk112 k_ (by omega))
          have Bt := Bt.fr (h' := h110) (fun k_ h1_ h2_ => hfk112 k_ (by omega))
          have hfr : ∀ k_, ¬ (x ≤ k_ ∧ k_ < x + 143 ∨ k_ = kd ∨ k_ = kb) → h110 k_ = h k_ := fun k_ hk_ => (hfk112 k_ (by omega)).trans (hfr k_ hk_)
          have hTx113 := hTx107.wr Ak112 ty109 (by omega) (by simp only [List.length_append, List.length_cons, List.length_nil]; omega)
          refine lv_pop hx hb dL_functions_204 rfl ?_
          refine lv_aload_n hx hb dL_functions_205 rfl (lv_at hl 0 rfl) ?_
          refine lv_bipush (v := 44) hx hb dL_functions_206 (by decide) ?_
          refine r_callI w (va_runV (As := [.int 44]) (rest := []) ⟨hx, hb, hml, hown, hts⟩ (c_X8_write l C 44) (cwV 1 hts gL_functions_X8_write rfl rfl rfl (by decide +kernel) ⟨Nat.le_of_ble_eq_true rfl, Nat.le_of_ble_eq_true rfl⟩) (r_preV w (by have := C.hN; omega) C.ob.choose_spec rfl) rfl rfl hl.1 rfl (lv_room (Nat.le_of_ble_eq_true rfl)) dL_functions_208 ⟨Nat.zero_le _, Nat.zero_le _⟩) (fun r115 h114 H locs hp w => ?_)
          obtain ⟨hfk116, sk116, C, Ak116⟩ := hp
          have D := D.fr (h' := h114) (fun k_ h1_ h2_ => hfk116 k_ (by omega))
          have Bt := Bt.fr (h' := h114) (fun k_ h1_ h2_ => hfk116 k_ (by omega))
          have hfr : ∀ k_, ¬ (x ≤ k_ ∧ k_ < x + 143 ∨ k_ = kd ∨ k_ = kb) → h114 k_ = h k_ := fun k_ hk_ => (hfk116 k_ (by omega)).trans (hfr k_ hk_)
          have hTx117 := hTx113.wr Ak116 (by decide : (44 : Int32).toInt = ((44 : Nat) : Int)) (by omega) (by simp only [List.length_append, List.length_cons, List.length_nil]; omega)
          refine lv_pop hx hb dL_functions_211 rfl ?_
          refine lv_iconst (v := 0) hx hb dL_functions_212 (by decide) ?_
          refine lv_istore (lv' := [(6, .int 0), (0, .ref (g.2.2.1 x)), (1, .ref sa), (2, .ref (g.2.2.1 kd)), (3, .ref (g.2.2.1 kb)), (4, .int x4), (5, .int x5)]) hx hb dL_functions_213 hl (by decide) rfl (fun ls hl => ?_)
          exact ih215 nf sk116 A K gdk103 x4 x5 f L2_ B2_ gbk103 0 0 h114 _ _ _ w (lv_sub hl [1, 2, 3, 4, 5, 6, 0] rfl) h1n hn4 h12_ hx5 (by omega) hA_ hK_ hBL2_ ((by decide : (0 : Int32).toInt = ((0 : Nat) : Int))) (Nat.zero_le _) (by rw [txK_0]; exact hTx117) C D Bt hfr (by omega)
      · intro nf st1 A K gd1 x4 x5 f L Bf gb1 k x6 hc H locs ls w hl h1n hn4 h12 hx5 hf hA hK hBL hx6 hk hTx C D Bt hfr hN_
        have hL14_ := (hBL f (by omega)).2.2.1
        have hlen_ := txK_len (K := K) (L := L) (B := Bf) (nf := nf) (A := A) (f := f) (k := k) (gd := gd1) (gb := gb1) (by omega) (fun i_ hi_ => hBL i_ (by omega))
        refine lv_iload hx hb dL_functions_215 (lv_at hl 6 rfl) ?_
        refine lv_aload_n hx hb dL_functions_217 rfl (lv_at hl 2 rfl) ?_
        refine lv_bipush (v := 8) hx hb dL_functions_218 (by decide) ?_
        refine lv_iload hx hb dL_functions_220 (lv_at hl 5 rfl) ?_
        refine lv_iadd hx hb dL_functions_222 ?_
        refine lv_topi (fun y118 ey118 => ?_)
        have ty118 : y118.toInt = (((8 + f) : Nat) : Int) := i_addN ey118 (by decide : (8 : Int32).toInt = ((8 : Nat) : Int)) hx5 (by omega)
        refine r_iald (j := (8 + f)) hx hb w D.1 D.2 ty118 (by omega) dL_functions_223 ?_
        refine lv_icmp_ge (tgt := 248) hx hb dL_functions_224 (by decide) (fun c119 => ?_) (fun c119 => ?_)
        · have c119 : (((L f) : Nat) : Int) ≤ ((k : Nat) : Int) := (i_le (hBL f (by omega)).1 hx6).mp c119
          refine lv_aload_n hx hb dL_functions_248 rfl (lv_at hl 0 rfl) ?_
          refine lv_bipush (v := 59) hx hb dL_functions_249 (by decide) ?_
          refine r_callI w (va_runV (As := [.int 59]) (rest := []) ⟨hx, hb, hml, hown, hts⟩ (c_X8_write l C 59) (cwV 1 hts gL_functions_X8_write rfl rfl rfl (by decide +kernel) ⟨Nat.le_of_ble_eq_true rfl, Nat.le_of_ble_eq_true rfl⟩) (r_preV w (by have := C.hN; omega) C.ob.choose_spec rfl) rfl rfl hl.1 rfl (lv_room (Nat.le_of_ble_eq_true rfl)) dL_functions_251 ⟨Nat.zero_le _, Nat.zero_le _⟩) (fun r121 h120 H locs hp w => ?_)
          obtain ⟨hfk122, sk122, C, Ak122⟩ := hp
          have D := D.fr (h' := h120) (fun k_ h1_ h2_ => hfk122 k_ (by omega))
          have Bt := Bt.fr (h' := h120) (fun k_ h1_ h2_ => hfk122 k_ (by omega))
          have hfr : ∀ k_, ¬ (x ≤ k_ ∧ k_ < x + 143 ∨ k_ = kd ∨ k_ = kb) → h120 k_ = h k_ := fun k_ hk_ => (hfk122 k_ (by omega)).trans (hfr k_ hk_)
          have hTx123 := hTx.wr Ak122 (by decide : (59 : Int32).toInt = ((59 : Nat) : Int)) (by omega) (by omega)
          refine lv_pop hx hb dL_functions_254 rfl ?_
          obtain ⟨y124, ey124⟩ : ∃ y : Int32, y = x5 + (1) := ⟨_, rfl⟩
          have ty124 : y124.toInt = (((f + 1) : Nat) : Int) := i_addN ey124 hx5 (by decide : (1 : Int32).toInt = ((1 : Nat) : Int)) (by omega)
          refine lv_iinc (v := y124) (lv' := [(5, .int y124), (0, .ref (g.2.2.1 x)), (1, .ref sa), (2, .ref (g.2.2.1 kd)), (3, .ref (g.2.2.1 kb)), (4, .int x4), (6, .int x6)]) hx hb dL_functions_255 hl (k := 5) rfl (by rw [ey124]; rfl) (by decide) rfl (fun ls hl => ?_)
          refine lv_goto (tgt := 152) hx hb dL_functions_258 (by decide) ?_
          exact ih152 nf sk122 A K gd1 x4 y124 (f + 1) L Bf gb1 h120 _ _ _ w (lv_sub hl [1, 2, 3, 4, 5, 0] rfl) h1n hn4 h12 ty124 (by omega) hA hK hBL (by rw [← txK_end]; rw [show k = L f by omega] at hTx123; exact hTx123) C D Bt hfr (by omega)
        · have c119 : ¬ ((((L f) : Nat) : Int) ≤ ((k : Nat) : Int)) := fun q => c119 ((i_le (hBL f (by omega)).1 hx6).mpr q)
          refine lv_aload_n hx hb dL_functions_227 rfl (lv_at hl 0 rfl) ?_
          refine lv_aload_n hx hb dL_functions_228 rfl (lv_at hl 3 rfl) ?_
          refine lv_bipush (v := 16) hx hb dL_functions_229 (by decide) ?_
          refine lv_iload hx hb dL_functions_231 (lv_at hl 5 rfl) ?_
          refine lv_imul hx hb dL_functions_233 ?_
          refine lv_topi (fun y125 ey125 => ?_)
          have ty125 : y125.toInt = (((16 * f) : Nat) : Int) := i_mulN ey125 (by decide : (16 : Int32).toInt = ((16 : Nat) : Int)) hx5 (by omega)
          refine lv_iload hx hb dL_functions_234 (lv_at hl 6 rfl) ?_
          refine lv_iadd hx hb dL_functions_236 ?_
          refine lv_topi (fun y126 ey126 => ?_)
          have ty126 : y126.toInt = ((((16 * f) + k) : Nat) : Int) := i_addN ey126 ty125 hx6 (by omega)
          refine r_iald (j := ((16 * f) + k)) hx hb w Bt.1 Bt.2 ty126 (by omega) dL_functions_237 ?_
          refine r_callI w (va_runV (As := [.int (gb1 (((16 * f) + k)))]) (rest := []) ⟨hx, hb, hml, hown, hts⟩ (c_X8_write l C (gb1 (((16 * f) + k)))) (cwV 1 hts gL_functions_X8_write rfl rfl rfl (by decide +kernel) ⟨Nat.le_of_ble_eq_true rfl, Nat.le_of_ble_eq_true rfl⟩) (r_preV w (by have := C.hN; omega) C.ob.choose_spec rfl) rfl rfl hl.1 rfl (lv_room (Nat.le_of_ble_eq_true rfl)) dL_functions_238 ⟨Nat.zero_le _, Nat.zero_le _⟩) (fun r128 h127 H locs hp w => ?_)
          obtain ⟨hfk129, sk129, C, Ak129⟩ := hp
          have D := D.fr (h' := h127) (fun k_ h1_ h2_ => hfk129 k_ (by omega))
          have Bt := Bt.fr (h' := h127) (fun k_ h1_ h2_ => hfk129 k_ (by omega))
          have hfr : ∀ k_, ¬ (x ≤ k_ ∧ k_ < x + 143 ∨ k_ = kd ∨ k_ = kb) → h127 k_ = h k_ := fun k_ hk_ => (hfk129 k_ (by omega)).trans (hfr k_ hk_)
          have hTx130 := hTx.wr Ak129 ((hBL f (by omega)).2.2.2.1 k (by omega)).1 (by have z0_ := ((hBL f (by omega)).2.2.2.1 k (by omega)).2.1; have z1_ := mCode_c z0_; omega) (by omega)
          refine lv_pop hx hb dL_functions_241 rfl ?_
          obtain ⟨y131, ey131⟩ : ∃ y : Int32, y = x6 + (1) := ⟨_, rfl⟩
          have ty131 : y131.toInt = (((k + 1) : Nat) : Int) := i_addN ey131 hx6 (by decide : (1 : Int32).toInt = ((1 : Nat) : Int)) (by omega)
          refine lv_iinc (v := y131) (lv' := [(6, .int y131), (0, .ref (g.2.2.1 x)), (1, .ref sa), (2, .ref (g.2.2.1 kd)), (3, .ref (g.2.2.1 kb)), (4, .int x4), (5, .int x5)]) hx hb dL_functions_242 hl (k := 6) rfl (by rw [ey131]; rfl) (by decide) rfl (fun ls hl => ?_)
          refine lv_goto (tgt := 215) hx hb dL_functions_245 (by decide) ?_
          exact ih215 nf sk129 A K gd1 x4 x5 f L Bf gb1 (k + 1) y131 h127 _ _ _ w (lv_sub hl [1, 2, 3, 4, 5, 6, 0] rfl) h1n hn4 h12 hx5 hf hA hK hBL ty131 (by omega) (by rw [txK_up]; exact hTx130) C D Bt hfr (by omega)
  have cut0 := cuts (1000)
  obtain ⟨ih34, ih152, ih215⟩ := cut0
  refine lv_aload_n hx hb dL_functions_0 rfl (lv_at hl 1 rfl) ?_
  refine lv_iconst (v := 0) hx hb dL_functions_1 (by decide) ?_
  refine r_callI w (va_runS (As := [.ref sa, .int 0]) (rest := []) ⟨hx, hb, hml, hown, hts⟩ (c_L_cell l (g := g) (h := h) (sa := sa) (sL := sL) (sx := sx) 0 (by decide : (0 : Int32).toInt = ((0 : Nat) : Int))) (va_cwS 2 hts gL_functions_L_cell rfl rfl rfl (by decide +kernel) ⟨Nat.le_of_ble_eq_true rfl, Nat.le_of_ble_eq_true rfl⟩) (r_preSs w hsc) rfl rfl hl.1 rfl (lv_room (Nat.le_of_ble_eq_true rfl)) dL_functions_2 ⟨Nat.zero_le _, Nat.zero_le _⟩) (fun r133 h132 H locs hp w => ?_)
  have eh_ := hp.symm
  subst eh_
  refine lv_istore (lv' := [(4, .int r133), (0, .ref (g.2.2.1 x)), (1, .ref sa), (2, .ref (g.2.2.1 kd)), (3, .ref (g.2.2.1 kb))]) hx hb dL_functions_5 hl (by decide) rfl (fun ls hl => ?_)
  refine lv_aload_n hx hb dL_functions_7 rfl (lv_at hl 3 rfl) ?_
  refine lv_bipush (v := 12) hx hb dL_functions_8 (by decide) ?_
  refine lv_iconst (v := 1) hx hb dL_functions_10 (by decide) ?_
  refine lv_iload hx hb dL_functions_11 (lv_at hl 0 rfl) ?_
  refine lv_iconst (v := 4) hx hb dL_functions_13 (by decide) ?_
  refine r_callI w (va_runS (As := [.int r133, .int 4]) (rest := [.int 1, .int 12, .ref (g.2.2.1 kd)]) ⟨hx, hb, hml, hown, hts⟩ (c_L_low l (g := g) (h := h) r133 4 (by decide : (4 : Int32).toInt = ((4 : Nat) : Int)) (by omega)) (va_cwS 2 hts gL_functions_L_low rfl rfl rfl (by decide +kernel) ⟨Nat.le_of_ble_eq_true rfl, Nat.le_of_ble_eq_true rfl⟩) (r_preS w) rfl rfl hl.1 rfl (lv_room (Nat.le_of_ble_eq_true rfl)) dL_functions_14 ⟨Nat.zero_le _, Nat.zero_le _⟩) (fun r135 h134 H locs hp w => ?_)
  obtain ⟨eh_, qq136⟩ := hp
  have eh_ := eh_.symm
  subst eh_
  have hlt_r135 := lowF_lt (v := r133) (n := 4) (by omega)
  refine lv_iadd hx hb dL_functions_17 ?_
  refine lv_topi (fun y137 ey137 => ?_)
  have ty137 : y137.toInt = (((1 + (lowF r133 4)) : Nat) : Int) := i_addN ey137 (by decide : (1 : Int32).toInt = ((1 : Nat) : Int)) qq136 (by omega)
  refine r_iast (j := 12) hx hb w D.1 D.2 (by decide : (12 : Int32).toInt = ((12 : Nat) : Int)) (by omega) dL_functions_18 (fun h138 H locs eh138 w => ?_)
  have D := D.s eh138
  generalize egz139 : upd gd 12 y137 = gz139 at D
  have hfr : ∀ k_, ¬ (x ≤ k_ ∧ k_ < x + 143 ∨ k_ = kd ∨ k_ = kb) → h138 k_ = h k_ := fun k_ hk_ => by rw [eh138, va_up_ne _ _ (by omega)]
  have C := C.fr (h' := h138) (fun k_ h1_ h2_ => by rw [eh138, va_up_ne _ _ (by omega)])
  have Bt := Bt.fr (h' := h138) (fun k_ h1_ h2_ => by rw [eh138, va_up_ne _ _ (by omega)])
  refine lv_aload_n hx hb dL_functions_19 rfl (lv_at hl 1 rfl) ?_
  refine r_callI w (va_runV (As := []) (rest := []) ⟨hx, hb, hml, hown, hts⟩ (c_X8_wipe l C ) (cwV 0 hts gL_functions_X8_wipe rfl rfl rfl (by decide +kernel) ⟨Nat.le_of_ble_eq_true rfl, Nat.le_of_ble_eq_true rfl⟩) (r_preV w (by have := C.hN; omega) C.ob.choose_spec rfl) rfl rfl hl.1 rfl (lv_room (Nat.le_of_ble_eq_true rfl)) dL_functions_20 ⟨Nat.zero_le _, Nat.zero_le _⟩) (fun r141 h140 H locs hp w => ?_)
  obtain ⟨hfk142, sk142, C, Ak142⟩ := hp
  have D := D.fr (h' := h140) (fun k_ h1_ h2_ => hfk142 k_ (by omega))
  have Bt := Bt.fr (h' := h140) (fun k_ h1_ h2_ => hfk142 k_ (by omega))
  have hfr : ∀ k_, ¬ (x ≤ k_ ∧ k_ < x + 143 ∨ k_ = kd ∨ k_ = kb) → h140 k_ = h k_ := fun k_ hk_ => (hfk142 k_ (by omega)).trans (hfr k_ hk_)
  have hT0_ := wipe_0 Ak142
  refine lv_pop hx hb dL_functions_23 rfl ?_
  refine lv_aload_n hx hb dL_functions_24 rfl (lv_at hl 1 rfl) ?_
  refine lv_bipush (v := 110) hx hb dL_functions_25 (by decide) ?_
  refine r_callI w (va_runV (As := [.int 110]) (rest := []) ⟨hx, hb, hml, hown, hts⟩ (c_X8_write l C 110) (cwV 1 hts gL_functions_X8_write rfl rfl rfl (by decide +kernel) ⟨Nat.le_of_ble_eq_true rfl, Nat.le_of_ble_eq_true rfl⟩) (r_preV w (by have := C.hN; omega) C.ob.choose_spec rfl) rfl rfl hl.1 rfl (lv_room (Nat.le_of_ble_eq_true rfl)) dL_functions_27 ⟨Nat.zero_le _, Nat.zero_le _⟩) (fun r144 h143 H locs hp w => ?_)
  obtain ⟨hfk145, sk145, C, Ak145⟩ := hp
  have D := D.fr (h' := h143) (fun k_ h1_ h2_ => hfk145 k_ (by omega))
  have Bt := Bt.fr (h' := h143) (fun k_ h1_ h2_ => hfk145 k_ (by omega))
  have hfr : ∀ k_, ¬ (x ≤ k_ ∧ k_ < x + 143 ∨ k_ = kd ∨ k_ = kb) → h143 k_ = h k_ := fun k_ hk_ => (hfk145 k_ (by omega)).trans (hfr k_ hk_)
  have hTx146 := hT0_.wr Ak145 (by decide : (110 : Int32).toInt = ((110 : Nat) : Int)) (by omega) (by decide)
  refine lv_pop hx hb dL_functions_30 rfl ?_
  refine lv_iconst (v := 0) hx hb dL_functions_31 (by decide) ?_
  refine lv_istore (lv' := [(5, .int 0), (4, .int r133), (0, .ref (g.2.2.1 x)), (1, .ref sa), (2, .ref (g.2.2.1 kd)), (3, .ref (g.2.2.1 kb))]) hx hb dL_functions_32 hl (by decide) rfl (fun ls hl => ?_)
  exact ih34 ((1 + (lowF r133 4))) sk145 ((fun _ => 0)) ((fun _ => 0)) gz139 r133 0 0 h143 _ _ _ w (lv_sub hl [2, 3, 4, 5, 1, 0] rfl) (by omega) (by omega) (by rw [← egz139, pk_us]; exact ty137) ((by decide : (0 : Int32).toInt = ((0 : Nat) : Int))) (Nat.zero_le _) hTx146 (fun j_ hj_ => absurd hj_ (Nat.not_lt_zero _)) C D Bt hfr (by omega)

