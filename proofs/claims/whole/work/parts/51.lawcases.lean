-- ===== THE LAW'S CASES: laid by wip/whole/gen/lawgen.py =====
section LXT
variable {g g' : GE} {h h' : Nat → va_E}
theorem kpF.ext {x : Nat} (e : Ext g g') (hx : x + 143 ≤ g.2.2.2) : kpF g' x = kpF g x := by
  funext i
  unfold kpF
  by_cases hi : i < 2
  · rw [if_pos hi, if_pos hi, e.at (by omega)]
  · rw [if_neg hi, if_neg hi]
theorem EvA.ext {x : Nat} {kn : Int32} (E : EvA g h x kn) (e : Ext g g') (hf : ∀ k, x ≤ k → k < x + 143 → h' k = h k) : EvA g' h' x kn := by
  obtain ⟨a0, a1, a2⟩ := E
  have := e.2.2.1
  refine ⟨by omega, ?_, ?_⟩
  · rw [hf _ (by omega) (by omega), a1, e.at (k := x + 1) (by omega), e.at (k := x + 12) (by omega), e.at (k := x + 21) (by omega), e.at (k := x + 30) (by omega), e.at (k := x + 49) (by omega), e.at (k := x + 53) (by omega), e.at (k := x + 71) (by omega), e.at (k := x + 89) (by omega), e.at (k := x + 107) (by omega), e.at (k := x + 125) (by omega)]
  · rw [hf _ (by omega) (by omega), a2, kpF.ext e a0, e.2.1]
theorem PrE.ext {o : Nat} {M : PRG} (P : PrE g h o M) (e : Ext g g') (hf : ∀ k, o ≤ k → k < o + 9 → h' k = h k) : PrE g' h' o M := by
  obtain ⟨n, ga, gk, gl, gb, P, S⟩ := P
  exact ⟨n, ga, gk, gl, gb, P.ext e hf, S⟩
theorem TxE.ext {t n : Nat} {tx : Nat → Nat} (T : TxE g h t n tx) (e : Ext g g') (hf : ∀ k, t ≤ k → k < t + 11 → h' k = h k) : TxE g' h' t n tx := by
  obtain ⟨ln, a, bd, gs, T, z⟩ := T
  exact ⟨ln, a, bd, gs, T.ext e (fun k p q _ => hf k p q), z⟩
theorem VwX.ext {v u : Nat} (V : VwX g h v u) (e : Ext g g') (hf : ∀ k, v ≤ k → k < v + 18 → h' k = h k) : VwX g' h' v u := by
  obtain ⟨kk, kc, tk, fz, dp, gp, gg, gs, gd, gt, gc, V⟩ := V
  exact ⟨kk, kc, tk, fz, dp, gp, gg, gs, gd, gt, gc, V.ext e hf⟩
theorem VwE.ext {v u : Nat} {M : PRG} (V : VwE g h v u M) (e : Ext g g') (hf : ∀ k, v ≤ k → k < v + 18 → h' k = h k) : VwE g' h' v u M := by
  obtain ⟨kk, kc, tk, fz, dp, gp, gg, gs, gd, gt, gc, V, z⟩ := V
  exact ⟨kk, kc, tk, fz, dp, gp, gg, gs, gd, gt, gc, V.ext e hf, z⟩
theorem HiE.ext {t : Nat} {s : ST} (V : HiE g h t s) (e : Ext g g') (hf : ∀ k, t ≤ k → k < t + 4 → h' k = h k) : HiE g' h' t s := by
  obtain ⟨c, gf, gp, gq, V, z⟩ := V
  exact ⟨c, gf, gp, gq, V.ext e hf, z⟩
theorem ClsA.ext {x : Nat} {s : ST} (C : ClsA g h x s) (e : Ext g g') (hf : ∀ k, x ≤ k → k < x + 143 → h' k = h k) : ClsA g' h' x s := by
  obtain ⟨a0, ⟨kn, a1, a2⟩, a3, a4, a5, a6, a7, a8, a9, b0, b1, b2, b3, b4⟩ := C
  have h2 : 2 ≥ sV s := a0.2.2.2.1
  exact ⟨a0, ⟨kn, a1.ext e hf, a2⟩, a3.ext e (fun k _ _ => hf k (by omega) (by omega)), a4.ext e (fun k _ _ => hf k (by omega) (by omega)), a5.ext e (fun k _ _ => hf k (by omega) (by omega)), a6.ext e (fun k _ _ => hf k (by omega) (by omega)),
    fun i hi => (a7 i hi).ext e (fun k _ _ => hf k (by omega) (by omega)), fun i hi => (a8 i hi).ext e (fun k _ _ => hf k (by omega) (by omega)), a9.ext e (fun k _ _ => hf k (by omega) (by omega)), b0.ext e (fun k _ _ => hf k (by omega) (by omega)), b1.ext e (fun k _ _ => hf k (by omega) (by omega)), b2.ext e (fun k _ _ => hf k (by omega) (by omega)), b3.ext e (fun k _ _ => hf k (by omega) (by omega)), b4.ext e (fun k _ _ => hf k (by omega) (by omega))⟩
theorem ClsA.ob {x : Nat} {s : ST} (C : ClsA g h x s) : ∃ fs, h x = .inr (6, fs) := by
  obtain ⟨-, ⟨kn, a1, -⟩, -⟩ := C
  exact ⟨_, a1.2.1⟩
theorem ClsA.hN {x : Nat} {s : ST} (C : ClsA g h x s) : x + 143 ≤ g.2.2.2 := by
  obtain ⟨-, ⟨kn, a1, -⟩, -⟩ := C
  exact a1.1
theorem RefA.ob {r : Nat} {s : ST} (R : RefA g h r s) : ∃ fs, h r = .inr (7, fs) := by
  obtain ⟨nm, kn, um, sv, sz, ra, rm, ga, gk, gl, gB, gt, gn, gr, gp, gh, gv, gs, gx, gf, D, z⟩ := R
  exact ⟨_, D.c0⟩
theorem RefA.hN {r : Nat} {s : ST} (R : RefA g h r s) : r + 14 ≤ g.2.2.2 := by
  obtain ⟨nm, kn, um, sv, sz, ra, rm, ga, gk, gl, gB, gt, gn, gr, gp, gh, gv, gs, gx, gf, D, z⟩ := R
  exact D.1
end LXT
section LAW
variable {p : Program} {l : Launch} {e : Env} {s : State} {m : MethodId} {args : Array Value} {below : List Frame} {meth : Method} {c : Code} {b L : Nat} {xs : Nat → Int32} {H : Heap} {locs : List Loc} {cells slots : Nat} {g : GE} {h : Nat → va_E} {ls : Array Slot} {st : ST} {i : Int32} {k : Nat} {Q : State → Prop} {rest : List Value}
def LwC (p : Program) (s : State) (m : MethodId) (c : Code) (args : Array Value) (b L : Nat) (xs : Nat → Int32) (cells slots : Nat) : Prop :=
  p.tables.exec = Jvm.exec ∧ c.code = cL_law ∧ c.maxLocals = 4 ∧ s.vm.findClass RL = some m.cls ∧ (∀ w ∈ wsL_law, w.before args s = true) ∧ va_X b L xs s s.heap ∧ b < s.heap.size ∧ L ≤ 2560 ∧ cells + 0 ≤ room_1.cells ∧ slots + 0 ≤ room_1.slots
def LwI (g : GE) (h : Nat → va_E) (s : State) (st : ST) (H : Heap) (locs : List Loc) : Prop := WD g (fun q => s.heap.size ≤ q) s h H locs ∧ ClsA g h 0 st ∧ RefA g h 143 st
abbrev LwL (g : GE) (b : Nat) (i : Int32) (ls : Array Slot) : Prop := lv_has ls 4 [(3, .int i), (2, .ref (g.2.2.1 143)), (1, .ref (g.2.2.1 0)), (0, .ref b)]
theorem lw_sld {pc : Nat} {j : Nat} {x : Int32} (C : LwC p s m c args b L xs cells slots) (W0 : WD g (fun q => s.heap.size ≤ q) s h H locs) (hj : x.toInt = (j : Int)) (hn : j < L) (hdg : decode cL_law pc = .ok (.iaload, 1))
    (kk : W p l e room_1 s m args below meth c H locs cells slots Q (F0 m (pc + 1) ls (.int (xs j) :: rest))) : W p l e room_1 s m args below meth c H locs cells slots Q (F0 m pc ls (.int x :: .ref b :: rest)) := by
  obtain ⟨hx, hb, hml, hown, hts, hX, hbl, hL, hcs⟩ := C
  refine va_sld hx hb hX hbl (Nat.not_le.mpr hbl) W0.2.2.2.1 (i_in hj hn) hdg ?_
  rw [i_nat hj]; exact kk
/-- the script's place i + n -/
theorem lw_rd {pc n : Nat} {v : Int32} {z : Int} (C : LwC p s m c args b L xs cells slots) (W0 : WD g (fun q => s.heap.size ≤ q) s h H locs) (hl : LwL g b i ls) (hi : i.toInt = (k : Int)) (hv : v.toInt = (n : Int)) (hz : Int32.ofInt z = v) (hn : k + n < L)
    (d0 : decode cL_law pc = .ok (.aload_n 0, 1)) (d1 : decode cL_law (pc + 1) = .ok (.iload_n 3, 1)) (d2 : decode cL_law (pc + 1 + 1) = .ok (.iconst z, 1)) (d3 : decode cL_law (pc + 1 + 1 + 1) = .ok (.iadd, 1)) (d4 : decode cL_law (pc + 1 + 1 + 1 + 1) = .ok (.iaload, 1))
    (kk : W p l e room_1 s m args below meth c H locs cells slots Q (F0 m (pc + 1 + 1 + 1 + 1 + 1) ls (.int (xs (k + n)) :: rest))) : W p l e room_1 s m args below meth c H locs cells slots Q (F0 m pc ls rest) := by
  obtain ⟨hx, hb, hml, hown, hts, hX, hbl, hL, hcs⟩ := id C
  refine lv_aload_n hx hb d0 rfl (lv_at hl 3 rfl) ?_
  refine lv_iload_n hx hb d1 rfl (lv_at hl 0 rfl) ?_
  refine lv_iconst (v := v) hx hb d2 hz ?_
  refine lv_iadd hx hb d3 ?_
  refine lv_topi (fun y ey => ?_)
  exact lw_sld C W0 (i_addN ey hi hv (by omega)) hn d4 kk
set_option maxRecDepth 20000 in
theorem lc_write (C : LwC p s m c args b L xs cells slots) (I : LwI g h s st H locs) (hl : LwL g b i ls) (hi : i.toInt = (k : Int)) (hk : k + 5 ≤ L) (K : ∀ (st2 : ST) (h2 : Nat → va_E) (H2 : Heap) (locs2 : List Loc), LwI g h2 s st2 H2 locs2 → W p l e room_1 s m args below meth c H2 locs2 cells slots Q (F0 m 809 ls [])) : W p l e room_1 s m args below meth c H locs cells slots Q (F0 m 140 ls []) := by
  obtain ⟨hx, hb, hml, hown, hts, hX, hbl, hL, hcs⟩ := id C
  obtain ⟨W, C8, C9⟩ := I
  obtain ⟨fs8, ob8⟩ := C8.ob
  have hN9 := C9.hN
  refine lv_aload_n hx hb dL_law_140 rfl (lv_at hl 2 rfl) ?_
  refine lw_rd (n := 1) (v := 1) C W hl hi (by decide) (by decide) (by omega) dL_law_141 dL_law_142 dL_law_143 dL_law_144 dL_law_145 ?_
  refine r_callI W (va_runV (As := [.int (xs (k + 1))]) (rest := []) ⟨hx, hb, hml, hown, hts⟩ (c_X8_write l C8 (xs (k + 1))) (cwV 1 hts gL_law_X8_write rfl rfl rfl (by decide +kernel) ⟨Nat.le_of_ble_eq_true rfl, Nat.le_of_ble_eq_true rfl⟩) (r_preV W (by omega) ob8 rfl) rfl rfl hl.1 rfl (lv_room (Nat.le_of_ble_eq_true rfl)) dL_law_146 hcs) (fun r8 h8 H8 locs8 hp8 W8 => ?_)
  obtain ⟨f8, s8, C8, A8⟩ := hp8
  have C9 := C9.fr (h' := h8) (fun q q1 q2 => f8 q (by omega))
  obtain ⟨fs9, ob9⟩ := C9.ob
  refine lv_aload_n hx hb dL_law_149 rfl (lv_at hl 1 rfl) ?_
  refine lw_rd (n := 1) (v := 1) C W8 hl hi (by decide) (by decide) (by omega) dL_law_150 dL_law_151 dL_law_152 dL_law_153 dL_law_154 ?_
  refine r_callI W8 (va_runV (As := [.int (xs (k + 1))]) (rest := [.int r8]) ⟨hx, hb, hml, hown, hts⟩ (c_X9_write l C9 (xs (k + 1))) (cwV 1 hts gL_law_X9_write rfl rfl rfl (by decide +kernel) ⟨Nat.le_of_ble_eq_true rfl, Nat.le_of_ble_eq_true rfl⟩) (r_preV W8 (by omega) ob9 rfl) rfl rfl hl.1 rfl (lv_room (Nat.le_of_ble_eq_true rfl)) dL_law_155 hcs) (fun r9 h9 H9 locs9 hp9 W9 => ?_)
  obtain ⟨f9, s9, C9, A9⟩ := hp9
  have C8 := C8.fr (h' := h9) (fun q q1 q2 => f9 q (by omega))
  obtain ⟨er, es⟩ := AnWrite.inj A8 A9
  subst es
  refine lv_icmp_eq (tgt := 809) hx hb dL_law_158 (by decide) (fun c1 => ?_) (fun c1 => ?_)
  · exact K _ _ _ _ ⟨W9, C8, C9⟩
  · exact absurd er c1
set_option maxRecDepth 20000 in
theorem lc_wipe (C : LwC p s m c args b L xs cells slots) (I : LwI g h s st H locs) (hl : LwL g b i ls) (hi : i.toInt = (k : Int)) (hk : k + 5 ≤ L) (K : ∀ (st2 : ST) (h2 : Nat → va_E) (H2 : Heap) (locs2 : List Loc), LwI g h2 s st2 H2 locs2 → W p l e room_1 s m args below meth c H2 locs2 cells slots Q (F0 m 809 ls [])) : W p l e room_1 s m args below meth c H locs cells slots Q (F0 m 163 ls []) := by
  obtain ⟨hx, hb, hml, hown, hts, hX, hbl, hL, hcs⟩ := id C
  obtain ⟨W, C8, C9⟩ := I
  obtain ⟨fs8, ob8⟩ := C8.ob
  have hN9 := C9.hN
  refine lv_aload_n hx hb dL_law_163 rfl (lv_at hl 2 rfl) ?_
  refine r_callI W (va_runV (As := []) (rest := []) ⟨hx, hb, hml, hown, hts⟩ (c_X8_wipe l C8 ) (cwV 0 hts gL_law_X8_wipe rfl rfl rfl (by decide +kernel) ⟨Nat.le_of_ble_eq_true rfl, Nat.le_of_ble_eq_true rfl⟩) (r_preV W (by omega) ob8 rfl) rfl rfl hl.1 rfl (lv_room (Nat.le_of_ble_eq_true rfl)) dL_law_164 hcs) (fun r8 h8 H8 locs8 hp8 W8 => ?_)
  obtain ⟨f8, s8, C8, A8⟩ := hp8
  have C9 := C9.fr (h' := h8) (fun q q1 q2 => f8 q (by omega))
  obtain ⟨fs9, ob9⟩ := C9.ob
  refine lv_aload_n hx hb dL_law_167 rfl (lv_at hl 1 rfl) ?_
  refine r_callI W8 (va_runV (As := []) (rest := [.int r8]) ⟨hx, hb, hml, hown, hts⟩ (c_X9_wipe l C9 ) (cwV 0 hts gL_law_X9_wipe rfl rfl rfl (by decide +kernel) ⟨Nat.le_of_ble_eq_true rfl, Nat.le_of_ble_eq_true rfl⟩) (r_preV W8 (by omega) ob9 rfl) rfl rfl hl.1 rfl (lv_room (Nat.le_of_ble_eq_true rfl)) dL_law_168 hcs) (fun r9 h9 H9 locs9 hp9 W9 => ?_)
  obtain ⟨f9, s9, C9, A9⟩ := hp9
  have C8 := C8.fr (h' := h9) (fun q q1 q2 => f9 q (by omega))
  obtain ⟨er, es⟩ := AnWipe.inj A8 A9
  subst es
  refine lv_icmp_eq (tgt := 809) hx hb dL_law_171 (by decide) (fun c1 => ?_) (fun c1 => ?_)
  · exact K _ _ _ _ ⟨W9, C8, C9⟩
  · exact absurd er c1
set_option maxRecDepth 20000 in
theorem lc_fault (C : LwC p s m c args b L xs cells slots) (I : LwI g h s st H locs) (hl : LwL g b i ls) (hi : i.toInt = (k : Int)) (hk : k + 5 ≤ L) (K : ∀ (st2 : ST) (h2 : Nat → va_E) (H2 : Heap) (locs2 : List Loc), LwI g h2 s st2 H2 locs2 → W p l e room_1 s m args below meth c H2 locs2 cells slots Q (F0 m 809 ls [])) : W p l e room_1 s m args below meth c H locs cells slots Q (F0 m 176 ls []) := by
  obtain ⟨hx, hb, hml, hown, hts, hX, hbl, hL, hcs⟩ := id C
  obtain ⟨W, C8, C9⟩ := I
  obtain ⟨fs8, ob8⟩ := C8.ob
  have hN9 := C9.hN
  refine lv_aload_n hx hb dL_law_176 rfl (lv_at hl 2 rfl) ?_
  refine r_callI W (va_runV (As := []) (rest := []) ⟨hx, hb, hml, hown, hts⟩ (c_X8_fault l C8 ) (cwV 0 hts gL_law_X8_fault rfl rfl rfl (by decide +kernel) ⟨Nat.le_of_ble_eq_true rfl, Nat.le_of_ble_eq_true rfl⟩) (r_preV W (by omega) ob8 rfl) rfl rfl hl.1 rfl (lv_room (Nat.le_of_ble_eq_true rfl)) dL_law_177 hcs) (fun r8 h8 H8 locs8 hp8 W8 => ?_)
  obtain ⟨f8, C8, A8⟩ := hp8
  have C9 := C9.fr (h' := h8) (fun q q1 q2 => f8 q (by omega))
  obtain ⟨fs9, ob9⟩ := C9.ob
  refine lv_aload_n hx hb dL_law_180 rfl (lv_at hl 1 rfl) ?_
  refine r_callI W8 (va_runV (As := []) (rest := [.int r8]) ⟨hx, hb, hml, hown, hts⟩ (c_X9_fault l C9 ) (cwV 0 hts gL_law_X9_fault rfl rfl rfl (by decide +kernel) ⟨Nat.le_of_ble_eq_true rfl, Nat.le_of_ble_eq_true rfl⟩) (r_preV W8 (by omega) ob9 rfl) rfl rfl hl.1 rfl (lv_room (Nat.le_of_ble_eq_true rfl)) dL_law_181 hcs) (fun r9 h9 H9 locs9 hp9 W9 => ?_)
  obtain ⟨f9, C9, A9⟩ := hp9
  have C8 := C8.fr (h' := h9) (fun q q1 q2 => f9 q (by omega))
  refine lv_icmp_eq (tgt := 809) hx hb dL_law_184 (by decide) (fun c1 => ?_) (fun c1 => ?_)
  · exact K _ _ _ _ ⟨W9, C8, C9⟩
  · exact absurd (AnFault.inj A8 A9) c1
set_option maxRecDepth 20000 in
theorem lc_lay (C : LwC p s m c args b L xs cells slots) (I : LwI g h s st H locs) (hl : LwL g b i ls) (hi : i.toInt = (k : Int)) (hk : k + 5 ≤ L) (K : ∀ (st2 : ST) (h2 : Nat → va_E) (H2 : Heap) (locs2 : List Loc), LwI g h2 s st2 H2 locs2 → W p l e room_1 s m args below meth c H2 locs2 cells slots Q (F0 m 809 ls [])) : W p l e room_1 s m args below meth c H locs cells slots Q (F0 m 189 ls []) := by
  obtain ⟨hx, hb, hml, hown, hts, hX, hbl, hL, hcs⟩ := id C
  obtain ⟨W, C8, C9⟩ := I
  obtain ⟨fs8, ob8⟩ := C8.ob
  have hN9 := C9.hN
  refine lv_aload_n hx hb dL_law_189 rfl (lv_at hl 2 rfl) ?_
  refine r_callI W (va_runV (As := []) (rest := []) ⟨hx, hb, hml, hown, hts⟩ (c_X8_lay l C8 ) (cwV 0 hts gL_law_X8_lay rfl rfl rfl (by decide +kernel) ⟨Nat.le_of_ble_eq_true rfl, Nat.le_of_ble_eq_true rfl⟩) (r_preV W (by omega) ob8 rfl) rfl rfl hl.1 rfl (lv_room (Nat.le_of_ble_eq_true rfl)) dL_law_190 hcs) (fun r8 h8 H8 locs8 hp8 W8 => ?_)
  obtain ⟨f8, s8, C8, A8⟩ := hp8
  have C9 := C9.fr (h' := h8) (fun q q1 q2 => f8 q (by omega))
  obtain ⟨fs9, ob9⟩ := C9.ob
  refine lv_aload_n hx hb dL_law_193 rfl (lv_at hl 1 rfl) ?_
  refine r_callI W8 (va_runV (As := []) (rest := [.int r8]) ⟨hx, hb, hml, hown, hts⟩ (c_X9_lay l C9 ) (cwV 0 hts gL_law_X9_lay rfl rfl rfl (by decide +kernel) ⟨Nat.le_of_ble_eq_true rfl, Nat.le_of_ble_eq_true rfl⟩) (r_preV W8 (by omega) ob9 rfl) rfl rfl hl.1 rfl (lv_room (Nat.le_of_ble_eq_true rfl)) dL_law_194 hcs) (fun r9 h9 H9 locs9 hp9 W9 => ?_)
  obtain ⟨f9, s9, C9, A9⟩ := hp9
  have C8 := C8.fr (h' := h9) (fun q q1 q2 => f9 q (by omega))
  obtain ⟨er, es⟩ := AnLay.inj A8 A9
  subst es
  refine lv_icmp_eq (tgt := 809) hx hb dL_law_197 (by decide) (fun c1 => ?_) (fun c1 => ?_)
  · exact K _ _ _ _ ⟨W9, C8, C9⟩
  · exact absurd er c1
set_option maxRecDepth 20000 in
theorem lc_function (C : LwC p s m c args b L xs cells slots) (I : LwI g h s st H locs) (hl : LwL g b i ls) (hi : i.toInt = (k : Int)) (hk : k + 5 ≤ L) (K : ∀ (st2 : ST) (h2 : Nat → va_E) (H2 : Heap) (locs2 : List Loc), LwI g h2 s st2 H2 locs2 → W p l e room_1 s m args below meth c H2 locs2 cells slots Q (F0 m 809 ls [])) : W p l e room_1 s m args below meth c H locs cells slots Q (F0 m 202 ls []) := by
  obtain ⟨hx, hb, hml, hown, hts, hX, hbl, hL, hcs⟩ := id C
  obtain ⟨W, C8, C9⟩ := I
  obtain ⟨fs8, ob8⟩ := C8.ob
  have hN9 := C9.hN
  refine lv_aload_n hx hb dL_law_202 rfl (lv_at hl 2 rfl) ?_
  refine lw_rd (n := 1) (v := 1) C W hl hi (by decide) (by decide) (by omega) dL_law_203 dL_law_204 dL_law_205 dL_law_206 dL_law_207 ?_
  refine lw_rd (n := 2) (v := 2) C W hl hi (by decide) (by decide) (by omega) dL_law_208 dL_law_209 dL_law_210 dL_law_211 dL_law_212 ?_
  refine r_callI W (va_runV (As := [.int (xs (k + 1)), .int (xs (k + 2))]) (rest := []) ⟨hx, hb, hml, hown, hts⟩ (c_X8_function l C8 (xs (k + 1)) (xs (k + 2))) (cwV 2 hts gL_law_X8_function rfl rfl rfl (by decide +kernel) ⟨Nat.le_of_ble_eq_true rfl, Nat.le_of_ble_eq_true rfl⟩) (r_preV W (by omega) ob8 rfl) rfl rfl hl.1 rfl (lv_room (Nat.le_of_ble_eq_true rfl)) dL_law_213 hcs) (fun r8 h8 H8 locs8 hp8 W8 => ?_)
  obtain ⟨e8, A8⟩ := hp8
  subst e8
  obtain ⟨fs9, ob9⟩ := C9.ob
  refine lv_aload_n hx hb dL_law_216 rfl (lv_at hl 1 rfl) ?_
  refine lw_rd (n := 1) (v := 1) C W8 hl hi (by decide) (by decide) (by omega) dL_law_217 dL_law_218 dL_law_219 dL_law_220 dL_law_221 ?_
  refine lw_rd (n := 2) (v := 2) C W8 hl hi (by decide) (by decide) (by omega) dL_law_222 dL_law_223 dL_law_224 dL_law_225 dL_law_226 ?_
  refine r_callI W8 (va_runV (As := [.int (xs (k + 1)), .int (xs (k + 2))]) (rest := [.int r8]) ⟨hx, hb, hml, hown, hts⟩ (c_X9_function l C9 (xs (k + 1)) (xs (k + 2))) (cwV 2 hts gL_law_X9_function rfl rfl rfl (by decide +kernel) ⟨Nat.le_of_ble_eq_true rfl, Nat.le_of_ble_eq_true rfl⟩) (r_preV W8 (by omega) ob9 rfl) rfl rfl hl.1 rfl (lv_room (Nat.le_of_ble_eq_true rfl)) dL_law_227 hcs) (fun r9 h9 H9 locs9 hp9 W9 => ?_)
  obtain ⟨e9, A9⟩ := hp9
  subst e9
  refine lv_icmp_eq (tgt := 809) hx hb dL_law_230 (by decide) (fun c1 => ?_) (fun c1 => ?_)
  · exact K _ _ _ _ ⟨W9, C8, C9⟩
  · exact absurd (AnFunction.inj A8 A9) c1
set_option maxRecDepth 20000 in
theorem lc_letter (C : LwC p s m c args b L xs cells slots) (I : LwI g h s st H locs) (hl : LwL g b i ls) (hi : i.toInt = (k : Int)) (hk : k + 5 ≤ L) (K : ∀ (st2 : ST) (h2 : Nat → va_E) (H2 : Heap) (locs2 : List Loc), LwI g h2 s st2 H2 locs2 → W p l e room_1 s m args below meth c H2 locs2 cells slots Q (F0 m 809 ls [])) : W p l e room_1 s m args below meth c H locs cells slots Q (F0 m 235 ls []) := by
  obtain ⟨hx, hb, hml, hown, hts, hX, hbl, hL, hcs⟩ := id C
  obtain ⟨W, C8, C9⟩ := I
  obtain ⟨fs8, ob8⟩ := C8.ob
  have hN9 := C9.hN
  refine lv_aload_n hx hb dL_law_235 rfl (lv_at hl 2 rfl) ?_
  refine lw_rd (n := 1) (v := 1) C W hl hi (by decide) (by decide) (by omega) dL_law_236 dL_law_237 dL_law_238 dL_law_239 dL_law_240 ?_
  refine lw_rd (n := 2) (v := 2) C W hl hi (by decide) (by decide) (by omega) dL_law_241 dL_law_242 dL_law_243 dL_law_244 dL_law_245 ?_
  refine r_callI W (va_runV (As := [.int (xs (k + 1)), .int (xs (k + 2))]) (rest := []) ⟨hx, hb, hml, hown, hts⟩ (c_X8_letter l C8 (xs (k + 1)) (xs (k + 2))) (cwV 2 hts gL_law_X8_letter rfl rfl rfl (by decide +kernel) ⟨Nat.le_of_ble_eq_true rfl, Nat.le_of_ble_eq_true rfl⟩) (r_preV W (by omega) ob8 rfl) rfl rfl hl.1 rfl (lv_room (Nat.le_of_ble_eq_true rfl)) dL_law_246 hcs) (fun r8 h8 H8 locs8 hp8 W8 => ?_)
  obtain ⟨e8, A8⟩ := hp8
  subst e8
  obtain ⟨fs9, ob9⟩ := C9.ob
  refine lv_aload_n hx hb dL_law_249 rfl (lv_at hl 1 rfl) ?_
  refine lw_rd (n := 1) (v := 1) C W8 hl hi (by decide) (by decide) (by omega) dL_law_250 dL_law_251 dL_law_252 dL_law_253 dL_law_254 ?_
  refine lw_rd (n := 2) (v := 2) C W8 hl hi (by decide) (by decide) (by omega) dL_law_255 dL_law_256 dL_law_257 dL_law_258 dL_law_259 ?_
  refine r_callI W8 (va_runV (As := [.int (xs (k + 1)), .int (xs (k + 2))]) (rest := [.int r8]) ⟨hx, hb, hml, hown, hts⟩ (c_X9_letter l C9 (xs (k + 1)) (xs (k + 2))) (cwV 2 hts gL_law_X9_letter rfl rfl rfl (by decide +kernel) ⟨Nat.le_of_ble_eq_true rfl, Nat.le_of_ble_eq_true rfl⟩) (r_preV W8 (by omega) ob9 rfl) rfl rfl hl.1 rfl (lv_room (Nat.le_of_ble_eq_true rfl)) dL_law_260 hcs) (fun r9 h9 H9 locs9 hp9 W9 => ?_)
  obtain ⟨e9, A9⟩ := hp9
  subst e9
  refine lv_icmp_eq (tgt := 809) hx hb dL_law_263 (by decide) (fun c1 => ?_) (fun c1 => ?_)
  · exact K _ _ _ _ ⟨W9, C8, C9⟩
  · exact absurd (AnLetter.inj A8 A9) c1
set_option maxRecDepth 20000 in
theorem lc_put (C : LwC p s m c args b L xs cells slots) (I : LwI g h s st H locs) (hl : LwL g b i ls) (hi : i.toInt = (k : Int)) (hk : k + 5 ≤ L) (K : ∀ (st2 : ST) (h2 : Nat → va_E) (H2 : Heap) (locs2 : List Loc), LwI g h2 s st2 H2 locs2 → W p l e room_1 s m args below meth c H2 locs2 cells slots Q (F0 m 809 ls [])) : W p l e room_1 s m args below meth c H locs cells slots Q (F0 m 268 ls []) := by
  obtain ⟨hx, hb, hml, hown, hts, hX, hbl, hL, hcs⟩ := id C
  obtain ⟨W, C8, C9⟩ := I
  obtain ⟨fs8, ob8⟩ := C8.ob
  have hN9 := C9.hN
  refine lv_aload_n hx hb dL_law_268 rfl (lv_at hl 2 rfl) ?_
  refine lw_rd (n := 1) (v := 1) C W hl hi (by decide) (by decide) (by omega) dL_law_269 dL_law_270 dL_law_271 dL_law_272 dL_law_273 ?_
  refine lw_rd (n := 2) (v := 2) C W hl hi (by decide) (by decide) (by omega) dL_law_274 dL_law_275 dL_law_276 dL_law_277 dL_law_278 ?_
  refine lw_rd (n := 3) (v := 3) C W hl hi (by decide) (by decide) (by omega) dL_law_279 dL_law_280 dL_law_281 dL_law_282 dL_law_283 ?_
  refine r_callI W (va_runV (As := [.int (xs (k + 1)), .int (xs (k + 2)), .int (xs (k + 3))]) (rest := []) ⟨hx, hb, hml, hown, hts⟩ (c_X8_put l C8 (xs (k + 1)) (xs (k + 2)) (xs (k + 3))) (cwV 3 hts gL_law_X8_put rfl rfl rfl (by decide +kernel) ⟨Nat.le_of_ble_eq_true rfl, Nat.le_of_ble_eq_true rfl⟩) (r_preV W (by omega) ob8 rfl) rfl rfl hl.1 rfl (lv_room (Nat.le_of_ble_eq_true rfl)) dL_law_284 hcs) (fun r8 h8 H8 locs8 hp8 W8 => ?_)
  obtain ⟨f8, s8, C8, A8⟩ := hp8
  have C9 := C9.fr (h' := h8) (fun q q1 q2 => f8 q (by omega))
  obtain ⟨fs9, ob9⟩ := C9.ob
  refine lv_aload_n hx hb dL_law_287 rfl (lv_at hl 1 rfl) ?_
  refine lw_rd (n := 1) (v := 1) C W8 hl hi (by decide) (by decide) (by omega) dL_law_288 dL_law_289 dL_law_290 dL_law_291 dL_law_292 ?_
  refine lw_rd (n := 2) (v := 2) C W8 hl hi (by decide) (by decide) (by omega) dL_law_293 dL_law_294 dL_law_295 dL_law_296 dL_law_297 ?_
  refine lw_rd (n := 3) (v := 3) C W8 hl hi (by decide) (by decide) (by omega) dL_law_298 dL_law_299 dL_law_300 dL_law_301 dL_law_302 ?_
  refine r_callI W8 (va_runV (As := [.int (xs (k + 1)), .int (xs (k + 2)), .int (xs (k + 3))]) (rest := [.int r8]) ⟨hx, hb, hml, hown, hts⟩ (c_X9_put l C9 (xs (k + 1)) (xs (k + 2)) (xs (k + 3))) (cwV 3 hts gL_law_X9_put rfl rfl rfl (by decide +kernel) ⟨Nat.le_of_ble_eq_true rfl, Nat.le_of_ble_eq_true rfl⟩) (r_preV W8 (by omega) ob9 rfl) rfl rfl hl.1 rfl (lv_room (Nat.le_of_ble_eq_true rfl)) dL_law_303 hcs) (fun r9 h9 H9 locs9 hp9 W9 => ?_)
  obtain ⟨f9, s9, C9, A9⟩ := hp9
  have C8 := C8.fr (h' := h9) (fun q q1 q2 => f9 q (by omega))
  obtain ⟨er, es⟩ := AnPut.inj A8 A9
  subst es
  refine lv_icmp_eq (tgt := 809) hx hb dL_law_306 (by decide) (fun c1 => ?_) (fun c1 => ?_)
  · exact K _ _ _ _ ⟨W9, C8, C9⟩
  · exact absurd er c1
set_option maxRecDepth 20000 in
theorem lc_rename (C : LwC p s m c args b L xs cells slots) (I : LwI g h s st H locs) (hl : LwL g b i ls) (hi : i.toInt = (k : Int)) (hk : k + 5 ≤ L) (K : ∀ (st2 : ST) (h2 : Nat → va_E) (H2 : Heap) (locs2 : List Loc), LwI g h2 s st2 H2 locs2 → W p l e room_1 s m args below meth c H2 locs2 cells slots Q (F0 m 809 ls [])) : W p l e room_1 s m args below meth c H locs cells slots Q (F0 m 311 ls []) := by
  obtain ⟨hx, hb, hml, hown, hts, hX, hbl, hL, hcs⟩ := id C
  obtain ⟨W, C8, C9⟩ := I
  obtain ⟨fs8, ob8⟩ := C8.ob
  have hN9 := C9.hN
  refine lv_aload_n hx hb dL_law_311 rfl (lv_at hl 2 rfl) ?_
  refine lw_rd (n := 1) (v := 1) C W hl hi (by decide) (by decide) (by omega) dL_law_312 dL_law_313 dL_law_314 dL_law_315 dL_law_316 ?_
  refine lw_rd (n := 2) (v := 2) C W hl hi (by decide) (by decide) (by omega) dL_law_317 dL_law_318 dL_law_319 dL_law_320 dL_law_321 ?_
  refine r_callI W (va_runV (As := [.int (xs (k + 1)), .int (xs (k + 2))]) (rest := []) ⟨hx, hb, hml, hown, hts⟩ (c_X8_rename l C8 (xs (k + 1)) (xs (k + 2))) (cwV 2 hts gL_law_X8_rename rfl rfl rfl (by decide +kernel) ⟨Nat.le_of_ble_eq_true rfl, Nat.le_of_ble_eq_true rfl⟩) (r_preV W (by omega) ob8 rfl) rfl rfl hl.1 rfl (lv_room (Nat.le_of_ble_eq_true rfl)) dL_law_322 hcs) (fun r8 h8 H8 locs8 hp8 W8 => ?_)
  obtain ⟨f8, s8, C8, A8⟩ := hp8
  have C9 := C9.fr (h' := h8) (fun q q1 q2 => f8 q (by omega))
  obtain ⟨fs9, ob9⟩ := C9.ob
  refine lv_aload_n hx hb dL_law_325 rfl (lv_at hl 1 rfl) ?_
  refine lw_rd (n := 1) (v := 1) C W8 hl hi (by decide) (by decide) (by omega) dL_law_326 dL_law_327 dL_law_328 dL_law_329 dL_law_330 ?_
  refine lw_rd (n := 2) (v := 2) C W8 hl hi (by decide) (by decide) (by omega) dL_law_331 dL_law_332 dL_law_333 dL_law_334 dL_law_335 ?_
  refine r_callI W8 (va_runV (As := [.int (xs (k + 1)), .int (xs (k + 2))]) (rest := [.int r8]) ⟨hx, hb, hml, hown, hts⟩ (c_X9_rename l C9 (xs (k + 1)) (xs (k + 2))) (cwV 2 hts gL_law_X9_rename rfl rfl rfl (by decide +kernel) ⟨Nat.le_of_ble_eq_true rfl, Nat.le_of_ble_eq_true rfl⟩) (r_preV W8 (by omega) ob9 rfl) rfl rfl hl.1 rfl (lv_room (Nat.le_of_ble_eq_true rfl)) dL_law_336 hcs) (fun r9 h9 H9 locs9 hp9 W9 => ?_)
  obtain ⟨f9, s9, C9, A9⟩ := hp9
  have C8 := C8.fr (h' := h9) (fun q q1 q2 => f9 q (by omega))
  obtain ⟨er, es⟩ := AnRename.inj A8 A9
  subst es
  refine lv_icmp_eq (tgt := 809) hx hb dL_law_339 (by decide) (fun c1 => ?_) (fun c1 => ?_)
  · exact K _ _ _ _ ⟨W9, C8, C9⟩
  · exact absurd er c1
set_option maxRecDepth 20000 in
theorem lc_undo (C : LwC p s m c args b L xs cells slots) (I : LwI g h s st H locs) (hl : LwL g b i ls) (hi : i.toInt = (k : Int)) (hk : k + 5 ≤ L) (K : ∀ (st2 : ST) (h2 : Nat → va_E) (H2 : Heap) (locs2 : List Loc), LwI g h2 s st2 H2 locs2 → W p l e room_1 s m args below meth c H2 locs2 cells slots Q (F0 m 809 ls [])) : W p l e room_1 s m args below meth c H locs cells slots Q (F0 m 344 ls []) := by
  obtain ⟨hx, hb, hml, hown, hts, hX, hbl, hL, hcs⟩ := id C
  obtain ⟨W, C8, C9⟩ := I
  obtain ⟨fs8, ob8⟩ := C8.ob
  have hN9 := C9.hN
  refine lv_aload_n hx hb dL_law_344 rfl (lv_at hl 2 rfl) ?_
  refine r_callI W (va_runV (As := []) (rest := []) ⟨hx, hb, hml, hown, hts⟩ (c_X8_undo l C8 ) (cwV 0 hts gL_law_X8_undo rfl rfl rfl (by decide +kernel) ⟨Nat.le_of_ble_eq_true rfl, Nat.le_of_ble_eq_true rfl⟩) (r_preV W (by omega) ob8 rfl) rfl rfl hl.1 rfl (lv_room (Nat.le_of_ble_eq_true rfl)) dL_law_345 hcs) (fun r8 h8 H8 locs8 hp8 W8 => ?_)
  obtain ⟨f8, s8, C8, A8⟩ := hp8
  have C9 := C9.fr (h' := h8) (fun q q1 q2 => f8 q (by omega))
  obtain ⟨fs9, ob9⟩ := C9.ob
  refine lv_aload_n hx hb dL_law_348 rfl (lv_at hl 1 rfl) ?_
  refine r_callI W8 (va_runV (As := []) (rest := [.int r8]) ⟨hx, hb, hml, hown, hts⟩ (c_X9_undo l C9 ) (cwV 0 hts gL_law_X9_undo rfl rfl rfl (by decide +kernel) ⟨Nat.le_of_ble_eq_true rfl, Nat.le_of_ble_eq_true rfl⟩) (r_preV W8 (by omega) ob9 rfl) rfl rfl hl.1 rfl (lv_room (Nat.le_of_ble_eq_true rfl)) dL_law_349 hcs) (fun r9 h9 H9 locs9 hp9 W9 => ?_)
  obtain ⟨f9, s9, C9, A9⟩ := hp9
  have C8 := C8.fr (h' := h9) (fun q q1 q2 => f9 q (by omega))
  obtain ⟨er, es⟩ := AnUndo.inj A8 A9
  subst es
  refine lv_icmp_eq (tgt := 809) hx hb dL_law_352 (by decide) (fun c1 => ?_) (fun c1 => ?_)
  · exact K _ _ _ _ ⟨W9, C8, C9⟩
  · exact absurd er c1
set_option maxRecDepth 20000 in
theorem lc_value (C : LwC p s m c args b L xs cells slots) (I : LwI g h s st H locs) (hl : LwL g b i ls) (hi : i.toInt = (k : Int)) (hk : k + 5 ≤ L) (K : ∀ (st2 : ST) (h2 : Nat → va_E) (H2 : Heap) (locs2 : List Loc), LwI g h2 s st2 H2 locs2 → W p l e room_1 s m args below meth c H2 locs2 cells slots Q (F0 m 809 ls [])) : W p l e room_1 s m args below meth c H locs cells slots Q (F0 m 357 ls []) := by
  obtain ⟨hx, hb, hml, hown, hts, hX, hbl, hL, hcs⟩ := id C
  obtain ⟨W, C8, C9⟩ := I
  obtain ⟨fs8, ob8⟩ := C8.ob
  have hN9 := C9.hN
  refine lv_aload_n hx hb dL_law_357 rfl (lv_at hl 2 rfl) ?_
  refine lw_rd (n := 1) (v := 1) C W hl hi (by decide) (by decide) (by omega) dL_law_358 dL_law_359 dL_law_360 dL_law_361 dL_law_362 ?_
  refine lw_rd (n := 2) (v := 2) C W hl hi (by decide) (by decide) (by omega) dL_law_363 dL_law_364 dL_law_365 dL_law_366 dL_law_367 ?_
  refine lw_rd (n := 3) (v := 3) C W hl hi (by decide) (by decide) (by omega) dL_law_368 dL_law_369 dL_law_370 dL_law_371 dL_law_372 ?_
  refine lw_rd (n := 4) (v := 4) C W hl hi (by decide) (by decide) (by omega) dL_law_373 dL_law_374 dL_law_375 dL_law_376 dL_law_377 ?_
  refine r_callI W (va_runV (As := [.int (xs (k + 1)), .int (xs (k + 2)), .int (xs (k + 3)), .int (xs (k + 4))]) (rest := []) ⟨hx, hb, hml, hown, hts⟩ (c_X8_value l C8 (xs (k + 1)) (xs (k + 2)) (xs (k + 3)) (xs (k + 4))) (cwV 4 hts gL_law_X8_value rfl rfl rfl (by decide +kernel) ⟨Nat.le_of_ble_eq_true rfl, Nat.le_of_ble_eq_true rfl⟩) (r_preV W (by omega) ob8 rfl) rfl rfl hl.1 rfl (lv_room (Nat.le_of_ble_eq_true rfl)) dL_law_378 hcs) (fun r8 h8 H8 locs8 hp8 W8 => ?_)
  obtain ⟨f8, C8, A8⟩ := hp8
  have C9 := C9.fr (h' := h8) (fun q q1 q2 => f8 q (by omega))
  obtain ⟨fs9, ob9⟩ := C9.ob
  refine lv_aload_n hx hb dL_law_381 rfl (lv_at hl 1 rfl) ?_
  refine lw_rd (n := 1) (v := 1) C W8 hl hi (by decide) (by decide) (by omega) dL_law_382 dL_law_383 dL_law_384 dL_law_385 dL_law_386 ?_
  refine lw_rd (n := 2) (v := 2) C W8 hl hi (by decide) (by decide) (by omega) dL_law_387 dL_law_388 dL_law_389 dL_law_390 dL_law_391 ?_
  refine lw_rd (n := 3) (v := 3) C W8 hl hi (by decide) (by decide) (by omega) dL_law_392 dL_law_393 dL_law_394 dL_law_395 dL_law_396 ?_
  refine lw_rd (n := 4) (v := 4) C W8 hl hi (by decide) (by decide) (by omega) dL_law_397 dL_law_398 dL_law_399 dL_law_400 dL_law_401 ?_
  refine r_callI W8 (va_runV (As := [.int (xs (k + 1)), .int (xs (k + 2)), .int (xs (k + 3)), .int (xs (k + 4))]) (rest := [.int r8]) ⟨hx, hb, hml, hown, hts⟩ (c_X9_value l C9 (xs (k + 1)) (xs (k + 2)) (xs (k + 3)) (xs (k + 4))) (cwV 4 hts gL_law_X9_value rfl rfl rfl (by decide +kernel) ⟨Nat.le_of_ble_eq_true rfl, Nat.le_of_ble_eq_true rfl⟩) (r_preV W8 (by omega) ob9 rfl) rfl rfl hl.1 rfl (lv_room (Nat.le_of_ble_eq_true rfl)) dL_law_402 hcs) (fun r9 h9 H9 locs9 hp9 W9 => ?_)
  obtain ⟨f9, C9, A9⟩ := hp9
  have C8 := C8.fr (h' := h9) (fun q q1 q2 => f9 q (by omega))
  refine lv_icmp_eq (tgt := 809) hx hb dL_law_405 (by decide) (fun c1 => ?_) (fun c1 => ?_)
  · exact K _ _ _ _ ⟨W9, C8, C9⟩
  · exact absurd (AnTab.inj A8 A9) c1
set_option maxRecDepth 20000 in
theorem lc_rough (C : LwC p s m c args b L xs cells slots) (I : LwI g h s st H locs) (hl : LwL g b i ls) (hi : i.toInt = (k : Int)) (hk : k + 5 ≤ L) (K : ∀ (st2 : ST) (h2 : Nat → va_E) (H2 : Heap) (locs2 : List Loc), LwI g h2 s st2 H2 locs2 → W p l e room_1 s m args below meth c H2 locs2 cells slots Q (F0 m 809 ls [])) : W p l e room_1 s m args below meth c H locs cells slots Q (F0 m 410 ls []) := by
  obtain ⟨hx, hb, hml, hown, hts, hX, hbl, hL, hcs⟩ := id C
  obtain ⟨W, C8, C9⟩ := I
  obtain ⟨fs8, ob8⟩ := C8.ob
  have hN9 := C9.hN
  refine lv_aload_n hx hb dL_law_410 rfl (lv_at hl 2 rfl) ?_
  refine lw_rd (n := 1) (v := 1) C W hl hi (by decide) (by decide) (by omega) dL_law_411 dL_law_412 dL_law_413 dL_law_414 dL_law_415 ?_
  refine lw_rd (n := 2) (v := 2) C W hl hi (by decide) (by decide) (by omega) dL_law_416 dL_law_417 dL_law_418 dL_law_419 dL_law_420 ?_
  refine r_callI W (va_runV (As := [.int (xs (k + 1)), .int (xs (k + 2))]) (rest := []) ⟨hx, hb, hml, hown, hts⟩ (c_X8_rough l C8 (xs (k + 1)) (xs (k + 2))) (cwV 2 hts gL_law_X8_rough rfl rfl rfl (by decide +kernel) ⟨Nat.le_of_ble_eq_true rfl, Nat.le_of_ble_eq_true rfl⟩) (r_preV W (by omega) ob8 rfl) rfl rfl hl.1 rfl (lv_room (Nat.le_of_ble_eq_true rfl)) dL_law_421 hcs) (fun r8 h8 H8 locs8 hp8 W8 => ?_)
  obtain ⟨f8, C8, A8⟩ := hp8
  have C9 := C9.fr (h' := h8) (fun q q1 q2 => f8 q (by omega))
  obtain ⟨fs9, ob9⟩ := C9.ob
  refine lv_aload_n hx hb dL_law_424 rfl (lv_at hl 1 rfl) ?_
  refine lw_rd (n := 1) (v := 1) C W8 hl hi (by decide) (by decide) (by omega) dL_law_425 dL_law_426 dL_law_427 dL_law_428 dL_law_429 ?_
  refine lw_rd (n := 2) (v := 2) C W8 hl hi (by decide) (by decide) (by omega) dL_law_430 dL_law_431 dL_law_432 dL_law_433 dL_law_434 ?_
  refine r_callI W8 (va_runV (As := [.int (xs (k + 1)), .int (xs (k + 2))]) (rest := [.int r8]) ⟨hx, hb, hml, hown, hts⟩ (c_X9_rough l C9 (xs (k + 1)) (xs (k + 2))) (cwV 2 hts gL_law_X9_rough rfl rfl rfl (by decide +kernel) ⟨Nat.le_of_ble_eq_true rfl, Nat.le_of_ble_eq_true rfl⟩) (r_preV W8 (by omega) ob9 rfl) rfl rfl hl.1 rfl (lv_room (Nat.le_of_ble_eq_true rfl)) dL_law_435 hcs) (fun r9 h9 H9 locs9 hp9 W9 => ?_)
  obtain ⟨f9, C9, A9⟩ := hp9
  have C8 := C8.fr (h' := h9) (fun q q1 q2 => f9 q (by omega))
  refine lv_icmp_eq (tgt := 809) hx hb dL_law_438 (by decide) (fun c1 => ?_) (fun c1 => ?_)
  · exact K _ _ _ _ ⟨W9, C8, C9⟩
  · exact absurd (AnRough.inj A8 A9) c1
set_option maxRecDepth 20000 in
theorem lc_fine (C : LwC p s m c args b L xs cells slots) (I : LwI g h s st H locs) (hl : LwL g b i ls) (hi : i.toInt = (k : Int)) (hk : k + 5 ≤ L) (K : ∀ (st2 : ST) (h2 : Nat → va_E) (H2 : Heap) (locs2 : List Loc), LwI g h2 s st2 H2 locs2 → W p l e room_1 s m args below meth c H2 locs2 cells slots Q (F0 m 809 ls [])) : W p l e room_1 s m args below meth c H locs cells slots Q (F0 m 443 ls []) := by
  obtain ⟨hx, hb, hml, hown, hts, hX, hbl, hL, hcs⟩ := id C
  obtain ⟨W, C8, C9⟩ := I
  obtain ⟨fs8, ob8⟩ := C8.ob
  have hN9 := C9.hN
  refine lv_aload_n hx hb dL_law_443 rfl (lv_at hl 2 rfl) ?_
  refine lw_rd (n := 1) (v := 1) C W hl hi (by decide) (by decide) (by omega) dL_law_444 dL_law_445 dL_law_446 dL_law_447 dL_law_448 ?_
  refine lw_rd (n := 2) (v := 2) C W hl hi (by decide) (by decide) (by omega) dL_law_449 dL_law_450 dL_law_451 dL_law_452 dL_law_453 ?_
  refine lw_rd (n := 3) (v := 3) C W hl hi (by decide) (by decide) (by omega) dL_law_454 dL_law_455 dL_law_456 dL_law_457 dL_law_458 ?_
  refine lw_rd (n := 4) (v := 4) C W hl hi (by decide) (by decide) (by omega) dL_law_459 dL_law_460 dL_law_461 dL_law_462 dL_law_463 ?_
  refine r_callI W (va_runV (As := [.int (xs (k + 1)), .int (xs (k + 2)), .int (xs (k + 3)), .int (xs (k + 4))]) (rest := []) ⟨hx, hb, hml, hown, hts⟩ (c_X8_fine l C8 (xs (k + 1)) (xs (k + 2)) (xs (k + 3)) (xs (k + 4))) (cwV 4 hts gL_law_X8_fine rfl rfl rfl (by decide +kernel) ⟨Nat.le_of_ble_eq_true rfl, Nat.le_of_ble_eq_true rfl⟩) (r_preV W (by omega) ob8 rfl) rfl rfl hl.1 rfl (lv_room (Nat.le_of_ble_eq_true rfl)) dL_law_464 hcs) (fun r8 h8 H8 locs8 hp8 W8 => ?_)
  obtain ⟨f8, C8, A8⟩ := hp8
  have C9 := C9.fr (h' := h8) (fun q q1 q2 => f8 q (by omega))
  obtain ⟨fs9, ob9⟩ := C9.ob
  refine lv_aload_n hx hb dL_law_467 rfl (lv_at hl 1 rfl) ?_
  refine lw_rd (n := 1) (v := 1) C W8 hl hi (by decide) (by decide) (by omega) dL_law_468 dL_law_469 dL_law_470 dL_law_471 dL_law_472 ?_
  refine lw_rd (n := 2) (v := 2) C W8 hl hi (by decide) (by decide) (by omega) dL_law_473 dL_law_474 dL_law_475 dL_law_476 dL_law_477 ?_
  refine lw_rd (n := 3) (v := 3) C W8 hl hi (by decide) (by decide) (by omega) dL_law_478 dL_law_479 dL_law_480 dL_law_481 dL_law_482 ?_
  refine lw_rd (n := 4) (v := 4) C W8 hl hi (by decide) (by decide) (by omega) dL_law_483 dL_law_484 dL_law_485 dL_law_486 dL_law_487 ?_
  refine r_callI W8 (va_runV (As := [.int (xs (k + 1)), .int (xs (k + 2)), .int (xs (k + 3)), .int (xs (k + 4))]) (rest := [.int r8]) ⟨hx, hb, hml, hown, hts⟩ (c_X9_fine l C9 (xs (k + 1)) (xs (k + 2)) (xs (k + 3)) (xs (k + 4))) (cwV 4 hts gL_law_X9_fine rfl rfl rfl (by decide +kernel) ⟨Nat.le_of_ble_eq_true rfl, Nat.le_of_ble_eq_true rfl⟩) (r_preV W8 (by omega) ob9 rfl) rfl rfl hl.1 rfl (lv_room (Nat.le_of_ble_eq_true rfl)) dL_law_488 hcs) (fun r9 h9 H9 locs9 hp9 W9 => ?_)
  obtain ⟨f9, C9, A9⟩ := hp9
  have C8 := C8.fr (h' := h9) (fun q q1 q2 => f9 q (by omega))
  refine lv_icmp_eq (tgt := 809) hx hb dL_law_491 (by decide) (fun c1 => ?_) (fun c1 => ?_)
  · exact K _ _ _ _ ⟨W9, C8, C9⟩
  · exact absurd (AnTab.inj A8 A9) c1
set_option maxRecDepth 20000 in
theorem lc_rounds (C : LwC p s m c args b L xs cells slots) (I : LwI g h s st H locs) (hl : LwL g b i ls) (hi : i.toInt = (k : Int)) (hk : k + 5 ≤ L) (K : ∀ (st2 : ST) (h2 : Nat → va_E) (H2 : Heap) (locs2 : List Loc), LwI g h2 s st2 H2 locs2 → W p l e room_1 s m args below meth c H2 locs2 cells slots Q (F0 m 809 ls [])) : W p l e room_1 s m args below meth c H locs cells slots Q (F0 m 496 ls []) := by
  obtain ⟨hx, hb, hml, hown, hts, hX, hbl, hL, hcs⟩ := id C
  obtain ⟨W, C8, C9⟩ := I
  obtain ⟨fs8, ob8⟩ := C8.ob
  have hN9 := C9.hN
  refine lv_aload_n hx hb dL_law_496 rfl (lv_at hl 2 rfl) ?_
  refine lw_rd (n := 1) (v := 1) C W hl hi (by decide) (by decide) (by omega) dL_law_497 dL_law_498 dL_law_499 dL_law_500 dL_law_501 ?_
  refine r_callI W (va_runV (As := [.int (xs (k + 1))]) (rest := []) ⟨hx, hb, hml, hown, hts⟩ (c_X8_rounds l C8 (xs (k + 1))) (cwV 1 hts gL_law_X8_rounds rfl rfl rfl (by decide +kernel) ⟨Nat.le_of_ble_eq_true rfl, Nat.le_of_ble_eq_true rfl⟩) (r_preV W (by omega) ob8 rfl) rfl rfl hl.1 rfl (lv_room (Nat.le_of_ble_eq_true rfl)) dL_law_502 hcs) (fun r8 h8 H8 locs8 hp8 W8 => ?_)
  obtain ⟨f8, C8, A8⟩ := hp8
  have C9 := C9.fr (h' := h8) (fun q q1 q2 => f8 q (by omega))
  obtain ⟨fs9, ob9⟩ := C9.ob
  refine lv_aload_n hx hb dL_law_505 rfl (lv_at hl 1 rfl) ?_
  refine lw_rd (n := 1) (v := 1) C W8 hl hi (by decide) (by decide) (by omega) dL_law_506 dL_law_507 dL_law_508 dL_law_509 dL_law_510 ?_
  refine r_callI W8 (va_runV (As := [.int (xs (k + 1))]) (rest := [.int r8]) ⟨hx, hb, hml, hown, hts⟩ (c_X9_rounds l C9 (xs (k + 1))) (cwV 1 hts gL_law_X9_rounds rfl rfl rfl (by decide +kernel) ⟨Nat.le_of_ble_eq_true rfl, Nat.le_of_ble_eq_true rfl⟩) (r_preV W8 (by omega) ob9 rfl) rfl rfl hl.1 rfl (lv_room (Nat.le_of_ble_eq_true rfl)) dL_law_511 hcs) (fun r9 h9 H9 locs9 hp9 W9 => ?_)
  obtain ⟨f9, C9, A9⟩ := hp9
  have C8 := C8.fr (h' := h9) (fun q q1 q2 => f9 q (by omega))
  refine lv_icmp_eq (tgt := 809) hx hb dL_law_514 (by decide) (fun c1 => ?_) (fun c1 => ?_)
  · exact K _ _ _ _ ⟨W9, C8, C9⟩
  · exact absurd (AnRounds.inj A8 A9) c1
set_option maxRecDepth 20000 in
theorem lc_frontier (C : LwC p s m c args b L xs cells slots) (I : LwI g h s st H locs) (hl : LwL g b i ls) (hi : i.toInt = (k : Int)) (hk : k + 5 ≤ L) (K : ∀ (st2 : ST) (h2 : Nat → va_E) (H2 : Heap) (locs2 : List Loc), LwI g h2 s st2 H2 locs2 → W p l e room_1 s m args below meth c H2 locs2 cells slots Q (F0 m 809 ls [])) : W p l e room_1 s m args below meth c H locs cells slots Q (F0 m 519 ls []) := by
  obtain ⟨hx, hb, hml, hown, hts, hX, hbl, hL, hcs⟩ := id C
  obtain ⟨W, C8, C9⟩ := I
  obtain ⟨fs8, ob8⟩ := C8.ob
  have hN9 := C9.hN
  refine lv_aload_n hx hb dL_law_519 rfl (lv_at hl 2 rfl) ?_
  refine lw_rd (n := 1) (v := 1) C W hl hi (by decide) (by decide) (by omega) dL_law_520 dL_law_521 dL_law_522 dL_law_523 dL_law_524 ?_
  refine lw_rd (n := 2) (v := 2) C W hl hi (by decide) (by decide) (by omega) dL_law_525 dL_law_526 dL_law_527 dL_law_528 dL_law_529 ?_
  refine r_callI W (va_runV (As := [.int (xs (k + 1)), .int (xs (k + 2))]) (rest := []) ⟨hx, hb, hml, hown, hts⟩ (c_X8_frontier l C8 (xs (k + 1)) (xs (k + 2))) (cwV 2 hts gL_law_X8_frontier rfl rfl rfl (by decide +kernel) ⟨Nat.le_of_ble_eq_true rfl, Nat.le_of_ble_eq_true rfl⟩) (r_preV W (by omega) ob8 rfl) rfl rfl hl.1 rfl (lv_room (Nat.le_of_ble_eq_true rfl)) dL_law_530 hcs) (fun r8 h8 H8 locs8 hp8 W8 => ?_)
  obtain ⟨f8, C8, A8⟩ := hp8
  have C9 := C9.fr (h' := h8) (fun q q1 q2 => f8 q (by omega))
  obtain ⟨fs9, ob9⟩ := C9.ob
  refine lv_aload_n hx hb dL_law_533 rfl (lv_at hl 1 rfl) ?_
  refine lw_rd (n := 1) (v := 1) C W8 hl hi (by decide) (by decide) (by omega) dL_law_534 dL_law_535 dL_law_536 dL_law_537 dL_law_538 ?_
  refine lw_rd (n := 2) (v := 2) C W8 hl hi (by decide) (by decide) (by omega) dL_law_539 dL_law_540 dL_law_541 dL_law_542 dL_law_543 ?_
  refine r_callI W8 (va_runV (As := [.int (xs (k + 1)), .int (xs (k + 2))]) (rest := [.int r8]) ⟨hx, hb, hml, hown, hts⟩ (c_X9_frontier l C9 (xs (k + 1)) (xs (k + 2))) (cwV 2 hts gL_law_X9_frontier rfl rfl rfl (by decide +kernel) ⟨Nat.le_of_ble_eq_true rfl, Nat.le_of_ble_eq_true rfl⟩) (r_preV W8 (by omega) ob9 rfl) rfl rfl hl.1 rfl (lv_room (Nat.le_of_ble_eq_true rfl)) dL_law_544 hcs) (fun r9 h9 H9 locs9 hp9 W9 => ?_)
  obtain ⟨f9, C9, A9⟩ := hp9
  have C8 := C8.fr (h' := h9) (fun q q1 q2 => f9 q (by omega))
  refine lv_icmp_eq (tgt := 809) hx hb dL_law_547 (by decide) (fun c1 => ?_) (fun c1 => ?_)
  · exact K _ _ _ _ ⟨W9, C8, C9⟩
  · exact absurd (AnFrontier.inj A8 A9) c1
set_option maxRecDepth 20000 in
theorem lc_strict (C : LwC p s m c args b L xs cells slots) (I : LwI g h s st H locs) (hl : LwL g b i ls) (hi : i.toInt = (k : Int)) (hk : k + 5 ≤ L) (K : ∀ (st2 : ST) (h2 : Nat → va_E) (H2 : Heap) (locs2 : List Loc), LwI g h2 s st2 H2 locs2 → W p l e room_1 s m args below meth c H2 locs2 cells slots Q (F0 m 809 ls [])) : W p l e room_1 s m args below meth c H locs cells slots Q (F0 m 552 ls []) := by
  obtain ⟨hx, hb, hml, hown, hts, hX, hbl, hL, hcs⟩ := id C
  obtain ⟨W, C8, C9⟩ := I
  obtain ⟨fs8, ob8⟩ := C8.ob
  have hN9 := C9.hN
  refine lv_aload_n hx hb dL_law_552 rfl (lv_at hl 2 rfl) ?_
  refine lw_rd (n := 1) (v := 1) C W hl hi (by decide) (by decide) (by omega) dL_law_553 dL_law_554 dL_law_555 dL_law_556 dL_law_557 ?_
  refine lw_rd (n := 2) (v := 2) C W hl hi (by decide) (by decide) (by omega) dL_law_558 dL_law_559 dL_law_560 dL_law_561 dL_law_562 ?_
  refine r_callI W (va_runV (As := [.int (xs (k + 1)), .int (xs (k + 2))]) (rest := []) ⟨hx, hb, hml, hown, hts⟩ (c_X8_strict l C8 (xs (k + 1)) (xs (k + 2))) (cwV 2 hts gL_law_X8_strict rfl rfl rfl (by decide +kernel) ⟨Nat.le_of_ble_eq_true rfl, Nat.le_of_ble_eq_true rfl⟩) (r_preV W (by omega) ob8 rfl) rfl rfl hl.1 rfl (lv_room (Nat.le_of_ble_eq_true rfl)) dL_law_563 hcs) (fun r8 h8 H8 locs8 hp8 W8 => ?_)
  obtain ⟨f8, C8, A8⟩ := hp8
  have C9 := C9.fr (h' := h8) (fun q q1 q2 => f8 q (by omega))
  obtain ⟨fs9, ob9⟩ := C9.ob
  refine lv_aload_n hx hb dL_law_566 rfl (lv_at hl 1 rfl) ?_
  refine lw_rd (n := 1) (v := 1) C W8 hl hi (by decide) (by decide) (by omega) dL_law_567 dL_law_568 dL_law_569 dL_law_570 dL_law_571 ?_
  refine lw_rd (n := 2) (v := 2) C W8 hl hi (by decide) (by decide) (by omega) dL_law_572 dL_law_573 dL_law_574 dL_law_575 dL_law_576 ?_
  refine r_callI W8 (va_runV (As := [.int (xs (k + 1)), .int (xs (k + 2))]) (rest := [.int r8]) ⟨hx, hb, hml, hown, hts⟩ (c_X9_strict l C9 (xs (k + 1)) (xs (k + 2))) (cwV 2 hts gL_law_X9_strict rfl rfl rfl (by decide +kernel) ⟨Nat.le_of_ble_eq_true rfl, Nat.le_of_ble_eq_true rfl⟩) (r_preV W8 (by omega) ob9 rfl) rfl rfl hl.1 rfl (lv_room (Nat.le_of_ble_eq_true rfl)) dL_law_577 hcs) (fun r9 h9 H9 locs9 hp9 W9 => ?_)
  obtain ⟨f9, C9, A9⟩ := hp9
  have C8 := C8.fr (h' := h9) (fun q q1 q2 => f9 q (by omega))
  refine lv_icmp_eq (tgt := 809) hx hb dL_law_580 (by decide) (fun c1 => ?_) (fun c1 => ?_)
  · exact K _ _ _ _ ⟨W9, C8, C9⟩
  · exact absurd (AnStrict.inj A8 A9) c1
set_option maxRecDepth 20000 in
theorem lc_early (C : LwC p s m c args b L xs cells slots) (I : LwI g h s st H locs) (hl : LwL g b i ls) (hi : i.toInt = (k : Int)) (hk : k + 5 ≤ L) (K : ∀ (st2 : ST) (h2 : Nat → va_E) (H2 : Heap) (locs2 : List Loc), LwI g h2 s st2 H2 locs2 → W p l e room_1 s m args below meth c H2 locs2 cells slots Q (F0 m 809 ls [])) : W p l e room_1 s m args below meth c H locs cells slots Q (F0 m 585 ls []) := by
  obtain ⟨hx, hb, hml, hown, hts, hX, hbl, hL, hcs⟩ := id C
  obtain ⟨W, C8, C9⟩ := I
  obtain ⟨fs8, ob8⟩ := C8.ob
  have hN9 := C9.hN
  refine lv_aload_n hx hb dL_law_585 rfl (lv_at hl 2 rfl) ?_
  refine lw_rd (n := 1) (v := 1) C W hl hi (by decide) (by decide) (by omega) dL_law_586 dL_law_587 dL_law_588 dL_law_589 dL_law_590 ?_
  refine lw_rd (n := 2) (v := 2) C W hl hi (by decide) (by decide) (by omega) dL_law_591 dL_law_592 dL_law_593 dL_law_594 dL_law_595 ?_
  refine r_callI W (va_runV (As := [.int (xs (k + 1)), .int (xs (k + 2))]) (rest := []) ⟨hx, hb, hml, hown, hts⟩ (c_X8_early l C8 (xs (k + 1)) (xs (k + 2))) (cwV 2 hts gL_law_X8_early rfl rfl rfl (by decide +kernel) ⟨Nat.le_of_ble_eq_true rfl, Nat.le_of_ble_eq_true rfl⟩) (r_preV W (by omega) ob8 rfl) rfl rfl hl.1 rfl (lv_room (Nat.le_of_ble_eq_true rfl)) dL_law_596 hcs) (fun r8 h8 H8 locs8 hp8 W8 => ?_)
  obtain ⟨f8, C8, A8⟩ := hp8
  have C9 := C9.fr (h' := h8) (fun q q1 q2 => f8 q (by omega))
  obtain ⟨fs9, ob9⟩ := C9.ob
  refine lv_aload_n hx hb dL_law_599 rfl (lv_at hl 1 rfl) ?_
  refine lw_rd (n := 1) (v := 1) C W8 hl hi (by decide) (by decide) (by omega) dL_law_600 dL_law_601 dL_law_602 dL_law_603 dL_law_604 ?_
  refine lw_rd (n := 2) (v := 2) C W8 hl hi (by decide) (by decide) (by omega) dL_law_605 dL_law_606 dL_law_607 dL_law_608 dL_law_609 ?_
  refine r_callI W8 (va_runV (As := [.int (xs (k + 1)), .int (xs (k + 2))]) (rest := [.int r8]) ⟨hx, hb, hml, hown, hts⟩ (c_X9_early l C9 (xs (k + 1)) (xs (k + 2))) (cwV 2 hts gL_law_X9_early rfl rfl rfl (by decide +kernel) ⟨Nat.le_of_ble_eq_true rfl, Nat.le_of_ble_eq_true rfl⟩) (r_preV W8 (by omega) ob9 rfl) rfl rfl hl.1 rfl (lv_room (Nat.le_of_ble_eq_true rfl)) dL_law_610 hcs) (fun r9 h9 H9 locs9 hp9 W9 => ?_)
  obtain ⟨f9, C9, A9⟩ := hp9
  have C8 := C8.fr (h' := h9) (fun q q1 q2 => f9 q (by omega))
  refine lv_icmp_eq (tgt := 809) hx hb dL_law_613 (by decide) (fun c1 => ?_) (fun c1 => ?_)
  · exact K _ _ _ _ ⟨W9, C8, C9⟩
  · exact absurd (AnEarly.inj A8 A9) c1
set_option maxRecDepth 20000 in
theorem lc_same (C : LwC p s m c args b L xs cells slots) (I : LwI g h s st H locs) (hl : LwL g b i ls) (hi : i.toInt = (k : Int)) (hk : k + 5 ≤ L) (K : ∀ (st2 : ST) (h2 : Nat → va_E) (H2 : Heap) (locs2 : List Loc), LwI g h2 s st2 H2 locs2 → W p l e room_1 s m args below meth c H2 locs2 cells slots Q (F0 m 809 ls [])) : W p l e room_1 s m args below meth c H locs cells slots Q (F0 m 618 ls []) := by
  obtain ⟨hx, hb, hml, hown, hts, hX, hbl, hL, hcs⟩ := id C
  obtain ⟨W, C8, C9⟩ := I
  obtain ⟨fs8, ob8⟩ := C8.ob
  have hN9 := C9.hN
  refine lv_aload_n hx hb dL_law_618 rfl (lv_at hl 2 rfl) ?_
  refine lw_rd (n := 1) (v := 1) C W hl hi (by decide) (by decide) (by omega) dL_law_619 dL_law_620 dL_law_621 dL_law_622 dL_law_623 ?_
  refine lw_rd (n := 2) (v := 2) C W hl hi (by decide) (by decide) (by omega) dL_law_624 dL_law_625 dL_law_626 dL_law_627 dL_law_628 ?_
  refine r_callI W (va_runV (As := [.int (xs (k + 1)), .int (xs (k + 2))]) (rest := []) ⟨hx, hb, hml, hown, hts⟩ (c_X8_same l C8 (xs (k + 1)) (xs (k + 2))) (cwV 2 hts gL_law_X8_same rfl rfl rfl (by decide +kernel) ⟨Nat.le_of_ble_eq_true rfl, Nat.le_of_ble_eq_true rfl⟩) (r_preV W (by omega) ob8 rfl) rfl rfl hl.1 rfl (lv_room (Nat.le_of_ble_eq_true rfl)) dL_law_629 hcs) (fun r8 h8 H8 locs8 hp8 W8 => ?_)
  obtain ⟨f8, C8, A8⟩ := hp8
  have C9 := C9.fr (h' := h8) (fun q q1 q2 => f8 q (by omega))
  obtain ⟨fs9, ob9⟩ := C9.ob
  refine lv_aload_n hx hb dL_law_632 rfl (lv_at hl 1 rfl) ?_
  refine lw_rd (n := 1) (v := 1) C W8 hl hi (by decide) (by decide) (by omega) dL_law_633 dL_law_634 dL_law_635 dL_law_636 dL_law_637 ?_
  refine lw_rd (n := 2) (v := 2) C W8 hl hi (by decide) (by decide) (by omega) dL_law_638 dL_law_639 dL_law_640 dL_law_641 dL_law_642 ?_
  refine r_callI W8 (va_runV (As := [.int (xs (k + 1)), .int (xs (k + 2))]) (rest := [.int r8]) ⟨hx, hb, hml, hown, hts⟩ (c_X9_same l C9 (xs (k + 1)) (xs (k + 2))) (cwV 2 hts gL_law_X9_same rfl rfl rfl (by decide +kernel) ⟨Nat.le_of_ble_eq_true rfl, Nat.le_of_ble_eq_true rfl⟩) (r_preV W8 (by omega) ob9 rfl) rfl rfl hl.1 rfl (lv_room (Nat.le_of_ble_eq_true rfl)) dL_law_643 hcs) (fun r9 h9 H9 locs9 hp9 W9 => ?_)
  obtain ⟨f9, C9, A9⟩ := hp9
  have C8 := C8.fr (h' := h9) (fun q q1 q2 => f9 q (by omega))
  refine lv_icmp_eq (tgt := 809) hx hb dL_law_646 (by decide) (fun c1 => ?_) (fun c1 => ?_)
  · exact K _ _ _ _ ⟨W9, C8, C9⟩
  · exact absurd (AnSame.inj A8 A9) c1
set_option maxRecDepth 20000 in
theorem lc_first (C : LwC p s m c args b L xs cells slots) (I : LwI g h s st H locs) (hl : LwL g b i ls) (hi : i.toInt = (k : Int)) (hk : k + 5 ≤ L) (K : ∀ (st2 : ST) (h2 : Nat → va_E) (H2 : Heap) (locs2 : List Loc), LwI g h2 s st2 H2 locs2 → W p l e room_1 s m args below meth c H2 locs2 cells slots Q (F0 m 809 ls [])) : W p l e room_1 s m args below meth c H locs cells slots Q (F0 m 651 ls []) := by
  obtain ⟨hx, hb, hml, hown, hts, hX, hbl, hL, hcs⟩ := id C
  obtain ⟨W, C8, C9⟩ := I
  obtain ⟨fs8, ob8⟩ := C8.ob
  have hN9 := C9.hN
  refine lv_aload_n hx hb dL_law_651 rfl (lv_at hl 2 rfl) ?_
  refine lw_rd (n := 1) (v := 1) C W hl hi (by decide) (by decide) (by omega) dL_law_652 dL_law_653 dL_law_654 dL_law_655 dL_law_656 ?_
  refine lw_rd (n := 2) (v := 2) C W hl hi (by decide) (by decide) (by omega) dL_law_657 dL_law_658 dL_law_659 dL_law_660 dL_law_661 ?_
  refine r_callI W (va_runV (As := [.int (xs (k + 1)), .int (xs (k + 2))]) (rest := []) ⟨hx, hb, hml, hown, hts⟩ (c_X8_first l C8 (xs (k + 1)) (xs (k + 2))) (cwV 2 hts gL_law_X8_first rfl rfl rfl (by decide +kernel) ⟨Nat.le_of_ble_eq_true rfl, Nat.le_of_ble_eq_true rfl⟩) (r_preV W (by omega) ob8 rfl) rfl rfl hl.1 rfl (lv_room (Nat.le_of_ble_eq_true rfl)) dL_law_662 hcs) (fun r8 h8 H8 locs8 hp8 W8 => ?_)
  obtain ⟨f8, C8, A8⟩ := hp8
  have C9 := C9.fr (h' := h8) (fun q q1 q2 => f8 q (by omega))
  obtain ⟨fs9, ob9⟩ := C9.ob
  refine lv_aload_n hx hb dL_law_665 rfl (lv_at hl 1 rfl) ?_
  refine lw_rd (n := 1) (v := 1) C W8 hl hi (by decide) (by decide) (by omega) dL_law_666 dL_law_667 dL_law_668 dL_law_669 dL_law_670 ?_
  refine lw_rd (n := 2) (v := 2) C W8 hl hi (by decide) (by decide) (by omega) dL_law_671 dL_law_672 dL_law_673 dL_law_674 dL_law_675 ?_
  refine r_callI W8 (va_runV (As := [.int (xs (k + 1)), .int (xs (k + 2))]) (rest := [.int r8]) ⟨hx, hb, hml, hown, hts⟩ (c_X9_first l C9 (xs (k + 1)) (xs (k + 2))) (cwV 2 hts gL_law_X9_first rfl rfl rfl (by decide +kernel) ⟨Nat.le_of_ble_eq_true rfl, Nat.le_of_ble_eq_true rfl⟩) (r_preV W8 (by omega) ob9 rfl) rfl rfl hl.1 rfl (lv_room (Nat.le_of_ble_eq_true rfl)) dL_law_676 hcs) (fun r9 h9 H9 locs9 hp9 W9 => ?_)
  obtain ⟨f9, C9, A9⟩ := hp9
  have C8 := C8.fr (h' := h9) (fun q q1 q2 => f9 q (by omega))
  refine lv_icmp_eq (tgt := 809) hx hb dL_law_679 (by decide) (fun c1 => ?_) (fun c1 => ?_)
  · exact K _ _ _ _ ⟨W9, C8, C9⟩
  · exact absurd (AnFirst.inj A8 A9) c1
set_option maxRecDepth 20000 in
theorem lc_makes (C : LwC p s m c args b L xs cells slots) (I : LwI g h s st H locs) (hl : LwL g b i ls) (hi : i.toInt = (k : Int)) (hk : k + 5 ≤ L) (K : ∀ (st2 : ST) (h2 : Nat → va_E) (H2 : Heap) (locs2 : List Loc), LwI g h2 s st2 H2 locs2 → W p l e room_1 s m args below meth c H2 locs2 cells slots Q (F0 m 809 ls [])) : W p l e room_1 s m args below meth c H locs cells slots Q (F0 m 684 ls []) := by
  obtain ⟨hx, hb, hml, hown, hts, hX, hbl, hL, hcs⟩ := id C
  obtain ⟨W, C8, C9⟩ := I
  obtain ⟨fs8, ob8⟩ := C8.ob
  have hN9 := C9.hN
  refine lv_aload_n hx hb dL_law_684 rfl (lv_at hl 2 rfl) ?_
  refine lw_rd (n := 1) (v := 1) C W hl hi (by decide) (by decide) (by omega) dL_law_685 dL_law_686 dL_law_687 dL_law_688 dL_law_689 ?_
  refine lw_rd (n := 2) (v := 2) C W hl hi (by decide) (by decide) (by omega) dL_law_690 dL_law_691 dL_law_692 dL_law_693 dL_law_694 ?_
  refine r_callI W (va_runV (As := [.int (xs (k + 1)), .int (xs (k + 2))]) (rest := []) ⟨hx, hb, hml, hown, hts⟩ (c_X8_makes l C8 (xs (k + 1)) (xs (k + 2))) (cwV 2 hts gL_law_X8_makes rfl rfl rfl (by decide +kernel) ⟨Nat.le_of_ble_eq_true rfl, Nat.le_of_ble_eq_true rfl⟩) (r_preV W (by omega) ob8 rfl) rfl rfl hl.1 rfl (lv_room (Nat.le_of_ble_eq_true rfl)) dL_law_695 hcs) (fun r8 h8 H8 locs8 hp8 W8 => ?_)
  obtain ⟨f8, C8, A8⟩ := hp8
  have C9 := C9.fr (h' := h8) (fun q q1 q2 => f8 q (by omega))
  obtain ⟨fs9, ob9⟩ := C9.ob
  refine lv_aload_n hx hb dL_law_698 rfl (lv_at hl 1 rfl) ?_
  refine lw_rd (n := 1) (v := 1) C W8 hl hi (by decide) (by decide) (by omega) dL_law_699 dL_law_700 dL_law_701 dL_law_702 dL_law_703 ?_
  refine lw_rd (n := 2) (v := 2) C W8 hl hi (by decide) (by decide) (by omega) dL_law_704 dL_law_705 dL_law_706 dL_law_707 dL_law_708 ?_
  refine r_callI W8 (va_runV (As := [.int (xs (k + 1)), .int (xs (k + 2))]) (rest := [.int r8]) ⟨hx, hb, hml, hown, hts⟩ (c_X9_makes l C9 (xs (k + 1)) (xs (k + 2))) (cwV 2 hts gL_law_X9_makes rfl rfl rfl (by decide +kernel) ⟨Nat.le_of_ble_eq_true rfl, Nat.le_of_ble_eq_true rfl⟩) (r_preV W8 (by omega) ob9 rfl) rfl rfl hl.1 rfl (lv_room (Nat.le_of_ble_eq_true rfl)) dL_law_709 hcs) (fun r9 h9 H9 locs9 hp9 W9 => ?_)
  obtain ⟨f9, C9, A9⟩ := hp9
  have C8 := C8.fr (h' := h9) (fun q q1 q2 => f9 q (by omega))
  refine lv_icmp_eq (tgt := 809) hx hb dL_law_712 (by decide) (fun c1 => ?_) (fun c1 => ?_)
  · exact K _ _ _ _ ⟨W9, C8, C9⟩
  · exact absurd (AnMakes.inj A8 A9) c1
set_option maxRecDepth 20000 in
theorem lc_day (C : LwC p s m c args b L xs cells slots) (I : LwI g h s st H locs) (hl : LwL g b i ls) (hi : i.toInt = (k : Int)) (hk : k + 5 ≤ L) (K : ∀ (st2 : ST) (h2 : Nat → va_E) (H2 : Heap) (locs2 : List Loc), LwI g h2 s st2 H2 locs2 → W p l e room_1 s m args below meth c H2 locs2 cells slots Q (F0 m 809 ls [])) : W p l e room_1 s m args below meth c H locs cells slots Q (F0 m 717 ls []) := by
  obtain ⟨hx, hb, hml, hown, hts, hX, hbl, hL, hcs⟩ := id C
  obtain ⟨W, C8, C9⟩ := I
  obtain ⟨fs8, ob8⟩ := C8.ob
  have hN9 := C9.hN
  refine lv_aload_n hx hb dL_law_717 rfl (lv_at hl 2 rfl) ?_
  refine lw_rd (n := 1) (v := 1) C W hl hi (by decide) (by decide) (by omega) dL_law_718 dL_law_719 dL_law_720 dL_law_721 dL_law_722 ?_
  refine lw_rd (n := 2) (v := 2) C W hl hi (by decide) (by decide) (by omega) dL_law_723 dL_law_724 dL_law_725 dL_law_726 dL_law_727 ?_
  refine lw_rd (n := 3) (v := 3) C W hl hi (by decide) (by decide) (by omega) dL_law_728 dL_law_729 dL_law_730 dL_law_731 dL_law_732 ?_
  refine r_callI W (va_runV (As := [.int (xs (k + 1)), .int (xs (k + 2)), .int (xs (k + 3))]) (rest := []) ⟨hx, hb, hml, hown, hts⟩ (c_X8_day l C8 (xs (k + 1)) (xs (k + 2)) (xs (k + 3))) (cwV 3 hts gL_law_X8_day rfl rfl rfl (by decide +kernel) ⟨Nat.le_of_ble_eq_true rfl, Nat.le_of_ble_eq_true rfl⟩) (r_preV W (by omega) ob8 rfl) rfl rfl hl.1 rfl (lv_room (Nat.le_of_ble_eq_true rfl)) dL_law_733 hcs) (fun r8 h8 H8 locs8 hp8 W8 => ?_)
  obtain ⟨f8, C8, A8⟩ := hp8
  have C9 := C9.fr (h' := h8) (fun q q1 q2 => f8 q (by omega))
  obtain ⟨fs9, ob9⟩ := C9.ob
  refine lv_aload_n hx hb dL_law_736 rfl (lv_at hl 1 rfl) ?_
  refine lw_rd (n := 1) (v := 1) C W8 hl hi (by decide) (by decide) (by omega) dL_law_737 dL_law_738 dL_law_739 dL_law_740 dL_law_741 ?_
  refine lw_rd (n := 2) (v := 2) C W8 hl hi (by decide) (by decide) (by omega) dL_law_742 dL_law_743 dL_law_744 dL_law_745 dL_law_746 ?_
  refine lw_rd (n := 3) (v := 3) C W8 hl hi (by decide) (by decide) (by omega) dL_law_747 dL_law_748 dL_law_749 dL_law_750 dL_law_751 ?_
  refine r_callI W8 (va_runV (As := [.int (xs (k + 1)), .int (xs (k + 2)), .int (xs (k + 3))]) (rest := [.int r8]) ⟨hx, hb, hml, hown, hts⟩ (c_X9_day l C9 (xs (k + 1)) (xs (k + 2)) (xs (k + 3))) (cwV 3 hts gL_law_X9_day rfl rfl rfl (by decide +kernel) ⟨Nat.le_of_ble_eq_true rfl, Nat.le_of_ble_eq_true rfl⟩) (r_preV W8 (by omega) ob9 rfl) rfl rfl hl.1 rfl (lv_room (Nat.le_of_ble_eq_true rfl)) dL_law_752 hcs) (fun r9 h9 H9 locs9 hp9 W9 => ?_)
  obtain ⟨f9, C9, A9⟩ := hp9
  have C8 := C8.fr (h' := h9) (fun q q1 q2 => f9 q (by omega))
  refine lv_icmp_eq (tgt := 809) hx hb dL_law_755 (by decide) (fun c1 => ?_) (fun c1 => ?_)
  · exact K _ _ _ _ ⟨W9, C8, C9⟩
  · exact absurd (AnDay.inj A8 A9) c1
set_option maxRecDepth 20000 in
theorem lc_keep (C : LwC p s m c args b L xs cells slots) (I : LwI g h s st H locs) (hl : LwL g b i ls) (hi : i.toInt = (k : Int)) (hk : k + 5 ≤ L) (K : ∀ (st2 : ST) (h2 : Nat → va_E) (H2 : Heap) (locs2 : List Loc), LwI g h2 s st2 H2 locs2 → W p l e room_1 s m args below meth c H2 locs2 cells slots Q (F0 m 809 ls [])) : W p l e room_1 s m args below meth c H locs cells slots Q (F0 m 760 ls []) := by
  obtain ⟨hx, hb, hml, hown, hts, hX, hbl, hL, hcs⟩ := id C
  obtain ⟨W, C8, C9⟩ := I
  obtain ⟨fs8, ob8⟩ := C8.ob
  have hN9 := C9.hN
  refine lv_aload_n hx hb dL_law_760 rfl (lv_at hl 2 rfl) ?_
  refine r_callI W (va_runV (As := []) (rest := []) ⟨hx, hb, hml, hown, hts⟩ (c_X8_keep l C8 ) (cwV 0 hts gL_law_X8_keep rfl rfl rfl (by decide +kernel) ⟨Nat.le_of_ble_eq_true rfl, Nat.le_of_ble_eq_true rfl⟩) (r_preV W (by omega) ob8 rfl) rfl rfl hl.1 rfl (lv_room (Nat.le_of_ble_eq_true rfl)) dL_law_761 hcs) (fun r8 h8 H8 locs8 hp8 W8 => ?_)
  obtain ⟨f8, s8, C8, A8⟩ := hp8
  have C9 := C9.fr (h' := h8) (fun q q1 q2 => f8 q (by omega))
  obtain ⟨fs9, ob9⟩ := C9.ob
  refine lv_aload_n hx hb dL_law_764 rfl (lv_at hl 1 rfl) ?_
  refine r_callI W8 (va_runV (As := []) (rest := [.int r8]) ⟨hx, hb, hml, hown, hts⟩ (c_X9_keep l C9 ) (cwV 0 hts gL_law_X9_keep rfl rfl rfl (by decide +kernel) ⟨Nat.le_of_ble_eq_true rfl, Nat.le_of_ble_eq_true rfl⟩) (r_preV W8 (by omega) ob9 rfl) rfl rfl hl.1 rfl (lv_room (Nat.le_of_ble_eq_true rfl)) dL_law_765 hcs) (fun r9 h9 H9 locs9 hp9 W9 => ?_)
  obtain ⟨f9, s9, C9, A9⟩ := hp9
  have C8 := C8.fr (h' := h9) (fun q q1 q2 => f9 q (by omega))
  obtain ⟨er, es⟩ := AnKeep.inj A8 A9
  subst es
  refine lv_icmp_eq (tgt := 809) hx hb dL_law_768 (by decide) (fun c1 => ?_) (fun c1 => ?_)
  · exact K _ _ _ _ ⟨W9, C8, C9⟩
  · exact absurd er c1
set_option maxRecDepth 20000 in
theorem lc_back (C : LwC p s m c args b L xs cells slots) (I : LwI g h s st H locs) (hl : LwL g b i ls) (hi : i.toInt = (k : Int)) (hk : k + 5 ≤ L) (K : ∀ (st2 : ST) (h2 : Nat → va_E) (H2 : Heap) (locs2 : List Loc), LwI g h2 s st2 H2 locs2 → W p l e room_1 s m args below meth c H2 locs2 cells slots Q (F0 m 809 ls [])) : W p l e room_1 s m args below meth c H locs cells slots Q (F0 m 773 ls []) := by
  obtain ⟨hx, hb, hml, hown, hts, hX, hbl, hL, hcs⟩ := id C
  obtain ⟨W, C8, C9⟩ := I
  obtain ⟨fs8, ob8⟩ := C8.ob
  have hN9 := C9.hN
  refine lv_aload_n hx hb dL_law_773 rfl (lv_at hl 2 rfl) ?_
  refine r_callI W (va_runV (As := []) (rest := []) ⟨hx, hb, hml, hown, hts⟩ (c_X8_back l C8 ) (cwV 0 hts gL_law_X8_back rfl rfl rfl (by decide +kernel) ⟨Nat.le_of_ble_eq_true rfl, Nat.le_of_ble_eq_true rfl⟩) (r_preV W (by omega) ob8 rfl) rfl rfl hl.1 rfl (lv_room (Nat.le_of_ble_eq_true rfl)) dL_law_774 hcs) (fun r8 h8 H8 locs8 hp8 W8 => ?_)
  obtain ⟨f8, s8, C8, A8⟩ := hp8
  have C9 := C9.fr (h' := h8) (fun q q1 q2 => f8 q (by omega))
  obtain ⟨fs9, ob9⟩ := C9.ob
  refine lv_aload_n hx hb dL_law_777 rfl (lv_at hl 1 rfl) ?_
  refine r_callI W8 (va_runV (As := []) (rest := [.int r8]) ⟨hx, hb, hml, hown, hts⟩ (c_X9_back l C9 ) (cwV 0 hts gL_law_X9_back rfl rfl rfl (by decide +kernel) ⟨Nat.le_of_ble_eq_true rfl, Nat.le_of_ble_eq_true rfl⟩) (r_preV W8 (by omega) ob9 rfl) rfl rfl hl.1 rfl (lv_room (Nat.le_of_ble_eq_true rfl)) dL_law_778 hcs) (fun r9 h9 H9 locs9 hp9 W9 => ?_)
  obtain ⟨f9, s9, C9, A9⟩ := hp9
  have C8 := C8.fr (h' := h9) (fun q q1 q2 => f9 q (by omega))
  obtain ⟨er, es⟩ := AnBack.inj A8 A9
  subst es
  refine lv_icmp_eq (tgt := 809) hx hb dL_law_781 (by decide) (fun c1 => ?_) (fun c1 => ?_)
  · exact K _ _ _ _ ⟨W9, C8, C9⟩
  · exact absurd er c1
set_option maxRecDepth 20000 in
theorem lc_count (C : LwC p s m c args b L xs cells slots) (I : LwI g h s st H locs) (hl : LwL g b i ls) (hi : i.toInt = (k : Int)) (hk : k + 5 ≤ L) (K : ∀ (st2 : ST) (h2 : Nat → va_E) (H2 : Heap) (locs2 : List Loc), LwI g h2 s st2 H2 locs2 → W p l e room_1 s m args below meth c H2 locs2 cells slots Q (F0 m 809 ls [])) : W p l e room_1 s m args below meth c H locs cells slots Q (F0 m 786 ls []) := by
  obtain ⟨hx, hb, hml, hown, hts, hX, hbl, hL, hcs⟩ := id C
  obtain ⟨W, C8, C9⟩ := I
  obtain ⟨fs8, ob8⟩ := C8.ob
  have hN9 := C9.hN
  refine lv_aload_n hx hb dL_law_786 rfl (lv_at hl 2 rfl) ?_
  refine lw_rd (n := 1) (v := 1) C W hl hi (by decide) (by decide) (by omega) dL_law_787 dL_law_788 dL_law_789 dL_law_790 dL_law_791 ?_
  refine r_callI W (va_runV (As := [.int (xs (k + 1))]) (rest := []) ⟨hx, hb, hml, hown, hts⟩ (c_X8_count l C8 (xs (k + 1))) (cwV 1 hts gL_law_X8_count rfl rfl rfl (by decide +kernel) ⟨Nat.le_of_ble_eq_true rfl, Nat.le_of_ble_eq_true rfl⟩) (r_preV W (by omega) ob8 rfl) rfl rfl hl.1 rfl (lv_room (Nat.le_of_ble_eq_true rfl)) dL_law_792 hcs) (fun r8 h8 H8 locs8 hp8 W8 => ?_)
  obtain ⟨e8, A8⟩ := hp8
  subst e8
  obtain ⟨fs9, ob9⟩ := C9.ob
  refine lv_aload_n hx hb dL_law_795 rfl (lv_at hl 1 rfl) ?_
  refine lw_rd (n := 1) (v := 1) C W8 hl hi (by decide) (by decide) (by omega) dL_law_796 dL_law_797 dL_law_798 dL_law_799 dL_law_800 ?_
  refine r_callI W8 (va_runV (As := [.int (xs (k + 1))]) (rest := [.int r8]) ⟨hx, hb, hml, hown, hts⟩ (c_X9_count l C9 (xs (k + 1))) (cwV 1 hts gL_law_X9_count rfl rfl rfl (by decide +kernel) ⟨Nat.le_of_ble_eq_true rfl, Nat.le_of_ble_eq_true rfl⟩) (r_preV W8 (by omega) ob9 rfl) rfl rfl hl.1 rfl (lv_room (Nat.le_of_ble_eq_true rfl)) dL_law_801 hcs) (fun r9 h9 H9 locs9 hp9 W9 => ?_)
  obtain ⟨e9, A9⟩ := hp9
  subst e9
  refine lv_icmp_eq (tgt := 809) hx hb dL_law_804 (by decide) (fun c1 => ?_) (fun c1 => ?_)
  · exact K _ _ _ _ ⟨W9, C8, C9⟩
  · exact absurd (AnCount.inj A8 A9) c1
end LAW
