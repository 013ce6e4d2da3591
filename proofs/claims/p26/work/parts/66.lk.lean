-- ===== CALLS IN THE LAW: laid by wip/p26/gen/lk.py =====
/-- what stands all along the law: the machine, the words, the script -/
def LwC (p : Program) (s : State) (m : MethodId) (c : Code) (args : Array Value) (b L : Nat) (xs : Nat → Int32) (cells slots : Nat) : Prop :=
  p.tables.exec = Jvm.exec ∧ c.code = cL_law ∧ c.maxLocals = 20 ∧ s.vm.findClass RL = some m.cls ∧ (∀ w ∈ wsL_law, w.before args s = true) ∧ ScA (fun q => s.heap.size ≤ q) s b L xs ∧ cells + 0 ≤ room_1.cells ∧ slots + 0 ≤ room_1.slots
/-- the world of the law: the object, the two rows -/
def LI (g : GE) (h : Nat → va_E) (s : State) (st : ST) (gd gb : Nat → Int32) (H : Heap) (locs : List Loc) : Prop :=
  WD g (fun q => s.heap.size ≤ q) s h H locs ∧ ClsA g h 0 st ∧ RaA g h 143 0 13 gd ∧ RaA g h 144 0 64 gb
section LK
variable {p : Program} {l : Launch} {e : Env} {s : State} {m : MethodId} {args : Array Value} {below : List Frame} {meth : Method} {c : Code} {b L : Nat} {xs : Nat → Int32} {H : Heap} {locs : List Loc} {cells slots : Nat} {g : GE} {h : Nat → va_E} {ls : Array Slot} {st : ST} {gd gb : Nat → Int32} {Q : State → Prop} {rest : List Value} {pc : Nat}
theorem LI.hP (I : LI g h s st gd gb H locs) : PV (sM st) := I.2.1.1.1

theorem lk_function (C : LwC p s m c args b L xs cells slots) (I : LI g h s st gd gb H locs) (hls : ls.size = 20) {p0 p1 : Int32} (hrest : (rest.map fun v => v.category).sum ≤ 8) (hdg : decode cL_law pc = .ok (.invokevirtual 52, 3)) (kk : ∀ (r : Int32) (H2 : Heap) (locs2 : List Loc), LI g h s st gd gb H2 locs2 → AnFunction st p0 p1 r → W p l e room_1 s m args below meth c H2 locs2 cells slots Q (F0 m (pc + 3) ls (.int r :: rest))) : W p l e room_1 s m args below meth c H locs cells slots Q (F0 m pc ls (.int p1 :: .int p0 :: .ref (g.2.2.1 0) :: rest)) := by
  obtain ⟨hx, hb, hml, hown, hts, hX, hcs⟩ := C
  obtain ⟨w, C8, D, Bt⟩ := I
  refine r_callI w (va_runV (As := [.int p0, .int p1]) (rest := rest) ⟨hx, hb, hml, hown, hts⟩ (c_X8_function l C8 p0 p1) (cwV 2 hts gL_law_X8_function rfl rfl rfl (by decide +kernel) ⟨Nat.le_of_ble_eq_true rfl, Nat.le_of_ble_eq_true rfl⟩) (r_preV w (by have := C8.hN; omega) C8.ob.choose_spec rfl) rfl rfl hls rfl (lv_room hrest) hdg hcs) (fun r h2 H2 locs2 hp w2 => ?_)
  obtain ⟨eh, A⟩ := hp
  have eh := eh.symm
  subst eh
  exact kk r H2 locs2 ⟨w2, C8, D, Bt⟩ A
theorem lk_letter (C : LwC p s m c args b L xs cells slots) (I : LI g h s st gd gb H locs) (hls : ls.size = 20) {p0 p1 : Int32} (hrest : (rest.map fun v => v.category).sum ≤ 8) (hdg : decode cL_law pc = .ok (.invokevirtual 55, 3)) (kk : ∀ (r : Int32) (H2 : Heap) (locs2 : List Loc), LI g h s st gd gb H2 locs2 → AnLetter st p0 p1 r → W p l e room_1 s m args below meth c H2 locs2 cells slots Q (F0 m (pc + 3) ls (.int r :: rest))) : W p l e room_1 s m args below meth c H locs cells slots Q (F0 m pc ls (.int p1 :: .int p0 :: .ref (g.2.2.1 0) :: rest)) := by
  obtain ⟨hx, hb, hml, hown, hts, hX, hcs⟩ := C
  obtain ⟨w, C8, D, Bt⟩ := I
  refine r_callI w (va_runV (As := [.int p0, .int p1]) (rest := rest) ⟨hx, hb, hml, hown, hts⟩ (c_X8_letter l C8 p0 p1) (cwV 2 hts gL_law_X8_letter rfl rfl rfl (by decide +kernel) ⟨Nat.le_of_ble_eq_true rfl, Nat.le_of_ble_eq_true rfl⟩) (r_preV w (by have := C8.hN; omega) C8.ob.choose_spec rfl) rfl rfl hls rfl (lv_room hrest) hdg hcs) (fun r h2 H2 locs2 hp w2 => ?_)
  obtain ⟨eh, A⟩ := hp
  have eh := eh.symm
  subst eh
  exact kk r H2 locs2 ⟨w2, C8, D, Bt⟩ A
theorem lk_put (C : LwC p s m c args b L xs cells slots) (I : LI g h s st gd gb H locs) (hls : ls.size = 20) {p0 p1 p2 : Int32} (hrest : (rest.map fun v => v.category).sum ≤ 8) (hdg : decode cL_law pc = .ok (.invokevirtual 60, 3)) (kk : ∀ (r : Int32) (h2 : Nat → va_E) (H2 : Heap) (locs2 : List Loc) (st2 : ST), LI g h2 s st2 gd gb H2 locs2 → AnPut st p0 p1 p2 r st2 → W p l e room_1 s m args below meth c H2 locs2 cells slots Q (F0 m (pc + 3) ls (.int r :: rest))) : W p l e room_1 s m args below meth c H locs cells slots Q (F0 m pc ls (.int p2 :: .int p1 :: .int p0 :: .ref (g.2.2.1 0) :: rest)) := by
  obtain ⟨hx, hb, hml, hown, hts, hX, hcs⟩ := C
  obtain ⟨w, C8, D, Bt⟩ := I
  refine r_callI w (va_runV (As := [.int p0, .int p1, .int p2]) (rest := rest) ⟨hx, hb, hml, hown, hts⟩ (c_X8_put l C8 p0 p1 p2) (cwV 3 hts gL_law_X8_put rfl rfl rfl (by decide +kernel) ⟨Nat.le_of_ble_eq_true rfl, Nat.le_of_ble_eq_true rfl⟩) (r_preV w (by have := C8.hN; omega) C8.ob.choose_spec rfl) rfl rfl hls rfl (lv_room hrest) hdg hcs) (fun r h2 H2 locs2 hp w2 => ?_)
  obtain ⟨hf, s2, C8, A⟩ := hp
  exact kk r h2 H2 locs2 s2 ⟨w2, C8, D.fr (fun k _ _ => hf k (by omega)), Bt.fr (fun k _ _ => hf k (by omega))⟩ A
theorem lk_rename (C : LwC p s m c args b L xs cells slots) (I : LI g h s st gd gb H locs) (hls : ls.size = 20) {p0 p1 : Int32} (hrest : (rest.map fun v => v.category).sum ≤ 8) (hdg : decode cL_law pc = .ok (.invokevirtual 57, 3)) (kk : ∀ (r : Int32) (h2 : Nat → va_E) (H2 : Heap) (locs2 : List Loc) (st2 : ST), LI g h2 s st2 gd gb H2 locs2 → AnRename st p0 p1 r st2 → W p l e room_1 s m args below meth c H2 locs2 cells slots Q (F0 m (pc + 3) ls (.int r :: rest))) : W p l e room_1 s m args below meth c H locs cells slots Q (F0 m pc ls (.int p1 :: .int p0 :: .ref (g.2.2.1 0) :: rest)) := by
  obtain ⟨hx, hb, hml, hown, hts, hX, hcs⟩ := C
  obtain ⟨w, C8, D, Bt⟩ := I
  refine r_callI w (va_runV (As := [.int p0, .int p1]) (rest := rest) ⟨hx, hb, hml, hown, hts⟩ (c_X8_rename l C8 p0 p1) (cwV 2 hts gL_law_X8_rename rfl rfl rfl (by decide +kernel) ⟨Nat.le_of_ble_eq_true rfl, Nat.le_of_ble_eq_true rfl⟩) (r_preV w (by have := C8.hN; omega) C8.ob.choose_spec rfl) rfl rfl hls rfl (lv_room hrest) hdg hcs) (fun r h2 H2 locs2 hp w2 => ?_)
  obtain ⟨hf, s2, C8, A⟩ := hp
  exact kk r h2 H2 locs2 s2 ⟨w2, C8, D.fr (fun k _ _ => hf k (by omega)), Bt.fr (fun k _ _ => hf k (by omega))⟩ A
theorem lk_undo (C : LwC p s m c args b L xs cells slots) (I : LI g h s st gd gb H locs) (hls : ls.size = 20) (hrest : (rest.map fun v => v.category).sum ≤ 8) (hdg : decode cL_law pc = .ok (.invokevirtual 134, 3)) (kk : ∀ (r : Int32) (h2 : Nat → va_E) (H2 : Heap) (locs2 : List Loc) (st2 : ST), LI g h2 s st2 gd gb H2 locs2 → AnUndo st  r st2 → W p l e room_1 s m args below meth c H2 locs2 cells slots Q (F0 m (pc + 3) ls (.int r :: rest))) : W p l e room_1 s m args below meth c H locs cells slots Q (F0 m pc ls (.ref (g.2.2.1 0) :: rest)) := by
  obtain ⟨hx, hb, hml, hown, hts, hX, hcs⟩ := C
  obtain ⟨w, C8, D, Bt⟩ := I
  refine r_callI w (va_runV (As := []) (rest := rest) ⟨hx, hb, hml, hown, hts⟩ (c_X8_undo l C8 ) (cwV 0 hts gL_law_X8_undo rfl rfl rfl (by decide +kernel) ⟨Nat.le_of_ble_eq_true rfl, Nat.le_of_ble_eq_true rfl⟩) (r_preV w (by have := C8.hN; omega) C8.ob.choose_spec rfl) rfl rfl hls rfl (lv_room hrest) hdg hcs) (fun r h2 H2 locs2 hp w2 => ?_)
  obtain ⟨hf, s2, C8, A⟩ := hp
  exact kk r h2 H2 locs2 s2 ⟨w2, C8, D.fr (fun k _ _ => hf k (by omega)), Bt.fr (fun k _ _ => hf k (by omega))⟩ A
theorem lk_value (C : LwC p s m c args b L xs cells slots) (I : LI g h s st gd gb H locs) (hls : ls.size = 20) {p0 p1 p2 p3 : Int32} (hrest : (rest.map fun v => v.category).sum ≤ 8) (hdg : decode cL_law pc = .ok (.invokevirtual 106, 3)) (kk : ∀ (r : Int32) (h2 : Nat → va_E) (H2 : Heap) (locs2 : List Loc), LI g h2 s st gd gb H2 locs2 → AnTab 0 st p0 p1 p2 p3 r → W p l e room_1 s m args below meth c H2 locs2 cells slots Q (F0 m (pc + 3) ls (.int r :: rest))) : W p l e room_1 s m args below meth c H locs cells slots Q (F0 m pc ls (.int p3 :: .int p2 :: .int p1 :: .int p0 :: .ref (g.2.2.1 0) :: rest)) := by
  obtain ⟨hx, hb, hml, hown, hts, hX, hcs⟩ := C
  obtain ⟨w, C8, D, Bt⟩ := I
  refine r_callI w (va_runV (As := [.int p0, .int p1, .int p2, .int p3]) (rest := rest) ⟨hx, hb, hml, hown, hts⟩ (c_X8_value l C8 p0 p1 p2 p3) (cwV 4 hts gL_law_X8_value rfl rfl rfl (by decide +kernel) ⟨Nat.le_of_ble_eq_true rfl, Nat.le_of_ble_eq_true rfl⟩) (r_preV w (by have := C8.hN; omega) C8.ob.choose_spec rfl) rfl rfl hls rfl (lv_room hrest) hdg hcs) (fun r h2 H2 locs2 hp w2 => ?_)
  obtain ⟨hf, C8, A⟩ := hp
  exact kk r h2 H2 locs2 ⟨w2, C8, D.fr (fun k _ _ => hf k (by omega)), Bt.fr (fun k _ _ => hf k (by omega))⟩ A
theorem lk_rough (C : LwC p s m c args b L xs cells slots) (I : LI g h s st gd gb H locs) (hls : ls.size = 20) {p0 p1 : Int32} (hrest : (rest.map fun v => v.category).sum ≤ 8) (hdg : decode cL_law pc = .ok (.invokevirtual 113, 3)) (kk : ∀ (r : Int32) (h2 : Nat → va_E) (H2 : Heap) (locs2 : List Loc), LI g h2 s st gd gb H2 locs2 → AnRough st p0 p1 r → W p l e room_1 s m args below meth c H2 locs2 cells slots Q (F0 m (pc + 3) ls (.int r :: rest))) : W p l e room_1 s m args below meth c H locs cells slots Q (F0 m pc ls (.int p1 :: .int p0 :: .ref (g.2.2.1 0) :: rest)) := by
  obtain ⟨hx, hb, hml, hown, hts, hX, hcs⟩ := C
  obtain ⟨w, C8, D, Bt⟩ := I
  refine r_callI w (va_runV (As := [.int p0, .int p1]) (rest := rest) ⟨hx, hb, hml, hown, hts⟩ (c_X8_rough l C8 p0 p1) (cwV 2 hts gL_law_X8_rough rfl rfl rfl (by decide +kernel) ⟨Nat.le_of_ble_eq_true rfl, Nat.le_of_ble_eq_true rfl⟩) (r_preV w (by have := C8.hN; omega) C8.ob.choose_spec rfl) rfl rfl hls rfl (lv_room hrest) hdg hcs) (fun r h2 H2 locs2 hp w2 => ?_)
  obtain ⟨hf, C8, A⟩ := hp
  exact kk r h2 H2 locs2 ⟨w2, C8, D.fr (fun k _ _ => hf k (by omega)), Bt.fr (fun k _ _ => hf k (by omega))⟩ A
theorem lk_rounds (C : LwC p s m c args b L xs cells slots) (I : LI g h s st gd gb H locs) (hls : ls.size = 20) {p0 : Int32} (hrest : (rest.map fun v => v.category).sum ≤ 8) (hdg : decode cL_law pc = .ok (.invokevirtual 128, 3)) (kk : ∀ (r : Int32) (h2 : Nat → va_E) (H2 : Heap) (locs2 : List Loc), LI g h2 s st gd gb H2 locs2 → AnRounds st p0 r → W p l e room_1 s m args below meth c H2 locs2 cells slots Q (F0 m (pc + 3) ls (.int r :: rest))) : W p l e room_1 s m args below meth c H locs cells slots Q (F0 m pc ls (.int p0 :: .ref (g.2.2.1 0) :: rest)) := by
  obtain ⟨hx, hb, hml, hown, hts, hX, hcs⟩ := C
  obtain ⟨w, C8, D, Bt⟩ := I
  refine r_callI w (va_runV (As := [.int p0]) (rest := rest) ⟨hx, hb, hml, hown, hts⟩ (c_X8_rounds l C8 p0) (cwV 1 hts gL_law_X8_rounds rfl rfl rfl (by decide +kernel) ⟨Nat.le_of_ble_eq_true rfl, Nat.le_of_ble_eq_true rfl⟩) (r_preV w (by have := C8.hN; omega) C8.ob.choose_spec rfl) rfl rfl hls rfl (lv_room hrest) hdg hcs) (fun r h2 H2 locs2 hp w2 => ?_)
  obtain ⟨hf, C8, A⟩ := hp
  exact kk r h2 H2 locs2 ⟨w2, C8, D.fr (fun k _ _ => hf k (by omega)), Bt.fr (fun k _ _ => hf k (by omega))⟩ A
theorem lk_frontier (C : LwC p s m c args b L xs cells slots) (I : LI g h s st gd gb H locs) (hls : ls.size = 20) {p0 p1 : Int32} (hrest : (rest.map fun v => v.category).sum ≤ 8) (hdg : decode cL_law pc = .ok (.invokevirtual 110, 3)) (kk : ∀ (r : Int32) (h2 : Nat → va_E) (H2 : Heap) (locs2 : List Loc), LI g h2 s st gd gb H2 locs2 → AnFrontier st p0 p1 r → W p l e room_1 s m args below meth c H2 locs2 cells slots Q (F0 m (pc + 3) ls (.int r :: rest))) : W p l e room_1 s m args below meth c H locs cells slots Q (F0 m pc ls (.int p1 :: .int p0 :: .ref (g.2.2.1 0) :: rest)) := by
  obtain ⟨hx, hb, hml, hown, hts, hX, hcs⟩ := C
  obtain ⟨w, C8, D, Bt⟩ := I
  refine r_callI w (va_runV (As := [.int p0, .int p1]) (rest := rest) ⟨hx, hb, hml, hown, hts⟩ (c_X8_frontier l C8 p0 p1) (cwV 2 hts gL_law_X8_frontier rfl rfl rfl (by decide +kernel) ⟨Nat.le_of_ble_eq_true rfl, Nat.le_of_ble_eq_true rfl⟩) (r_preV w (by have := C8.hN; omega) C8.ob.choose_spec rfl) rfl rfl hls rfl (lv_room hrest) hdg hcs) (fun r h2 H2 locs2 hp w2 => ?_)
  obtain ⟨hf, C8, A⟩ := hp
  exact kk r h2 H2 locs2 ⟨w2, C8, D.fr (fun k _ _ => hf k (by omega)), Bt.fr (fun k _ _ => hf k (by omega))⟩ A
theorem lk_strict (C : LwC p s m c args b L xs cells slots) (I : LI g h s st gd gb H locs) (hls : ls.size = 20) {p0 p1 : Int32} (hrest : (rest.map fun v => v.category).sum ≤ 8) (hdg : decode cL_law pc = .ok (.invokevirtual 116, 3)) (kk : ∀ (r : Int32) (h2 : Nat → va_E) (H2 : Heap) (locs2 : List Loc), LI g h2 s st gd gb H2 locs2 → AnStrict st p0 p1 r → W p l e room_1 s m args below meth c H2 locs2 cells slots Q (F0 m (pc + 3) ls (.int r :: rest))) : W p l e room_1 s m args below meth c H locs cells slots Q (F0 m pc ls (.int p1 :: .int p0 :: .ref (g.2.2.1 0) :: rest)) := by
  obtain ⟨hx, hb, hml, hown, hts, hX, hcs⟩ := C
  obtain ⟨w, C8, D, Bt⟩ := I
  refine r_callI w (va_runV (As := [.int p0, .int p1]) (rest := rest) ⟨hx, hb, hml, hown, hts⟩ (c_X8_strict l C8 p0 p1) (cwV 2 hts gL_law_X8_strict rfl rfl rfl (by decide +kernel) ⟨Nat.le_of_ble_eq_true rfl, Nat.le_of_ble_eq_true rfl⟩) (r_preV w (by have := C8.hN; omega) C8.ob.choose_spec rfl) rfl rfl hls rfl (lv_room hrest) hdg hcs) (fun r h2 H2 locs2 hp w2 => ?_)
  obtain ⟨hf, C8, A⟩ := hp
  exact kk r h2 H2 locs2 ⟨w2, C8, D.fr (fun k _ _ => hf k (by omega)), Bt.fr (fun k _ _ => hf k (by omega))⟩ A
theorem lk_early (C : LwC p s m c args b L xs cells slots) (I : LI g h s st gd gb H locs) (hls : ls.size = 20) {p0 p1 : Int32} (hrest : (rest.map fun v => v.category).sum ≤ 8) (hdg : decode cL_law pc = .ok (.invokevirtual 119, 3)) (kk : ∀ (r : Int32) (h2 : Nat → va_E) (H2 : Heap) (locs2 : List Loc), LI g h2 s st gd gb H2 locs2 → AnEarly st p0 p1 r → W p l e room_1 s m args below meth c H2 locs2 cells slots Q (F0 m (pc + 3) ls (.int r :: rest))) : W p l e room_1 s m args below meth c H locs cells slots Q (F0 m pc ls (.int p1 :: .int p0 :: .ref (g.2.2.1 0) :: rest)) := by
  obtain ⟨hx, hb, hml, hown, hts, hX, hcs⟩ := C
  obtain ⟨w, C8, D, Bt⟩ := I
  refine r_callI w (va_runV (As := [.int p0, .int p1]) (rest := rest) ⟨hx, hb, hml, hown, hts⟩ (c_X8_early l C8 p0 p1) (cwV 2 hts gL_law_X8_early rfl rfl rfl (by decide +kernel) ⟨Nat.le_of_ble_eq_true rfl, Nat.le_of_ble_eq_true rfl⟩) (r_preV w (by have := C8.hN; omega) C8.ob.choose_spec rfl) rfl rfl hls rfl (lv_room hrest) hdg hcs) (fun r h2 H2 locs2 hp w2 => ?_)
  obtain ⟨hf, C8, A⟩ := hp
  exact kk r h2 H2 locs2 ⟨w2, C8, D.fr (fun k _ _ => hf k (by omega)), Bt.fr (fun k _ _ => hf k (by omega))⟩ A
theorem lk_same (C : LwC p s m c args b L xs cells slots) (I : LI g h s st gd gb H locs) (hls : ls.size = 20) {p0 p1 : Int32} (hrest : (rest.map fun v => v.category).sum ≤ 8) (hdg : decode cL_law pc = .ok (.invokevirtual 122, 3)) (kk : ∀ (r : Int32) (h2 : Nat → va_E) (H2 : Heap) (locs2 : List Loc), LI g h2 s st gd gb H2 locs2 → AnSame st p0 p1 r → W p l e room_1 s m args below meth c H2 locs2 cells slots Q (F0 m (pc + 3) ls (.int r :: rest))) : W p l e room_1 s m args below meth c H locs cells slots Q (F0 m pc ls (.int p1 :: .int p0 :: .ref (g.2.2.1 0) :: rest)) := by
  obtain ⟨hx, hb, hml, hown, hts, hX, hcs⟩ := C
  obtain ⟨w, C8, D, Bt⟩ := I
  refine r_callI w (va_runV (As := [.int p0, .int p1]) (rest := rest) ⟨hx, hb, hml, hown, hts⟩ (c_X8_same l C8 p0 p1) (cwV 2 hts gL_law_X8_same rfl rfl rfl (by decide +kernel) ⟨Nat.le_of_ble_eq_true rfl, Nat.le_of_ble_eq_true rfl⟩) (r_preV w (by have := C8.hN; omega) C8.ob.choose_spec rfl) rfl rfl hls rfl (lv_room hrest) hdg hcs) (fun r h2 H2 locs2 hp w2 => ?_)
  obtain ⟨hf, C8, A⟩ := hp
  exact kk r h2 H2 locs2 ⟨w2, C8, D.fr (fun k _ _ => hf k (by omega)), Bt.fr (fun k _ _ => hf k (by omega))⟩ A
theorem lk_first (C : LwC p s m c args b L xs cells slots) (I : LI g h s st gd gb H locs) (hls : ls.size = 20) {p0 p1 : Int32} (hrest : (rest.map fun v => v.category).sum ≤ 8) (hdg : decode cL_law pc = .ok (.invokevirtual 125, 3)) (kk : ∀ (r : Int32) (h2 : Nat → va_E) (H2 : Heap) (locs2 : List Loc), LI g h2 s st gd gb H2 locs2 → AnFirst st p0 p1 r → W p l e room_1 s m args below meth c H2 locs2 cells slots Q (F0 m (pc + 3) ls (.int r :: rest))) : W p l e room_1 s m args below meth c H locs cells slots Q (F0 m pc ls (.int p1 :: .int p0 :: .ref (g.2.2.1 0) :: rest)) := by
  obtain ⟨hx, hb, hml, hown, hts, hX, hcs⟩ := C
  obtain ⟨w, C8, D, Bt⟩ := I
  refine r_callI w (va_runV (As := [.int p0, .int p1]) (rest := rest) ⟨hx, hb, hml, hown, hts⟩ (c_X8_first l C8 p0 p1) (cwV 2 hts gL_law_X8_first rfl rfl rfl (by decide +kernel) ⟨Nat.le_of_ble_eq_true rfl, Nat.le_of_ble_eq_true rfl⟩) (r_preV w (by have := C8.hN; omega) C8.ob.choose_spec rfl) rfl rfl hls rfl (lv_room hrest) hdg hcs) (fun r h2 H2 locs2 hp w2 => ?_)
  obtain ⟨hf, C8, A⟩ := hp
  exact kk r h2 H2 locs2 ⟨w2, C8, D.fr (fun k _ _ => hf k (by omega)), Bt.fr (fun k _ _ => hf k (by omega))⟩ A
theorem lk_makes (C : LwC p s m c args b L xs cells slots) (I : LI g h s st gd gb H locs) (hls : ls.size = 20) {p0 p1 : Int32} (hrest : (rest.map fun v => v.category).sum ≤ 8) (hdg : decode cL_law pc = .ok (.invokevirtual 131, 3)) (kk : ∀ (r : Int32) (h2 : Nat → va_E) (H2 : Heap) (locs2 : List Loc), LI g h2 s st gd gb H2 locs2 → AnMakes st p0 p1 r → W p l e room_1 s m args below meth c H2 locs2 cells slots Q (F0 m (pc + 3) ls (.int r :: rest))) : W p l e room_1 s m args below meth c H locs cells slots Q (F0 m pc ls (.int p1 :: .int p0 :: .ref (g.2.2.1 0) :: rest)) := by
  obtain ⟨hx, hb, hml, hown, hts, hX, hcs⟩ := C
  obtain ⟨w, C8, D, Bt⟩ := I
  refine r_callI w (va_runV (As := [.int p0, .int p1]) (rest := rest) ⟨hx, hb, hml, hown, hts⟩ (c_X8_makes l C8 p0 p1) (cwV 2 hts gL_law_X8_makes rfl rfl rfl (by decide +kernel) ⟨Nat.le_of_ble_eq_true rfl, Nat.le_of_ble_eq_true rfl⟩) (r_preV w (by have := C8.hN; omega) C8.ob.choose_spec rfl) rfl rfl hls rfl (lv_room hrest) hdg hcs) (fun r h2 H2 locs2 hp w2 => ?_)
  obtain ⟨hf, C8, A⟩ := hp
  exact kk r h2 H2 locs2 ⟨w2, C8, D.fr (fun k _ _ => hf k (by omega)), Bt.fr (fun k _ _ => hf k (by omega))⟩ A
theorem lk_keep (C : LwC p s m c args b L xs cells slots) (I : LI g h s st gd gb H locs) (hls : ls.size = 20) (hrest : (rest.map fun v => v.category).sum ≤ 8) (hdg : decode cL_law pc = .ok (.invokevirtual 99, 3)) (kk : ∀ (r : Int32) (h2 : Nat → va_E) (H2 : Heap) (locs2 : List Loc) (st2 : ST), LI g h2 s st2 gd gb H2 locs2 → AnKeep st  r st2 → W p l e room_1 s m args below meth c H2 locs2 cells slots Q (F0 m (pc + 3) ls (.int r :: rest))) : W p l e room_1 s m args below meth c H locs cells slots Q (F0 m pc ls (.ref (g.2.2.1 0) :: rest)) := by
  obtain ⟨hx, hb, hml, hown, hts, hX, hcs⟩ := C
  obtain ⟨w, C8, D, Bt⟩ := I
  refine r_callI w (va_runV (As := []) (rest := rest) ⟨hx, hb, hml, hown, hts⟩ (c_X8_keep l C8 ) (cwV 0 hts gL_law_X8_keep rfl rfl rfl (by decide +kernel) ⟨Nat.le_of_ble_eq_true rfl, Nat.le_of_ble_eq_true rfl⟩) (r_preV w (by have := C8.hN; omega) C8.ob.choose_spec rfl) rfl rfl hls rfl (lv_room hrest) hdg hcs) (fun r h2 H2 locs2 hp w2 => ?_)
  obtain ⟨hf, s2, C8, A⟩ := hp
  exact kk r h2 H2 locs2 s2 ⟨w2, C8, D.fr (fun k _ _ => hf k (by omega)), Bt.fr (fun k _ _ => hf k (by omega))⟩ A
theorem lk_back (C : LwC p s m c args b L xs cells slots) (I : LI g h s st gd gb H locs) (hls : ls.size = 20) (hrest : (rest.map fun v => v.category).sum ≤ 8) (hdg : decode cL_law pc = .ok (.invokevirtual 137, 3)) (kk : ∀ (r : Int32) (h2 : Nat → va_E) (H2 : Heap) (locs2 : List Loc) (st2 : ST), LI g h2 s st2 gd gb H2 locs2 → AnBack st  r st2 → W p l e room_1 s m args below meth c H2 locs2 cells slots Q (F0 m (pc + 3) ls (.int r :: rest))) : W p l e room_1 s m args below meth c H locs cells slots Q (F0 m pc ls (.ref (g.2.2.1 0) :: rest)) := by
  obtain ⟨hx, hb, hml, hown, hts, hX, hcs⟩ := C
  obtain ⟨w, C8, D, Bt⟩ := I
  refine r_callI w (va_runV (As := []) (rest := rest) ⟨hx, hb, hml, hown, hts⟩ (c_X8_back l C8 ) (cwV 0 hts gL_law_X8_back rfl rfl rfl (by decide +kernel) ⟨Nat.le_of_ble_eq_true rfl, Nat.le_of_ble_eq_true rfl⟩) (r_preV w (by have := C8.hN; omega) C8.ob.choose_spec rfl) rfl rfl hls rfl (lv_room hrest) hdg hcs) (fun r h2 H2 locs2 hp w2 => ?_)
  obtain ⟨hf, s2, C8, A⟩ := hp
  exact kk r h2 H2 locs2 s2 ⟨w2, C8, D.fr (fun k _ _ => hf k (by omega)), Bt.fr (fun k _ _ => hf k (by omega))⟩ A
theorem lk_count (C : LwC p s m c args b L xs cells slots) (I : LI g h s st gd gb H locs) (hls : ls.size = 20) {p0 : Int32} (hrest : (rest.map fun v => v.category).sum ≤ 8) (hdg : decode cL_law pc = .ok (.invokevirtual 49, 3)) (kk : ∀ (r : Int32) (H2 : Heap) (locs2 : List Loc), LI g h s st gd gb H2 locs2 → AnCount st p0 r → W p l e room_1 s m args below meth c H2 locs2 cells slots Q (F0 m (pc + 3) ls (.int r :: rest))) : W p l e room_1 s m args below meth c H locs cells slots Q (F0 m pc ls (.int p0 :: .ref (g.2.2.1 0) :: rest)) := by
  obtain ⟨hx, hb, hml, hown, hts, hX, hcs⟩ := C
  obtain ⟨w, C8, D, Bt⟩ := I
  refine r_callI w (va_runV (As := [.int p0]) (rest := rest) ⟨hx, hb, hml, hown, hts⟩ (c_X8_count l C8 p0) (cwV 1 hts gL_law_X8_count rfl rfl rfl (by decide +kernel) ⟨Nat.le_of_ble_eq_true rfl, Nat.le_of_ble_eq_true rfl⟩) (r_preV w (by have := C8.hN; omega) C8.ob.choose_spec rfl) rfl rfl hls rfl (lv_room hrest) hdg hcs) (fun r h2 H2 locs2 hp w2 => ?_)
  obtain ⟨eh, A⟩ := hp
  have eh := eh.symm
  subst eh
  exact kk r H2 locs2 ⟨w2, C8, D, Bt⟩ A
theorem lk_low (C : LwC p s m c args b L xs cells slots) (I : LI g h s st gd gb H locs) (hls : ls.size = 20) {p0 p1 : Int32} {n : Nat} (hn : p1.toInt = (n : Int)) (h0 : 0 < n) (hrest : (rest.map fun v => v.category).sum ≤ 8) (hdg : decode cL_law pc = .ok (.invokestatic 18, 3)) (kk : ∀ (r : Int32) (H2 : Heap) (locs2 : List Loc), LI g h s st gd gb H2 locs2 → r.toInt = ((lowF p0 n : Nat) : Int) → W p l e room_1 s m args below meth c H2 locs2 cells slots Q (F0 m (pc + 3) ls (.int r :: rest))) : W p l e room_1 s m args below meth c H locs cells slots Q (F0 m pc ls (.int p1 :: .int p0 :: rest)) := by
  obtain ⟨hx, hb, hml, hown, hts, hX, hcs⟩ := C
  obtain ⟨w, C8, D, Bt⟩ := I
  have hN8 := C8.hN
  refine r_callI w (va_runS (As := [.int p0, .int p1]) (rest := rest) ⟨hx, hb, hml, hown, hts⟩ (c_L_low l (g := g) (h := h) p0 p1 hn h0) (va_cwS 2 hts gL_law_L_low rfl rfl rfl (by decide +kernel) ⟨Nat.le_of_ble_eq_true rfl, Nat.le_of_ble_eq_true rfl⟩) (r_preS w) rfl rfl hls rfl (lv_room hrest) hdg hcs) (fun r h2 H2 locs2 hp w2 => ?_)
  obtain ⟨eh, A⟩ := hp
  have eh := eh.symm
  subst eh
  exact kk r H2 locs2 ⟨w2, C8, D, Bt⟩ A
theorem lk_cell (C : LwC p s m c args b L xs cells slots) (I : LI g h s st gd gb H locs) (hls : ls.size = 20) {p1 : Int32} {k : Nat} (hk : p1.toInt = (k : Int)) (hrest : (rest.map fun v => v.category).sum ≤ 8) (hdg : decode cL_law pc = .ok (.invokestatic 26, 3)) (kk : ∀ (r : Int32) (H2 : Heap) (locs2 : List Loc), LI g h s st gd gb H2 locs2 → W p l e room_1 s m args below meth c H2 locs2 cells slots Q (F0 m (pc + 3) ls (.int r :: rest))) : W p l e room_1 s m args below meth c H locs cells slots Q (F0 m pc ls (.int p1 :: .ref b :: rest)) := by
  obtain ⟨hx, hb, hml, hown, hts, hX, hcs⟩ := C
  obtain ⟨w, C8, D, Bt⟩ := I
  have hN8 := C8.hN
  refine r_callI w (va_runS (As := [.ref b, .int p1]) (rest := rest) ⟨hx, hb, hml, hown, hts⟩ (c_L_cell l (g := g) (h := h) (sa := b) (sL := L) (sx := xs) p1 hk) (va_cwS 2 hts gL_law_L_cell rfl rfl rfl (by decide +kernel) ⟨Nat.le_of_ble_eq_true rfl, Nat.le_of_ble_eq_true rfl⟩) (r_preSs w hX) rfl rfl hls rfl (lv_room hrest) hdg hcs) (fun r h2 H2 locs2 hp w2 => ?_)
  have eh := hp.symm
  subst eh
  exact kk r H2 locs2 ⟨w2, C8, D, Bt⟩
theorem lk_alike (C : LwC p s m c args b L xs cells slots) (I : LI g h s st gd gb H locs) (hls : ls.size = 20) (AD : AlD (sM st) gd) (AB : AlB (sM st) gb) (hrest : (rest.map fun v => v.category).sum ≤ 8) (hdg : decode cL_law pc = .ok (.invokestatic 102, 3)) (kk : ∀ (H2 : Heap) (locs2 : List Loc), LI g h s st gd gb H2 locs2 → W p l e room_1 s m args below meth c H2 locs2 cells slots Q (F0 m (pc + 3) ls (.int 1 :: rest))) : W p l e room_1 s m args below meth c H locs cells slots Q (F0 m pc ls (.ref (g.2.2.1 144) :: .ref (g.2.2.1 143) :: .ref (g.2.2.1 0) :: rest)) := by
  obtain ⟨hx, hb, hml, hown, hts, hX, hcs⟩ := C
  obtain ⟨w, C8, D, Bt⟩ := I
  have hN8 := C8.hN
  refine r_callI w (va_runS (As := [.ref (g.2.2.1 0), .ref (g.2.2.1 143), .ref (g.2.2.1 144)]) (rest := rest) ⟨hx, hb, hml, hown, hts⟩ (c_L_alike l C8 D Bt (by omega) (by omega) (by omega) AD AB) (va_cwS 3 hts gL_law_L_alike rfl rfl rfl (by decide +kernel) ⟨Nat.le_of_ble_eq_true rfl, Nat.le_of_ble_eq_true rfl⟩) (r_preS w) rfl rfl hls rfl (lv_room hrest) hdg hcs) (fun r h2 H2 locs2 hp w2 => ?_)
  obtain ⟨eh, A⟩ := hp
  have eh := eh.symm
  subst eh
  subst A
  exact kk H2 locs2 ⟨w2, C8, D, Bt⟩
theorem lk_functions (C : LwC p s m c args b L xs cells slots) (I : LI g h s st gd gb H locs) (hls : ls.size = 20)  (hrest : (rest.map fun v => v.category).sum ≤ 8) (hdg : decode cL_law pc = .ok (.invokestatic 95, 3)) (kk : ∀ (h2 : Nat → va_E) (H2 : Heap) (locs2 : List Loc) (st2 : ST) (gd2 gb2 : Nat → Int32), LI g h2 s st2 gd2 gb2 H2 locs2 → AlD (sM st2) gd2 → AlB (sM st2) gb2 → sV st2 = 0 → W p l e room_1 s m args below meth c H2 locs2 cells slots Q (F0 m (pc + 3) ls (.int 1 :: rest))) : W p l e room_1 s m args below meth c H locs cells slots Q (F0 m pc ls (.ref (g.2.2.1 144) :: .ref (g.2.2.1 143) :: .ref b :: .ref (g.2.2.1 0) :: rest)) := by
  obtain ⟨hx, hb, hml, hown, hts, hX, hcs⟩ := C
  obtain ⟨w, C8, D, Bt⟩ := I
  have hN8 := C8.hN
  refine r_callI w (va_runS (As := [.ref (g.2.2.1 0), .ref b, .ref (g.2.2.1 143), .ref (g.2.2.1 144)]) (rest := rest) ⟨hx, hb, hml, hown, hts⟩ (c_L_functions l (sa := b) (sL := L) (sx := xs) C8 D Bt (by omega) (by omega) (by omega)) (va_cwS 4 hts gL_law_L_functions rfl rfl rfl (by decide +kernel) ⟨Nat.le_of_ble_eq_true rfl, Nat.le_of_ble_eq_true rfl⟩) (r_preSs w hX) rfl rfl hls rfl (lv_room hrest) hdg hcs) (fun r h2 H2 locs2 hp w2 => ?_)
  obtain ⟨hf, er, s2, gd2, gb2, C8, D, Bt, AD, AB, hv⟩ := hp
  subst er
  exact kk h2 H2 locs2 s2 gd2 gb2 ⟨w2, C8, D, Bt⟩ AD AB hv
theorem lk_some (C : LwC p s m c args b L xs cells slots) (I : LI g h s st gd gb H locs) (hls : ls.size = 20) (AD : AlD (sM st) gd) (AB : AlB (sM st) gb) (hv0 : sV st = 0) {p2 p3 : Int32} {k0 n0 : Nat} (hp2 : p2.toInt = (k0 : Int)) (hk0 : k0 ≤ 1000) (hp3 : p3.toInt = (n0 : Int)) (hn0 : n0 ≤ 1000) (hrest : (rest.map fun v => v.category).sum ≤ 8) (hdg : decode cL_law pc = .ok (.invokestatic 140, 3)) (kk : ∀ (h2 : Nat → va_E) (H2 : Heap) (locs2 : List Loc) (st2 : ST) (gd2 gb2 : Nat → Int32), LI g h2 s st2 gd2 gb2 H2 locs2 → AlD (sM st2) gd2 → AlB (sM st2) gb2 → sV st2 = 0 → W p l e room_1 s m args below meth c H2 locs2 cells slots Q (F0 m (pc + 3) ls (.int 1 :: rest))) : W p l e room_1 s m args below meth c H locs cells slots Q (F0 m pc ls (.ref (g.2.2.1 144) :: .ref (g.2.2.1 143) :: .int p3 :: .int p2 :: .ref b :: .ref (g.2.2.1 0) :: rest)) := by
  obtain ⟨hx, hb, hml, hown, hts, hX, hcs⟩ := C
  obtain ⟨w, C8, D, Bt⟩ := I
  have hN8 := C8.hN
  refine r_callI w (va_runS (As := [.ref (g.2.2.1 0), .ref b, .int p2, .int p3, .ref (g.2.2.1 143), .ref (g.2.2.1 144)]) (rest := rest) ⟨hx, hb, hml, hown, hts⟩ (c_L_some l (sa := b) (sL := L) (sx := xs) C8 D Bt (by omega) (by omega) (by omega) AD AB hv0 p2 p3 hp2 hk0 hp3 hn0) (va_cwS 6 hts gL_law_L_some rfl rfl rfl (by decide +kernel) ⟨Nat.le_of_ble_eq_true rfl, Nat.le_of_ble_eq_true rfl⟩) (r_preSs w hX) rfl rfl hls rfl (lv_room hrest) hdg hcs) (fun r h2 H2 locs2 hp w2 => ?_)
  obtain ⟨hf, er, s2, gd2, gb2, C8, D, Bt, AD, AB, hv⟩ := hp
  subst er
  exact kk h2 H2 locs2 s2 gd2 gb2 ⟨w2, C8, D, Bt⟩ AD AB hv
end LK
