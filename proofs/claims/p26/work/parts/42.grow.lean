-- ===== A WORLD THAT GROWS =====
theorem va_AOA.moved {t : FieldType} {u U : State} (hvm : u.vm.Alike U.vm) (h : va_AOA t u) : va_AOA t U := by
  have h0 : (Cond.arrayOver (.array t)).holds #[] u none u [] = true := h
  simp only [Cond.holds, Cond.value, beq_iff_eq] at h0
  cases hc : u.vm.findClass (FieldType.array t).toString with
  | none => simp [hc] at h0
  | some comp =>
    simp only [hc, Option.bind_some, Option.bind_eq_some_iff, Option.map_eq_some_iff] at h0
    obtain ⟨c, hi, k, hk, hb⟩ := h0
    obtain ⟨k', hk', he⟩ := hvm.2.2 _ _ hk
    have hi2 : (U.vm.classes.findIdx? fun (x : Class) => match x.kind with | .array component _ => component == comp | _ => false) = some c := by
      have b1 := va_idx_bare U.vm comp
      have b2 := va_idx_bare u.vm comp
      have hb0 : U.vm.bare = u.vm.bare := hvm.bare_eq
      rw [hb0] at b1
      exact (b1.symm.trans b2).trans hi
    have hkind : k'.kind = k.kind := by rw [he]
    have f1 : U.vm.findClass (FieldType.array t).toString = some comp := by rw [hvm.findClass]; exact hc
    have f2 : U.vm.findClass ("[" ++ (FieldType.array t).toString) = u.vm.findClass ("[" ++ (FieldType.array t).toString) := by rw [hvm.findClass]
    show (Cond.arrayOver (.array t)).holds #[] U none U [] = true
    simp only [Cond.holds, Cond.value, beq_iff_eq, f1, Option.bind_some, Option.bind_eq_some_iff, Option.map_eq_some_iff]
    exact ⟨c, hi2, k', hk', by rw [hkind, f2]; exact hb⟩
/-- array classes that stand already -/
def AOX (U : State) : Prop := va_AOA .int U ∧ va_AOA .byte U ∧ va_AO "EarlyValues$Program" U
theorem AOX.moved {u U : State} (hvm : u.vm.Alike U.vm) (h : AOX u) : AOX U := ⟨h.1.moved hvm, h.2.1.moved hvm, h.2.2.moved hvm⟩
def Ext (g g' : GE) : Prop := g'.1 = g.1 ∧ g'.2.1 = g.2.1 ∧ g.2.2.2 ≤ g'.2.2.2 ∧ (∀ k, k < g.2.2.2 → g'.2.2.1 k = g.2.2.1 k) ∧ ∀ i, g'.2.2.1 (g'.2.2.2 + i) = g.2.2.1 (g.2.2.2 + i)
theorem Ext.rf {g : GE} : Ext g g := ⟨rfl, rfl, Nat.le_refl _, fun _ _ => rfl, fun _ => rfl⟩
theorem Ext.trans {a b c : GE} (h1 : Ext a b) (h2 : Ext b c) : Ext a c :=
  ⟨h2.1.trans h1.1, h2.2.1.trans h1.2.1, Nat.le_trans h1.2.2.1 h2.2.2.1, fun k hk => (h2.2.2.2.1 k (Nat.lt_of_lt_of_le hk h1.2.2.1)).trans (h1.2.2.2.1 k hk), fun i => (h2.2.2.2.2 i).trans (h1.2.2.2.2 i)⟩
theorem Ext.at {g g' : GE} (h : Ext g g') {k : Nat} (hk : k < g.2.2.2) : g'.2.2.1 k = g.2.2.1 k := h.2.2.2.1 k hk
theorem Ext.ct {g g' : GE} (h : Ext g g') (k : Nat) : g'.2.1 k = g.2.1 k := by rw [h.2.1]
theorem EV.ext {g g' : GE} {A : Nat → Prop} {U : State} {H : Heap} (e : Ext g g') (h : EV g A U H) : EV g' A U H := by
  obtain ⟨a, b, c, d, z, k, r0, r1, y⟩ := h
  have e5 := e.2.2.2.2
  refine ⟨a, b, c, d, z, ?_, ?_, ?_, y⟩
  · have f1 : (fun i => g'.2.2.1 (g'.2.2.2 + i)) = (fun i => g.2.2.1 (g.2.2.2 + i)) := funext e5
    have f2 : (fun i => g'.2.2.1 (g'.2.2.2 + 2 + i)) = (fun i => g.2.2.1 (g.2.2.2 + 2 + i)) := funext fun i => by
      rw [Nat.add_assoc, e5, Nat.add_assoc]
    rw [f1, f2]; exact k
  · have := e5 0
    simp only [Nat.add_zero] at this
    rw [this]; exact r0
  · rw [e5 1]; exact r1
/-- cells put behind the world's -/
def gApp (g : GE) (L : List (Nat × va_E)) : GE := (g.1, g.2.1, fun k => if k < g.2.2.2 then g.2.2.1 k else if k < g.2.2.2 + L.length then (L.getD (k - g.2.2.2) (0, .inr (0, []))).1 else g.2.2.1 (k - L.length), g.2.2.2 + L.length)
def hApp (g : GE) (h : Nat → va_E) (L : List (Nat × va_E)) : Nat → va_E := fun k => if k < g.2.2.2 then h k else (L.getD (k - g.2.2.2) (0, .inr (0, []))).2
theorem gApp_ext (g : GE) (L : List (Nat × va_E)) : Ext g (gApp g L) := by
  refine ⟨rfl, rfl, by show g.2.2.2 ≤ g.2.2.2 + L.length; omega, fun k hk => if_pos hk, fun i => ?_⟩
  show (if g.2.2.2 + L.length + i < g.2.2.2 then _ else if g.2.2.2 + L.length + i < g.2.2.2 + L.length then _ else g.2.2.1 (g.2.2.2 + L.length + i - L.length)) = _
  rw [if_neg (by omega), if_neg (by omega), show g.2.2.2 + L.length + i - L.length = g.2.2.2 + i by omega]
theorem gApp_at (g : GE) {L : List (Nat × va_E)} {i : Nat} {q : Nat × va_E} (hq : L[i]? = some q) : (gApp g L).2.2.1 (g.2.2.2 + i) = q.1 := by
  have hi : i < L.length := (List.getElem?_eq_some_iff.mp hq).1
  show (if g.2.2.2 + i < g.2.2.2 then _ else if g.2.2.2 + i < g.2.2.2 + L.length then (L.getD (g.2.2.2 + i - g.2.2.2) (0, .inr (0, []))).1 else _) = _
  rw [if_neg (by omega), if_pos (by omega), show g.2.2.2 + i - g.2.2.2 = i by omega, List.getD_eq_getElem?_getD, hq]; rfl
theorem hApp_at (g : GE) (h : Nat → va_E) {L : List (Nat × va_E)} {i : Nat} {q : Nat × va_E} (hq : L[i]? = some q) : hApp g h L (g.2.2.2 + i) = q.2 := by
  show (if g.2.2.2 + i < g.2.2.2 then _ else (L.getD (g.2.2.2 + i - g.2.2.2) (0, .inr (0, []))).2) = _
  rw [if_neg (by omega), show g.2.2.2 + i - g.2.2.2 = i by omega, List.getD_eq_getElem?_getD, hq]; rfl
theorem gApp_0 (g : GE) (q : Nat × va_E) (t : List (Nat × va_E)) : (gApp g (q :: t)).2.2.1 g.2.2.2 = q.1 := gApp_at g (i := 0) (L := q :: t) rfl
theorem hApp_0 (g : GE) (h : Nat → va_E) (q : Nat × va_E) (t : List (Nat × va_E)) : hApp g h (q :: t) g.2.2.2 = q.2 := hApp_at g h (i := 0) (L := q :: t) rfl
theorem hw_app (g : GE) (h : Nat → va_E) (L : List (Nat × va_E)) : hw (gApp g L) (hApp g h L) = hw g h ++ L := by
  have hl : (hw g h).length = g.2.2.2 := by simp [hw]
  apply List.ext_getElem?
  intro i
  by_cases h1 : i < g.2.2.2
  · rw [hw_get (by show i < g.2.2.2 + L.length; omega), List.getElem?_append_left (by omega), hw_get h1]
    show some ((if i < g.2.2.2 then g.2.2.1 i else _), (if i < g.2.2.2 then h i else _)) = _
    rw [if_pos h1, if_pos h1]
  · by_cases h2 : i < g.2.2.2 + L.length
    · obtain ⟨j, rfl⟩ : ∃ j, i = g.2.2.2 + j := ⟨i - g.2.2.2, by omega⟩
      obtain ⟨q, hq⟩ : ∃ q, L[j]? = some q := ⟨L[j]'(by omega), List.getElem?_eq_getElem (by omega)⟩
      rw [hw_get h2, gApp_at g hq, hApp_at g h hq, List.getElem?_append_right (by omega), hl, show g.2.2.2 + j - g.2.2.2 = j by omega, hq]
    · rw [List.getElem?_eq_none (by simp [hw, gApp]; omega), List.getElem?_eq_none (by simp [hl]; omega)]
def inA (g : GE) (sz : Nat) : Nat → Prop := fun q => inW g q ∨ sz ≤ q
/-- the world of a method that makes cells, at its start -/
def PN (g : GE) (h : Nat → va_E) (sz : Nat) (U : State) : Prop := U.heap.size = sz ∧ va_P g.1 vwCl (hw g h) U.heap ∧ va_K g.1 vwCl (TYS g.2.1) U ∧ va_D (fun _ => True) (hw g h) ∧ EV g (inA g sz) U U.heap ∧ AOX U
abbrev MN (l : Launch) (y : MethodName) (ws : List Cond) (rm : Room) (as : List Value) (g : GE) (h : Nat → va_E) (sz : Nat) (post : GE × (Nat → va_E) → Prop) (mc ms : Nat) : Prop :=
  Met l y ws rm (va_Pc as (PN g h sz)) (va_Qv (fun u : GE × (Nat → va_E) => Ext g u.1 ∧ post u) (fun u t => va_P u.1.1 vwCl (hw u.1 u.2) t.heap ∧ va_D (inA g sz) (hw u.1 u.2)) (inA g sz)) mc ms (inA g sz)
theorem PN.start {g : GE} {h : Nat → va_E} {s : State} (w : PN g h s.heap.size s) : WD g (inA g s.heap.size) s h s.heap [] ∧ AOX s ∧ ∀ q, s.heap.size ≤ q → inA g s.heap.size q := by
  obtain ⟨-, a, b, c, d, e⟩ := w
  exact ⟨⟨b, a, c.weaken (fun k q hq _ => by obtain ⟨hk, rfl⟩ := hw_lt hq; exact Or.inl ⟨k, hk, rfl⟩), va_S.rf, d⟩, e, fun q hq => Or.inr hq⟩
section HRN
variable {p : Program} {l : Launch} {e : Env} {R : Room} {s : State} {m : MethodId} {args : Array Value} {below : List Frame} {meth : Method} {c : Code} {H : Heap} {locs : List Loc} {cells slots : Nat} {Q : State → Prop}
variable {cc : ByteArray} {pc : Nat} {ls : Array Slot} {rest : List Value} {g : GE} {A : Nat → Prop} {h : Nat → va_E}
theorem WD.app (w : WD g A s h H locs) {L : List (Nat × va_E)} {H1 : Heap} (hP : va_P g.1 vwCl (hw g h ++ L) H1) (hD : va_D A (hw g h ++ L)) (hS : va_S A s.heap H1 locs) : WD (gApp g L) A s (hApp g h L) H1 locs :=
  ⟨w.1, by rw [hw_app]; exact hP, by rw [hw_app]; exact hD, hS, w.2.2.2.2.ext (gApp_ext g L)⟩
theorem r_new (hx : p.tables.exec = Jvm.exec) (hb : c.code = cc) {own C : String} {T : u_T} {N ci index : Nat} {Ts : List Cond} (hts : ∀ w ∈ Ts, w.before args s = true) (hin : ∀ w ∈ u_ws C T N, w ∈ Ts) (ty : Nat → FieldType) (hty : ∀ k, k < N → parseFieldDescriptor (T k).2.2.1 = some (ty k)) (hown : s.vm.findClass own = some m.cls) (hcl : (Cond.classLink own index C).before args s = true) (hinst : (Cond.instantiable C N).before args s = true) (hini : (Cond.initialized C).before args s = true)
    (w : WD g A s h H locs) (hA : ∀ q, s.heap.size ≤ q → A q) (hc : vwCl[ci]? = some (C, T, N)) {fs : List Value} (hfs : ∀ j, j < N → defaultValue (ty j) = vp_V fs j) (hcells : cells + 1 ≤ R.cells) (hslots : slots + N ≤ R.slots) (hdg : decode cc pc = .ok (.new index, 3))
    (kk : ∀ (g' : GE) (h' : Nat → va_E) (H1 : Heap), Ext g g' → g'.2.2.2 = g.2.2.2 + 1 → (∀ k, k < g.2.2.2 → h' k = h k) → h' g.2.2.2 = .inr (ci, fs) → WD g' A s h' H1 locs → W p l e R s m args below meth c H1 locs (cells + 1) (slots + N) Q (F0 m (pc + 3) ls (.ref (g'.2.2.1 g.2.2.2) :: rest))) : W p l e R s m args below meth c H locs cells slots Q (F0 m pc ls rest) := by
  refine va_new hx hb hts hin ty hty hown hcl hinst hini w.1 w.2.1 w.2.2.1 w.2.2.2.1 hA hc hfs hcells hslots hdg fun q H1 hP hD hS => ?_
  have k := kk (gApp g [(q, .inr (ci, fs))]) (hApp g h [(q, .inr (ci, fs))]) H1 (gApp_ext _ _) rfl (fun k hk => if_pos hk) (hApp_0 _ _ _ _) (w.app hP hD hS)
  have ea : (gApp g [(q, .inr (ci, fs))]).2.2.1 g.2.2.2 = q := gApp_0 _ _ _
  rw [ea] at k; exact k
theorem ra_int {cA : ClassId} (w : WD g A s h H locs) (hr : va_RA s cA .int) : cA = g.2.1 0 := by
  have h1 : s.vm.findClass ("[" ++ FieldType.int.toString) = some cA := hr
  have h2 : s.vm.findClass ("[" ++ FieldType.int.toString) = some (g.2.1 0) := (w.1.2 0 _ rfl).2
  exact Option.some.inj (h1.symm.trans h2)
theorem ra_char {cA : ClassId} (w : WD g A s h H locs) (hr : va_RA s cA .char) : cA = g.2.1 1 := by
  have h1 : s.vm.findClass ("[" ++ FieldType.char.toString) = some cA := hr
  have h2 : s.vm.findClass ("[" ++ FieldType.char.toString) = some (g.2.1 1) := (w.1.2 1 _ rfl).2
  exact Option.some.inj (h1.symm.trans h2)
theorem ra_prog {cA : ClassId} (w : WD g A s h H locs) (hr : va_RA s cA (.object "EarlyValues$Program")) : cA = g.2.1 3 := by
  obtain ⟨_, _, _, _, _, h1⟩ := hr
  obtain ⟨_, _, _, _, _, h2⟩ := (w.1.2 3 _ rfl).2
  exact Option.some.inj (h1.symm.trans h2)
theorem ra_ints {cA : ClassId} (w : WD g A s h H locs) (hr : va_RA s cA (.array .int)) : cA = g.2.1 4 := by
  have h1 : s.vm.findClass ("[" ++ (FieldType.array .int).toString) = some cA := hr
  have h2 : s.vm.findClass ("[" ++ (FieldType.array .int).toString) = some (g.2.1 4) := (w.1.2 4 _ rfl).2
  exact Option.some.inj (h1.symm.trans h2)
theorem ra_bytes {cA : ClassId} (w : WD g A s h H locs) (hr : va_RA s cA (.array .byte)) : cA = g.2.1 5 := by
  have h1 : s.vm.findClass ("[" ++ (FieldType.array .byte).toString) = some cA := hr
  have h2 : s.vm.findClass ("[" ++ (FieldType.array .byte).toString) = some (g.2.1 5) := (w.1.2 5 _ rfl).2
  exact Option.some.inj (h1.symm.trans h2)
theorem r_newi (hx : p.tables.exec = Jvm.exec) (hb : c.code = cc) (harr : (Cond.arrayClass .int).before args s = true) (w : WD g A s h H locs) (hA : ∀ q, s.heap.size ≤ q → A q) {n : Int32} {N' : Nat} (hn : n.toInt = ((N' : Nat) : Int)) (hbytes : N' * 4 ≤ 536870912) (hcells : cells + 1 ≤ R.cells) (hslots : slots + N' ≤ R.slots) (hdg : decode cc pc = .ok (.newarray .int, 2))
    (kk : ∀ (g' : GE) (h' : Nat → va_E) (H1 : Heap), Ext g g' → g'.2.2.2 = g.2.2.2 + 1 → (∀ k, k < g.2.2.2 → h' k = h k) → h' g.2.2.2 = .inl (g'.2.1 0, N', .inl (fun _ => 0)) → WD g' A s h' H1 locs → W p l e R s m args below meth c H1 locs (cells + 1) (slots + N') Q (F0 m (pc + 2) ls (.ref (g'.2.2.1 g.2.2.2) :: rest))) : W p l e R s m args below meth c H locs cells slots Q (F0 m pc ls (.int n :: rest)) := by
  have hz : ¬ n < 0 := fun q => by have := (i_lt hn (by decide : (0 : Int32).toInt = (0 : Int))).mp q; omega
  refine va_newa (atype := .int) (ty := .int) (a0 := (N', .inl (fun _ => 0))) hx hb harr rfl w.1 w.2.1 w.2.2.1 w.2.2.2.1 hA (fun _ => rfl) hz (i_nat hn) hbytes hcells hslots hdg fun q cA H1 hK hP hD hS => ?_
  obtain rfl := ra_int w (hK.2 6 _ rfl).2
  have k := kk (gApp g [(q, .inl (g.2.1 0, N', .inl (fun _ => 0)))]) (hApp g h [(q, .inl (g.2.1 0, N', .inl (fun _ => 0)))]) H1 (gApp_ext _ _) rfl (fun k hk => if_pos hk) (hApp_0 _ _ _ _) (w.app hP hD hS)
  have ea : (gApp g [(q, .inl (g.2.1 0, N', .inl (fun _ => 0)))]).2.2.1 g.2.2.2 = q := gApp_0 _ _ _
  rw [ea] at k; exact k
theorem r_newc (hx : p.tables.exec = Jvm.exec) (hb : c.code = cc) (harr : (Cond.arrayClass .char).before args s = true) (w : WD g A s h H locs) (hA : ∀ q, s.heap.size ≤ q → A q) {n : Int32} {N' : Nat} (hn : n.toInt = ((N' : Nat) : Int)) (hbytes : N' * 2 ≤ 536870912) (hcells : cells + 1 ≤ R.cells) (hslots : slots + N' ≤ R.slots) (hdg : decode cc pc = .ok (.newarray .char, 2))
    (kk : ∀ (g' : GE) (h' : Nat → va_E) (H1 : Heap), Ext g g' → g'.2.2.2 = g.2.2.2 + 1 → (∀ k, k < g.2.2.2 → h' k = h k) → h' g.2.2.2 = .inl (g'.2.1 1, N', .inl (fun _ => 0)) → WD g' A s h' H1 locs → W p l e R s m args below meth c H1 locs (cells + 1) (slots + N') Q (F0 m (pc + 2) ls (.ref (g'.2.2.1 g.2.2.2) :: rest))) : W p l e R s m args below meth c H locs cells slots Q (F0 m pc ls (.int n :: rest)) := by
  have hz : ¬ n < 0 := fun q => by have := (i_lt hn (by decide : (0 : Int32).toInt = (0 : Int))).mp q; omega
  refine va_newa (atype := .char) (ty := .char) (a0 := (N', .inl (fun _ => 0))) hx hb harr rfl w.1 w.2.1 w.2.2.1 w.2.2.2.1 hA (fun _ => rfl) hz (i_nat hn) hbytes hcells hslots hdg fun q cA H1 hK hP hD hS => ?_
  obtain rfl := ra_char w (hK.2 6 _ rfl).2
  have k := kk (gApp g [(q, .inl (g.2.1 1, N', .inl (fun _ => 0)))]) (hApp g h [(q, .inl (g.2.1 1, N', .inl (fun _ => 0)))]) H1 (gApp_ext _ _) rfl (fun k hk => if_pos hk) (hApp_0 _ _ _ _) (w.app hP hD hS)
  have ea : (gApp g [(q, .inl (g.2.1 1, N', .inl (fun _ => 0)))]).2.2.1 g.2.2.2 = q := gApp_0 _ _ _
  rw [ea] at k; exact k
theorem r_newp (hx : p.tables.exec = Jvm.exec) (hb : c.code = cc) {own : String} {index : Nat} (hown : s.vm.findClass own = some m.cls) (hclink : (Cond.classLink own index "EarlyValues$Program").before args s = true) (hX : AOX s) (w : WD g A s h H locs) (hA : ∀ q, s.heap.size ≤ q → A q) {n : Int32} {N' : Nat} (hn : n.toInt = ((N' : Nat) : Int)) (hbytes : N' * 4 ≤ 536870912) (hcells : cells + 1 ≤ R.cells) (hslots : slots + N' ≤ R.slots) (hdg : decode cc pc = .ok (.anewarray index, 3))
    (kk : ∀ (g' : GE) (h' : Nat → va_E) (H1 : Heap), Ext g g' → g'.2.2.2 = g.2.2.2 + 1 → (∀ k, k < g.2.2.2 → h' k = h k) → h' g.2.2.2 = .inl (g'.2.1 3, N', .inr (.inr (.inr (.inr (fun _ => none))))) → WD g' A s h' H1 locs → W p l e R s m args below meth c H1 locs (cells + 1) (slots + N') Q (F0 m (pc + 3) ls (.ref (g'.2.2.1 g.2.2.2) :: rest))) : W p l e R s m args below meth c H locs cells slots Q (F0 m pc ls (.int n :: rest)) := by
  have hz : ¬ n < 0 := fun q => by have := (i_lt hn (by decide : (0 : Int32).toInt = (0 : Int))).mp q; omega
  refine va_newq hx hb hown hclink hX.2.2 w.1 w.2.1 w.2.2.1 w.2.2.2.1 hA hz (i_nat hn) hbytes hcells hslots hdg fun q cA H1 hK hP hD hS => ?_
  obtain rfl := ra_prog w (hK.2 6 _ rfl).2
  have k := kk (gApp g [(q, .inl (g.2.1 3, N', .inr (.inr (.inr (.inr (fun _ => none))))))]) (hApp g h [(q, .inl (g.2.1 3, N', .inr (.inr (.inr (.inr (fun _ => none))))))]) H1 (gApp_ext _ _) rfl (fun k hk => if_pos hk) (hApp_0 _ _ _ _) (w.app hP hD hS)
  have ea : (gApp g [(q, .inl (g.2.1 3, N', .inr (.inr (.inr (.inr (fun _ => none))))))]).2.2.1 g.2.2.2 = q := gApp_0 _ _ _
  rw [ea] at k; exact k
/-- what multianewarray lays: the outer row, then its rows -/
def mnL (q : Nat) (r : Nat → Nat) (c1 c2 : ClassId) (N' : Nat) (z : vp_A) : List (Nat × va_E) := (q, .inl (c1, N', .inr (.inr (.inr (.inr (fun i => if i < N' then some (r i) else none)))))) :: (List.range N').map (fun i => (r i, .inl (c2, z)))
theorem mnL_row {q : Nat} {r : Nat → Nat} {c1 c2 : ClassId} {N' : Nat} {z : vp_A} {i : Nat} (hi : i < N') : (mnL q r c1 c2 N' z)[i + 1]? = some (r i, .inl (c2, z)) := by
  show ((List.range N').map (fun i => (r i, Sum.inl (c2, z))))[i]? = _
  rw [List.getElem?_map, List.getElem?_range hi]; rfl
theorem mnL_pl {X : va_W} {q : Nat} {r : Nat → Nat} {c1 c2 : ClassId} {N' : Nat} {z : vp_A} {f : Nat → va_E} : (X ++ [(q, .inl (c1, N', .inr (.inr (.inr (.inr (fun i => if i < N' then some (r i) else none))))))]) ++ va_pl ([] ++ (List.range N').map r) (vr_up f ((List.range N').map r) (.inl (c2, z))) = X ++ mnL q r c1 c2 N' z := by
  rw [List.append_assoc]
  congr 1
  show _ :: va_pl ((List.range N').map r) _ = _ :: (List.range N').map (fun i => (r i, Sum.inl (c2, z)))
  congr 1
  unfold va_pl
  rw [List.map_map]
  apply List.map_congr_left
  intro i hi
  show (r i, vr_up f ((List.range N').map r) (.inl (c2, z)) (r i)) = _
  rw [vr_up_in (List.mem_map.mpr ⟨i, hi, rfl⟩)]
theorem r_mn2 (hx : p.tables.exec = Jvm.exec) (hb : c.code = cc) {own : String} {index t1 t2 : Nat} {ty : FieldType} (hown : s.vm.findClass own = some m.cls) (hclink : (Cond.classLink own index ("[" ++ (FieldType.array ty).toString)).before args s = true) (hover : va_AOA ty s) (harr : (Cond.arrayClass ty).before args s = true) (hcy : s.vm.findClass (FieldType.array ty).toString = some (g.2.1 t2)) (hra : ∀ cA, va_RA s cA (.array ty) → cA = g.2.1 t1)
    (w : WD g A s h H locs) (hA : ∀ q, s.heap.size ≤ q → A q) {n k : Int32} {N' K' : Nat} {z : vp_A} (hn : n.toInt = ((N' : Nat) : Int)) (hk : k.toInt = ((K' : Nat) : Int)) (hb1 : N' * 4 ≤ 536870912) (hb2 : K' * componentBytes ty ≤ 536870912) (hb3 : K' ≤ 536870912) (hdf : fits ty (defaultValue ty) = true) (hdd : (defaultValue ty).isDefault = true) (hcells : cells + (1 + N') ≤ R.cells) (hslots : slots + (N' + N' * K') ≤ R.slots) (hz : ∀ c : ClassId, Jvm.Free.Multi.innerC c K' (defaultValue ty) = vp_cell c z) (hdg : decode cc pc = .ok (.multianewarray index 2, 4))
    (kk : ∀ (g' : GE) (h' : Nat → va_E) (H1 : Heap), Ext g g' → g'.2.2.2 = g.2.2.2 + 1 + N' → (∀ k, k < g.2.2.2 → h' k = h k) → h' g.2.2.2 = .inl (g'.2.1 t1, N', .inr (.inr (.inr (.inr (rowsF g' (g.2.2.2 + 1) N'))))) → (∀ i, i < N' → h' (g.2.2.2 + 1 + i) = .inl (g'.2.1 t2, z)) → WD g' A s h' H1 locs → W p l e R s m args below meth c H1 locs (cells + 1 + N') (slots + N' + N' * K') Q (F0 m (pc + 4) ls (.ref (g'.2.2.1 g.2.2.2) :: rest))) : W p l e R s m args below meth c H locs cells slots Q (F0 m pc ls (.int k :: .int n :: rest)) := by
  have hz1 : ¬ n < 0 := fun q => by have := (i_lt hn (by decide : (0 : Int32).toInt = (0 : Int))).mp q; omega
  have hz2 : ¬ k < 0 := fun q => by have := (i_lt hk (by decide : (0 : Int32).toInt = (0 : Int))).mp q; omega
  have hP0 : va_P g.1 vwCl (hw g h ++ va_pl [] (fun _ => .inr (0, []))) H := by show va_P g.1 vwCl (hw g h ++ []) H; rw [List.append_nil]; exact w.2.1
  have hD0 : va_D A (hw g h ++ va_pl [] (fun _ => .inr (0, []))) := by show va_D A (hw g h ++ []); rw [List.append_nil]; exact w.2.2.1
  refine va_mna hx hb hown hclink hover harr hcy w.1 hP0 hD0 w.2.2.2.1 hA hz1 hz2 (i_nat hn) (i_nat hk) hb1 hb2 hb3 hdf hdd hcells hslots hz hdg fun q r cA H1 hij hnl hK hP hD hS => ?_
  obtain rfl := hra _ (hK.2 6 _ rfl).2
  rw [mnL_pl] at hP hD
  have ea : (gApp g (mnL q r (g.2.1 t1) (g.2.1 t2) N' z)).2.2.1 g.2.2.2 = q := gApp_0 _ _ _
  have er : ∀ i, i < N' → (gApp g (mnL q r (g.2.1 t1) (g.2.1 t2) N' z)).2.2.1 (g.2.2.2 + 1 + i) = r i := fun i hi => by
    rw [show g.2.2.2 + 1 + i = g.2.2.2 + (i + 1) by omega]; exact gApp_at g (mnL_row hi)
  have eR : (fun i => if i < N' then some (r i) else none) = rowsF (gApp g (mnL q r (g.2.1 t1) (g.2.1 t2) N' z)) (g.2.2.2 + 1) N' := by
    funext i
    unfold rowsF
    by_cases hi : i < N'
    · rw [if_pos hi, if_pos hi, er i hi]
    · rw [if_neg hi, if_neg hi]
  have hlen : (mnL q r (g.2.1 t1) (g.2.1 t2) N' z).length = N' + 1 := by simp [mnL]
  have k := kk (gApp g (mnL q r (g.2.1 t1) (g.2.1 t2) N' z)) (hApp g h (mnL q r (g.2.1 t1) (g.2.1 t2) N' z)) H1 (gApp_ext _ _) (by show g.2.2.2 + (mnL q r (g.2.1 t1) (g.2.1 t2) N' z).length = _; rw [hlen]; omega) (fun k hk => if_pos hk)
    (by rw [← eR]; exact hApp_0 _ _ _ _) (fun i hi => by rw [show g.2.2.2 + 1 + i = g.2.2.2 + (i + 1) by omega]; exact hApp_at g h (mnL_row hi)) (w.app hP hD hS)
  rw [ea] at k; exact k
/-- a reference put into a row of Programs -/
theorem r_aastp (hx : p.tables.exec = Jvm.exec) (hb : c.code = cc) (w : WD g A s h H locs) {k o n j : Nat} {f : Nat → Option Nat} {vs : List Value} {i : Int32} (hk : k < g.2.2.2) (ho : o < g.2.2.2) (hc : h k = .inl (g.2.1 3, n, .inr (.inr (.inr (.inr f))))) (he : h o = .inr (2, vs)) (hj : i.toInt = (j : Int)) (hn : j < n) (hdg : decode cc pc = .ok (.aastore, 1))
    (kk : ∀ (h' : Nat → va_E) (H1 : Heap) (locs1 : List Loc), h' = va_up h k (.inl (g.2.1 3, n, .inr (.inr (.inr (.inr (va_up f j (some (g.2.2.1 o)))))))) → WD g A s h' H1 locs1 → W p l e R s m args below meth c H1 locs1 cells slots Q (F0 m (pc + 1) ls rest)) : W p l e R s m args below meth c H locs cells slots Q (F0 m pc ls (.ref (g.2.2.1 o) :: .int i :: .ref (g.2.2.1 k) :: rest)) := by
  refine va_astq hx hb w.1 w.2.1 w.2.2.1 w.2.2.2.1 k 3 o 2 (r := (RX3, TX3, 5)) (hw_get2 hk hc) rfl (hw_get2 ho he) rfl (i_in hj hn) hdg fun H1 locs1 hP hD hS => ?_
  rw [i_nat hj] at hP hD
  exact kk _ H1 locs1 rfl (w.put hk rfl hP hD hS)
theorem r_putF (hx : p.tables.exec = Jvm.exec) (hb : c.code = cc) {own ref C : String} {T : u_T} {N ci index : Nat} {Ts : List Cond} (hts : ∀ w ∈ Ts, w.before args s = true) (hin : ∀ w ∈ u_ws C T N, w ∈ Ts) (ty0 : Nat → FieldType) (hty : ∀ k, k < N → parseFieldDescriptor (T k).2.2.1 = some (ty0 k)) (hnm : ∀ a, a < N → ∀ b, b < N → a ≠ b → (T a).2.1 ≠ (T b).2.1) (hown : s.vm.findClass own = some m.cls) (w : WD g A s h H locs) {o : Nat} (ho : o < g.2.2.2) {fs : List Value} (he : h o = .inr (ci, fs)) (hc : vwCl[ci]? = some (C, T, N)) (k : Nat) (hk : k < N) (hlink : (Cond.fieldLink own index ref (T k).2.1 (T k).2.2.1).before args s = true) (hsame : (T k).1 = ref) (hfin : (T k).2.2.2 = true) (hin2 : meth.name = "<init>") (hdecl : (T k).1 = own) {ty : FieldType} {v : Value} (hd : parseFieldDescriptor (T k).2.2.1 = some ty) (hn : narrow ty v = v) (hfit : fits ty v = true) (hl : k < fs.length)
    (hdg : decode cc pc = .ok (.putfield index, 3)) (kk : ∀ (h' : Nat → va_E) (H1 : Heap) (locs1 : List Loc), h' = va_up h o (.inr (ci, fs.set k v)) → WD g A s h' H1 locs1 → W p l e R s m args below meth c H1 locs1 cells slots Q (F0 m (pc + 3) ls rest)) : W p l e R s m args below meth c H locs cells slots Q (F0 m pc ls (v :: .ref (g.2.2.1 o) :: rest)) :=
  va_putF hx hb hts hin ty0 hty hnm hown w.1 w.2.1 w.2.2.1 w.2.2.2.1 o (hw_get2 ho he) hc k hk hlink (fun _ h => by rw [← hsame]; exact h) hfin hin2 hdecl hd hn hfit hl hdg (fun H1 locs1 hP hD hS => kk _ H1 locs1 rfl (w.put ho rfl hP hD hS))
-- a call of a method that makes cells
theorem WD.inB (w : WD g A s h H locs) (hA : ∀ q, s.heap.size ≤ q → A q) : ∀ q, inA g H.size q → A q := by
  intro q hq
  rcases hq with hq | hq
  · exact w.sub q hq
  · exact hA q (Nat.le_trans w.2.2.2.1.1 hq)
theorem r_preN {As : List Value} {b : Nat} (w : WD g A s h H locs) (hA : ∀ q, s.heap.size ≤ q → A q) (hX : AOX s) : PreS s H (va_Pc (.ref b :: As) (PN g h H.size)) (.ref b :: As) :=
  ⟨fun a U g' mk z => ⟨z.1, z.2.1, z.2.2.1, va_K.moved (u := U) (U := U.calling g' mk a) (Vm.Alike.refl U.vm) z.2.2.2.1, z.2.2.2.2.1, EV.same (u := U) (U := U.calling g' mk a) rfl z.2.2.2.2.2.1, AOX.moved (u := U) (U := U.calling g' mk a) (Vm.Alike.refl U.vm) z.2.2.2.2.2.2⟩,
   fun U hU hW => ⟨rfl, by rw [hU], by rw [hU]; exact w.2.1, va_K.moved hW.alike w.1, w.2.2.1.weaken (fun _ _ _ _ => trivial), w.2.2.2.2.step w.2.2.2.1 hU hW (w.inB hA), hX.moved hW.alike⟩⟩
theorem r_callN {st0 : List Value} {a : Array Value} {post : GE × (Nat → va_E) → Prop} {mc ms : Nat} (w : WD g A s h H locs) (hA : ∀ q, s.heap.size ≤ q → A q)
    (hr : va_Run p l e R s m args below meth c H locs cells slots mc ms (F0 m pc ls st0) rest (va_Qv (fun u : GE × (Nat → va_E) => Ext g u.1 ∧ post u) (fun u t => va_P u.1.1 vwCl (hw u.1 u.2) t.heap ∧ va_D (inA g H.size) (hw u.1 u.2)) (inA g H.size) a) (inA g H.size))
    (kk : ∀ (g' : GE) (h' : Nat → va_E) (H1 : Heap) (locs1 : List Loc), Ext g g' → post (g', h') → WD g' A s h' H1 locs1 → W p l e R s m args below meth c H1 locs1 (cells + mc) (slots + ms) Q (F0 m (pc + 3) ls rest)) : W p l e R s m args below meth c H locs cells slots Q (F0 m pc ls st0) :=
  va_callv hr w.2.2.2.1 (fun q _ hq => w.inB hA q hq) (w.inB hA) (fun u t H1 locs1 ht hvm hp hB hz hk hS => kk u.1 u.2 H1 locs1 hp.1 hp.2 ⟨by rw [hp.1.1, hp.1.2.1]; exact w.1, by rw [← ht]; exact hB.1, hB.2.weaken (fun _ q _ hq => w.inB hA q.1 hq), hS, w.2.2.2.2.ext hp.1⟩)
theorem r_nret {g0 : GE} {sz : Nat} {post : GE × (Nat → va_E) → Prop} (hx : p.tables.exec = Jvm.exec) (hb : c.code = cc) (hr : meth.sig.returnType = none) (hlocks : meth.locks = false) (w : WD g (inA g0 sz) s h H locs) (hdg : decode cc pc = .ok (.return_, 1)) (he : Ext g0 g) (hp : post (g, h)) :
    W p l e R s m args below meth c H locs cells slots (MQ below (va_Qv (fun u : GE × (Nat → va_E) => Ext g0 u.1 ∧ post u) (fun u t => va_P u.1.1 vwCl (hw u.1 u.2) t.heap ∧ va_D (inA g0 sz) (hw u.1 u.2)) (inA g0 sz)) args s cells slots (inA g0 sz)) (F0 m pc ls []) :=
  W.vret hx hb hr (fun t ht hW => ⟨⟨(g, h), rfl, ⟨he, hp⟩, by rw [ht]; exact w.2.1, w.2.2.1⟩, w.2.2.2.1.F ht⟩) w.2.2.2.1.2.2 hdg hlocks
end HRN
-- what stands, in a world that has grown
section GRW
variable {g g' : GE} {h h' : Nat → va_E} {o t v u : Nat}
theorem rowsF.ext {b n : Nat} (e : Ext g g') (hb : b + n ≤ g.2.2.2) : rowsF g' b n = rowsF g b n := by
  funext i
  unfold rowsF
  by_cases hi : i < n
  · rw [if_pos hi, if_pos hi, e.at (by omega)]
  · rw [if_neg hi, if_neg hi]
theorem PrA.ext {n : Int32} {ga gk gl : Nat → Int32} {gb : Nat → Nat → Int32} (P : PrA g h o n ga gk gl gb) (e : Ext g g') (hf : ∀ k, o ≤ k → k < o + 9 → h' k = h k) : PrA g' h' o n ga gk gl gb := by
  obtain ⟨a0, a1, a2, a3, a4, a5, a6⟩ := P
  have := e.2.2.1
  refine ⟨by omega, ?_, ?_, ?_, ?_, ?_, fun i hi => ?_⟩
  · rw [hf _ (by omega) (by omega), a1, e.at (k := o + 1) (by omega), e.at (k := o + 2) (by omega), e.at (k := o + 3) (by omega), e.at (k := o + 4) (by omega)]
  · rw [hf _ (by omega) (by omega), a2, e.2.1]
  · rw [hf _ (by omega) (by omega), a3, e.2.1]
  · rw [hf _ (by omega) (by omega), a4, e.2.1]
  · rw [hf _ (by omega) (by omega), a5, e.2.1, rowsF.ext e (by omega)]
  · rw [hf _ (by omega) (by omega), a6 i hi, e.2.1]
theorem PrX.ext (P : PrX g h o) (e : Ext g g') (hf : ∀ k, o ≤ k → k < o + 9 → h' k = h k) : PrX g' h' o := by
  obtain ⟨n, ga, gk, gl, gb, P⟩ := P
  exact ⟨n, ga, gk, gl, gb, P.ext e hf⟩
theorem HiA.ext {c : Int32} {gf gp gq : Nat → Int32} (P : HiA g h t c gf gp gq) (e : Ext g g') (hf : ∀ k, t ≤ k → k < t + 4 → h' k = h k) : HiA g' h' t c gf gp gq := by
  obtain ⟨a0, a1, a2, a3, a4⟩ := P
  have := e.2.2.1
  refine ⟨by omega, ?_, ?_, ?_, ?_⟩
  · rw [hf _ (by omega) (by omega), a1, e.at (k := t + 1) (by omega), e.at (k := t + 2) (by omega), e.at (k := t + 3) (by omega)]
  · rw [hf _ (by omega) (by omega), a2, e.2.1]
  · rw [hf _ (by omega) (by omega), a3, e.2.1]
  · rw [hf _ (by omega) (by omega), a4, e.2.1]
/-- a History of no acts -/
def HiZ (g : GE) (h : Nat → va_E) (t : Nat) : Prop := ∃ (gf gp gq : Nat → Int32), HiA g h t 0 gf gp gq
theorem HiZ.ext (P : HiZ g h t) (e : Ext g g') (hf : ∀ k, t ≤ k → k < t + 4 → h' k = h k) : HiZ g' h' t := by
  obtain ⟨gf, gp, gq, P⟩ := P
  exact ⟨gf, gp, gq, P.ext e hf⟩
theorem TxA.ext {ln at_ bd : Int32} {gs : Nat → Int32} (T : TxA g h t ln at_ bd gs) (e : Ext g g') (hf : ∀ k, t ≤ k → k < t + 11 → (k < t + 1 ∨ t + 10 ≤ k) → h' k = h k) : TxA g' h' t ln at_ bd gs := by
  obtain ⟨a0, a1, a2⟩ := T
  have := e.2.2.1
  refine ⟨by omega, ?_, ?_⟩
  · rw [hf _ (by omega) (by omega) (by omega), a1, e.at (k := t + 1) (by omega), e.at (k := t + 10) (by omega)]
  · rw [hf _ (by omega) (by omega) (by omega), a2, e.2.1]
/-- an empty Text and what it tells -/
def TxZ (g : GE) (h : Nat → va_E) (t : Nat) : Prop := (∃ (gs : Nat → Int32), TxA g h t 0 0 0 gs) ∧ PrX g h (t + 1)
theorem TxZ.ext (T : TxZ g h t) (e : Ext g g') (hf : ∀ k, t ≤ k → k < t + 11 → h' k = h k) : TxZ g' h' t := by
  obtain ⟨⟨gs, T⟩, P⟩ := T
  exact ⟨⟨gs, T.ext e (fun k a b _ => hf k a b)⟩, P.ext e (fun k a b => hf k (by omega) (by omega))⟩
theorem VwA.ext {kk kc : Nat} {tk fz dp : Int32} {gp gg gs : Nat → Int32} {gd gt gc : Nat → Nat → Int32} (V : VwA g h v u kk kc tk fz dp gp gg gs gd gt gc) (e : Ext g g') (hf : ∀ k, v ≤ k → k < v + 18 → h' k = h k) : VwA g' h' v u kk kc tk fz dp gp gg gs gd gt gc := by
  obtain ⟨⟨a0, a00, a01⟩, a1, a2, a3, a4, a5, a6, a7, a8, a9, a10, a11, a12⟩ := V
  have := e.2.2.1
  refine ⟨⟨by omega, a00, a01⟩, ?_, ?_, ?_, ?_, ?_, fun i hi => ?_, ?_, fun i hi => ?_, ?_, fun i hi => ?_, a11, a12⟩
  · rw [hf _ (by omega) (by omega), a1, e.at (k := v + 1) (by omega), e.at (k := v + 2) (by omega), e.at (k := v + 3) (by omega), e.at (k := v + 4) (by omega), e.at (k := kk) (by omega), e.at (k := kc) (by omega)]
  · rw [hf _ (by omega) (by omega), a2, e.2.1]
  · rw [hf _ (by omega) (by omega), a3, e.2.1]
  · rw [hf _ (by omega) (by omega), a4, e.2.1]
  · rw [hf _ (by omega) (by omega), a5, e.2.1, rowsF.ext e (by omega)]
  · rw [hf _ (by omega) (by omega), a6 i hi, e.2.1]
  · rw [hf _ (by omega) (by omega), a7, e.2.1, rowsF.ext e (by omega)]
  · rw [hf _ (by omega) (by omega), a8 i hi, e.2.1]
  · rw [hf _ (by omega) (by omega), a9, e.2.1, rowsF.ext e (by omega)]
  · rw [hf _ (by omega) (by omega), a10 i hi, e.2.1]
theorem VwZ.ext (V : VwZ g h v u) (e : Ext g g') (hf : ∀ k, v ≤ k → k < v + 18 → h' k = h k) : VwZ g' h' v u := by
  obtain ⟨kk, kc, tk, dp, gp, gg, gs, gd, gt, gc, V⟩ := V
  exact ⟨kk, kc, tk, dp, gp, gg, gs, gd, gt, gc, V.ext e hf⟩
end GRW
