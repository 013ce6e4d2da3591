-- ===== MY WORLD: all cells of the two systems, by their number k: cell k lies at g.2.2.1 k and holds h k; g = (class numbers, array classes, addresses, how many) =====
abbrev GE : Type := va_G × (Nat → ClassId) × (Nat → Nat) × Nat
def hw (g : GE) (h : Nat → va_E) : va_W := (List.range g.2.2.2).map (fun k => (g.2.2.1 k, h k))
def TYS (cT : Nat → ClassId) : List (ClassId × FieldType) := [(cT 0, .int), (cT 1, .char), (cT 2, .byte), (cT 3, .object "EarlyValues$Program"), (cT 4, .array .int), (cT 5, .array .byte)]
theorem hw_get {g : GE} {h : Nat → va_E} {k : Nat} (hk : k < g.2.2.2) : (hw g h)[k]? = some (g.2.2.1 k, h k) := by
  simp [hw, hk]
theorem hw_get2 {g : GE} {h : Nat → va_E} {k : Nat} {e : va_E} (hk : k < g.2.2.2) (he : h k = e) : (hw g h)[k]? = some (g.2.2.1 k, e) := by
  rw [hw_get hk, he]
theorem hw_lt {g : GE} {h : Nat → va_E} {k : Nat} {q : Nat × va_E} (hq : (hw g h)[k]? = some q) : k < g.2.2.2 ∧ q = (g.2.2.1 k, h k) := by
  have hl : k < (hw g h).length := (List.getElem?_eq_some_iff.mp hq).1
  have hk : k < g.2.2.2 := by simpa [hw] using hl
  rw [hw_get hk] at hq
  exact ⟨hk, (Option.some.inj hq).symm⟩
theorem hw_set {g : GE} {h : Nat → va_E} {k : Nat} {e : va_E} (hk : k < g.2.2.2) : (hw g h).set k (g.2.2.1 k, e) = hw g (va_up h k e) := by
  apply List.ext_getElem?
  intro i
  by_cases hi : i < g.2.2.2
  · rw [hw_get hi]
    by_cases hik : i = k
    · subst hik
      rw [List.getElem?_set_self (by simpa [hw] using hi), va_up_self]
    · rw [List.getElem?_set_ne (fun q => hik q.symm), hw_get hi, va_up_ne _ _ hik]
  · rw [List.getElem?_eq_none (by simp [hw]; omega), List.getElem?_eq_none (by simp [hw]; omega)]
def inW (g : GE) : Nat → Prop := fun q => ∃ k, k < g.2.2.2 ∧ q = g.2.2.1 k
-- ===== what stays as it is: the four abstract methods are declared, the two texts, the JDK's switch =====
def tx0 : String := "n212;f0,?a0mabo;f0,+a?a1mao;f1,?ab2mb+ab;"
def tx1 : String := "oiwabcm+&?0123"
def tlen : List Nat := [41, 14]
def tbyt : List (List Int32) := [[110, 50, 49, 50, 59, 102, 48, 44, 63, 97, 48, 109, 97, 98, 111, 59, 102, 48, 44, 43, 97, 63, 97, 49, 109, 97, 111, 59, 102, 49, 44, 63, 97, 98, 50, 109, 98, 43, 97, 98, 59], [111, 105, 119, 97, 98, 99, 109, 43, 38, 63, 48, 49, 50, 51]]
def dcl (n d : String) : Cond := .declares ⟨"EarlyValues$View", n, d⟩
def EV (g : GE) (A : Nat → Prop) (U : State) (H : Heap) : Prop :=
  va_Nw (dcl "less" "(I)I") U ∧ va_Nw (dcl "sum" "(II)I") U ∧ va_Nw (dcl "chosen" "(III)I") U ∧ va_Nw (dcl "mayGrow" "(I)Z") U ∧
  va_Z "java/lang/String" "COMPACT_STRINGS" "Z" (.int 1) A U H ∧
  vk_S 2 tlen tbyt (fun i => g.2.2.1 (g.2.2.2 + i)) (fun i => g.2.2.1 (g.2.2.2 + 2 + i)) A U H ∧ vk_R "EarlyValues" 65 tx0 (g.2.2.1 g.2.2.2) U ∧ vk_R "EarlyValues$Letters" 11 tx1 (g.2.2.1 (g.2.2.2 + 1)) U ∧
  va_Zq "jdk/internal/util/Preconditions" "SIOOBE_FORMATTER" "Ljava/util/function/BiFunction;" A U H
theorem EV.same {g : GE} {A : Nat → Prop} {u U : State} {H : Heap} (hv : U.vm = u.vm) (h : EV g A u H) : EV g A U H := by
  obtain ⟨a, b, c, d, z, s, r0, r1, y⟩ := h
  have al : u.vm.Alike U.vm := by rw [hv]; exact Vm.Alike.refl _
  exact ⟨a.same rfl hv.symm, b.same rfl hv.symm, c.same rfl hv.symm, d.same rfl hv.symm, z.moved al, s.moved al, r0.same hv, r1.same hv, y.moved al⟩
theorem EV.step {g : GE} {A B : Nat → Prop} {s U : State} {H : Heap} {locs : List Loc} (h : EV g A s s.heap) (hS : va_S A s.heap H locs) (hU : U.heap = H) (hW : s.WarmedH U.vm) (hAB : ∀ q, B q → A q) : EV g B U U.heap := by
  obtain ⟨a, b, c, d, z, k, r0, r1, y⟩ := h
  rw [hU]
  exact ⟨a.warmD hW, b.warmD hW, c.warmD hW, d.warmD hW, ((z.kept hS.2.1).narrow hAB).moved hW.alike, ((k.kept hS.2.1).narrow hAB).moved hW.alike, r0.warm hW, r1.warm hW, ((y.kept hS.2.1).narrow hAB).moved hW.alike⟩
/-- the world in the middle of a walk -/
def WD (g : GE) (A : Nat → Prop) (s : State) (h : Nat → va_E) (H : Heap) (locs : List Loc) : Prop :=
  va_K g.1 vwCl (TYS g.2.1) s ∧ va_P g.1 vwCl (hw g h) H ∧ va_D A (hw g h) ∧ va_S A s.heap H locs ∧ EV g A s s.heap
/-- the world at a method's start and end -/
def Wd (g : GE) (h : Nat → va_E) (U : State) : Prop :=
  va_P g.1 vwCl (hw g h) U.heap ∧ va_K g.1 vwCl (TYS g.2.1) U ∧ va_D (fun _ => True) (hw g h) ∧ EV g (inW g) U U.heap
theorem Wd.start {g : GE} {h : Nat → va_E} {s : State} (w : Wd g h s) : WD g (inW g) s h s.heap [] :=
  ⟨w.2.1, w.1, w.2.2.1.weaken (fun k q hq _ => by obtain ⟨hk, rfl⟩ := hw_lt hq; exact ⟨k, hk, rfl⟩), va_S.rf, w.2.2.2⟩
theorem WD.sub {g : GE} {A : Nat → Prop} {s : State} {H : Heap} {h : Nat → va_E} {locs : List Loc} (w : WD g A s h H locs) : ∀ q, inW g q → A q := by
  intro q hq
  obtain ⟨k, hk, rfl⟩ := hq
  exact w.2.2.1.2 k _ (hw_get hk)
theorem WD.fin {g : GE} {A : Nat → Prop} {s t : State} {H : Heap} {h : Nat → va_E} {locs : List Loc} (w : WD g A s h H locs) (ht : t.heap = H) (hv : s.WarmedH t.vm) : Wd g h t :=
  ⟨by rw [ht]; exact w.2.1, va_K.moved hv.alike w.1, w.2.2.1.weaken (fun _ _ _ _ => trivial), w.2.2.2.2.step w.2.2.2.1 ht hv w.sub⟩
/-- a method that makes nothing, with an int (boolean, char) / nothing / a reference as its answer -/
abbrev MI (l : Launch) (y : MethodName) (ws : List Cond) (rm : Room) (as : List Value) (g : GE) (h : Nat → va_E) (post : Int32 → (Nat → va_E) → Prop) : Prop :=
  Met l y ws rm (va_Pc as (Wd g h)) (va_Qi post (Wd g) (inW g)) 0 0 (inW g)
abbrev MV (l : Launch) (y : MethodName) (ws : List Cond) (rm : Room) (as : List Value) (g : GE) (h : Nat → va_E) (post : (Nat → va_E) → Prop) : Prop :=
  Met l y ws rm (va_Pc as (Wd g h)) (va_Qv post (Wd g) (inW g)) 0 0 (inW g)
abbrev MQr (l : Launch) (y : MethodName) (ws : List Cond) (rm : Room) (as : List Value) (g : GE) (h : Nat → va_E) (post : Option Nat → (Nat → va_E) → Prop) : Prop :=
  Met l y ws rm (va_Pc as (Wd g h)) (va_Qq post (Wd g) (inW g)) 0 0 (inW g)
-- ===== ints by what they stand for =====
theorem i_inj {x y : Int32} (h : x.toInt = y.toInt) : x = y := Int32.toInt_inj.mp h
theorem i_lo (x : Int32) : -2147483648 ≤ x.toInt := by have := Int32.le_toInt x; omega
theorem i_hi (x : Int32) : x.toInt ≤ 2147483647 := by have := Int32.toInt_lt x; omega
theorem i_bm {z : Int} (h1 : -2147483648 ≤ z) (h2 : z ≤ 2147483647) : z.bmod (2 ^ 32) = z := by
  rw [Int.bmod_def]; omega
theorem i_add {x y z : Int32} {a b : Int} (ez : z = x + y) (hx : x.toInt = a) (hy : y.toInt = b) (h : -2147483648 ≤ a + b ∧ a + b ≤ 2147483647) : z.toInt = a + b := by
  subst ez hx hy
  rw [Int32.toInt_add]; exact i_bm h.1 h.2
theorem i_sub {x y z : Int32} {a b : Int} (ez : z = x - y) (hx : x.toInt = a) (hy : y.toInt = b) (h : -2147483648 ≤ a - b ∧ a - b ≤ 2147483647) : z.toInt = a - b := by
  subst ez hx hy
  rw [Int32.toInt_sub]; exact i_bm h.1 h.2
theorem i_mul {x y z : Int32} {a b : Int} (ez : z = x * y) (hx : x.toInt = a) (hy : y.toInt = b) (h : -2147483648 ≤ a * b ∧ a * b ≤ 2147483647) : z.toInt = a * b := by
  subst ez hx hy
  rw [Int32.toInt_mul]; exact i_bm h.1 h.2
theorem i_lt {x y : Int32} {a b : Int} (hx : x.toInt = a) (hy : y.toInt = b) : x < y ↔ a < b := by subst hx hy; exact Int32.lt_iff_toInt_lt
theorem i_le {x y : Int32} {a b : Int} (hx : x.toInt = a) (hy : y.toInt = b) : x ≤ y ↔ a ≤ b := by subst hx hy; exact Int32.le_iff_toInt_le
theorem i_eq {x y : Int32} {a b : Int} (hx : x.toInt = a) (hy : y.toInt = b) : x = y ↔ a = b := by subst hx hy; exact ⟨fun e => by rw [e], fun e => i_inj e⟩
theorem i_in {x : Int32} {j n : Nat} (hx : x.toInt = (j : Int)) (h : j < n) : vp_in x n := vp_in_iff.mpr ⟨by omega, by omega⟩
theorem i_nat {x : Int32} {j : Nat} (hx : x.toInt = (j : Int)) : x.toNatClampNeg = j := by
  show x.toInt.toNat = j
  omega
-- a boolean answer
def Bq (r : Int32) (P : Prop) : Prop := (r = 1 ∧ P) ∨ (r = 0 ∧ ¬ P)
theorem Bq.t {P : Prop} (h : P) : Bq 1 P := Or.inl ⟨rfl, h⟩
theorem Bq.f {P : Prop} (h : ¬ P) : Bq 0 P := Or.inr ⟨rfl, h⟩
theorem Bq.ne {r : Int32} {P : Prop} (h : Bq r P) (hr : ¬ r = 0) : P := by
  rcases h with ⟨-, h⟩ | ⟨h, -⟩
  · exact h
  · exact absurd h hr
theorem Bq.eq {r : Int32} {P : Prop} (h : Bq r P) (hr : r = 0) : ¬ P := by
  rcases h with ⟨h, -⟩ | ⟨-, h⟩
  · rw [hr] at h; exact absurd h (by decide)
  · exact h
theorem Bq.iff {r : Int32} {P P' : Prop} (h : Bq r P) (e : P ↔ P') : Bq r P' := by
  rcases h with ⟨a, b⟩ | ⟨a, b⟩
  · exact Or.inl ⟨a, e.mp b⟩
  · exact Or.inr ⟨a, fun q => b (e.mpr q)⟩
theorem Bq.nar {r : Int32} {P : Prop} (h : Bq r P) : narrow .boolean (.int r) = .int r := by
  rcases h with ⟨rfl, -⟩ | ⟨rfl, -⟩ <;> rfl
-- ===== rows =====
section HR
variable {p : Program} {l : Launch} {e : Env} {R : Room} {s : State} {m : MethodId} {args : Array Value} {below : List Frame} {meth : Method} {c : Code} {H : Heap} {locs : List Loc} {cells slots : Nat} {Q : State → Prop}
variable {cc : ByteArray} {pc : Nat} {ls : Array Slot} {rest : List Value} {g : GE} {A : Nat → Prop} {h : Nat → va_E}
theorem r_iald (hx : p.tables.exec = Jvm.exec) (hb : c.code = cc) (w : WD g A s h H locs) {k n j : Nat} {f : Nat → Int32} {i : Int32} (hk : k < g.2.2.2) (hc : h k = .inl (g.2.1 0, n, .inl f)) (hj : i.toInt = (j : Int)) (hn : j < n) (hdg : decode cc pc = .ok (.iaload, 1))
    (kk : W p l e R s m args below meth c H locs cells slots Q (F0 m (pc + 1) ls (.int (f j) :: rest))) : W p l e R s m args below meth c H locs cells slots Q (F0 m pc ls (.int i :: .ref (g.2.2.1 k) :: rest)) := by
  refine va_iald hx hb w.1 w.2.1 k 0 (hw_get2 hk hc) rfl (i_in hj hn) hdg ?_
  rw [i_nat hj]; exact kk
theorem r_cald (hx : p.tables.exec = Jvm.exec) (hb : c.code = cc) (w : WD g A s h H locs) {k n j : Nat} {f : Nat → Int32} {i : Int32} (hk : k < g.2.2.2) (hc : h k = .inl (g.2.1 1, n, .inl f)) (hj : i.toInt = (j : Int)) (hn : j < n) (hdg : decode cc pc = .ok (.caload, 1))
    (kk : W p l e R s m args below meth c H locs cells slots Q (F0 m (pc + 1) ls (.int (f j) :: rest))) : W p l e R s m args below meth c H locs cells slots Q (F0 m pc ls (.int i :: .ref (g.2.2.1 k) :: rest)) := by
  refine va_cald hx hb w.1 w.2.1 k 1 (hw_get2 hk hc) rfl (i_in hj hn) hdg ?_
  rw [i_nat hj]; exact kk
theorem r_bald (hx : p.tables.exec = Jvm.exec) (hb : c.code = cc) (w : WD g A s h H locs) {k n j : Nat} {f : Nat → Int32} {i : Int32} (hk : k < g.2.2.2) (hc : h k = .inl (g.2.1 2, n, .inl f)) (hj : i.toInt = (j : Int)) (hn : j < n) (hdg : decode cc pc = .ok (.baload, 1))
    (kk : W p l e R s m args below meth c H locs cells slots Q (F0 m (pc + 1) ls (.int (f j) :: rest))) : W p l e R s m args below meth c H locs cells slots Q (F0 m pc ls (.int i :: .ref (g.2.2.1 k) :: rest)) := by
  refine va_bald hx hb w.1 w.2.1 k 2 (hw_get2 hk hc) rfl (i_in hj hn) hdg ?_
  rw [i_nat hj]; exact kk
theorem WD.put {h' : Nat → va_E} (w : WD g A s h H locs) {k : Nat} {e' : va_E} {H1 : Heap} {locs1 : List Loc} (hk : k < g.2.2.2) (hh : h' = va_up h k e') (hP : va_P g.1 vwCl ((hw g h).set k (g.2.2.1 k, e')) H1) (hD : va_D A ((hw g h).set k (g.2.2.1 k, e'))) (hS : va_S A s.heap H1 locs1) : WD g A s h' H1 locs1 := by
  subst hh
  rw [hw_set hk] at hP hD
  exact ⟨w.1, hP, hD, hS, w.2.2.2.2⟩
theorem r_iast (hx : p.tables.exec = Jvm.exec) (hb : c.code = cc) (w : WD g A s h H locs) {k n j : Nat} {f : Nat → Int32} {i x : Int32} (hk : k < g.2.2.2) (hc : h k = .inl (g.2.1 0, n, .inl f)) (hj : i.toInt = (j : Int)) (hn : j < n) (hdg : decode cc pc = .ok (.iastore, 1))
    (kk : ∀ (h' : Nat → va_E) (H1 : Heap) (locs1 : List Loc), h' = va_up h k (.inl (g.2.1 0, n, .inl (upd f j x))) → WD g A s h' H1 locs1 → W p l e R s m args below meth c H1 locs1 cells slots Q (F0 m (pc + 1) ls rest)) : W p l e R s m args below meth c H locs cells slots Q (F0 m pc ls (.int x :: .int i :: .ref (g.2.2.1 k) :: rest)) := by
  refine va_iast hx hb w.1 w.2.1 w.2.2.1 w.2.2.2.1 k 0 (hw_get2 hk hc) rfl (i_in hj hn) hdg fun H1 locs1 hP hD hS => ?_
  rw [i_nat hj] at hP hD
  exact kk _ H1 locs1 rfl (w.put hk rfl hP hD hS)
theorem r_cast (hx : p.tables.exec = Jvm.exec) (hb : c.code = cc) (w : WD g A s h H locs) {k n j : Nat} {f : Nat → Int32} {i x : Int32} (hk : k < g.2.2.2) (hc : h k = .inl (g.2.1 1, n, .inl f)) (hj : i.toInt = (j : Int)) (hn : j < n) (hdg : decode cc pc = .ok (.castore, 1))
    (kk : ∀ (h' : Nat → va_E) (H1 : Heap) (locs1 : List Loc), h' = va_up h k (.inl (g.2.1 1, n, .inl (upd f j (vp_nar .char x)))) → WD g A s h' H1 locs1 → W p l e R s m args below meth c H1 locs1 cells slots Q (F0 m (pc + 1) ls rest)) : W p l e R s m args below meth c H locs cells slots Q (F0 m pc ls (.int x :: .int i :: .ref (g.2.2.1 k) :: rest)) := by
  refine va_cast hx hb w.1 w.2.1 w.2.2.1 w.2.2.2.1 k 1 (hw_get2 hk hc) rfl (i_in hj hn) hdg fun H1 locs1 hP hD hS => ?_
  rw [i_nat hj] at hP hD
  exact kk _ H1 locs1 rfl (w.put hk rfl hP hD hS)
theorem r_bast (hx : p.tables.exec = Jvm.exec) (hb : c.code = cc) (w : WD g A s h H locs) {k n j : Nat} {f : Nat → Int32} {i x : Int32} (hk : k < g.2.2.2) (hc : h k = .inl (g.2.1 2, n, .inl f)) (hj : i.toInt = (j : Int)) (hn : j < n) (hdg : decode cc pc = .ok (.bastore, 1))
    (kk : ∀ (h' : Nat → va_E) (H1 : Heap) (locs1 : List Loc), h' = va_up h k (.inl (g.2.1 2, n, .inl (upd f j (vp_nar .byte x)))) → WD g A s h' H1 locs1 → W p l e R s m args below meth c H1 locs1 cells slots Q (F0 m (pc + 1) ls rest)) : W p l e R s m args below meth c H locs cells slots Q (F0 m pc ls (.int x :: .int i :: .ref (g.2.2.1 k) :: rest)) := by
  refine va_bast hx hb w.1 w.2.1 w.2.2.1 w.2.2.2.1 k 2 (hw_get2 hk hc) rfl (i_in hj hn) hdg fun H1 locs1 hP hD hS => ?_
  rw [i_nat hj] at hP hD
  exact kk _ H1 locs1 rfl (w.put hk rfl hP hD hS)
/-- a place of a row of references, not null: t is the row's type (3 programs, 4 rows of ints, 5 rows of bytes) -/
theorem r_aald (hx : p.tables.exec = Jvm.exec) (hb : c.code = cc) (w : WD g A s h H locs) {t k n j q : Nat} {f : Nat → Option Nat} {i : Int32} (ht : 3 ≤ t ∧ t < 6) (hk : k < g.2.2.2) (hc : h k = .inl (g.2.1 t, n, .inr (.inr (.inr (.inr f))))) (hj : i.toInt = (j : Int)) (hn : j < n) (hq : f j = some q) (hdg : decode cc pc = .ok (.aaload, 1))
    (kk : W p l e R s m args below meth c H locs cells slots Q (F0 m (pc + 1) ls (.ref q :: rest))) : W p l e R s m args below meth c H locs cells slots Q (F0 m pc ls (.int i :: .ref (g.2.2.1 k) :: rest)) := by
  have hin := i_in hj hn
  have hlt : i.toNatClampNeg < n := by rw [i_nat hj]; exact hn
  obtain ⟨ty, hty, hr⟩ : ∃ ty, (TYS g.2.1)[t]? = some (g.2.1 t, ty) ∧ ty.isReference = true := by
    obtain ⟨h1, h2⟩ := ht
    rcases (show t = 3 ∨ t = 4 ∨ t = 5 by omega) with rfl | rfl | rfl
    · exact ⟨_, rfl, rfl⟩
    · exact ⟨_, rfl, rfl⟩
    · exact ⟨_, rfl, rfl⟩
  refine W.aald (v := .ref q) (ty := ty) hx hb (w.2.1 k _ (hw_get2 hk hc)) ((w.1.2 t _ hty).1 n (fun j => va_rf (f j))) hr (fun q => by cases q) (by show ¬ (i < 0 ∨ (arrV _ _ _).slots.size ≤ _); rw [arrV_size]; exact hin) (by show (arrV _ _ _).slots[_]? = _; rw [arrV_read _ _ hlt, i_nat hj, hq]; rfl) rfl rfl hdg kk
theorem r_alen (hx : p.tables.exec = Jvm.exec) (hb : c.code = cc) (w : WD g A s h H locs) {t k : Nat} {z : vp_A} (ht : t < 6) (hk : k < g.2.2.2) (hc : h k = .inl (g.2.1 t, z)) {v : Int32} (hv : Int32.ofNat z.1 = v) (hdg : decode cc pc = .ok (.arraylength, 1))
    (kk : W p l e R s m args below meth c H locs cells slots Q (F0 m (pc + 1) ls (.int v :: rest))) : W p l e R s m args below meth c H locs cells slots Q (F0 m pc ls (.ref (g.2.2.1 k) :: rest)) := by
  obtain ⟨ty, hty⟩ : ∃ ty, (TYS g.2.1)[t]? = some (g.2.1 t, ty) := by
    rcases (show t = 0 ∨ t = 1 ∨ t = 2 ∨ t = 3 ∨ t = 4 ∨ t = 5 by omega) with rfl | rfl | rfl | rfl | rfl | rfl <;> exact ⟨_, rfl⟩
  exact va_alen hx hb w.1 w.2.1 k t (hw_get2 hk hc) hty hv hdg kk
theorem r_get (hx : p.tables.exec = Jvm.exec) (hb : c.code = cc) {own ref C : String} {T : u_T} {N ci index : Nat} {Ts : List Cond} (hts : ∀ w ∈ Ts, w.before args s = true) (hin : ∀ w ∈ u_ws C T N, w ∈ Ts) (hown : s.vm.findClass own = some m.cls) (w : WD g A s h H locs) {o : Nat} (ho : o < g.2.2.2) {fs : List Value} (he : h o = .inr (ci, fs)) (hc : vwCl[ci]? = some (C, T, N)) (k : Nat) (hk : k < N) (hlink : (Cond.fieldLink own index ref (T k).2.1 (T k).2.2.1).before args s = true) (hsame : (T k).1 = ref) {v : Value} (hv : fs[k]? = some v) (hdg : decode cc pc = .ok (.getfield index, 3))
    (kk : W p l e R s m args below meth c H locs cells slots Q (F0 m (pc + 3) ls (v :: rest))) : W p l e R s m args below meth c H locs cells slots Q (F0 m pc ls (.ref (g.2.2.1 o) :: rest)) :=
  va_get hx hb hts hin hown w.1 w.2.1 o (hw_get2 ho he) hc k hk hlink (fun _ h => by rw [← hsame]; exact h) hv hdg kk
theorem r_put (hx : p.tables.exec = Jvm.exec) (hb : c.code = cc) {own ref C : String} {T : u_T} {N ci index : Nat} {Ts : List Cond} (hts : ∀ w ∈ Ts, w.before args s = true) (hin : ∀ w ∈ u_ws C T N, w ∈ Ts) (ty0 : Nat → FieldType) (hty : ∀ k, k < N → parseFieldDescriptor (T k).2.2.1 = some (ty0 k)) (hnm : ∀ a, a < N → ∀ b, b < N → a ≠ b → (T a).2.1 ≠ (T b).2.1) (hown : s.vm.findClass own = some m.cls) (w : WD g A s h H locs) {o : Nat} (ho : o < g.2.2.2) {fs : List Value} (he : h o = .inr (ci, fs)) (hc : vwCl[ci]? = some (C, T, N)) (k : Nat) (hk : k < N) (hlink : (Cond.fieldLink own index ref (T k).2.1 (T k).2.2.1).before args s = true) (hsame : (T k).1 = ref) (hfin : (T k).2.2.2 = false) {ty : FieldType} {v : Value} (hd : parseFieldDescriptor (T k).2.2.1 = some ty) (hn : narrow ty v = v) (hfit : fits ty v = true) (hl : k < fs.length)
    (hdg : decode cc pc = .ok (.putfield index, 3)) (kk : ∀ (h' : Nat → va_E) (H1 : Heap) (locs1 : List Loc), h' = va_up h o (.inr (ci, fs.set k v)) → WD g A s h' H1 locs1 → W p l e R s m args below meth c H1 locs1 cells slots Q (F0 m (pc + 3) ls rest)) : W p l e R s m args below meth c H locs cells slots Q (F0 m pc ls (v :: .ref (g.2.2.1 o) :: rest)) :=
  va_put hx hb hts hin ty0 hty hnm hown w.1 w.2.1 w.2.2.1 w.2.2.2.1 o (hw_get2 ho he) hc k hk hlink (fun _ h => by rw [← hsame]; exact h) hfin hd hn hfit hl hdg (fun H1 locs1 hP hD hS => kk _ H1 locs1 rfl (w.put ho rfl hP hD hS))
-- calls
theorem r_preV {k ci : Nat} {fs As : List Value} {q : vw_C} (w : WD g A s h H locs) (hk : k < g.2.2.2) (hc : h k = .inr (ci, fs)) (hq : vwCl[ci]? = some q) : PreV s H q.1 (g.2.2.1 k) (va_Pc (.ref (g.2.2.1 k) :: As) (Wd g h)) As :=
  ⟨fun a U g' mk z => ⟨z.1, z.2.1, va_K.moved (u := U) (U := U.calling g' mk a) (Vm.Alike.refl U.vm) z.2.2.1, z.2.2.2.1, EV.same (u := U) (U := U.calling g' mk a) rfl z.2.2.2.2⟩, va_recv w.1 w.2.1 hq (hw_get2 hk hc), fun U hU hW => ⟨rfl, by rw [hU]; exact w.2.1, va_K.moved hW.alike w.1, w.2.2.1.weaken (fun _ _ _ _ => trivial), w.2.2.2.2.step w.2.2.2.1 hU hW w.sub⟩⟩
theorem r_preS {As : List Value} (w : WD g A s h H locs) : PreS s H (va_Pc As (Wd g h)) As :=
  ⟨fun a U g' mk z => ⟨z.1, z.2.1, va_K.moved (u := U) (U := U.calling g' mk a) (Vm.Alike.refl U.vm) z.2.2.1, z.2.2.2.1, EV.same (u := U) (U := U.calling g' mk a) rfl z.2.2.2.2⟩, fun U hU hW => ⟨rfl, by rw [hU]; exact w.2.1, va_K.moved hW.alike w.1, w.2.2.1.weaken (fun _ _ _ _ => trivial), w.2.2.2.2.step w.2.2.2.1 hU hW w.sub⟩⟩
theorem WD.call {t : State} {H1 : Heap} {locs1 : List Loc} {h' : Nat → va_E} (w : WD g A s h H locs) (ht : t.heap = H1) (hB : Wd g h' t) (hS : va_S A s.heap H1 locs1) : WD g A s h' H1 locs1 :=
  ⟨w.1, by rw [← ht]; exact hB.1, hB.2.2.1.weaken (fun k q hq _ => by obtain ⟨hk, rfl⟩ := hw_lt hq; exact w.sub _ ⟨k, hk, rfl⟩), hS, w.2.2.2.2⟩
theorem r_callI {st0 : List Value} {a : Array Value} {post : Int32 → (Nat → va_E) → Prop} (w : WD g A s h H locs) (hr : va_Run p l e R s m args below meth c H locs cells slots 0 0 (F0 m pc ls st0) rest (va_Qi post (Wd g) (inW g) a) (inW g))
    (kk : ∀ (r : Int32) (h' : Nat → va_E) (H1 : Heap) (locs1 : List Loc), post r h' → WD g A s h' H1 locs1 → W p l e R s m args below meth c H1 locs1 cells slots Q (F0 m (pc + 3) ls (.int r :: rest))) : W p l e R s m args below meth c H locs cells slots Q (F0 m pc ls st0) :=
  va_calli hr w.2.2.2.1 (fun q _ hq => w.sub q hq) w.sub (fun r u t H1 locs1 ht hvm hp hB hz hk hS => kk r u H1 locs1 hp (w.call ht hB hS))
theorem r_callV {st0 : List Value} {a : Array Value} {post : (Nat → va_E) → Prop} (w : WD g A s h H locs) (hr : va_Run p l e R s m args below meth c H locs cells slots 0 0 (F0 m pc ls st0) rest (va_Qv post (Wd g) (inW g) a) (inW g))
    (kk : ∀ (h' : Nat → va_E) (H1 : Heap) (locs1 : List Loc), post h' → WD g A s h' H1 locs1 → W p l e R s m args below meth c H1 locs1 cells slots Q (F0 m (pc + 3) ls rest)) : W p l e R s m args below meth c H locs cells slots Q (F0 m pc ls st0) :=
  va_callv hr w.2.2.2.1 (fun q _ hq => w.sub q hq) w.sub (fun u t H1 locs1 ht hvm hp hB hz hk hS => kk u H1 locs1 hp (w.call ht hB hS))
theorem r_callQ {st0 : List Value} {a : Array Value} {post : Option Nat → (Nat → va_E) → Prop} (w : WD g A s h H locs) (hr : va_Run p l e R s m args below meth c H locs cells slots 0 0 (F0 m pc ls st0) rest (va_Qq post (Wd g) (inW g) a) (inW g))
    (kk : ∀ (r : Option Nat) (h' : Nat → va_E) (H1 : Heap) (locs1 : List Loc), post r h' → WD g A s h' H1 locs1 → W p l e R s m args below meth c H1 locs1 cells slots Q (F0 m (pc + 3) ls (va_rf r :: rest))) : W p l e R s m args below meth c H locs cells slots Q (F0 m pc ls st0) :=
  va_callq hr w.2.2.2.1 (fun q _ hq => w.sub q hq) w.sub (fun r u t H1 locs1 ht hvm hp hB hz hk hS => kk r u H1 locs1 hp (w.call ht hB hS))
-- ends
theorem r_iret {post : Int32 → (Nat → va_E) → Prop} {v : Int32} (hx : p.tables.exec = Jvm.exec) (hb : c.code = cc) (hr : meth.sig.returnType = some .int) (hlocks : meth.locks = false) (w : WD g (inW g) s h H locs) (hdg : decode cc pc = .ok (.ireturn, 1)) (hp : post v h) :
    W p l e R s m args below meth c H locs cells slots (MQ below (va_Qi post (Wd g) (inW g)) args s cells slots (inW g)) (F0 m pc ls [.int v]) :=
  W.iret hx hb hr (fun t ht hW => ⟨⟨v, h, rfl, hp, w.fin ht hW⟩, w.2.2.2.1.F ht⟩) w.2.2.2.1.2.2 hdg hlocks
theorem r_zret {post : Int32 → (Nat → va_E) → Prop} {v : Int32} {ty : FieldType} (hx : p.tables.exec = Jvm.exec) (hb : c.code = cc) (hr : meth.sig.returnType = some ty) (hn : narrow ty (.int v) = .int v) (hlocks : meth.locks = false) (w : WD g (inW g) s h H locs) (hdg : decode cc pc = .ok (.ireturn, 1)) (hp : post v h) :
    W p l e R s m args below meth c H locs cells slots (MQ below (va_Qi post (Wd g) (inW g)) args s cells slots (inW g)) (F0 m pc ls [.int v]) :=
  W.zret hx hb hr hn (fun t ht hW => ⟨⟨v, h, rfl, hp, w.fin ht hW⟩, w.2.2.2.1.F ht⟩) w.2.2.2.1.2.2 hdg hlocks
theorem r_vret {post : (Nat → va_E) → Prop} (hx : p.tables.exec = Jvm.exec) (hb : c.code = cc) (hr : meth.sig.returnType = none) (hlocks : meth.locks = false) (w : WD g (inW g) s h H locs) (hdg : decode cc pc = .ok (.return_, 1)) (hp : post h) :
    W p l e R s m args below meth c H locs cells slots (MQ below (va_Qv post (Wd g) (inW g)) args s cells slots (inW g)) (F0 m pc ls []) :=
  W.vret hx hb hr (fun t ht hW => ⟨⟨h, rfl, hp, w.fin ht hW⟩, w.2.2.2.1.F ht⟩) w.2.2.2.1.2.2 hdg hlocks
end HR
theorem i_addN {x y z : Int32} {a b : Nat} (ez : z = x + y) (hx : x.toInt = (a : Int)) (hy : y.toInt = (b : Int)) (h : a + b ≤ 2147483647) : z.toInt = ((a + b : Nat) : Int) := by
  rw [i_add ez hx hy (by omega)]; omega
theorem i_mulN {x y z : Int32} {a b : Nat} (ez : z = x * y) (hx : x.toInt = (a : Int)) (hy : y.toInt = (b : Int)) (h : a * b ≤ 2147483647) : z.toInt = ((a * b : Nat) : Int) := by
  have e : (a : Int) * (b : Int) = ((a * b : Nat) : Int) := by push_cast; rfl
  rw [i_mul ez hx hy (by rw [e]; omega), e]
theorem i_subN {x y z : Int32} {a b : Nat} (ez : z = x - y) (hx : x.toInt = (a : Int)) (hy : y.toInt = (b : Int)) (h : b ≤ a) : z.toInt = ((a - b : Nat) : Int) := by
  have := i_hi x
  rw [i_sub ez hx hy (by omega)]; omega
theorem i_ofN {x : Int32} {a : Nat} (h : x.toInt = (a : Int)) : x = nI a := by
  apply i_inj
  have := i_hi x
  rw [h, nI_toInt (by omega)]
theorem i_divN {x y z : Int32} {a b : Nat} (ez : z = x / y) (hx : x.toInt = (a : Int)) (hy : y.toInt = (b : Int)) (h : 0 < b) : z.toInt = ((a / b : Nat) : Int) := by
  have h1 := i_hi x
  have h2 := i_hi y
  have h3 : a / b ≤ a := Nat.div_le_self a b
  rw [ez, i_ofN hx, i_ofN hy, pk_div (by omega) h (by omega), nI_toInt (by omega)]
theorem i_remN {x y z : Int32} {a b : Nat} (ez : z = x - x / y * y) (hx : x.toInt = (a : Int)) (hy : y.toInt = (b : Int)) (h : 0 < b) : z.toInt = ((a % b : Nat) : Int) := by
  have h1 := i_hi x
  have h2 := i_hi y
  have h3 : a % b ≤ a := Nat.mod_le a b
  rw [ez, i_ofN hx, i_ofN hy, pk_rem (by omega) h (by omega), nI_toInt (by omega)]
theorem Bq.fit {r : Int32} {P : Prop} (h : Bq r P) : fits .boolean (.int r) = true := by
  rcases h with ⟨rfl, -⟩ | ⟨rfl, -⟩ <;> rfl
/-- a row of references to cells b, b+1, .. -/
def rowsF (g : GE) (b n : Nat) : Nat → Option Nat := fun i => if i < n then some (g.2.2.1 (b + i)) else none
theorem rowsF_in {g : GE} {b n i : Nat} (h : i < n) : rowsF g b n i = some (g.2.2.1 (b + i)) := if_pos h
/-- a Program at o: the object, arguments, kinds, lengths, bodies, its four rows -/
def PrA (g : GE) (h : Nat → va_E) (o : Nat) (n : Int32) (ga gk gl : Nat → Int32) (gb : Nat → Nat → Int32) : Prop :=
  o + 9 ≤ g.2.2.2 ∧ h o = .inr (2, [.int n, .ref (g.2.2.1 (o + 1)), .ref (g.2.2.1 (o + 2)), .ref (g.2.2.1 (o + 3)), .ref (g.2.2.1 (o + 4))]) ∧
  h (o + 1) = .inl (g.2.1 0, 4, .inl ga) ∧ h (o + 2) = .inl (g.2.1 0, 4, .inl gk) ∧ h (o + 3) = .inl (g.2.1 0, 4, .inl gl) ∧
  h (o + 4) = .inl (g.2.1 4, 4, .inr (.inr (.inr (.inr (rowsF g (o + 5) 4))))) ∧ ∀ i, i < 4 → h (o + 5 + i) = .inl (g.2.1 0, 24, .inl (gb i))
section PRS
variable {g : GE} {h h' : Nat → va_E} {o : Nat} {n n' : Int32} {ga gk gl ga' : Nat → Int32} {gb : Nat → Nat → Int32}
theorem PrA.c0 (P : PrA g h o n ga gk gl gb) : h o = .inr (2, [.int n, .ref (g.2.2.1 (o + 1)), .ref (g.2.2.1 (o + 2)), .ref (g.2.2.1 (o + 3)), .ref (g.2.2.1 (o + 4))]) := P.2.1
theorem PrA.c1 (P : PrA g h o n ga gk gl gb) : h (o + 1) = .inl (g.2.1 0, 4, .inl ga) := P.2.2.1
theorem PrA.c2 (P : PrA g h o n ga gk gl gb) : h (o + 2) = .inl (g.2.1 0, 4, .inl gk) := P.2.2.2.1
theorem PrA.c3 (P : PrA g h o n ga gk gl gb) : h (o + 3) = .inl (g.2.1 0, 4, .inl gl) := P.2.2.2.2.1
theorem PrA.c4 (P : PrA g h o n ga gk gl gb) : h (o + 4) = .inl (g.2.1 4, 4, .inr (.inr (.inr (.inr (rowsF g (o + 5) 4))))) := P.2.2.2.2.2.1
theorem PrA.c5 (P : PrA g h o n ga gk gl gb) {i : Nat} (hi : i < 4) : h (o + 5 + i) = .inl (g.2.1 0, 24, .inl (gb i)) := P.2.2.2.2.2.2 i hi
theorem PrA.fr (P : PrA g h o n ga gk gl gb) (hf : ∀ k, o ≤ k → k < o + 9 → h' k = h k) : PrA g h' o n ga gk gl gb := by
  obtain ⟨a0, a1, a2, a3, a4, a5, a6⟩ := P
  exact ⟨a0, by rw [hf _ (by omega) (by omega)]; exact a1, by rw [hf _ (by omega) (by omega)]; exact a2, by rw [hf _ (by omega) (by omega)]; exact a3, by rw [hf _ (by omega) (by omega)]; exact a4, by rw [hf _ (by omega) (by omega)]; exact a5, fun i hi => by rw [hf _ (by omega) (by omega)]; exact a6 i hi⟩
theorem PrA.s0 (P : PrA g h o n ga gk gl gb) (e : h' = va_up h o (.inr (2, [.int n', .ref (g.2.2.1 (o + 1)), .ref (g.2.2.1 (o + 2)), .ref (g.2.2.1 (o + 3)), .ref (g.2.2.1 (o + 4))]))) : PrA g h' o n' ga gk gl gb := by
  obtain ⟨a0, a1, a2, a3, a4, a5, a6⟩ := P
  subst e
  exact ⟨a0, va_up_self _ _ _, by rw [va_up_ne _ _ (by omega)]; exact a2, by rw [va_up_ne _ _ (by omega)]; exact a3, by rw [va_up_ne _ _ (by omega)]; exact a4, by rw [va_up_ne _ _ (by omega)]; exact a5, fun i hi => by rw [va_up_ne _ _ (by omega)]; exact a6 i hi⟩
theorem PrA.s1 (P : PrA g h o n ga gk gl gb) (e : h' = va_up h (o + 1) (.inl (g.2.1 0, 4, .inl ga'))) : PrA g h' o n ga' gk gl gb := by
  obtain ⟨a0, a1, a2, a3, a4, a5, a6⟩ := P
  subst e
  exact ⟨a0, by rw [va_up_ne _ _ (by omega)]; exact a1, va_up_self _ _ _, by rw [va_up_ne _ _ (by omega)]; exact a3, by rw [va_up_ne _ _ (by omega)]; exact a4, by rw [va_up_ne _ _ (by omega)]; exact a5, fun i hi => by rw [va_up_ne _ _ (by omega)]; exact a6 i hi⟩
theorem PrA.s2 (P : PrA g h o n ga gk gl gb) (e : h' = va_up h (o + 2) (.inl (g.2.1 0, 4, .inl ga'))) : PrA g h' o n ga ga' gl gb := by
  obtain ⟨a0, a1, a2, a3, a4, a5, a6⟩ := P
  subst e
  exact ⟨a0, by rw [va_up_ne _ _ (by omega)]; exact a1, by rw [va_up_ne _ _ (by omega)]; exact a2, va_up_self _ _ _, by rw [va_up_ne _ _ (by omega)]; exact a4, by rw [va_up_ne _ _ (by omega)]; exact a5, fun i hi => by rw [va_up_ne _ _ (by omega)]; exact a6 i hi⟩
theorem PrA.s3 (P : PrA g h o n ga gk gl gb) (e : h' = va_up h (o + 3) (.inl (g.2.1 0, 4, .inl ga'))) : PrA g h' o n ga gk ga' gb := by
  obtain ⟨a0, a1, a2, a3, a4, a5, a6⟩ := P
  subst e
  exact ⟨a0, by rw [va_up_ne _ _ (by omega)]; exact a1, by rw [va_up_ne _ _ (by omega)]; exact a2, by rw [va_up_ne _ _ (by omega)]; exact a3, va_up_self _ _ _, by rw [va_up_ne _ _ (by omega)]; exact a5, fun i hi => by rw [va_up_ne _ _ (by omega)]; exact a6 i hi⟩
theorem PrA.s5 (P : PrA g h o n ga gk gl gb) {i : Nat} (hi : i < 4) (e : h' = va_up h (o + 5 + i) (.inl (g.2.1 0, 24, .inl ga'))) : PrA g h' o n ga gk gl (va_up gb i ga') := by
  obtain ⟨a0, a1, a2, a3, a4, a5, a6⟩ := P
  subst e
  refine ⟨a0, by rw [va_up_ne _ _ (by omega)]; exact a1, by rw [va_up_ne _ _ (by omega)]; exact a2, by rw [va_up_ne _ _ (by omega)]; exact a3, by rw [va_up_ne _ _ (by omega)]; exact a4, by rw [va_up_ne _ _ (by omega)]; exact a5, fun j hj => ?_⟩
  by_cases hij : j = i
  · subst hij
    rw [va_up_self, va_up_self]
  · rw [va_up_ne _ _ (by omega), va_up_ne _ _ hij]
    exact a6 j hj
end PRS
