-- ===== A View at v (18 cells): the object, powers, given, stack, digits and its 3 rows, two tables kk, kc (one of them v + 8, the other v + 13) with 4 rows each =====
def mCi (u : Nat) : Nat := if u = 0 then 5 else if u = 1 then 3 else 0
def mR (u : Nat) : Nat := mB u ^ 3
def VwA (g : GE) (h : Nat → va_E) (v u kk kc : Nat) (tk fz dp : Int32) (gp gg gs : Nat → Int32) (gd gt gc : Nat → Nat → Int32) : Prop :=
  (v + 18 ≤ g.2.2.2 ∧ u < 3 ∧ ((kk = v + 8 ∧ kc = v + 13) ∨ (kk = v + 13 ∧ kc = v + 8))) ∧
  h v = .inr (mCi u, [.int (nI (mB u)), .int (nI (mN u)), .int (nI (mZ u)), .int (nI (mO u)), .ref (g.2.2.1 (v + 1)), .ref (g.2.2.1 (v + 4)), .ref (g.2.2.1 kk), .ref (g.2.2.1 kc), .int tk, .int fz, .ref (g.2.2.1 (v + 2)), .ref (g.2.2.1 (v + 3)), .int dp]) ∧
  h (v + 1) = .inl (g.2.1 0, 4, .inl gp) ∧ h (v + 2) = .inl (g.2.1 0, 3, .inl gg) ∧ h (v + 3) = .inl (g.2.1 0, 24, .inl gs) ∧
  h (v + 4) = .inl (g.2.1 4, 3, .inr (.inr (.inr (.inr (rowsF g (v + 5) 3))))) ∧ (∀ i, i < 3 → h (v + 5 + i) = .inl (g.2.1 0, mR u, .inl (gd i))) ∧
  h kk = .inl (g.2.1 5, 4, .inr (.inr (.inr (.inr (rowsF g (kk + 1) 4))))) ∧ (∀ i, i < 4 → h (kk + 1 + i) = .inl (g.2.1 2, mR u, .inl (gt i))) ∧
  h kc = .inl (g.2.1 5, 4, .inr (.inr (.inr (.inr (rowsF g (kc + 1) 4))))) ∧ (∀ i, i < 4 → h (kc + 1 + i) = .inl (g.2.1 2, mR u, .inl (gc i))) ∧
  (∀ i, i < 4 → (gp i).toInt = ((mB u ^ i : Nat) : Int)) ∧ (∀ i row, i < 3 → row < mR u → (gd i row).toInt = ((mDig u row i : Nat) : Int))
section VWS
variable {g : GE} {h h' : Nat → va_E} {v u kk kc : Nat} {tk fz dp tk' fz' dp' : Int32} {gp gg gs gz : Nat → Int32} {gd gt gc : Nat → Nat → Int32}
theorem VwA.c0 (V : VwA g h v u kk kc tk fz dp gp gg gs gd gt gc) : h v = .inr (mCi u, [.int (nI (mB u)), .int (nI (mN u)), .int (nI (mZ u)), .int (nI (mO u)), .ref (g.2.2.1 (v + 1)), .ref (g.2.2.1 (v + 4)), .ref (g.2.2.1 kk), .ref (g.2.2.1 kc), .int tk, .int fz, .ref (g.2.2.1 (v + 2)), .ref (g.2.2.1 (v + 3)), .int dp]) := V.2.1
theorem VwA.ob (V : VwA g h v u kk kc tk fz dp gp gg gs gd gt gc) {ci : Nat} (e : mCi u = ci) : h v = .inr (ci, [.int (nI (mB u)), .int (nI (mN u)), .int (nI (mZ u)), .int (nI (mO u)), .ref (g.2.2.1 (v + 1)), .ref (g.2.2.1 (v + 4)), .ref (g.2.2.1 kk), .ref (g.2.2.1 kc), .int tk, .int fz, .ref (g.2.2.1 (v + 2)), .ref (g.2.2.1 (v + 3)), .int dp]) := by rw [← e]; exact V.2.1
theorem VwA.hu (V : VwA g h v u kk kc tk fz dp gp gg gs gd gt gc) : u < 3 := V.1.2.1
theorem VwA.hN (V : VwA g h v u kk kc tk fz dp gp gg gs gd gt gc) : v + 18 ≤ g.2.2.2 ∧ ((kk = v + 8 ∧ kc = v + 13) ∨ (kk = v + 13 ∧ kc = v + 8)) := ⟨V.1.1, V.1.2.2⟩
theorem VwA.c1 (V : VwA g h v u kk kc tk fz dp gp gg gs gd gt gc) : h (v + 1) = .inl (g.2.1 0, 4, .inl gp) := V.2.2.1
theorem VwA.c2 (V : VwA g h v u kk kc tk fz dp gp gg gs gd gt gc) : h (v + 2) = .inl (g.2.1 0, 3, .inl gg) := V.2.2.2.1
theorem VwA.c3 (V : VwA g h v u kk kc tk fz dp gp gg gs gd gt gc) : h (v + 3) = .inl (g.2.1 0, 24, .inl gs) := V.2.2.2.2.1
theorem VwA.c4 (V : VwA g h v u kk kc tk fz dp gp gg gs gd gt gc) : h (v + 4) = .inl (g.2.1 4, 3, .inr (.inr (.inr (.inr (rowsF g (v + 5) 3))))) := V.2.2.2.2.2.1
theorem VwA.c5 (V : VwA g h v u kk kc tk fz dp gp gg gs gd gt gc) {i : Nat} (hi : i < 3) : h (v + 5 + i) = .inl (g.2.1 0, mR u, .inl (gd i)) := V.2.2.2.2.2.2.1 i hi
theorem VwA.k0 (V : VwA g h v u kk kc tk fz dp gp gg gs gd gt gc) : h kk = .inl (g.2.1 5, 4, .inr (.inr (.inr (.inr (rowsF g (kk + 1) 4))))) := V.2.2.2.2.2.2.2.1
theorem VwA.k1 (V : VwA g h v u kk kc tk fz dp gp gg gs gd gt gc) {i : Nat} (hi : i < 4) : h (kk + 1 + i) = .inl (g.2.1 2, mR u, .inl (gt i)) := V.2.2.2.2.2.2.2.2.1 i hi
theorem VwA.m0 (V : VwA g h v u kk kc tk fz dp gp gg gs gd gt gc) : h kc = .inl (g.2.1 5, 4, .inr (.inr (.inr (.inr (rowsF g (kc + 1) 4))))) := V.2.2.2.2.2.2.2.2.2.1
theorem VwA.m1 (V : VwA g h v u kk kc tk fz dp gp gg gs gd gt gc) {i : Nat} (hi : i < 4) : h (kc + 1 + i) = .inl (g.2.1 2, mR u, .inl (gc i)) := V.2.2.2.2.2.2.2.2.2.2.1 i hi
theorem VwA.pw (V : VwA g h v u kk kc tk fz dp gp gg gs gd gt gc) : ∀ i, i < 4 → (gp i).toInt = ((mB u ^ i : Nat) : Int) := V.2.2.2.2.2.2.2.2.2.2.2.1
theorem VwA.dg (V : VwA g h v u kk kc tk fz dp gp gg gs gd gt gc) : ∀ i row, i < 3 → row < mR u → (gd i row).toInt = ((mDig u row i : Nat) : Int) := V.2.2.2.2.2.2.2.2.2.2.2.2
theorem VwA.fr (V : VwA g h v u kk kc tk fz dp gp gg gs gd gt gc) (hf : ∀ k, v ≤ k → k < v + 18 → h' k = h k) : VwA g h' v u kk kc tk fz dp gp gg gs gd gt gc := by
  obtain ⟨a0, a1, a2, a3, a4, a5, a6, a7, a8, a9, a10, a11, a12⟩ := V
  exact ⟨a0, by rw [hf _ (by omega) (by omega)]; exact a1, by rw [hf _ (by omega) (by omega)]; exact a2, by rw [hf _ (by omega) (by omega)]; exact a3, by rw [hf _ (by omega) (by omega)]; exact a4, by rw [hf _ (by omega) (by omega)]; exact a5, fun i hi => by rw [hf _ (by omega) (by omega)]; exact a6 i hi, by rw [hf _ (by omega) (by omega)]; exact a7, fun i hi => by rw [hf _ (by omega) (by omega)]; exact a8 i hi, by rw [hf _ (by omega) (by omega)]; exact a9, fun i hi => by rw [hf _ (by omega) (by omega)]; exact a10 i hi, a11, a12⟩
/-- the object written: taken, fresh, depth -/
theorem VwA.s0 (V : VwA g h v u kk kc tk fz dp gp gg gs gd gt gc) (e : h' = va_up h v (.inr (mCi u, [.int (nI (mB u)), .int (nI (mN u)), .int (nI (mZ u)), .int (nI (mO u)), .ref (g.2.2.1 (v + 1)), .ref (g.2.2.1 (v + 4)), .ref (g.2.2.1 kk), .ref (g.2.2.1 kc), .int tk', .int fz', .ref (g.2.2.1 (v + 2)), .ref (g.2.2.1 (v + 3)), .int dp']))) : VwA g h' v u kk kc tk' fz' dp' gp gg gs gd gt gc := by
  obtain ⟨a0, a1, a2, a3, a4, a5, a6, a7, a8, a9, a10, a11, a12⟩ := V
  subst e
  exact ⟨a0, va_up_self _ _ _, by rw [va_up_ne _ _ (by omega)]; exact a2, by rw [va_up_ne _ _ (by omega)]; exact a3, by rw [va_up_ne _ _ (by omega)]; exact a4, by rw [va_up_ne _ _ (by omega)]; exact a5, fun i hi => by rw [va_up_ne _ _ (by omega)]; exact a6 i hi, by rw [va_up_ne _ _ (by omega)]; exact a7, fun i hi => by rw [va_up_ne _ _ (by omega)]; exact a8 i hi, by rw [va_up_ne _ _ (by omega)]; exact a9, fun i hi => by rw [va_up_ne _ _ (by omega)]; exact a10 i hi, a11, a12⟩
theorem VwA.s2 (V : VwA g h v u kk kc tk fz dp gp gg gs gd gt gc) (e : h' = va_up h (v + 2) (.inl (g.2.1 0, 3, .inl gz))) : VwA g h' v u kk kc tk fz dp gp gz gs gd gt gc := by
  obtain ⟨a0, a1, a2, a3, a4, a5, a6, a7, a8, a9, a10, a11, a12⟩ := V
  subst e
  exact ⟨a0, by rw [va_up_ne _ _ (by omega)]; exact a1, by rw [va_up_ne _ _ (by omega)]; exact a2, va_up_self _ _ _, by rw [va_up_ne _ _ (by omega)]; exact a4, by rw [va_up_ne _ _ (by omega)]; exact a5, fun i hi => by rw [va_up_ne _ _ (by omega)]; exact a6 i hi, by rw [va_up_ne _ _ (by omega)]; exact a7, fun i hi => by rw [va_up_ne _ _ (by omega)]; exact a8 i hi, by rw [va_up_ne _ _ (by omega)]; exact a9, fun i hi => by rw [va_up_ne _ _ (by omega)]; exact a10 i hi, a11, a12⟩
theorem VwA.s3 (V : VwA g h v u kk kc tk fz dp gp gg gs gd gt gc) (e : h' = va_up h (v + 3) (.inl (g.2.1 0, 24, .inl gz))) : VwA g h' v u kk kc tk fz dp gp gg gz gd gt gc := by
  obtain ⟨a0, a1, a2, a3, a4, a5, a6, a7, a8, a9, a10, a11, a12⟩ := V
  subst e
  exact ⟨a0, by rw [va_up_ne _ _ (by omega)]; exact a1, by rw [va_up_ne _ _ (by omega)]; exact a2, by rw [va_up_ne _ _ (by omega)]; exact a3, va_up_self _ _ _, by rw [va_up_ne _ _ (by omega)]; exact a5, fun i hi => by rw [va_up_ne _ _ (by omega)]; exact a6 i hi, by rw [va_up_ne _ _ (by omega)]; exact a7, fun i hi => by rw [va_up_ne _ _ (by omega)]; exact a8 i hi, by rw [va_up_ne _ _ (by omega)]; exact a9, fun i hi => by rw [va_up_ne _ _ (by omega)]; exact a10 i hi, a11, a12⟩
theorem VwA.sk (V : VwA g h v u kk kc tk fz dp gp gg gs gd gt gc) {i : Nat} (hi : i < 4) (e : h' = va_up h (kk + 1 + i) (.inl (g.2.1 2, mR u, .inl gz))) : VwA g h' v u kk kc tk fz dp gp gg gs gd (va_up gt i gz) gc := by
  obtain ⟨a0, a1, a2, a3, a4, a5, a6, a7, a8, a9, a10, a11, a12⟩ := V
  subst e
  refine ⟨a0, by rw [va_up_ne _ _ (by omega)]; exact a1, by rw [va_up_ne _ _ (by omega)]; exact a2, by rw [va_up_ne _ _ (by omega)]; exact a3, by rw [va_up_ne _ _ (by omega)]; exact a4, by rw [va_up_ne _ _ (by omega)]; exact a5, fun i hi => by rw [va_up_ne _ _ (by omega)]; exact a6 i hi, by rw [va_up_ne _ _ (by omega)]; exact a7, fun j hj => ?_, by rw [va_up_ne _ _ (by omega)]; exact a9, fun i hi => by rw [va_up_ne _ _ (by omega)]; exact a10 i hi, a11, a12⟩
  by_cases hij : j = i
  · subst hij
    rw [va_up_self, va_up_self]
  · rw [va_up_ne _ _ (by omega), va_up_ne _ _ hij]
    exact a8 j hj
theorem VwA.sc (V : VwA g h v u kk kc tk fz dp gp gg gs gd gt gc) {i : Nat} (hi : i < 4) (e : h' = va_up h (kc + 1 + i) (.inl (g.2.1 2, mR u, .inl gz))) : VwA g h' v u kk kc tk fz dp gp gg gs gd gt (va_up gc i gz) := by
  obtain ⟨a0, a1, a2, a3, a4, a5, a6, a7, a8, a9, a10, a11, a12⟩ := V
  subst e
  refine ⟨a0, by rw [va_up_ne _ _ (by omega)]; exact a1, by rw [va_up_ne _ _ (by omega)]; exact a2, by rw [va_up_ne _ _ (by omega)]; exact a3, by rw [va_up_ne _ _ (by omega)]; exact a4, by rw [va_up_ne _ _ (by omega)]; exact a5, fun i hi => by rw [va_up_ne _ _ (by omega)]; exact a6 i hi, by rw [va_up_ne _ _ (by omega)]; exact a7, fun i hi => by rw [va_up_ne _ _ (by omega)]; exact a8 i hi, by rw [va_up_ne _ _ (by omega)]; exact a9, fun j hj => ?_, a11, a12⟩
  by_cases hij : j = i
  · subst hij
    rw [va_up_self, va_up_self]
  · rw [va_up_ne _ _ (by omega), va_up_ne _ _ hij]
    exact a10 j hj
end VWS
theorem va_3 {u : Nat} {X : Prop} (hu : u < 3) (a : u = 0 → X) (b : u = 1 → X) (c : u = 2 → X) : X := by
  rcases (show u = 0 ∨ u = 1 ∨ u = 2 by omega) with e | e | e
  · exact a e
  · exact b e
  · exact c e
theorem tx60 : ∀ k, k < 13 → TX6 k = TX0 k := by
  intro k hk
  rcases (show k = 0 ∨ k = 1 ∨ k = 2 ∨ k = 3 ∨ k = 4 ∨ k = 5 ∨ k = 6 ∨ k = 7 ∨ k = 8 ∨ k = 9 ∨ k = 10 ∨ k = 11 ∨ k = 12 by omega) with rfl | rfl | rfl | rfl | rfl | rfl | rfl | rfl | rfl | rfl | rfl | rfl | rfl <;> rfl
theorem tx40 : ∀ k, k < 13 → TX4 k = TX0 k := by
  intro k hk
  rcases (show k = 0 ∨ k = 1 ∨ k = 2 ∨ k = 3 ∨ k = 4 ∨ k = 5 ∨ k = 6 ∨ k = 7 ∨ k = 8 ∨ k = 9 ∨ k = 10 ∨ k = 11 ∨ k = 12 by omega) with rfl | rfl | rfl | rfl | rfl | rfl | rfl | rfl | rfl | rfl | rfl | rfl | rfl <;> rfl
section HRV
variable {p : Program} {l : Launch} {e : Env} {R : Room} {s : State} {m : MethodId} {args : Array Value} {below : List Frame} {meth : Method} {c : Code} {H : Heap} {locs : List Loc} {cells slots : Nat} {Q : State → Prop}
variable {cc : ByteArray} {pc : Nat} {ls : Array Slot} {rest : List Value} {g : GE} {A : Nat → Prop} {h : Nat → va_E}
theorem r_getV (hx : p.tables.exec = Jvm.exec) (hb : c.code = cc) {own : String} {index : Nat} {Ts : List Cond} (hts : ∀ w ∈ Ts, w.before args s = true) (hin : (∀ w ∈ wsX00, w ∈ Ts) ∧ (∀ w ∈ wsX40, w ∈ Ts) ∧ ∀ w ∈ wsX60, w ∈ Ts) (hown : s.vm.findClass own = some m.cls) (w : WD g A s h H locs) {o u : Nat} (hu : u < 3) (ho : o < g.2.2.2) {fs : List Value} (he : h o = .inr (mCi u, fs)) (k : Nat) (hk : k < 13) (hlink : (Cond.fieldLink own index "EarlyValues$View" (TX0 k).2.1 (TX0 k).2.2.1).before args s = true) (hsame : (TX0 k).1 = "EarlyValues$View") {v : Value} (hv : fs[k]? = some v) (hdg : decode cc pc = .ok (.getfield index, 3))
    (kk : W p l e R s m args below meth c H locs cells slots Q (F0 m (pc + 3) ls (v :: rest))) : W p l e R s m args below meth c H locs cells slots Q (F0 m pc ls (.ref (g.2.2.1 o) :: rest)) := by
  rcases (show u = 0 ∨ u = 1 ∨ u = 2 by omega) with rfl | rfl | rfl
  · exact r_get (C := RX6) (T := TX6) (N := 13) (ci := 5) hx hb hts hin.2.2 hown w ho he rfl k hk (by rw [tx60 k hk]; exact hlink) (by rw [tx60 k hk]; exact hsame) hv hdg kk
  · exact r_get (C := RX4) (T := TX4) (N := 13) (ci := 3) hx hb hts hin.2.1 hown w ho he rfl k hk (by rw [tx40 k hk]; exact hlink) (by rw [tx40 k hk]; exact hsame) hv hdg kk
  · exact r_get (C := RX0) (T := TX0) (N := 13) (ci := 0) hx hb hts hin.1 hown w ho he rfl k hk hlink hsame hv hdg kk
theorem r_putV (hx : p.tables.exec = Jvm.exec) (hb : c.code = cc) {own : String} {index : Nat} {Ts : List Cond} (hts : ∀ w ∈ Ts, w.before args s = true) (hin : (∀ w ∈ wsX00, w ∈ Ts) ∧ (∀ w ∈ wsX40, w ∈ Ts) ∧ ∀ w ∈ wsX60, w ∈ Ts) (hown : s.vm.findClass own = some m.cls) (w : WD g A s h H locs) {o u : Nat} (hu : u < 3) (ho : o < g.2.2.2) {fs : List Value} (he : h o = .inr (mCi u, fs)) (k : Nat) (hk : k < 13) (hlink : (Cond.fieldLink own index "EarlyValues$View" (TX0 k).2.1 (TX0 k).2.2.1).before args s = true) (hsame : (TX0 k).1 = "EarlyValues$View") (hfin : (TX0 k).2.2.2 = false) {ty : FieldType} {v : Value} (hd : parseFieldDescriptor (TX0 k).2.2.1 = some ty) (hn : narrow ty v = v) (hfit : fits ty v = true) (hl : k < fs.length)
    (hdg : decode cc pc = .ok (.putfield index, 3)) (kk : ∀ (h' : Nat → va_E) (H1 : Heap) (locs1 : List Loc), h' = va_up h o (.inr (mCi u, fs.set k v)) → WD g A s h' H1 locs1 → W p l e R s m args below meth c H1 locs1 cells slots Q (F0 m (pc + 3) ls rest)) : W p l e R s m args below meth c H locs cells slots Q (F0 m pc ls (v :: .ref (g.2.2.1 o) :: rest)) := by
  rcases (show u = 0 ∨ u = 1 ∨ u = 2 by omega) with rfl | rfl | rfl
  · exact r_put (C := RX6) (T := TX6) (N := 13) (ci := 5) hx hb hts hin.2.2 tyX6 tyX6_ok nmX6 hown w ho he rfl k hk (by rw [tx60 k hk]; exact hlink) (by rw [tx60 k hk]; exact hsame) (by rw [tx60 k hk]; exact hfin) (by rw [tx60 k hk]; exact hd) hn hfit hl hdg kk
  · exact r_put (C := RX4) (T := TX4) (N := 13) (ci := 3) hx hb hts hin.2.1 tyX4 tyX4_ok nmX4 hown w ho he rfl k hk (by rw [tx40 k hk]; exact hlink) (by rw [tx40 k hk]; exact hsame) (by rw [tx40 k hk]; exact hfin) (by rw [tx40 k hk]; exact hd) hn hfit hl hdg kk
  · exact r_put (C := RX0) (T := TX0) (N := 13) (ci := 0) hx hb hts hin.1 tyX0 tyX0_ok nmX0 hown w ho he rfl k hk hlink hsame hfin hd hn hfit hl hdg kk
end HRV
theorem mR_lt (u : Nat) : mR u < 2 ^ 31 := by
  unfold mR mB
  split <;> (try split) <;> decide
theorem mR_le (u : Nat) : mR u ≤ 125 := by
  unfold mR mB
  split <;> (try split) <;> decide
theorem mB_i (u : Nat) : (nI (mB u)).toInt = ((mB u : Nat) : Int) := nI_toInt (by have := mB_le u; omega)
theorem mN_i (u : Nat) : (nI (mN u)).toInt = ((mN u : Nat) : Int) := nI_toInt (by have := mN_lt u; have := mB_le u; omega)
theorem mZ_i (u : Nat) : (nI (mZ u)).toInt = ((mZ u : Nat) : Int) := nI_toInt (by unfold mZ; split <;> omega)
theorem mO_i (u : Nat) : (nI (mO u)).toInt = ((mO u : Nat) : Int) := nI_toInt (by unfold mO; split <;> omega)
section VWT
variable {g : GE} {h h' h1 : Nat → va_E} {v u kk kc : Nat} {tk fz dp tk' fz' dp' : Int32} {gp gg gs gz : Nat → Int32} {gd gt gc : Nat → Nat → Int32}
theorem VwA.p1 (V : VwA g h v u kk kc tk fz dp gp gg gs gd gt gc) : (gp 1).toInt = ((mB u : Nat) : Int) := by rw [V.pw 1 (by omega), Nat.pow_one]
theorem VwA.p2 (V : VwA g h v u kk kc tk fz dp gp gg gs gd gt gc) : (gp 2).toInt = ((mB u * mB u : Nat) : Int) := by rw [V.pw 2 (by omega), Nat.pow_succ, Nat.pow_one]
/-- known and coming change places -/
theorem VwA.swap (V : VwA g h v u kk kc tk fz dp gp gg gs gd gt gc) {z : va_E} (e1 : h1 = va_up h v z)
    (e2 : h' = va_up h1 v (.inr (mCi u, [.int (nI (mB u)), .int (nI (mN u)), .int (nI (mZ u)), .int (nI (mO u)), .ref (g.2.2.1 (v + 1)), .ref (g.2.2.1 (v + 4)), .ref (g.2.2.1 kc), .ref (g.2.2.1 kk), .int tk, .int fz, .ref (g.2.2.1 (v + 2)), .ref (g.2.2.1 (v + 3)), .int dp]))) : VwA g h' v u kc kk tk fz dp gp gg gs gd gc gt := by
  obtain ⟨⟨b1, b2, b3⟩, a1, a2, a3, a4, a5, a6, a7, a8, a9, a10, a11, a12⟩ := V
  subst e1 e2
  exact ⟨⟨b1, b2, by omega⟩, va_up_self _ _ _, by rw [va_up_ne _ _ (by omega), va_up_ne _ _ (by omega)]; exact a2, by rw [va_up_ne _ _ (by omega), va_up_ne _ _ (by omega)]; exact a3, by rw [va_up_ne _ _ (by omega), va_up_ne _ _ (by omega)]; exact a4, by rw [va_up_ne _ _ (by omega), va_up_ne _ _ (by omega)]; exact a5, fun i hi => by rw [va_up_ne _ _ (by omega), va_up_ne _ _ (by omega)]; exact a6 i hi, by rw [va_up_ne _ _ (by omega), va_up_ne _ _ (by omega)]; exact a9, fun i hi => by rw [va_up_ne _ _ (by omega), va_up_ne _ _ (by omega)]; exact a10 i hi, by rw [va_up_ne _ _ (by omega), va_up_ne _ _ (by omega)]; exact a7, fun i hi => by rw [va_up_ne _ _ (by omega), va_up_ne _ _ (by omega)]; exact a8 i hi, a11, a12⟩
end VWT
/-- what a Program holds, in numbers -/
def PrS (M : PRG) (n : Int32) (ga gk gl : Nat → Int32) (gb : Nat → Nat → Int32) : Prop :=
  n.toInt = (pN M : Int) ∧ (∀ i, i < pN M → (ga i).toInt = (pA M i : Int)) ∧ (∀ i, i < pN M → (gk i).toInt = (pK M i : Int)) ∧ (∀ i, i < pN M → (gl i).toInt = (pL M i : Int)) ∧ ∀ i, i < pN M → ∀ j, j < pL M i → (gb i j).toInt = (pB M i j : Int)
theorem PrS.ha {M : PRG} {n : Int32} {ga gk gl : Nat → Int32} {gb : Nat → Nat → Int32} (S : PrS M n ga gk gl gb) (hP : PV M) : ∀ i, i < pN M → (ga i).toInt = (pA M i : Int) ∧ pA M i ≤ 3 := fun i hi => ⟨S.2.1 i hi, (hP.2.2 i hi).1⟩
/-- a table in the rows of bytes -/
def TbS (u : Nat) (M : PRG) (gt : Nat → Nat → Int32) (T : Nat → Nat → Nat) : Prop := ∀ f row, f < pN M → row < mRw u M f → (gt f row).toInt = (T f row : Int)
theorem mRw_mR {u : Nat} {M : PRG} (hu : u < 3) (hP : PV M) {f : Nat} (hf : f < pN M) : mRw u M f ≤ mR u := mRw_le hu hP hf
theorem mB_0 : mB 0 = 5 := rfl
theorem mB_1 : mB 1 = 2 := rfl
theorem mB_2 : mB 2 = 4 := rfl
-- the stack in its row: the top at length - 1
def StkR (gs : Nat → Int32) (st : List Nat) : Prop := ∀ i, i < st.length → (gs (st.length - 1 - i)).toInt = ((st.getD i 0 : Nat) : Int)
theorem StkR.push {gs : Nat → Int32} {st : List Nat} {c x : Nat} {r : Int32} (h : StkR gs st) (hc : c ≤ st.length) (hr : r.toInt = ((x : Nat) : Int)) : StkR (upd gs (st.length - c) r) (x :: st.drop c) := by
  intro i hi
  have hl : (x :: st.drop c).length = st.length - c + 1 := by simp
  rw [hl] at hi ⊢
  cases i with
  | zero =>
    rw [show st.length - c + 1 - 1 - 0 = st.length - c by omega, pk_us]
    exact hr
  | succ i =>
    rw [pk_un (by omega), show st.length - c + 1 - 1 - (i + 1) = st.length - 1 - (i + c) by omega, h (i + c) (by omega)]
    rw [List.getD_cons_succ, List.getD_eq_getElem?_getD, List.getD_eq_getElem?_getD, List.getElem?_drop, Nat.add_comm c i]
theorem StkR.at {gs : Nat → Int32} {st : List Nat} {c i d : Nat} (h : StkR gs st) (hi : i < c) (hc : c ≤ st.length) (hd : d = st.length - 1 - i) : (gs d).toInt = ((mPt c i st : Nat) : Int) := by
  subst hd
  rw [h i (by omega), mPt, if_pos hi]
theorem mStk_succ_len {u : Nat} {P : PRG} {T : Nat → Nat → Nat} {xs : Nat → Nat} {f j : Nat} : (mStk u P T xs f (j + 1)).length = (mStk u P T xs f j).length - mParts (pN P) (pA P) (pB P f (pL P f - 1 - j)) + 1 := by
  simp [mStk]
theorem mStk_le {u : Nat} {P : PRG} {T : Nat → Nat → Nat} {xs : Nat → Nat} {f : Nat} : ∀ j, (mStk u P T xs f j).length ≤ j
  | 0 => Nat.le_refl _
  | j + 1 => by
    have := mStk_le (u := u) (P := P) (T := T) (xs := xs) (f := f) j
    rw [mStk_succ_len]; omega
theorem i8_id : (List.range 128).all (fun k => (nI k).toInt8.toInt32 == nI k) = true := by decide +kernel
theorem i2b_id {x : Int32} {a : Nat} (h : x.toInt = ((a : Nat) : Int)) (ha : a < 128) : x.toInt8.toInt32 = x := by
  rw [i_ofN h]
  exact eq_of_beq (all_range i8_id ha)
theorem nar_b {x : Int32} {a : Nat} (h : x.toInt = ((a : Nat) : Int)) (ha : a < 128) : vp_nar .byte x = x := by
  rw [vp_nar_byte]; exact i2b_id h ha
theorem hand_up {kd c i j : Nat} {gg : Nat → Int32} {D : Nat → Nat} {x : Int32} (h : ∀ i_, i_ < i → (gg (if kd = 3 then c - 1 - i_ else i_)).toInt = ((D i_ : Nat) : Int)) (hi : i < c) (hx : x.toInt = ((D i : Nat) : Int)) (hj : (if kd = 3 then c - 1 - i else i) = j) :
    ∀ i_, i_ < i + 1 → (upd gg j x (if kd = 3 then c - 1 - i_ else i_)).toInt = ((D i_ : Nat) : Int) := by
  intro i_ hi_
  subst hj
  by_cases e : i_ = i
  · subst e; rw [pk_us]; exact hx
  · rw [pk_un (by split <;> omega)]; exact h i_ (by omega)
theorem hand_fin {u : Nat} {M : PRG} {f row : Nat} {gg : Nat → Int32} (h : ∀ i_, i_ < pA M f → (gg (if pK M f = 3 then pA M f - 1 - i_ else i_)).toInt = ((mDig u row i_ : Nat) : Int)) : ∀ i, i < pA M f → (gg i).toInt = ((mArg u M f row i : Nat) : Int) := by
  intro i hi
  unfold mArg
  rw [if_pos hi]
  by_cases e : pK M f = 3
  · have h1 := h (pA M f - 1 - i) (by omega)
    rw [if_pos e, show pA M f - 1 - (pA M f - 1 - i) = i by omega] at h1
    rw [if_pos e]; exact h1
  · have h1 := h i hi
    rw [if_neg e] at h1
    rw [if_neg e]; exact h1
theorem hand_no {u : Nat} {M : PRG} {f row : Nat} (h : ∀ i_ : Nat, i_ < pA M f → ¬ ((pK M f = 1 ∨ pK M f = 3) ∧ mDig u row i_ = mN u) ∧ ¬ (pK M f = 2 ∧ i_ = 0 ∧ mDig u row 0 = mN u)) : ¬ mStop u M f row := by
  rintro (⟨k, i, hi, hd⟩ | ⟨k, h0, hd⟩)
  · exact (h i hi).1 ⟨k, hd⟩
  · exact (h 0 h0).2 ⟨k, rfl, hd⟩
